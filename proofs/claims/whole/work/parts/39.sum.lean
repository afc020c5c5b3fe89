/-! PURE: masks, sums and the last over the parties -/
def mk4 (f : Nat → Int32) : Nat → Nat
  | 0 => 0
  | p + 1 => mk4 f p + if f p = -4 then 0 else 2 ^ p
theorem mk4_lt (f : Nat → Int32) : ∀ p, mk4 f p < 2 ^ p := by
  intro p
  induction p with
  | zero => exact Nat.one_pos
  | succ p ih =>
    unfold mk4
    rw [Nat.pow_succ]
    split <;> omega
theorem mk4_c {f g : Nat → Int32} : ∀ P, (∀ q, q < P → f q = g q) → mk4 f P = mk4 g P := by
  intro P
  induction P with
  | zero => intro _; rfl
  | succ P ih =>
    intro h
    unfold mk4
    rw [ih (fun q hq => h q (by omega)), h P (by omega)]
def mx4 (f : Nat → Int32) : Nat → Int32
  | 0 => -4
  | p + 1 => if f p ≤ mx4 f p then mx4 f p else f p
theorem mx4_c {f g : Nat → Int32} : ∀ P, (∀ q, q < P → f q = g q) → mx4 f P = mx4 g P := by
  intro P
  induction P with
  | zero => intro _; rfl
  | succ P ih =>
    intro h
    unfold mx4
    rw [ih (fun q hq => h q (by omega)), h P (by omega)]
def sm4 (f : Nat → Int32) : Nat → Int32
  | 0 => 0
  | p + 1 => sm4 f p + f p
theorem sm4_c {f g : Nat → Int32} : ∀ P, (∀ q, q < P → f q = g q) → sm4 f P = sm4 g P := by
  intro P
  induction P with
  | zero => intro _; rfl
  | succ P ih =>
    intro h
    unfold sm4
    rw [ih (fun q hq => h q (by omega)), h P (by omega)]
theorem bit_or0 : ∀ p, p < 4 → ∀ b, b < 2 ^ p → nI b ||| ((0 : Int32) <<< (nI p &&& 31)) = nI b := by decide
def pcn (b : Nat) : Nat → Nat
  | 0 => 0
  | i + 1 => pcn b i + b / 2 ^ i % 2
theorem pcn_s : ∀ b, b < 16 → ∀ i, i < 9 → nI (pcn b i) + ((nI b >>> (nI i &&& 31)) &&& (1 : Int32)) = nI (pcn b (i + 1)) := by decide
theorem pcn_9 : ∀ b, b < 16 → pcn b 9 = pc4 b := by decide
theorem pX9_bitsOf {b : Nat} (hb : b < 16) : fX9_bitsOf (nI b) = some (nI (pc4 b)) := by
  unfold fX9_bitsOf
  have key := wh_f (body := fun (c : Int32 × Int32) => fX9_bitsOf_b4 (nI b) c.1 c.2) (fun i => (nI (pcn b i), nI i)) (nI (pcn b 9), nI 9) 9 (fun i hi => by
    show fX9_bitsOf_b4 (nI b) (nI (pcn b i)) (nI i) = _
    unfold fX9_bitsOf_b4
    rw [if_neg (show ¬ (8 : Int32) < nI i from nI_nlt (a := 8) (b := i) (by omega) (by decide)), nm_u, nm_u, nI_p1, pcn_s b hb i hi]) (by
    show fX9_bitsOf_b4 (nI b) (nI (pcn b 9)) (nI 9) = _
    unfold fX9_bitsOf_b4
    rw [if_pos (by decide)]) (n := 5000) (by decide)
  have e0 : ((0 : Int32), (0 : Int32)) = (nI (pcn b 0), nI 0) := rfl
  rw [e0, key, bd_s, pcn_9 b hb]
theorem fl_t : fX9_flag 1 = some 1 := rfl
theorem fl_f : fX9_flag 0 = some 0 := rfl
theorem pX9_verdicts {mo : S2} {P : Nat} (h1 : mo 0 1 = nI P) (hP : P ≤ 4) : fX9_verdicts mo = some (nI (mk4 (mo 6) P)) := by
  unfold fX9_verdicts
  have key := wh_f (body := fun (c : Int32 × Int32) => fX9_verdicts_b4 mo c.1 c.2) (fun i => (nI (mk4 (mo 6) i), nI i)) (nI (mk4 (mo 6) P), nI P) P (fun i hi => by
    show fX9_verdicts_b4 mo (nI (mk4 (mo 6) i)) (nI i) = _
    have hl := mk4_lt (mo 6) i
    unfold fX9_verdicts_b4 fX9_verdicts_29
    rw [h1, if_neg (nI_ge hi (by omega)), gd_n (by omega) (by decide), fl_f, bd_s, fl_t, bd_s, nm_u, nm_u, nm_u, nm_u, nI_p1, cl_n (by omega), bit_or0 i (by omega) _ hl, bit_or i (by omega) _ hl]
    show _ = some (Sum.inl (nI (mk4 (mo 6) i + if mo 6 i = -4 then 0 else 2 ^ i), _))
    by_cases hv : mo 6 i = -4
    · rw [if_pos hv, if_pos hv]; rfl
    · rw [if_neg hv, if_neg hv]) (by
    show fX9_verdicts_b4 mo (nI (mk4 (mo 6) P)) (nI P) = _
    unfold fX9_verdicts_b4
    rw [h1, if_pos (nI_le (Nat.le_refl _) (by omega))]) (n := 5000) (by omega)
  have e0 : ((0 : Int32), (0 : Int32)) = (nI (mk4 (mo 6) 0), nI 0) := rfl
  rw [e0, key, bd_s]
theorem pX9_howMany {mo rd : S2} {M P : Nat} (h : RM mo rd M P) (hM : M ≤ 8) (hP : P ≤ 4) : ∃ s', fX9_howMany mo = some (nI (pc4 (mk4 (s' 6) P)), s') ∧ RM s' rd M P ∧ moPost rd P (dvn rd M) s' ∧ ∀ a b, (a < 6 ∨ 11 < a) → (a ≠ 0 ∨ b ≠ 14) → s' a b = mo a b := by
  obtain ⟨s', e, q, f⟩ := pX9_drives h hM hP
  have R : RM s' rd M P := RM_fr h (fun b => f 2 b (by omega) (by omega)) (f 0 0 (by omega) (by omega)) (f 0 1 (by omega) (by omega))
  have hl := mk4_lt (s' 6) P
  have h16 : 2 ^ P ≤ 16 := by
    have : ∀ P, P ≤ 4 → 2 ^ P ≤ 16 := by decide
    exact this P hP
  refine ⟨s', ?_, R, q, f⟩
  unfold fX9_howMany
  rw [e, bd_s, pX9_verdicts R.2.2.2.2.2 hP, bd_s, pX9_bitsOf (by omega), bd_s]
theorem pX0_who0 {dr : S2} {P : Nat} (h1 : dr 0 0 = nI P) (hP : P ≤ 4) : fX0_whoHas dr 0 = some (nI (mk4 (dr 1) P)) := by
  unfold fX0_whoHas
  rw [if_pos rfl]
  have key := wh_f (body := fun (c : Int32 × Int32) => fX0_whoHas_b11 dr c.1 c.2) (fun i => (nI (mk4 (dr 1) i), nI i)) (nI (mk4 (dr 1) P), nI P) P (fun i hi => by
    show fX0_whoHas_b11 dr (nI (mk4 (dr 1) i)) (nI i) = _
    have hl := mk4_lt (dr 1) i
    unfold fX0_whoHas_b11
    rw [h1, if_neg (nI_ge hi (by omega)), gd_n (by omega) (by decide), nm_u, nm_u, nm_u, nI_p1, cl_n (by omega), bit_or i (by omega) _ hl]
    show _ = some (Sum.inl (nI (mk4 (dr 1) i + if dr 1 i = -4 then 0 else 2 ^ i), _))
    by_cases hv : dr 1 i = -4
    · rw [if_pos hv, if_pos hv]; rfl
    · rw [if_neg hv, if_neg hv]) (by
    show fX0_whoHas_b11 dr (nI (mk4 (dr 1) P)) (nI P) = _
    unfold fX0_whoHas_b11
    rw [h1, if_pos (nI_le (Nat.le_refl _) (by omega))]) (n := 5000) (by omega)
  have e0 : ((0 : Int32), (0 : Int32)) = (nI (mk4 (dr 1) 0), nI 0) := rfl
  rw [e0, key, bd_s]
theorem pX0_who1 {dr : S2} {P : Nat} (h1 : dr 0 0 = nI P) (hP : P ≤ 4) : fX0_whoHas dr 1 = some (nI (mk4 (dr 2) P)) := by
  unfold fX0_whoHas
  rw [if_neg (by decide), if_pos rfl]
  have key := wh_f (body := fun (c : Int32 × Int32) => fX0_whoHas_b11_2 dr c.1 c.2) (fun i => (nI (mk4 (dr 2) i), nI i)) (nI (mk4 (dr 2) P), nI P) P (fun i hi => by
    show fX0_whoHas_b11_2 dr (nI (mk4 (dr 2) i)) (nI i) = _
    have hl := mk4_lt (dr 2) i
    unfold fX0_whoHas_b11_2
    rw [h1, if_neg (nI_ge hi (by omega)), gd_n (by omega) (by decide), nm_u, nm_u, nm_u, nI_p1, cl_n (by omega), bit_or i (by omega) _ hl]
    show _ = some (Sum.inl (nI (mk4 (dr 2) i + if dr 2 i = -4 then 0 else 2 ^ i), _))
    by_cases hv : dr 2 i = -4
    · rw [if_pos hv, if_pos hv]; rfl
    · rw [if_neg hv, if_neg hv]) (by
    show fX0_whoHas_b11_2 dr (nI (mk4 (dr 2) P)) (nI P) = _
    unfold fX0_whoHas_b11_2
    rw [h1, if_pos (nI_le (Nat.le_refl _) (by omega))]) (n := 5000) (by omega)
  have e0 : ((0 : Int32), (0 : Int32)) = (nI (mk4 (dr 2) 0), nI 0) := rfl
  rw [e0, key, bd_s]
theorem pw16 : ∀ P, P ≤ 4 → 2 ^ P ≤ 16 := by decide
theorem pX0_verdicts {dr : S2} {P : Nat} (h1 : dr 0 0 = nI P) (hP : P ≤ 4) : fX0_verdicts dr = some (nI (pc4 (mk4 (dr 1) P))) := by
  have hl := mk4_lt (dr 1) P
  have := pw16 P hP
  unfold fX0_verdicts
  rw [pX0_who0 h1 hP, bd_s, bit_cnt _ (by omega), bd_s]
theorem pX0_last {dr : S2} {P : Nat} (h1 : dr 0 0 = nI P) (hP : P ≤ 4) : fX0_lastVerdict dr = some (mx4 (dr 1) P) := by
  unfold fX0_lastVerdict
  have key := wh_f (body := fun (c : Int32 × Int32) => fX0_lastVerdict_b5 dr c.1 c.2) (fun i => (mx4 (dr 1) i, nI i)) (mx4 (dr 1) P, nI P) P (fun i hi => by
    show fX0_lastVerdict_b5 dr (mx4 (dr 1) i) (nI i) = _
    unfold fX0_lastVerdict_b5
    rw [h1, if_neg (nI_ge hi (by omega)), gd_n (by omega) (by decide), nm_u, nm_u, nI_p1, cl_n (by omega)]
    show _ = some (Sum.inl (if dr 1 i ≤ mx4 (dr 1) i then mx4 (dr 1) i else dr 1 i, _))
    by_cases hv : mx4 (dr 1) i < dr 1 i
    · rw [if_pos hv, if_neg (i32_nle.mpr hv)]
    · rw [if_neg hv, if_pos (i32_nlt.mp hv)]) (by
    show fX0_lastVerdict_b5 dr (mx4 (dr 1) P) (nI P) = _
    unfold fX0_lastVerdict_b5
    rw [h1, if_pos (nI_le (Nat.le_refl _) (by omega))]) (n := 5000) (by omega)
  have e0 : ((-4 : Int32), (0 : Int32)) = (mx4 (dr 1) 0, nI 0) := rfl
  rw [e0, key, bd_s]
theorem pX0_heardIn {dr : S2} {P : Nat} (h1 : dr 0 0 = nI P) (hP : P ≤ 4) : fX0_heardInAll dr = some (sm4 (dr 3) P) := by
  unfold fX0_heardInAll
  have key := wh_f (body := fun (c : Int32 × Int32) => fX0_heardInAll_b4 dr c.1 c.2) (fun i => (sm4 (dr 3) i, nI i)) (sm4 (dr 3) P, nI P) P (fun i hi => by
    show fX0_heardInAll_b4 dr (sm4 (dr 3) i) (nI i) = _
    unfold fX0_heardInAll_b4
    rw [h1, if_neg (nI_ge hi (by omega)), gd_n (by omega) (by decide), nm_u, nm_u, nI_p1, cl_n (by omega)]
    rfl) (by
    show fX0_heardInAll_b4 dr (sm4 (dr 3) P) (nI P) = _
    unfold fX0_heardInAll_b4
    rw [h1, if_pos (nI_le (Nat.le_refl _) (by omega))]) (n := 5000) (by omega)
  have e0 : ((0 : Int32), (0 : Int32)) = (sm4 (dr 3) 0, nI 0) := rfl
  rw [e0, key, bd_s]
theorem sim_sum {mo rd dr cc : S2} {M P : Nat} {p1 : Int32} (h : RR mo rd M P) : ∃ v d' mo', fX8_sum cc rd dr p1 = some (v, d') ∧ fX9_sum mo p1 = some (v, mo') ∧ SF mo mo' := by
  obtain ⟨_, _, hM, hP, m0, m1, r0, r1⟩ := id h
  unfold fX8_sum fX9_sum
  rw [w8, bd_s, w9 (lo := 0) (hi := 4) (by decide) (by decide), bd_s]
  cases hw : win p1 0 4 with
  | false => exact ⟨_, _, _, rfl, rfl, SF_r mo⟩
  | true =>
    obtain ⟨k, rfl, hk⟩ := win_le (h := 4) (by decide) hw
    obtain ⟨s1, s2, e1, e2, R, ⟨_, q2, _⟩, hf⟩ := pX9_drivesR h
    obtain ⟨d', e3, d1, _, d3, _⟩ := pX0_runR (dr := dr) h
    have R1 := R.2.2.2.2.2
    have hpw := pw16 P hP
    have key := wh_f (body := fun (c : Int32 × Int32 × Int32 × Int32 × S2) => fX9_sum_b33 c.2.2.2.2 (nI k) c.1 c.2.1 c.2.2.1 c.2.2.2.1) (fun i => (mx4 (s2 6) i, sm4 (s2 8) i, nI (mk4 (s2 7) i), nI i, s2)) (mx4 (s2 6) P, sm4 (s2 8) P, nI (mk4 (s2 7) P), nI P, s2) P (fun i hi => by
      show fX9_sum_b33 s2 (nI k) (mx4 (s2 6) i) (sm4 (s2 8) i) (nI (mk4 (s2 7) i)) (nI i) = _
      have hl := mk4_lt (s2 7) i
      unfold fX9_sum_b33 fX9_sum_64 fX9_sum_94
      rw [R1, if_neg (nI_ge hi (by omega))]
      simp only [gd_n (show i < 4 by omega) (by decide), fl_f, fl_t, bd_s, nm_u, nI_p1, cl_n (show i < 2 ^ 31 by omega), bit_or0 i (by omega) _ hl, bit_or i (by omega) _ hl]
      show _ = some (Sum.inl (if s2 6 i ≤ mx4 (s2 6) i then mx4 (s2 6) i else s2 6 i, sm4 (s2 8) i + s2 8 i, nI (mk4 (s2 7) i + if s2 7 i = -4 then 0 else 2 ^ i), _, _))
      by_cases hv : s2 6 i ≤ mx4 (s2 6) i
      · rw [if_pos hv, if_pos hv]
        by_cases hg : s2 7 i = -4
        · rw [if_pos hg, if_pos hg]; rfl
        · rw [if_neg hg, if_neg hg]
      · rw [if_neg hv, if_neg hv]
        by_cases hg : s2 7 i = -4
        · rw [if_pos hg, if_pos hg]; rfl
        · rw [if_neg hg, if_neg hg]) (by
      show fX9_sum_b33 s2 (nI k) (mx4 (s2 6) P) (sm4 (s2 8) P) (nI (mk4 (s2 7) P)) (nI P) = _
      unfold fX9_sum_b33
      rw [R1, if_pos (nI_le (Nat.le_refl _) (by omega))]) (n := 5000) (by omega)
    have e0 : ((-4 : Int32), (0 : Int32), (0 : Int32), (0 : Int32), s2) = (mx4 (s2 6) 0, sm4 (s2 8) 0, nI (mk4 (s2 7) 0), nI 0, s2) := rfl
    have hl := mk4_lt (s2 6) P
    have x1 : mk4 (d' 1) P = mk4 (s2 6) P := mk4_c P (fun q hq => by rw [(d3 q hq).1, (q2 q hq).2.1])
    have x2 : mk4 (d' 2) P = mk4 (s2 7) P := mk4_c P (fun q hq => by rw [(d3 q hq).2.1, (q2 q hq).2.2.1])
    have x3 : mx4 (d' 1) P = mx4 (s2 6) P := mx4_c P (fun q hq => by rw [(d3 q hq).1, (q2 q hq).2.1])
    have x4 : sm4 (d' 3) P = sm4 (s2 8) P := sm4_c P (fun q hq => by rw [(d3 q hq).2.2.1, (q2 q hq).2.2.2.1])
    simp only [it_t]
    rw [e1, bd_s, e2, bd_s, e0, key, bd_s, e3, bd_s, pX0_verdicts d1 hP, bd_s, pX0_who0 d1 hP, bd_s, pX0_who1 d1 hP, bd_s, pX0_last d1 hP, bd_s, pX0_heardIn d1 hP, bd_s]
    dsimp only
    rw [pX9_verdicts R1 hP, bd_s, pX9_bitsOf (by omega), bd_s, bd_s, x1, x2, x3, x4]
    have hk' : k = 0 ∨ k = 1 ∨ k = 2 ∨ k = 3 ∨ k = 4 := by omega
    rcases hk' with rfl | rfl | rfl | rfl | rfl
    · exact ⟨_, _, _, rfl, rfl, hf⟩
    · exact ⟨_, _, _, rfl, rfl, hf⟩
    · exact ⟨_, _, _, rfl, rfl, hf⟩
    · exact ⟨_, _, _, rfl, rfl, hf⟩
    · exact ⟨_, _, _, rfl, rfl, hf⟩
