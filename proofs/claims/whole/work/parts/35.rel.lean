/-! PURE: windows, the road in both, the tape in both -/
def win (a lo hi : Int32) : Bool := decide (lo ≤ a) && decide (a ≤ hi)
def blw (a : Int32) (M : Nat) : Bool := decide (0 ≤ a) && decide (a < nI M)
theorem i32_nle {a b : Int32} : (¬ a ≤ b) ↔ b < a := by rw [Int32.le_iff_toInt_le, Int32.lt_iff_toInt_lt]; omega
theorem i32_nlt {a b : Int32} : (¬ a < b) ↔ b ≤ a := by rw [Int32.le_iff_toInt_le, Int32.lt_iff_toInt_lt]; omega
theorem n_of {a : Int32} (h : 0 ≤ a) : a = nI a.toNatClampNeg ∧ a.toNatClampNeg < 2 ^ 31 := by
  have h1 : (0 : Int) ≤ a.toInt := by
    have := Int32.le_iff_toInt_le.mp h
    rwa [Int32.toInt_zero] at this
  have h2 : a.toInt < 2 ^ 31 := a.toInt_lt
  have h3 : a.toNatClampNeg = a.toInt.toNat := rfl
  have h4 : a.toNatClampNeg < 2 ^ 31 := by rw [h3]; omega
  refine ⟨Int32.toInt_inj.mp ?_, h4⟩
  rw [nI_toInt h4, h3]
  omega
theorem blw_n {a : Int32} {M : Nat} (hM : M < 2 ^ 31) (h : blw a M = true) : ∃ n, a = nI n ∧ n < M := by
  unfold blw at h
  simp only [Bool.and_eq_true, decide_eq_true_eq] at h
  obtain ⟨e, h4⟩ := n_of h.1
  refine ⟨_, e, ?_⟩
  have h2 := h.2
  rw [e] at h2
  exact (nI_ltI h4 hM).mp h2
theorem win_n {a lo hi : Int32} {l h : Nat} (hl : lo = nI l) (hh : hi = nI h) (h31 : l < 2 ^ 31) (h32 : h < 2 ^ 31) (hw : win a lo hi = true) : ∃ n, a = nI n ∧ l ≤ n ∧ n ≤ h := by
  unfold win at hw
  simp only [Bool.and_eq_true, decide_eq_true_eq] at hw
  subst hl hh
  have h0 : 0 ≤ a := by
    have h1 := nI_pos' h31
    have h2 := hw.1
    rw [Int32.le_iff_toInt_le] at *
    omega
  obtain ⟨e, h4⟩ := n_of h0
  refine ⟨_, e, ?_, ?_⟩
  · have h2 := hw.1
    rw [e] at h2
    exact (nI_leI h31 h4).mp h2
  · have h2 := hw.2
    rw [e] at h2
    exact (nI_leI h4 h32).mp h2
theorem w8 (a lo hi : Int32) : fX8_within a lo hi = some (bI (win a lo hi)) := by
  unfold fX8_within win
  by_cases h1 : a < lo
  · have : ¬ lo ≤ a := fun h => i32_nlt.mpr h h1
    rw [if_pos h1, decide_eq_false this]; rfl
  · rw [if_neg h1, decide_eq_true (i32_nlt.mp h1)]
    by_cases h2 : hi < a
    · have : ¬ a ≤ hi := i32_nle.mpr h2
      rw [if_pos h2, decide_eq_false this]; rfl
    · rw [if_neg h2, decide_eq_true (i32_nlt.mp h2)]; rfl
theorem w9 {a lo hi : Int32} {lo' hi' : Int64} (h1 : lo' = lo.toInt64) (h2 : hi' = hi.toInt64) : fX9_in (Int32.toInt64 a) lo' hi' = some (bI (win a lo hi)) := by
  subst h1 h2
  rw [← w8]
  unfold fX9_in fX8_within
  have e1 : ∀ x y : Int32, (lg_cmp x.toInt64 y.toInt64 < 0) ↔ x < y := fun x y => by
    rw [lg_cmp_lt, Int64.lt_iff_toInt_lt, Int32.lt_iff_toInt_lt, Int32.toInt_toInt64, Int32.toInt_toInt64]
  have e2 : ∀ x y : Int32, ((0 : Int32) < lg_cmp x.toInt64 y.toInt64) ↔ y < x := fun x y => by
    rw [lg_cmp_gt, Int64.lt_iff_toInt_lt, Int32.lt_iff_toInt_lt, Int32.toInt_toInt64, Int32.toInt_toInt64]
  simp only [e1, e2]
theorem win_b {a : Int32} {M : Nat} (hM : M < 2 ^ 31) : win a 0 (nI M - 1) = blw a M := by
  unfold win blw
  congr 1
  apply decide_eq_decide.mpr
  rw [Int32.le_iff_toInt_le, Int32.lt_iff_toInt_lt, Int32.toInt_sub, nI_toInt hM, show (1 : Int32).toInt = 1 from rfl]
  rw [Int.bmod_eq_of_le (by omega) (by omega)]
  omega
theorem bzb_b (b : Bool) : bzb (bI b) = true := by cases b <;> decide
theorem pX9_isMile {mo : S2} {M : Nat} {p : Int32} (h : mo 0 0 = nI M) (hM : M < 2 ^ 31) : fX9_isMile mo p = some (bI (blw p M)) := by
  unfold fX9_isMile
  rw [w9 (lo := 0) (hi := mo 0 0 - 1) (by decide) rfl, bd_s, gd_t (bzb_b _), h, win_b hM]
theorem pX9_isParty {mo : S2} {P : Nat} {p : Int32} (h : mo 0 1 = nI P) (hP : P < 2 ^ 31) : fX9_isParty mo p = some (bI (blw p P)) := by
  unfold fX9_isParty
  rw [w9 (lo := 0) (hi := mo 0 1 - 1) (by decide) rfl, bd_s, gd_t (bzb_b _), h, win_b hP]
theorem pX9_isPart {p : Int32} : fX9_isPart p = some (bI (win p 0 1)) := by
  unfold fX9_isPart
  rw [w9 (lo := 0) (hi := 1) (by decide) (by decide), bd_s, gd_t (bzb_b _)]
theorem has_b {p x : Int32} {M : Nat} (h : x = nI M) : (if p < (0 : Int32) then some (0 : Int32) else if x ≤ p then some (0 : Int32) else some (1 : Int32)) = some (bI (blw p M)) := by
  subst h
  unfold blw
  by_cases h1 : p < 0
  · have : ¬ (0 : Int32) ≤ p := fun h => i32_nlt.mpr h h1
    rw [if_pos h1, decide_eq_false this]; rfl
  · rw [if_neg h1, decide_eq_true (i32_nlt.mp h1)]
    by_cases h2 : nI M ≤ p
    · have : ¬ p < nI M := fun h => i32_nle.mpr h h2
      rw [if_pos h2, decide_eq_false this]; rfl
    · rw [if_neg h2, decide_eq_true (i32_nle.mp h2)]; rfl
theorem pX2_hasMile {rd : S2} {M : Nat} {p : Int32} (h : rd 0 0 = nI M) : fX2_hasMile rd p = some (bI (blw p M)) := has_b h
theorem pX2_hasParty {rd : S2} {P : Nat} {p : Int32} (h : rd 0 1 = nI P) : fX2_hasParty rd p = some (bI (blw p P)) := has_b h
theorem bI_t : bI true = 1 := rfl
theorem bI_f : bI false = 0 := rfl
/-- the road's rows stand in the reference's row 1 from o on -/
def RA (mo rd : S2) (o M P : Nat) : Prop := (∀ j, j < M → mo 1 (o + 3 * j) = rd 1 j ∧ mo 1 (o + 3 * j + 1) = rd 2 j ∧ mo 1 (o + 3 * j + 2) = rd 3 j) ∧ (∀ p, p < P → mo 1 (o + 24 + 5 * p) = rd 4 p ∧ mo 1 (o + 24 + 5 * p + 1) = rd 5 p ∧ mo 1 (o + 24 + 5 * p + 2) = rd 6 p ∧ mo 1 (o + 24 + 5 * p + 3) = rd 7 p ∧ mo 1 (o + 24 + 5 * p + 4) = rd 8 p) ∧ mo 1 (o + 44) = rd 0 2 ∧ mo 1 (o + 45) = rd 0 3
/-- the road's rows are within their bounds -/
def RG (rd : S2) (M P : Nat) : Prop := (∀ j, j < M → win (rd 1 j) 0 3 = true ∧ win (rd 2 j) 0 3 = true ∧ win (rd 3 j) 0 1 = true) ∧ (∀ p, p < P → win (rd 4 p) 0 3 = true ∧ win (rd 5 p) 0 99 = true ∧ win (rd 6 p) 1 20 = true ∧ win (rd 7 p) 0 3 = true ∧ ∃ f, rd 8 p = nI f ∧ f < M) ∧ win (rd 0 2) 1 4 = true ∧ win (rd 0 3) 0 99 = true
def RR (mo rd : S2) (M P : Nat) : Prop := RA mo rd 0 M P ∧ RG rd M P ∧ M ≤ 8 ∧ P ≤ 4 ∧ mo 0 0 = nI M ∧ mo 0 1 = nI P ∧ rd 0 0 = nI M ∧ rd 0 1 = nI P
/-- what a question may change of the reference -/
def SF (mo mo' : S2) : Prop := ∀ a b, (a = 1 ∨ a = 3 ∨ a = 5 ∨ (13 ≤ a ∧ a ≤ 15) ∨ (a = 0 ∧ (b ≤ 1 ∨ b = 7 ∨ b = 12 ∨ b = 17))) → mo' a b = mo a b
theorem SF_r (mo : S2) : SF mo mo := fun _ _ _ => rfl
theorem SF_t {a b c : S2} (h1 : SF a b) (h2 : SF b c) : SF a c := fun x y h => by rw [h2 x y h, h1 x y h]
theorem RR_SF {mo mo' rd : S2} {M P : Nat} (h : RR mo rd M P) (hs : SF mo mo') : RR mo' rd M P := by
  unfold RR RA at h ⊢
  have e1 : ∀ b, mo' 1 b = mo 1 b := fun b => hs 1 b (by omega)
  simp only [e1, hs 0 0 (by omega), hs 0 1 (by omega)]
  exact h
theorem pX9_starts {mo : S2} : ∃ s', fX9_starts mo = some s' ∧ ∀ a b, s' a b = if a = 2 ∧ b < 59 then mo 1 b else mo a b := by
  unfold fX9_starts
  have key : ∃ x, wh (fun (c : Int32 × S2) => fX9_starts_b2 c.2 c.1) 5000 ((0 : Int32), mo) = some x ∧ ∀ a b, x.2 a b = if a = 2 ∧ b < 59 then mo 1 b else mo a b := by
    refine wh_ex (body := fun (c : Int32 × S2) => fX9_starts_b2 c.2 c.1)
      (fun i c => c.1 = nI i ∧ ∀ a b, c.2 a b = if a = 2 ∧ b < i then mo 1 b else mo a b)
      (fun c => ∀ a b, c.2 a b = if a = 2 ∧ b < 59 then mo 1 b else mo a b) 59
      (fun i c hi hI => ?_) (fun c hI => ?_) 5000 0 _ (by decide) (by decide) ⟨rfl, fun a b => by simp⟩
    · obtain ⟨h1, h2⟩ := hI
      left
      refine ⟨(nI (i + 1), sE c.2 2 i (mo 1 i)), ?_, rfl, fun a b => ?_⟩
      · unfold fX9_starts_b2
        rw [h1, if_neg (show ¬ (59 : Int32) ≤ nI i from nI_ge (a := i) (b := 59) hi (by decide)), gd_n (by omega) (by decide), gd_n hi (by decide), cl_n (by omega), nm_u, nm_u, nI_p1, h2 1 i, if_neg (by omega)]
      · dsimp only
        rw [sE_v, h2]
        by_cases h5 : a = 2
        · subst h5
          by_cases hb : b = i
          · subst hb; simp
          · have : (b < i + 1) ↔ b < i := by omega
            simp [hb, this]
        · simp [h5]
    · obtain ⟨h1, h2⟩ := hI
      refine ⟨c, ?_, h2⟩
      unfold fX9_starts_b2
      rw [h1, if_pos (show (59 : Int32) ≤ nI 59 from nI_le (a := 59) (b := 59) (Nat.le_refl _) (by decide)), ← h1]
  obtain ⟨x, e, q⟩ := key
  rw [e, bd_s]
  exact ⟨_, rfl, q⟩
theorem pX9_startsR {mo rd : S2} {M P : Nat} (h : RR mo rd M P) : ∃ s', fX9_starts mo = some s' ∧ RM s' rd M P ∧ SF mo s' := by
  obtain ⟨s', e, q⟩ := pX9_starts (mo := mo)
  obtain ⟨⟨a1, a2, a3, a4⟩, _, hM, hP, m0, m1, _, _⟩ := h
  refine ⟨s', e, ⟨fun j hj => ?_, fun p hp => ?_, ?_, ?_, ?_, ?_⟩, fun a b hab => ?_⟩
  · have := a1 j hj
    rw [q, if_pos ⟨rfl, by omega⟩, q, if_pos ⟨rfl, by omega⟩, q, if_pos ⟨rfl, by omega⟩]
    simpa using this
  · have := a2 p hp
    rw [q, if_pos ⟨rfl, by omega⟩, q, if_pos ⟨rfl, by omega⟩, q, if_pos ⟨rfl, by omega⟩, q, if_pos ⟨rfl, by omega⟩, q, if_pos ⟨rfl, by omega⟩]
    simpa using this
  · rw [q, if_pos ⟨rfl, by omega⟩]; simpa using a3
  · rw [q, if_pos ⟨rfl, by omega⟩]; simpa using a4
  · rw [q, if_neg (by omega), m0]
  · rw [q, if_neg (by omega), m1]
  · rw [q, if_neg (by omega)]
theorem pX9_drivesR {mo rd : S2} {M P : Nat} (h : RR mo rd M P) : ∃ s1 s2, fX9_starts mo = some s1 ∧ fX9_drives s1 = some s2 ∧ RM s2 rd M P ∧ moPost rd P (dvn rd M) s2 ∧ SF mo s2 := by
  obtain ⟨s1, e1, r1, f1⟩ := pX9_startsR h
  obtain ⟨s2, e2, q2, f2⟩ := pX9_drives r1 h.2.2.1 h.2.2.2.1
  exact ⟨s1, s2, e1, e2, RM_fr r1 (fun b => f2 2 b (by omega) (by omega)) (f2 0 0 (by omega) (by omega)) (f2 0 1 (by omega) (by omega)), q2, SF_t f1 (fun a b hab => f2 a b (by omega) (by omega))⟩
theorem pX0_runR {mo rd dr : S2} {M P : Nat} (h : RR mo rd M P) : ∃ d', fX0_run dr rd = some d' ∧ drPost rd P (dvn rd M) d' :=
  pX0_run h.2.2.2.2.2.2.1 h.2.2.1 h.2.2.2.2.2.2.2 h.2.2.2.1 (fun p hp => by
    obtain ⟨f, hf, hl⟩ := (h.2.1.2.1 p hp).2.2.2.2
    have := h.2.2.1
    exact ⟨f, hf, by omega⟩)
