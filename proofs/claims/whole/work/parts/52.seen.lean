/-! PURE: what was seen; turned, laws -/
def agr (sn : S2) (f : Nat → Int32) : Nat → Bool
  | 0 => true
  | n + 1 => agr sn f n && decide (f (sn 1 n).toNatClampNeg = sn 2 n)
theorem agr_c {sn : S2} {f g : Nat → Int32} {P : Nat} (hP : P ≤ 4) (h : ∀ q, q < P → f q = g q) : ∀ n, (∀ i, i < n → ∃ q, sn 1 i = nI q ∧ q < P) → agr sn f n = agr sn g n := by
  intro n
  induction n with
  | zero => intro _; rfl
  | succ n ih =>
    intro hs
    obtain ⟨q, e, hq⟩ := hs n (by omega)
    unfold agr
    rw [ih (fun i hi => hs i (by omega)), e, cl_n (by omega), h q hq]
theorem agr_f {sn : S2} {f : Nat → Int32} {i : Nat} (h : agr sn f i = false) : ∀ n, agr sn f (i + n) = false := by
  intro n
  induction n with
  | zero => exact h
  | succ n ih =>
    show (agr sn f (i + n) && _) = false
    rw [ih, Bool.false_and]
theorem pX5_agree {sn d : S2} {n P : Nat} (h0 : sn 0 0 = nI n) (hn : n ≤ 6) (hP : P ≤ 4) (hs : ∀ i, i < n → ∃ q, sn 1 i = nI q ∧ q < P) : fX5_agreeWith sn d = some (bI (agr sn (d 1) n)) := by
  unfold fX5_agreeWith
  have key : ∃ x, wh (fun (c : Int32) => fX5_agreeWith_b2 sn d c) 5000 (0 : Int32) = some x ∧ ((∃ q, x = .inl q ∧ agr sn (d 1) n = true) ∨ (x = .inr 0 ∧ agr sn (d 1) n = false)) := by
    refine wh_ex (body := fun (c : Int32) => fX5_agreeWith_b2 sn d c)
      (fun i c => c = nI i ∧ agr sn (d 1) i = true)
      (fun x => (∃ q, x = .inl q ∧ agr sn (d 1) n = true) ∨ (x = .inr 0 ∧ agr sn (d 1) n = false)) n
      (fun i c hi hI => ?_) (fun c hI => ?_) 5000 0 _ (by omega) (by omega) ⟨rfl, rfl⟩
    · obtain ⟨h1, h2⟩ := hI
      obtain ⟨q, e, hq⟩ := hs i hi
      have E : fX5_agreeWith_b2 sn d c = if d 1 q = sn 2 i then some (.inl (nI (i + 1))) else some (.inr (.inr 0)) := by
        unfold fX5_agreeWith_b2
        rw [h1, h0, if_neg (nI_ge hi (by omega)), gd_n (by omega) (by decide), cl_n (i := i) (by omega), e, gd_n (by omega) (by decide), cl_n (i := q) (by omega), nm_u, nI_p1]
      have A : agr sn (d 1) (i + 1) = decide (d 1 q = sn 2 i) := by
        show (agr sn (d 1) i && decide (d 1 (sn 1 i).toNatClampNeg = sn 2 i)) = _
        rw [h2, e, cl_n (by omega), Bool.true_and]
      by_cases c1 : d 1 q = sn 2 i
      · left
        rw [if_pos c1] at E
        exact ⟨_, E, rfl, by rw [A, decide_eq_true c1]⟩
      · right
        rw [if_neg c1] at E
        refine ⟨_, E, Or.inr ⟨rfl, ?_⟩⟩
        obtain ⟨k, rfl⟩ : ∃ k, n = i + 1 + k := ⟨n - (i + 1), by omega⟩
        exact agr_f (by rw [A, decide_eq_false c1]) k
    · obtain ⟨h1, h2⟩ := hI
      refine ⟨.inl c, ?_, Or.inl ⟨_, rfl, h2⟩⟩
      unfold fX5_agreeWith_b2
      rw [h1, h0, if_pos (nI_le (Nat.le_refl n) (by omega))]
  obtain ⟨x, e, hq⟩ := key
  rw [e, bd_s]
  rcases hq with ⟨q, rfl, h⟩ | ⟨rfl, h⟩
  · rw [h]; rfl
  · rw [h]; rfl
/-- what was seen, read of the reference -/
def SE (mo sn : S2) (n P : Nat) : Prop := n ≤ 6 ∧ mo 1 46 = nI n ∧ sn 0 0 = nI n ∧ ∀ i, i < n → mo 1 (47 + 2 * i) = sn 1 i ∧ mo 1 (48 + 2 * i) = sn 2 i ∧ ∃ q, sn 1 i = nI q ∧ q < P
theorem SE_SN {mo sn : S2} {P : Nat} (h : SN mo sn 0 P) : ∃ n, SE mo sn n P := by
  obtain ⟨n, h1, h2, h3, h4⟩ := h
  refine ⟨n, h1, by simpa using h2, h3, fun i hi => ?_⟩
  have := h4 i hi
  simpa using this
theorem SE_fr {mo mo' sn : S2} {n P : Nat} (h : SE mo sn n P) (hf : ∀ b, mo' 1 b = mo 1 b) : SE mo' sn n P := by
  obtain ⟨h1, h2, h3, h4⟩ := h
  exact ⟨h1, by rw [hf, h2], h3, fun i hi => by rw [hf, hf]; exact h4 i hi⟩
theorem bI_1 {b : Bool} (h : b = true) : bI b = 1 := by rw [h]; rfl
theorem pX9_isSo {mo rd sn : S2} {M P n : Nat} (h : RM mo rd M P) (hM : M ≤ 8) (hP : P ≤ 4) (hs : SE mo sn n P) : ∃ s', fX9_isSo mo = some (bI (agr sn (vd rd M) n), s') ∧ (∀ p, p < P → s' 6 p = vd rd M p) ∧ DF mo s' := by
  obtain ⟨s1, e1, q1, f1⟩ := ref_v h hM hP
  have hs1 : SE s1 sn n P := SE_fr hs (fun b => f1 1 b (by omega) (by omega))
  obtain ⟨hn, g0, _, g⟩ := hs1
  unfold fX9_isSo
  rw [e1, bd_s]
  have key := wh_f (body := fun (c : Int32 × Int32 × S2) => fX9_isSo_b8 c.2.2 c.1 c.2.1) (fun i => (bI (agr sn (s1 6) i), nI i, s1)) (bI (agr sn (s1 6) n), nI n, s1) n (fun i hi => by
    obtain ⟨a1, a2, q, e, hq⟩ := g i hi
    show fX9_isSo_b8 s1 (bI (agr sn (s1 6) i)) (nI i) = _
    unfold fX9_isSo_b8
    rw [if_neg (show ¬ s1 1 (Int32.toNatClampNeg (46 : Int32)) ≤ nI i by rw [show Int32.toNatClampNeg (46 : Int32) = 46 from rfl, g0]; exact nI_ge hi (by omega))]
    have A : agr sn (s1 6) (i + 1) = (agr sn (s1 6) i && decide (s1 6 q = sn 2 i)) := by
      show (agr sn (s1 6) i && decide (s1 6 (sn 1 i).toNatClampNeg = sn 2 i)) = _
      rw [e, cl_n (by omega)]
    cases hb : agr sn (s1 6) i with
    | false =>
      rw [hb, Bool.false_and] at A
      rw [if_pos bI_f, nm_u, nI_p1, A]
      rfl
    | true =>
      rw [hb, Bool.true_and] at A
      rw [if_neg (by decide), m47 i (by omega), gd_n (by omega) (by decide), cl_n (i := 47 + 2 * i) (by omega), a1, e, gd_n (by omega) (by decide), nI_p1, gd_n (by omega) (by decide), cl_n (i := q) (by omega), cl_n (i := 47 + 2 * i + 1) (by omega), show 47 + 2 * i + 1 = 48 + 2 * i by omega, a2, A]
      by_cases c1 : s1 6 q = sn 2 i
      · rw [if_pos c1, decide_eq_true c1, nm_u, nI_p1]; rfl
      · rw [if_neg c1, decide_eq_false c1, nm_u, nI_p1]; rfl) (by
    show fX9_isSo_b8 s1 (bI (agr sn (s1 6) n)) (nI n) = _
    unfold fX9_isSo_b8
    rw [if_pos (show s1 1 (Int32.toNatClampNeg (46 : Int32)) ≤ nI n by rw [show Int32.toNatClampNeg (46 : Int32) = 46 from rfl, g0]; exact nI_le (Nat.le_refl n) (by omega))]) (n := 5000) (by omega)
  have k0 : (bI (agr sn (s1 6) 0), nI 0, s1) = ((1 : Int32), (0 : Int32), s1) := rfl
  rw [← k0, key, bd_s, gd_t (bzb_b _), agr_c hP q1 n (fun i hi => (g i hi).2.2)]
  exact ⟨s1, rfl, q1, f1⟩
/-- the road with a signpost turned, if there is one -/
def tn (rd : S2) (m M : Nat) : S2 := if m + 1 < M then sE (sE rd 1 m (rd 1 (m + 1))) 1 (m + 1) (rd 1 m) else rd
theorem tn_no {rd : S2} {m M : Nat} (h : ¬ m + 1 < M) : tn rd m M = rd := if_neg h
theorem blw_nI {m M : Nat} (hm : m < 2 ^ 31) (hM : M < 2 ^ 31) : blw (nI m) M = decide (m < M) := by
  unfold blw
  rw [decide_eq_true (nI_pos' hm), Bool.true_and]
  exact decide_eq_decide.mpr (nI_ltI hm hM)
theorem RQ_tn {rd : S2} {M P m : Nat} (h : RQ rd M P) : RQ (tn rd m M) M P := by
  unfold tn
  split
  · exact RQ_g (RQ_g h (by omega)) (by omega)
  · exact h
theorem c_dt30 {cc rd tr dr ro : S2} {M P : Nat} (Q : RQ ro M P) (C : CP tr ro) : ∃ dr', fX8_driveIfTurned_30 cc rd tr dr = some (tr, dr') ∧ dr' 0 0 = nI P ∧ ∀ p, p < P → dr' 1 p = vd ro M p := by
  obtain ⟨d', e2, q0, q⟩ := run_v (dr := dr) (RQ_cp Q C)
  unfold fX8_driveIfTurned_30
  rw [e2, bd_s]
  exact ⟨_, rfl, q0, fun p hp => by rw [q p hp, vd_c (CV_cp C Q.2.2.1 Q.2.2.2.1) hp]⟩
theorem c_dt {cc rd tr dr : S2} {M P m : Nat} (h : RQ rd M P) (hm : m ≤ 8) : ∃ tr' dr', fX8_driveIfTurned cc rd tr dr (nI m) = some (tr', dr') ∧ dr' 0 0 = nI P ∧ ∀ p, p < P → dr' 1 p = vd (tn rd m M) M p := by
  have hM := h.2.2.1
  obtain ⟨d, e1, hc⟩ := pX2_copy (rd := tr) (ro := rd)
  have d0 : d 0 0 = nI M := by rw [hc.2.2.1, h.1]
  unfold fX8_driveIfTurned
  rw [e1, bd_s, pX2_hasSign d0 hM, bd_s, blw_nI (by omega) (by omega)]
  have Q : RQ (tn rd m M) M P := RQ_tn h
  by_cases c1 : m < M - 1
  · rw [decide_eq_true c1]
    simp only [it_t]
    have et : tn rd m M = sE (sE rd 1 m (rd 1 (m + 1))) 1 (m + 1) (rd 1 m) := if_pos (by omega)
    unfold fX2_turnSignpost
    rw [gd_n (by omega) (by decide), nm_u, nI_p1, gd_n (by omega) (by decide), nm_u, nm_u, bd_s, cl_n (i := m) (by omega), cl_n (i := m + 1) (by omega), (hc.1 m (by omega)).1, (hc.1 (m + 1) (by omega)).1]
    have C : CP (sE (sE d 1 m (rd 1 (m + 1))) 1 (m + 1) (rd 1 m)) (tn rd m M) := by rw [et]; exact CP_e (CP_e hc)
    obtain ⟨dr', x1, x2, x3⟩ := c_dt30 (cc := cc) (rd := rd) (dr := dr) Q C
    exact ⟨_, _, x1, x2, x3⟩
  · rw [decide_eq_false c1]
    simp only [it_f]
    have C : CP d (tn rd m M) := by rw [tn_no (by omega)]; exact hc
    obtain ⟨dr', x1, x2, x3⟩ := c_dt30 (cc := cc) (rd := rd) (dr := dr) Q C
    exact ⟨_, _, x1, x2, x3⟩
theorem c_dt0 {cc rd tr dr : S2} {M P : Nat} (h : RQ rd M P) : ∃ tr' dr', fX8_driveIfTurned cc rd tr dr (-4) = some (tr', dr') ∧ dr' 0 0 = nI P ∧ ∀ p, p < P → dr' 1 p = vd rd M p := by
  have hM := h.2.2.1
  obtain ⟨d, e1, hc⟩ := pX2_copy (rd := tr) (ro := rd)
  have d0 : d 0 0 = nI M := by rw [hc.2.2.1, h.1]
  unfold fX8_driveIfTurned
  have eb : blw (-4) (M - 1) = false := by
    unfold blw
    rw [decide_eq_false (by decide), Bool.false_and]
  rw [e1, bd_s, pX2_hasSign d0 hM, bd_s, eb]
  simp only [it_f]
  obtain ⟨dr', x1, x2, x3⟩ := c_dt30 (cc := cc) (rd := rd) (dr := dr) h hc
  exact ⟨_, _, x1, x2, x3⟩
theorem sg_i : ∀ M, M ≤ 8 → ∀ m, m ≤ 8 → (nI M - (1 : Int32) ≤ nI m ↔ ¬ m + 1 < M) := by decide
theorem r_st {mo rd : S2} {M P m : Nat} (h : RR mo rd M P) (hm : m ≤ 8) : ∃ s', fX9_startsTurned mo (nI m) = some s' ∧ RM s' (tn rd m M) M P ∧ SF mo s' := by
  obtain ⟨_, _, hM, hP, m0, m1, r0, r1⟩ := id h
  obtain ⟨s1, e1, R1, f1⟩ := pX9_startsR h
  unfold fX9_startsTurned
  rw [e1, bd_s, f1 0 0 (by omega), m0]
  by_cases c1 : m + 1 < M
  · have et : tn rd m M = sE (sE rd 1 m (rd 1 (m + 1))) 1 (m + 1) (rd 1 m) := if_pos c1
    have a1 := (R1.1 m (by omega)).1
    have a2 := (R1.1 (m + 1) (by omega)).1
    rw [if_neg (fun hh => (sg_i M hM m hm).mp hh c1), m3_0 m (by omega), nm_u, gd_n (by omega) (by decide), nm_u, show nI (3 * m) + (3 : Int32) = nI (3 * m + 3) from nI_ad (3 * m) 3, gd_n (by omega) (by decide), nm_u, nm_u, cl_n (i := 3 * m) (by omega), cl_n (i := 3 * m + 3) (by omega), a1, show 3 * m + 3 = 3 * (m + 1) by omega, a2, et]
    refine ⟨_, rfl, ?_, SF_t f1 (fun a b hab => by rw [sE_v, if_neg (by omega), sE_v, if_neg (by omega)])⟩
    exact RM_mile (k := 0) (j := m + 1) (RM_mile (k := 0) (j := m) R1 hM hP (by omega) (by omega)) hM hP c1 (by omega)
  · rw [if_pos ((sg_i M hM m hm).mpr c1), tn_no c1]
    exact ⟨_, rfl, R1, f1⟩
def tb (f : Nat → Bool) : Nat → Nat
  | 0 => 0
  | i + 1 => tb f i + if f i = true then 2 ^ i else 0
theorem tb_lt (f : Nat → Bool) : ∀ i, tb f i < 2 ^ i := by
  intro i
  induction i with
  | zero => exact Nat.one_pos
  | succ i ih =>
    unfold tb
    rw [Nat.pow_succ]
    split <;> omega
theorem bo7 : ∀ c, c < 2 → ∀ i, i < 7 → ∀ b, b < 2 ^ i → nI (b + 256 * c) ||| ((1 : Int32) <<< (nI i &&& 31)) = nI (b + 2 ^ i + 256 * c) := by decide
theorem bo8 : ∀ b, b < 128 → nI b ||| (256 : Int32) = nI (b + 256) := by decide
theorem sgn_v : ∀ M, M ≤ 8 → (if nI M ≤ (0 : Int32) then some (1 : Int32) else some (nI M)) = some (nI (M - 1 + 1)) := by decide
theorem pX9_signs {mo : S2} {M : Nat} (h : mo 0 0 = nI M) (hM : M ≤ 8) : fX9_signs mo = some (nI (M - 1 + 1)) := by
  unfold fX9_signs
  rw [h]
  exact sgn_v M hM
/-- which signposts may be turned: FB i, by the seen -/
def FB (rd sn : S2) (M n : Nat) (i : Nat) : Bool := agr sn (vd (tn rd i M) M) n
def tv (rd sn : S2) (M n : Nat) : Nat := tb (FB rd sn M n) (M - 1) + 256 * (if FB rd sn M n (M - 1) = true then 1 else 0)
theorem FB_l {rd sn : S2} {M n : Nat} : FB rd sn M n (M - 1) = agr sn (vd rd M) n := by
  unfold FB
  rw [tn_no (by omega)]
theorem c_tu {cc rd tr dr sn mo : S2} {M P n : Nat} (h : RQ rd M P) (hs : SE mo sn n P) : ∃ tr' dr', fX8_turned cc rd tr dr sn = some (nI (tv rd sn M n), tr', dr') := by
  obtain ⟨hn, _, g0, g⟩ := hs
  have hM := h.2.2.1
  have hP := h.2.2.2.1
  have hq : ∀ i, i < n → ∃ q, sn 1 i = nI q ∧ q < P := fun i hi => (g i hi).2.2
  have L : ∀ (c : Nat) (tr dr : S2), c < 2 → ∃ x, wh (fun (c : Int32 × Int32 × S2 × S2) => fX8_turned_b30 cc rd c.2.2.1 c.2.2.2 sn c.1 c.2.1) 5000 (nI (256 * c), (0 : Int32), tr, dr) = some x ∧ x.1 = nI (tb (FB rd sn M n) (M - 1) + 256 * c) := by
    intro c tr dr hc
    refine wh_ex (body := fun (c : Int32 × Int32 × S2 × S2) => fX8_turned_b30 cc rd c.2.2.1 c.2.2.2 sn c.1 c.2.1)
      (fun i s => s.1 = nI (tb (FB rd sn M n) i + 256 * c) ∧ s.2.1 = nI i)
      (fun x => x.1 = nI (tb (FB rd sn M n) (M - 1) + 256 * c)) (M - 1) (fun i s hi hI => ?_) (fun s hI => ?_) 5000 0 _ (by omega) (by omega) ⟨by unfold tb; rw [Nat.zero_add], rfl⟩
    · obtain ⟨k1, k2⟩ := hI
      left
      obtain ⟨tr', dr', x1, x2, x3⟩ := c_dt (cc := cc) (tr := s.2.2.1) (dr := s.2.2.2) h (show i ≤ 8 by omega)
      have E : fX8_turned_b30 cc rd s.2.2.1 s.2.2.2 sn s.1 s.2.1 = if FB rd sn M n i = true then some (.inl (nI (tb (FB rd sn M n) i + 2 ^ i + 256 * c), nI (i + 1), tr', dr')) else some (.inl (nI (tb (FB rd sn M n) i + 256 * c), nI (i + 1), tr', dr')) := by
        unfold fX8_turned_b30
        rw [k2, h.1, if_neg (fun hh => (sg_i M hM i (by omega)).mp hh (by omega)), x1, bd_s, pX5_agree g0 hn hP hq, bd_s, agr_c hP x3 n hq, k1, bo7 c hc i (by omega) _ (tb_lt _ i)]
        simp only [nm_u, nI_p1]
        show (if bI (FB rd sn M n i) = 0 then _ else _) = _
        cases FB rd sn M n i with
        | false => rfl
        | true => rfl
      have T : tb (FB rd sn M n) (i + 1) = tb (FB rd sn M n) i + if FB rd sn M n i = true then 2 ^ i else 0 := rfl
      cases hb : FB rd sn M n i with
      | false =>
        rw [hb, if_neg (by decide)] at T E
        exact ⟨_, E, by rw [T]; rfl, rfl⟩
      | true =>
        rw [hb, if_pos rfl] at T E
        exact ⟨_, E, by rw [T], rfl⟩
    · obtain ⟨k1, k2⟩ := hI
      refine ⟨(s.1, s.2.1, s.2.2.1, s.2.2.2), ?_, k1⟩
      unfold fX8_turned_b30
      rw [k2, h.1, if_pos ((sg_i M hM (M - 1) (by omega)).mpr (by omega))]
  unfold fX8_turned
  obtain ⟨t1, d1, x1, x2, x3⟩ := c_dt0 (cc := cc) (tr := tr) (dr := dr) h
  rw [x1, bd_s, pX5_agree g0 hn hP hq, bd_s, agr_c hP x3 n hq]
  unfold tv
  rw [FB_l]
  cases hb : agr sn (vd rd M) n with
  | false =>
    obtain ⟨x, e, q⟩ := L 0 t1 d1 (by omega)
    simp only [it_f]
    rw [show (0 : Int32) = nI (256 * 0) from rfl]
    rw [show (nI (256 * 0), nI (256 * 0), t1, d1) = (nI (256 * 0), (0 : Int32), t1, d1) from rfl, e, bd_s, q]
    exact ⟨_, _, rfl⟩
  | true =>
    obtain ⟨x, e, q⟩ := L 1 t1 d1 (by omega)
    simp only [it_t]
    rw [show (256 : Int32) = nI (256 * 1) from rfl, e, bd_s, q]
    exact ⟨_, _, rfl⟩
theorem r_tu {mo rd sn : S2} {M P n : Nat} (h : RR mo rd M P) (hs : SE mo sn n P) : ∃ mo', fX9_turned mo = some (nI (tv rd sn M n), mo') ∧ SF mo mo' := by
  obtain ⟨_, _, hM, hP, m0, m1, r0, r1⟩ := id h
  unfold fX9_turned
  have key : ∃ x, wh (fun (c : Int32 × Int32 × S2) => fX9_turned_b4 c.2.2 c.1 c.2.1) 5000 ((0 : Int32), (0 : Int32), mo) = some x ∧ (x.1 = nI (tv rd sn M n) ∧ SF mo x.2.2) := by
    refine wh_ex (body := fun (c : Int32 × Int32 × S2) => fX9_turned_b4 c.2.2 c.1 c.2.1)
      (fun i s => s.1 = nI (if i ≤ M - 1 then tb (FB rd sn M n) i else tv rd sn M n) ∧ s.2.1 = nI i ∧ SF mo s.2.2)
      (fun x => x.1 = nI (tv rd sn M n) ∧ SF mo x.2.2) (M - 1 + 1) (fun i s hi hI => ?_) (fun s hI => ?_) 5000 0 _ (by omega) (by omega) ⟨by rw [if_pos (by omega)]; rfl, rfl, SF_r mo⟩
    · obtain ⟨k1, k2, k3⟩ := hI
      left
      rw [if_pos (by omega)] at k1
      have Rt := RR_SF h k3
      obtain ⟨s1, e1, R1, f1⟩ := r_st (m := i) Rt (by omega)
      obtain ⟨s2, e2, _, f2⟩ := pX9_isSo R1 hM hP (SE_fr hs (fun b => by rw [f1 1 b (by omega), k3 1 b (by omega)]))
      have F2 : SF mo s2 := SF_t k3 (SF_t f1 (SF_DF f2))
      have z0 : s2 0 0 = nI M := by rw [F2 0 0 (by omega), m0]
      have E : fX9_turned_b4 s.2.2 s.1 s.2.1 = if FB rd sn M n i = true then (if i + 1 < M then some (.inl (nI (tb (FB rd sn M n) i) ||| ((1 : Int32) <<< (nI i &&& 31)), nI (i + 1), s2)) else some (.inl (nI (tb (FB rd sn M n) i) ||| (256 : Int32), nI (i + 1), s2))) else some (.inl (nI (tb (FB rd sn M n) i), nI (i + 1), s2)) := by
        unfold fX9_turned_b4 fX9_signBit
        rw [k2, pX9_signs Rt.2.2.2.2.1 hM, bd_s, if_neg (nI_ge hi (by omega)), e1, bd_s, e2, bd_s, k1]
        simp only [nm_u, nI_p1, z0, Int32.or_zero]
        show (if bI (FB rd sn M n i) = 0 then _ else _) = _
        cases FB rd sn M n i with
        | false => rfl
        | true =>
          rw [if_neg (by decide), if_pos rfl]
          by_cases c1 : i + 1 < M
          · rw [if_neg (fun hh => (sg_i M hM i (by omega)).mp hh c1), if_pos c1]; rfl
          · rw [if_pos ((sg_i M hM i (by omega)).mpr c1), if_neg c1]; rfl
      have T : tb (FB rd sn M n) (i + 1) = tb (FB rd sn M n) i + if FB rd sn M n i = true then 2 ^ i else 0 := rfl
      by_cases c1 : i + 1 < M
      · have hx : i + 1 ≤ M - 1 := by omega
        cases hb : FB rd sn M n i with
        | false =>
          rw [hb, if_neg (by decide)] at T E
          exact ⟨_, E, by rw [if_pos hx, T]; rfl, rfl, F2⟩
        | true =>
          have hbo := bo7 0 (by omega) i (by omega) _ (tb_lt (FB rd sn M n) i)
          rw [hb, if_pos rfl, if_pos c1] at E
          rw [hb, if_pos rfl] at T
          exact ⟨_, E, by rw [if_pos hx, T]; exact hbo, rfl, F2⟩
      · have hx : ¬ i + 1 ≤ M - 1 := by omega
        have hiM : i = M - 1 := by omega
        have htv : tv rd sn M n = tb (FB rd sn M n) i + 256 * (if FB rd sn M n i = true then 1 else 0) := by rw [hiM]; rfl
        cases hb : FB rd sn M n i with
        | false =>
          rw [hb, if_neg (by decide)] at E htv
          exact ⟨_, E, by rw [if_neg hx, htv]; rfl, rfl, F2⟩
        | true =>
          rw [hb, if_pos rfl, if_neg c1] at E
          rw [hb, if_pos rfl] at htv
          have hlt := tb_lt (FB rd sn M n) i
          have h7 : 2 ^ i ≤ 2 ^ 7 := Nat.pow_le_pow_right (by decide) (by omega)
          exact ⟨_, E, by rw [if_neg hx, htv]; exact bo8 _ (by omega), rfl, F2⟩
    · obtain ⟨k1, k2, k3⟩ := hI
      rw [if_neg (by omega)] at k1
      refine ⟨(s.1, s.2.1, s.2.2), ?_, k1, k3⟩
      unfold fX9_turned_b4
      rw [k2, pX9_signs (by rw [k3 0 0 (by omega), m0]) hM, bd_s, if_pos (nI_le (Nat.le_refl _) (by omega))]
  obtain ⟨x, e, q1, q2⟩ := key
  rw [e, bd_s, q1]
  exact ⟨_, rfl, q2⟩
theorem sim_turned {mo rd tr dr sn cc : S2} {M P : Nat} (h : RR mo rd M P) (hs : SN mo sn 0 P) : ∃ v tr' dr' mo', fX8_turned cc rd tr dr sn = some (v, tr', dr') ∧ fX9_turned mo = some (v, mo') ∧ SF mo mo' := by
  obtain ⟨n, hn⟩ := SE_SN hs
  obtain ⟨tr', dr', e1⟩ := c_tu (cc := cc) (tr := tr) (dr := dr) (RQ_RR h) hn
  obtain ⟨mo', e2, f⟩ := r_tu h hn
  exact ⟨_, _, _, _, e1, e2, f⟩
theorem fl_b (b : Bool) : fX9_flag (bI b) = some (bI b) := by cases b <;> rfl
theorem sim_laws {mo rd tr dr sn cc : S2} {M P : Nat} {p1 : Int32} (h : RR mo rd M P) (hs : SN mo sn 0 P) : ∃ v tr' dr' mo', fX8_laws cc rd tr dr sn p1 = some (v, tr', dr') ∧ fX9_laws mo p1 = some (v, mo') ∧ SF mo mo' := by
  obtain ⟨_, _, hM, hP, m0, m1, r0, r1⟩ := id h
  obtain ⟨n, hn⟩ := SE_SN hs
  obtain ⟨hn6, _, g0, g⟩ := id hn
  have hq : ∀ i, i < n → ∃ q, sn 1 i = nI q ∧ q < P := fun i hi => (g i hi).2.2
  have Q := RQ_RR h
  unfold fX8_laws fX9_laws
  rw [pX2_hasParty r1, bd_s, pX9_isParty m1 (by omega), bd_s]
  cases hb : blw p1 P with
  | false => exact ⟨_, _, _, _, rfl, rfl, SF_r mo⟩
  | true =>
    obtain ⟨p, rfl, hp⟩ := blw_n (by omega) hb
    have hp4 : p < 4 := by omega
    obtain ⟨d, e1, hc⟩ := pX2_copy (rd := tr) (ro := rd)
    obtain ⟨s1, e2, R1, f1⟩ := pX9_startsR h
    simp only [it_t]
    rw [e1, bd_s, e2, bd_s]
    have key : ∃ r u, wh (fun (c : Int32 × Int32 × S2 × S2) => fX8_laws_b28 cc rd c.2.2.1 c.2.2.2 sn (nI p) c.1 c.2.1) 5000 ((0 : Int32), (0 : Int32), d, dr) = some r ∧ wh (fun (c : Int32 × Int32 × S2) => fX9_laws_b18 c.2.2 (nI p) c.1 c.2.1) 5000 ((0 : Int32), (0 : Int32), s1) = some u ∧ (r.1 = u.1 ∧ SF mo u.2.2) := by
      refine wh_2 (b1 := fun (c : Int32 × Int32 × S2 × S2) => fX8_laws_b28 cc rd c.2.2.1 c.2.2.2 sn (nI p) c.1 c.2.1) (b2 := fun (c : Int32 × Int32 × S2) => fX9_laws_b18 c.2.2 (nI p) c.1 c.2.1)
        (fun i s t => s.1 = t.1 ∧ s.2.1 = nI i ∧ t.2.1 = nI i ∧ (∀ w, CP (sE s.2.2.1 7 p w) (sE rd 7 p w)) ∧ (∀ w, RM (sE t.2.2 2 (24 + 5 * p + 3) w) (sE rd 7 p w) M P) ∧ SF mo t.2.2)
        (fun r u => r.1 = u.1 ∧ SF mo u.2.2) 4 (fun i s t hi hI => ?_) (fun s t hI => ?_) 5000 0 _ _ (by decide) (by decide) ⟨rfl, rfl, rfl, fun w => CP_e hc, fun w => RM_party (k := 3) R1 hM hP hp (by omega), f1⟩
      · obtain ⟨k1, k2, k3, k4, k5, k6⟩ := hI
        left
        have C := k4 (nI i)
        obtain ⟨d', x1, x2, x3⟩ := run_v (dr := s.2.2.2) (RQ_cp (RQ_g (k := 7) (i := p) (w := nI i) Q (by omega)) C)
        obtain ⟨s2, y1, y2, f2⟩ := pX9_isSo (k5 (nI i)) hM hP (SE_fr hn (fun b => by rw [sE_v, if_neg (by omega), k6 1 b (by omega)]))
        have F2 : SF mo s2 := SF_t k6 (fun a b hab => by rw [f2 a b (by omega) (by omega), sE_v, if_neg (by omega)])
        have R2 : ∀ w, RM (sE s2 2 (24 + 5 * p + 3) w) (sE rd 7 p w) M P := fun w => by
          have := k5 w
          rw [← sE_sE (σ := t.2.2) (x := nI i)] at this
          exact RM_re this f2
        have xv : ∀ q, q < P → d' 1 q = vd (sE rd 7 p (nI i)) M q := fun q hq => by rw [x3 q hq, vd_c (CV_cp C hM hP) hq]
        have E1 : fX8_laws_b28 cc rd s.2.2.1 s.2.2.2 sn (nI p) s.1 s.2.1 = if agr sn (vd (sE rd 7 p (nI i)) M) n = true then some (.inl (s.1 ||| ((1 : Int32) <<< (nI i &&& 31)), nI (i + 1), sE s.2.2.1 7 p (nI i), d')) else some (.inl (s.1, nI (i + 1), sE s.2.2.1 7 p (nI i), d')) := by
          unfold fX8_laws_b28
          rw [k2, if_neg (show ¬ (3 : Int32) < nI i from nI_nlt (a := 3) (b := i) (by omega) (by decide)), gd_n hp4 (by decide), nm_u, cl_n (by omega), x1, bd_s, pX5_agree g0 hn6 hP hq, bd_s, agr_c hP xv n hq]
          simp only [nm_u, nI_p1]
          cases agr sn (vd (sE rd 7 p (nI i)) M) n with
          | false => rfl
          | true => rfl
        have E2 : fX9_laws_b18 t.2.2 (nI p) t.1 t.2.1 = if agr sn (vd (sE rd 7 p (nI i)) M) n = true then some (.inl (s.1 ||| ((1 : Int32) <<< (nI i &&& 31)), nI (i + 1), s2)) else some (.inl (s.1, nI (i + 1), s2)) := by
          unfold fX9_laws_b18
          rw [k3, if_neg (show ¬ (4 : Int32) ≤ nI i from nI_ge (a := i) (b := 4) hi (by decide)), m5_3 p hp4, gd_n (by omega) (by decide), nm_u, cl_n (i := 24 + 5 * p + 3) (by omega), y1, bd_s, fl_b, bd_s, nm_u, nm_u, nI_p1, ← k1]
          cases agr sn (vd (sE rd 7 p (nI i)) M) n with
          | false => rw [bI_f, sh0 i (by omega), Int32.or_zero]; rfl
          | true => rfl
        cases hb : agr sn (vd (sE rd 7 p (nI i)) M) n with
        | false =>
          rw [hb, if_neg (by decide)] at E1 E2
          exact ⟨_, _, E1, E2, rfl, rfl, rfl, fun w => by dsimp only; rw [sE_sE]; exact k4 w, R2, F2⟩
        | true =>
          rw [hb, if_pos rfl] at E1 E2
          exact ⟨_, _, E1, E2, rfl, rfl, rfl, fun w => by dsimp only; rw [sE_sE]; exact k4 w, R2, F2⟩
      · obtain ⟨k1, k2, k3, k4, k5, k6⟩ := hI
        have E1 : fX8_laws_b28 cc rd s.2.2.1 s.2.2.2 sn (nI p) s.1 s.2.1 = some (.inr (s.1, s.2.1, s.2.2.1, s.2.2.2)) := by
          unfold fX8_laws_b28
          rw [k2, if_pos (by decide)]
        have E2 : fX9_laws_b18 t.2.2 (nI p) t.1 t.2.1 = some (.inr (t.1, t.2.1, t.2.2)) := by
          unfold fX9_laws_b18
          rw [k3, if_pos (by decide)]
        exact ⟨_, _, E1, E2, k1, k6⟩
    obtain ⟨r, u, w1, w2, g1, g2⟩ := key
    rw [w1, bd_s, w2, bd_s, g1]
    exact ⟨_, _, _, _, rfl, rfl, g2⟩
