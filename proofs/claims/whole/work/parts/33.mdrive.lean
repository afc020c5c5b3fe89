/-! PURE: the reference's drive -/
def RM (mo rd : S2) (M P : Nat) : Prop := (∀ j, j < M → mo 2 (3 * j) = rd 1 j ∧ mo 2 (3 * j + 1) = rd 2 j ∧ mo 2 (3 * j + 2) = rd 3 j) ∧ (∀ p, p < P → mo 2 (24 + 5 * p) = rd 4 p ∧ mo 2 (24 + 5 * p + 1) = rd 5 p ∧ mo 2 (24 + 5 * p + 2) = rd 6 p ∧ mo 2 (24 + 5 * p + 3) = rd 7 p ∧ mo 2 (24 + 5 * p + 4) = rd 8 p) ∧ mo 2 44 = rd 0 2 ∧ mo 2 45 = rd 0 3 ∧ mo 0 0 = nI M ∧ mo 0 1 = nI P
theorem RM_fr {mo mo' rd : S2} {M P : Nat} (h : RM mo rd M P) (h2 : ∀ b, mo' 2 b = mo 2 b) (h0 : mo' 0 0 = mo 0 0) (h1 : mo' 0 1 = mo 0 1) : RM mo' rd M P := by
  unfold RM at h ⊢
  simp only [h2, h0, h1]
  exact h
theorem m3_0 : ∀ j, j < 8 → (3 : Int32) * nI j + (0 : Int32) = nI (3 * j) := by decide
theorem m3_1 : ∀ j, j < 8 → (3 : Int32) * nI j + (1 : Int32) = nI (3 * j + 1) := by decide
theorem m3_2 : ∀ j, j < 8 → (3 : Int32) * nI j + (2 : Int32) = nI (3 * j + 2) := by decide
theorem m5_0 : ∀ j, j < 4 → ((24 : Int32) + (5 : Int32) * nI j) + (0 : Int32) = nI (24 + 5 * j) := by decide
theorem m5_1 : ∀ j, j < 4 → ((24 : Int32) + (5 : Int32) * nI j) + (1 : Int32) = nI (24 + 5 * j + 1) := by decide
theorem m5_2 : ∀ j, j < 4 → ((24 : Int32) + (5 : Int32) * nI j) + (2 : Int32) = nI (24 + 5 * j + 2) := by decide
theorem m5_3 : ∀ j, j < 4 → ((24 : Int32) + (5 : Int32) * nI j) + (3 : Int32) = nI (24 + 5 * j + 3) := by decide
theorem m5_4 : ∀ j, j < 4 → ((24 : Int32) + (5 : Int32) * nI j) + (4 : Int32) = nI (24 + 5 * j + 4) := by decide
theorem pX9_om0 {mo rd : S2} {M P j : Nat} (h : RM mo rd M P) (hM : M ≤ 8) (hj : j < M) : fX9_ofMile mo (nI j) (0 : Int32) = some (rd 1 j) := by
  unfold fX9_ofMile
  rw [m3_0 j (by omega), gd_n (by omega) (by decide), cl_n (by omega), (h.1 j hj).1]
theorem pX9_om1 {mo rd : S2} {M P j : Nat} (h : RM mo rd M P) (hM : M ≤ 8) (hj : j < M) : fX9_ofMile mo (nI j) (1 : Int32) = some (rd 2 j) := by
  unfold fX9_ofMile
  rw [m3_1 j (by omega), gd_n (by omega) (by decide), cl_n (by omega), (h.1 j hj).2.1]
theorem pX9_om2 {mo rd : S2} {M P j : Nat} (h : RM mo rd M P) (hM : M ≤ 8) (hj : j < M) : fX9_ofMile mo (nI j) (2 : Int32) = some (rd 3 j) := by
  unfold fX9_ofMile
  rw [m3_2 j (by omega), gd_n (by omega) (by decide), cl_n (by omega), (h.1 j hj).2.2]
theorem pX9_of0 {mo rd : S2} {M P p : Nat} (h : RM mo rd M P) (hP : P ≤ 4) (hp : p < P) : fX9_of mo (nI p) (0 : Int32) = some (rd 4 p) := by
  unfold fX9_of
  rw [m5_0 p (by omega), gd_n (by omega) (by decide), cl_n (by omega), (h.2.1 p hp).1]
theorem pX9_of2 {mo rd : S2} {M P p : Nat} (h : RM mo rd M P) (hP : P ≤ 4) (hp : p < P) : fX9_of mo (nI p) (2 : Int32) = some (rd 6 p) := by
  unfold fX9_of
  rw [m5_2 p (by omega), gd_n (by omega) (by decide), cl_n (by omega), (h.2.1 p hp).2.2.1]
theorem pX9_of3 {mo rd : S2} {M P p : Nat} (h : RM mo rd M P) (hP : P ≤ 4) (hp : p < P) : fX9_of mo (nI p) (3 : Int32) = some (rd 7 p) := by
  unfold fX9_of
  rw [m5_3 p (by omega), gd_n (by omega) (by decide), cl_n (by omega), (h.2.1 p hp).2.2.2.1]
theorem pX9_of4 {mo rd : S2} {M P p : Nat} (h : RM mo rd M P) (hP : P ≤ 4) (hp : p < P) : fX9_of mo (nI p) (4 : Int32) = some (rd 8 p) := by
  unfold fX9_of
  rw [m5_4 p (by omega), gd_n (by omega) (by decide), cl_n (by omega), (h.2.1 p hp).2.2.2.2]
theorem pX9_minutes {mo rd : S2} {M P j : Nat} (h : RM mo rd M P) (hM : M ≤ 8) (hj : j < M) : fX9_minutes mo (nI j) = some (mnt (rd 2 j) (rd 3 j)) := by
  unfold fX9_minutes
  rw [pX9_om1 h hM hj, bd_s, pX9_om2 h hM hj, bd_s]
  rfl
theorem pX9_hearing {mo rd : S2} {M P j : Nat} (h : RM mo rd M P) (hM : M ≤ 8) (hj : j < M) : fX9_hearing mo (nI j) = some (hrn (rd 2 j) (rd 3 j)) := by
  unfold fX9_hearing fX9_hearing_28 hrn
  rw [pX9_om1 h hM hj, bd_s, pX9_om2 h hM hj, bd_s, pX9_minutes h hM hj]
  by_cases h1 : rd 2 j = 0
  · by_cases h2 : rd 3 j = 0
    · simp [h1, h2]
    · simp [h1, h2]
  · simp [h1]
theorem pX9_strainOf {mo rd : S2} {M P p j : Nat} (h : RM mo rd M P) (hM : M ≤ 8) (hP : P ≤ 4) (hp : p < P) (hj : j < M) : fX9_strainOf mo (nI p) (nI j) = some (stn (rd 4 p) (rd 2 j) (rd 3 j)) := by
  unfold fX9_strainOf stn
  rw [pX9_minutes h hM hj, bd_s, pX9_om1 h hM hj, bd_s, nm_u, pX9_of0 h hP hp, bd_s]
  by_cases h1 : rd 4 p = 1
  · simp [h1]
  · by_cases h2 : rd 4 p = 2
    · simp [h2]
    · simp [h1, h2]
def bI (b : Bool) : Int32 := if b = true then 1 else 0
theorem bI_0 (b : Bool) : bI b = 0 ↔ b = false := by cases b <;> decide
def psq (mo : S2) (q : Nat) (x : T5) : Prop := mo 10 q = bI x.1 ∧ mo 6 q = x.2.1 ∧ mo 7 q = x.2.2.1 ∧ mo 8 q = x.2.2.2.1 ∧ mo 9 q = x.2.2.2.2
theorem pX9_canRun_41 {mo rd : S2} {M P p m c : Nat} {k0 w : Int32} (h : RM mo rd M P) (hM : M ≤ 8) (hP : P ≤ 4) (hp : p < P) (hm : m < M) (hw : mo 9 p = w) : fX9_canRun_41 mo (nI p) (nI m) (nI c) k0 = some (bI (decide (nI c < rd 0 2) && (!decide (w < stn (rd 4 p) (rd 2 m) (rd 3 m)) && decide (k0 = 0)))) := by
  unfold fX9_canRun_41
  rw [show Int32.toNatClampNeg (44 : Int32) = 44 from rfl, h.2.2.1, gd_n (by omega) (by decide), cl_n (by omega), pX9_strainOf h hM hP hp hm, bd_s, hw]
  by_cases h1 : rd 0 2 ≤ nI c
  · rw [if_pos h1]
    have : ¬ nI c < rd 0 2 := Int32.not_lt.mpr h1
    simp [this, bI]
  · rw [if_neg h1]
    have : nI c < rd 0 2 := Int32.not_le.mp h1
    by_cases h2 : w < stn (rd 4 p) (rd 2 m) (rd 3 m)
    · simp [this, h2, bI]
    · by_cases h3 : k0 = 0
      · simp [this, h2, h3, bI]
      · simp [this, h2, h3, bI]
theorem nI_m1 : ∀ m, m < 8 → 0 < m → nI m - (1 : Int32) = nI (m - 1) := by decide
theorem pX9_canRun {mo rd : S2} {M P p m c : Nat} {x : T5} (h : RM mo rd M P) (hM : M ≤ 8) (hP : P ≤ 4) (hp : p < P) (hm : m < M) (hx : psq mo p x) (h0 : x.1 = true → 0 < m) : fX9_canRun mo (nI p) (nI m) (nI c) = some (bI (cab rd p m c x)) := by
  obtain ⟨r, v, g, hh, w⟩ := x
  obtain ⟨x1, x2, x3, x4, x5⟩ := hx
  dsimp only at x1 x2 x3 x4 x5 h0
  unfold fX9_canRun cab
  rw [pX9_of0 h hP hp, bd_s]
  simp only [pX9_canRun_41 h hM hP hp hm x5]
  by_cases h1 : rd 4 p = 3
  · rw [if_pos h1, gd_n (by omega) (by decide), cl_n (by omega), x1]
    cases r with
    | false => simp [bI]
    | true =>
      rw [if_neg (by decide), pX9_om0 h hM hm, bd_s, nI_m1 m (by omega) (h0 rfl), pX9_om0 h hM (by omega), bd_s]
      by_cases h2 : rd 1 m = rd 1 (m - 1)
      · simp [h2]
      · simp [h1, h2]
  · simp [h1]
theorem pX9_runsIn {mo rd : S2} {M P p m : Nat} {x : T5} (h : RM mo rd M P) (hM : M ≤ 8) (hP : P ≤ 4) (hp : p < P) (hm : m < M) (hx : psq mo p x) : ∃ s', fX9_runsIn mo (nI p) (nI m) = some s' ∧ ∀ a b, s' a b = if a = 9 ∧ b = p then wd1 rd p m x else if a = 8 ∧ b = p then hr1 rd p m x else if a = 6 ∧ b = p then (if hr1 rd p m x < rd 6 p then -4 else nI m) else if a = 10 ∧ b = p then (if hr1 rd p m x < rd 6 p then 1 else 0) else if a = 11 ∧ b = m then (mo 11 m ||| ((1 : Int32) <<< (nI p &&& 31))) else mo a b := by
  obtain ⟨r, v, g, hh, w⟩ := x
  obtain ⟨x1, x2, x3, x4, x5⟩ := hx
  dsimp only at x1 x2 x3 x4 x5
  have hp4 : p < 4 := by omega
  have cp : Int32.toNatClampNeg (nI p) = p := cl_n (by omega)
  have cm : Int32.toNatClampNeg (nI m) = m := cl_n (by omega)
  have R3 : ∀ y, RM (sE mo 9 p y) rd M P := fun y => RM_fr h (fun b => by rw [sE_v, if_neg (by omega)]) (by rw [sE_v, if_neg (by omega)]) (by rw [sE_v, if_neg (by omega)])
  have R8 : ∀ y z, RM (sE (sE mo 9 p y) 8 p z) rd M P := fun y z => RM_fr (R3 y) (fun b => by rw [sE_v, if_neg (by omega)]) (by rw [sE_v, if_neg (by omega)]) (by rw [sE_v, if_neg (by omega)])
  have E : fX9_runsIn mo (nI p) (nI m) = fX9_runsIn_46 (sE mo 9 p (w - stn (rd 4 p) (rd 2 m) (rd 3 m))) (nI p) (nI m) (if rd 1 m = rd 7 p then hrn (rd 2 m) (rd 3 m) else 0) hh (nI p) := by
    unfold fX9_runsIn
    rw [gd_n hp4 (by decide), pX9_strainOf h hM hP hp hm, bd_s, nm_u, cp, x5, pX9_om0 (R3 _) hM hm, bd_s, pX9_of3 (R3 _) hP hp, bd_s, pX9_hearing (R3 _) hM hm, bd_s]
    have e8 : sE mo 9 p (w - stn (rd 4 p) (rd 2 m) (rd 3 m)) 8 p = hh := by rw [sE_v, if_neg (by omega), x4]
    rw [e8]
    split <;> rfl
  have E2 : fX9_runsIn mo (nI p) (nI m) = fX9_runsIn_68 (sE (sE mo 9 p (w - stn (rd 4 p) (rd 2 m) (rd 3 m))) 8 p (hr1 rd p m (r, v, g, hh, w))) (nI p) (nI m) (if hr1 rd p m (r, v, g, hh, w) < rd 6 p then 0 else 1) := by
    rw [E]
    unfold fX9_runsIn_46
    rw [gd_n hp4 (by decide), nm_u, gd_n hp4 (by decide), cp, pX9_of2 (R8 _ _) hP hp, bd_s, sE_e]
    show (if hr1 rd p m (r, v, g, hh, w) < rd 6 p then _ else _) = _
    split <;> rfl
  have b1 : vp_nar .boolean (1 : Int32) = 1 := by decide
  have b0 : vp_nar .boolean (0 : Int32) = 0 := by decide
  by_cases hc : hr1 rd p m (r, v, g, hh, w) < rd 6 p
  · rw [E2, if_pos hc]
    unfold fX9_runsIn_68 fX9_runsIn_84 fX9_runsIn_99
    rw [if_pos rfl, gd_n hp4 (by decide), nm_u, if_pos rfl, gd_n hp4 (by decide), nm_u, gd_n (n := 8) (by omega) (by decide), nm_u, cp, cm, b1]
    refine ⟨_, rfl, fun a b => ?_⟩
    simp only [sE_v, if_pos hc]
    by_cases h9 : a = 9
    · subst h9; simp [wd1]
    · by_cases h8 : a = 8
      · subst h8; simp
      · by_cases h6 : a = 6
        · subst h6; simp
        · by_cases h10 : a = 10
          · subst h10; simp
          · by_cases h11 : a = 11
            · subst h11; simp
            · simp [h9, h8, h6, h10, h11]
  · rw [E2, if_neg hc]
    unfold fX9_runsIn_68 fX9_runsIn_84 fX9_runsIn_99
    rw [if_neg (by decide), gd_n hp4 (by decide), nm_u, if_neg (by decide), gd_n hp4 (by decide), nm_u, gd_n (n := 8) (by omega) (by decide), nm_u, cp, cm, b0]
    refine ⟨_, rfl, fun a b => ?_⟩
    simp only [sE_v, if_neg hc]
    by_cases h9 : a = 9
    · subst h9; simp [wd1]
    · by_cases h8 : a = 8
      · subst h8; simp
      · by_cases h6 : a = 6
        · subst h6; simp
        · by_cases h10 : a = 10
          · subst h10; simp
          · by_cases h11 : a = 11
            · subst h11; simp
            · simp [h9, h8, h6, h10, h11]
