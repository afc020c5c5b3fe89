/-! PURE: luck, mean -/
theorem gcd_m (x y : Nat) : Nat.gcd x y = Nat.gcd y (x % y) := by
  rw [Nat.gcd_comm x y, Nat.gcd_rec y x, Nat.gcd_comm]
theorem mod_h {y r : Nat} (h : r < y) (h0 : 0 < r) : 2 * (y % r) < y := by
  have h1 := Nat.mod_lt y h0
  have h2 := Nat.div_add_mod y r
  have h3 : 1 ≤ y / r := (Nat.le_div_iff_mul_le h0).mpr (by omega)
  have h4 : r * 1 ≤ r * (y / r) := Nat.mul_le_mul_left r h3
  omega
theorem lN_0 {y : Nat} (h : y < 2 ^ 63) : lg_cmp (lN y) 0 = 0 ↔ y = 0 := by
  rw [lg_cmp_eq, show (0 : Int64) = lN 0 from rfl, pk_lEQ h (by decide)]
theorem nzl_n {y : Nat} (h : y < 2 ^ 63) (h0 : ¬ y = 0) : nzl (lN y) = true := by
  unfold nzl
  rw [decide_eq_true]
  rw [show (0 : Int64) = lN 0 from rfl, pk_lEQ h (by decide)]
  exact h0
theorem r_gcd : ∀ (k x y n : Nat), x < 2 ^ 63 → y < 2 ^ 63 → y < 2 ^ k → 2 * k + 1 ≤ n → ∃ z, wh (fun (c : Int64 × Int64) => fX9_common_b6 c.1 c.2) n (lN x, lN y) = some (lN (Nat.gcd x y), z) := by
  have X : ∀ (x y n : Nat), x < 2 ^ 63 → y = 0 → 0 < n → ∃ z, wh (fun (c : Int64 × Int64) => fX9_common_b6 c.1 c.2) n (lN x, lN y) = some (lN (Nat.gcd x y), z) := by
    intro x y n hx h0 hn
    subst h0
    refine ⟨lN 0, wh_r ?_ hn⟩
    show fX9_common_b6 (lN x) (lN 0) = _
    unfold fX9_common_b6
    rw [if_pos ((lN_0 (by decide)).mpr rfl), Nat.gcd_zero_right]
  have S : ∀ (x y : Nat), x < 2 ^ 63 → y < 2 ^ 63 → ¬ y = 0 → fX9_common_b6 (lN x) (lN y) = some (.inl (lN y, lN (x % y))) := by
    intro x y hx hy h0
    unfold fX9_common_b6
    rw [if_neg (fun hh => h0 ((lN_0 hy).mp hh)), gd_t (nzl_n hy h0), nm_u, pk_lRem hx (by omega) hy]
  intro k
  induction k with
  | zero =>
    intro x y n hx hy hk hn
    exact X x y n hx (by omega) (by omega)
  | succ k ih =>
    intro x y n hx hy hk hn
    by_cases h0 : y = 0
    · exact X x y n hx h0 (by omega)
    · have hr := Nat.mod_lt x (show 0 < y by omega)
      rw [wh_l (body := fun (c : Int64 × Int64) => fX9_common_b6 c.1 c.2) (s := (lN x, lN y)) (S x y hx hy h0) (by omega), gcd_m x y]
      by_cases h1 : x % y = 0
      · exact X y (x % y) (n - 1) hy h1 (by omega)
      · have hr2 := mod_h hr (by omega)
        have hr3 := Nat.mod_lt y (show 0 < x % y by omega)
        rw [wh_l (body := fun (c : Int64 × Int64) => fX9_common_b6 c.1 c.2) (s := (lN y, lN (x % y))) (S y (x % y) hy (by omega) h1) (by omega), gcd_m y (x % y)]
        rw [Nat.pow_succ] at hk
        exact ih (x % y) (y % (x % y)) (n - 1 - 1) (by omega) (by omega) (by omega) (by omega)
theorem c_gcd : ∀ (k x y n t : Nat), x < 2 ^ 63 → y < 2 ^ 63 → y < 2 ^ k → 2 * k + 1 ≤ n → t + 2 * k < 200 → ∃ z, wh (fun (c : Int64 × Int64 × Int32) => fX8_commonDivisor_b9 c.1 c.2.1 c.2.2) n (lN x, lN y, nI t) = some (lN (Nat.gcd x y), z) := by
  have X : ∀ (x y n t : Nat), x < 2 ^ 63 → y = 0 → 0 < n → t < 200 → ∃ z, wh (fun (c : Int64 × Int64 × Int32) => fX8_commonDivisor_b9 c.1 c.2.1 c.2.2) n (lN x, lN y, nI t) = some (lN (Nat.gcd x y), z) := by
    intro x y n t hx h0 hn ht
    subst h0
    refine ⟨(lN 0, nI t), wh_r ?_ hn⟩
    show fX8_commonDivisor_b9 (lN x) (lN 0) (nI t) = _
    unfold fX8_commonDivisor_b9
    rw [if_neg (show ¬ (200 : Int32) ≤ nI t from nI_ge (a := t) (b := 200) ht (by decide)), if_pos ((lN_0 (by decide)).mpr rfl), Nat.gcd_zero_right]
  have S : ∀ (x y t : Nat), x < 2 ^ 63 → y < 2 ^ 63 → ¬ y = 0 → t < 200 → fX8_commonDivisor_b9 (lN x) (lN y) (nI t) = some (.inl (lN y, lN (x % y), nI (t + 1))) := by
    intro x y t hx hy h0 ht
    unfold fX8_commonDivisor_b9
    rw [if_neg (show ¬ (200 : Int32) ≤ nI t from nI_ge (a := t) (b := 200) ht (by decide)), if_neg (fun hh => h0 ((lN_0 hy).mp hh)), gd_t (nzl_n hy h0), nm_u, nm_u, pk_lRem hx (by omega) hy, nI_p1]
  intro k
  induction k with
  | zero =>
    intro x y n t hx hy hk hn ht
    exact X x y n t hx (by omega) (by omega) (by omega)
  | succ k ih =>
    intro x y n t hx hy hk hn ht
    by_cases h0 : y = 0
    · exact X x y n t hx h0 (by omega) (by omega)
    · have hr := Nat.mod_lt x (show 0 < y by omega)
      rw [wh_l (body := fun (c : Int64 × Int64 × Int32) => fX8_commonDivisor_b9 c.1 c.2.1 c.2.2) (s := (lN x, lN y, nI t)) (S x y t hx hy h0 (by omega)) (by omega), gcd_m x y]
      by_cases h1 : x % y = 0
      · exact X y (x % y) (n - 1) (t + 1) hy h1 (by omega) (by omega)
      · have hr2 := mod_h hr (by omega)
        have hr3 := Nat.mod_lt y (show 0 < x % y by omega)
        rw [wh_l (body := fun (c : Int64 × Int64 × Int32) => fX8_commonDivisor_b9 c.1 c.2.1 c.2.2) (s := (lN y, lN (x % y), nI (t + 1))) (S y (x % y) (t + 1) hy (by omega) h1 (by omega)) (by omega), gcd_m y (x % y)]
        rw [Nat.pow_succ] at hk
        exact ih (x % y) (y % (x % y)) (n - 1 - 1) (t + 1 + 1) (by omega) (by omega) (by omega) (by omega) (by omega)
theorem sim_frac {S T : Nat} {w : Int32} (hS : S < 2 ^ 37) (h0 : 0 < T) (hT : T < 2 ^ 27) : ∃ v, fX8_partOfFraction (lN S) (lN T) w = some v ∧ fX9_told (lN S) (lN T) w = some v := by
  have hg : 0 < Nat.gcd S T := Nat.gcd_pos_of_pos_right S h0
  have hl : Nat.gcd S T ≤ T := Nat.le_of_dvd h0 (Nat.gcd_dvd_right S T)
  obtain ⟨z1, e1⟩ := c_gcd 27 S T 5000 0 (by omega) (by omega) hT (by decide) (by decide)
  obtain ⟨z2, e2⟩ := r_gcd 37 T S 5000 (by omega) (by omega) hS (by decide)
  unfold fX8_partOfFraction fX9_told fX8_commonDivisor fX9_common
  rw [show (0 : Int32) = nI 0 from rfl, e1, bd_s, bd_s, e2, bd_s, bd_s, Nat.gcd_comm T S, show nI 0 = (0 : Int32) from rfl]
  dsimp only
  have hn : ¬ Nat.gcd S T = 0 := by omega
  rw [if_neg (fun hh => hn ((lN_0 (by omega)).mp hh)), gd_t (nzl_n (by omega) hn), gd_t (nzl_n (by omega) hn)]
  by_cases c1 : w = 0
  · rw [if_pos c1]; exact ⟨_, rfl, rfl⟩
  · rw [if_neg c1]; exact ⟨_, rfl, rfl⟩
theorem c_power {v k : Nat} (hv : v < 2 ^ 31) (hk : k < 100) : fX8_power (nI v) (nI k) = some (lN (v ^ k)) := by
  unfold fX8_power
  have key := wh_f (body := fun (c : Int64 × Int32) => fX8_power_b5 (nI v) (nI k) c.1 c.2) (fun i => (lN (v ^ i), nI i)) (lN (v ^ k), nI k) k (fun i hi => by
    show fX8_power_b5 (nI v) (nI k) (lN (v ^ i)) (nI i) = _
    unfold fX8_power_b5
    rw [if_neg (nI_ge hi (by omega)), nm_u, nm_u, nI_l hv, lN_mul, nI_p1, Nat.pow_succ]) (by
    show fX8_power_b5 (nI v) (nI k) (lN (v ^ k)) (nI k) = _
    unfold fX8_power_b5
    rw [if_pos (nI_le (Nat.le_refl k) (by omega))]) (n := 5000) (by omega)
  rw [show ((1 : Int64), (0 : Int32)) = (lN (v ^ 0), nI 0) from rfl, key, bd_s]
/-- how often a mud comes among ten to the miles -/
def wt (v b : Nat) : Nat → Nat
  | 0 => 1
  | i + 1 => wt v b i * if b.testBit i = true then v else 10 - v
def pn (b i : Nat) : Nat := tc (fun j => b.testBit j) (fun _ => 0) i 0
theorem pn_s (b i : Nat) : pn b (i + 1) = pn b i + if b.testBit i = true then 1 else 0 := by
  unfold pn
  rw [tc_s]
  cases b.testBit i with
  | false => rw [if_neg (fun h => by cases h.1), if_neg (by decide)]
  | true => rw [if_pos ⟨rfl, rfl⟩, if_pos rfl]
theorem pn_le (b i : Nat) : pn b i ≤ i := tc_le _ _ i 0
theorem wt_v (v b : Nat) : ∀ i, wt v b i = v ^ (pn b i) * (10 - v) ^ (i - pn b i) := by
  intro i
  induction i with
  | zero => show 1 = v ^ (pn b 0) * (10 - v) ^ (0 - pn b 0); rw [show pn b 0 = 0 from rfl, Nat.pow_zero, Nat.pow_zero]
  | succ i ih =>
    have hl := pn_le b i
    unfold wt
    rw [ih, pn_s]
    cases b.testBit i with
    | false =>
      rw [if_neg (by decide), if_neg (by decide), Nat.add_zero, show i + 1 - pn b i = (i - pn b i) + 1 by omega, Nat.pow_succ, Nat.mul_assoc]
    | true =>
      rw [if_pos rfl, if_pos rfl, show i + 1 - (pn b i + 1) = i - pn b i by omega, Nat.pow_succ, Nat.mul_right_comm]
theorem pn_9 {b M : Nat} (hM : M ≤ 8) (hb : b < 2 ^ M) : ∀ j, M + j ≤ 9 → pn b (M + j) = pn b M := by
  intro j
  induction j with
  | zero => intro _; rfl
  | succ j ih =>
    intro hj
    have h1 : 2 ^ M ≤ 2 ^ (M + j) := Nat.pow_le_pow_right (by decide) (by omega)
    rw [← Nat.add_assoc, pn_s, ih (by omega), Nat.testBit_lt_two_pow (by omega), if_neg (by decide), Nat.add_zero]
theorem wt_le {v b : Nat} (hv : v ≤ 10) : ∀ i, wt v b i ≤ 10 ^ i := by
  intro i
  induction i with
  | zero => exact Nat.le_refl 1
  | succ i ih =>
    unfold wt
    rw [Nat.pow_succ]
    refine Nat.mul_le_mul ih ?_
    split <;> omega
/-- the road with other muds -/
def mdp (rd : S2) (b i : Nat) : S2 := fun a j => if a = 3 ∧ j < i then (if b.testBit j = true then 1 else 0) else rd a j
theorem mdp_0 (rd : S2) (b : Nat) : mdp rd b 0 = rd := by
  funext a j
  unfold mdp
  rw [if_neg (fun h => by omega)]
theorem mdp_s (rd : S2) (b i : Nat) : sE (mdp rd b i) 3 i (if b.testBit i = true then 1 else 0) = mdp rd b (i + 1) := by
  funext a j
  rw [sE_v]
  unfold mdp
  by_cases h : a = 3 ∧ j = i
  · rw [if_pos h, if_pos (show a = 3 ∧ j < i + 1 from ⟨h.1, by omega⟩), h.2]
  · rw [if_neg h]
    by_cases h2 : a = 3 ∧ j < i
    · rw [if_pos h2, if_pos (show a = 3 ∧ j < i + 1 from ⟨h2.1, by omega⟩)]
    · rw [if_neg h2, if_neg (fun hh => h2 ⟨hh.1, by
        rcases Nat.lt_or_ge j i with h3 | h3
        · exact h3
        · exact absurd ⟨hh.1, by omega⟩ h⟩)]
theorem mdp_c {r1 r2 : S2} {b M : Nat} (h : ∀ a j, ¬ (a = 3 ∧ j < M) → r1 a j = r2 a j) : mdp r1 b M = mdp r2 b M := by
  funext a j
  unfold mdp
  by_cases h2 : a = 3 ∧ j < M
  · rw [if_pos h2, if_pos h2]
  · rw [if_neg h2, if_neg h2, h a j h2]
theorem mdp_n {rd : S2} {b M a j : Nat} (h : ¬ (a = 3 ∧ j < M)) : mdp rd b M a j = rd a j := by
  unfold mdp
  rw [if_neg h]
theorem c_putMuds {tr : S2} {M b : Nat} (h0 : tr 0 0 = nI M) (hM : M ≤ 8) (hb : b < 512) : fX2_putMuds tr (nI b) = some (mdp tr b M) := by
  unfold fX2_putMuds
  have key := wh_f (body := fun (c : Int32 × S2) => fX2_putMuds_b2 c.2 (nI b) c.1) (fun i => (nI i, mdp tr b i)) (nI M, mdp tr b M) M (fun i hi => by
    show fX2_putMuds_b2 (mdp tr b i) (nI b) (nI i) = _
    unfold fX2_putMuds_b2
    rw [mdp_n (by omega), h0, if_neg (nI_ge hi (by omega)), gd_n (by omega) (by decide), nm_u, nm_u, cl_n (by omega), sb9 b hb i (by omega), mdp_s, nI_p1]) (by
    show fX2_putMuds_b2 (mdp tr b M) (nI b) (nI M) = _
    unfold fX2_putMuds_b2
    rw [mdp_n (by omega), h0, if_pos (nI_le (Nat.le_refl M) (by omega))]) (n := 5000) (by omega)
  have e0 : ((0 : Int32), tr) = (nI 0, mdp tr b 0) := by rw [mdp_0]; rfl
  rw [e0, key, bd_s]
theorem CP_mdp {d ro : S2} {b M : Nat} (h : CP d ro) : CP (mdp d b M) (mdp ro b M) := by
  obtain ⟨c1, c2, c3, c4, c5, c6⟩ := h
  have A : ∀ a j, d a j = ro a j → mdp d b M a j = mdp ro b M a j := fun a j e => by unfold mdp; rw [e]
  exact ⟨fun j hj => ⟨A _ _ (c1 j hj).1, A _ _ (c1 j hj).2.1, A _ _ (c1 j hj).2.2⟩, fun p hp => ⟨A _ _ (c2 p hp).1, A _ _ (c2 p hp).2.1, A _ _ (c2 p hp).2.2.1, A _ _ (c2 p hp).2.2.2.1, A _ _ (c2 p hp).2.2.2.2⟩, A _ _ c3, A _ _ c4, A _ _ c5, A _ _ c6⟩
theorem RQ_mdp {rd : S2} {b M P : Nat} (h : RQ rd M P) : RQ (mdp rd b M) M P := by
  obtain ⟨h0, h1, hM, hP, hs⟩ := h
  refine ⟨by rw [mdp_n (by omega), h0], by rw [mdp_n (by omega), h1], hM, hP, fun p hp => ?_⟩
  rw [mdp_n (by omega)]
  exact hs p hp
def sg (W n : Nat → Nat) : Nat → Nat
  | 0 => 0
  | b + 1 => sg W n b + W b * n b
theorem sg_le {W n : Nat → Nat} {A B : Nat} (hW : ∀ b, W b ≤ A) (hn : ∀ b, n b ≤ B) : ∀ b, sg W n b ≤ b * (A * B) := by
  intro b
  induction b with
  | zero => show 0 ≤ _; omega
  | succ b ih =>
    unfold sg
    have := Nat.mul_le_mul (hW b) (hn b)
    rw [Nat.succ_mul]
    omega
/-- what is counted of a drive: a party's verdict, or all -/
def cto (rd : S2) (M P : Nat) : Option Nat → Nat
  | some p => if vd rd M p = -4 then 0 else 1
  | none => nv rd M P
theorem cto_le (rd : S2) (M P : Nat) (hP : P ≤ 4) (q : Option Nat) : cto rd M P q ≤ 4 := by
  cases q with
  | none => exact nv_le rd M P hP
  | some p =>
    show (if vd rd M p = -4 then 0 else 1 : Nat) ≤ 4
    split <;> omega
def ctv (rd : S2) (M P : Nat) (q : Option Nat) (b : Nat) : Nat := cto (mdp rd b M) M P q
theorem s2M : ∀ M, M ≤ 8 → (1 : Int32) <<< (nI M &&& 31) = nI (2 ^ M) := by decide
theorem c_vof {cc dr rd : S2} {M P : Nat} {q : Option Nat} {x : Int32} (hP : P ≤ 4) (hq : (q = none ∧ x = -1) ∨ ∃ p, q = some p ∧ p < P ∧ x = nI p) (h0 : dr 0 0 = nI P) (hv : ∀ p, p < P → dr 1 p = vd rd M p) : fX8_verdictsOf cc dr x = some (nI (cto rd M P q)) := by
  unfold fX8_verdictsOf
  rcases hq with ⟨rfl, rfl⟩ | ⟨p, rfl, hp, rfl⟩
  · rw [if_pos rfl, ver_v h0 hP hv, bd_s]; rfl
  · have : ∀ p, p < 4 → ¬ nI p = -1 := by decide
    have e : cto rd M P (some p) = if vd rd M p = -4 then 0 else 1 := rfl
    rw [if_neg (this p (by omega)), pX0_has (by omega), hv p hp, e]
    by_cases c : vd rd M p = -4
    · rw [if_pos c, bd_s, if_pos rfl, if_pos c]; rfl
    · rw [if_neg c, bd_s, if_neg (by decide), if_neg c]; rfl
theorem c_wv {cc rd tr dr : S2} {M P v : Nat} {q : Option Nat} {x : Int32} (h : RQ rd M P) (hv : v ≤ 10) (hq : (q = none ∧ x = -1) ∨ ∃ p, q = some p ∧ p < P ∧ x = nI p) : ∃ tr' dr', fX8_weighVerdicts cc rd tr dr (nI v) x = some (lN (sg (fun b => wt v b M) (ctv rd M P q) (2 ^ M)), tr', dr') := by
  have hM := h.2.2.1
  have hP := h.2.2.2.1
  have h2M : 2 ^ M ≤ 256 := Nat.pow_le_pow_right (by decide) hM
  obtain ⟨d, e1, hc⟩ := pX2_copy (rd := tr) (ro := rd)
  unfold fX8_weighVerdicts
  rw [e1, bd_s]
  have key : ∃ y, wh (fun (c : Int64 × Int32 × S2 × S2) => fX8_weighVerdicts_b16 cc rd c.2.2.1 c.2.2.2 (nI v) x c.1 c.2.1) 5000 ((0 : Int64), (0 : Int32), d, dr) = some y ∧ y.1 = lN (sg (fun b => wt v b M) (ctv rd M P q) (2 ^ M)) := by
    refine wh_ex (body := fun (c : Int64 × Int32 × S2 × S2) => fX8_weighVerdicts_b16 cc rd c.2.2.1 c.2.2.2 (nI v) x c.1 c.2.1)
      (fun b s => s.1 = lN (sg (fun b => wt v b M) (ctv rd M P q) b) ∧ s.2.1 = nI b ∧ ∀ a j, ¬ (a = 3 ∧ j < M) → s.2.2.1 a j = d a j)
      (fun y => y.1 = lN (sg (fun b => wt v b M) (ctv rd M P q) (2 ^ M))) (2 ^ M) (fun b s hb hI => ?_) (fun s hI => ?_) 5000 0 _ (Nat.zero_le _) (by omega) ⟨rfl, rfl, fun _ _ _ => rfl⟩
    · obtain ⟨k1, k2, k3⟩ := hI
      left
      have hp9 : pn b 9 = pn b M := by
        have := pn_9 hM hb (9 - M) (by omega)
        rwa [show M + (9 - M) = 9 by omega] at this
      have hpl := pn_le b M
      have hW : wt v b M < 2 ^ 63 := Nat.lt_of_le_of_lt (wt_le hv M) (Nat.lt_of_le_of_lt (Nat.pow_le_pow_right (by decide) hM) (by decide))
      have hbc : fJ6_bitCount_0f7a4 (nI b) = some (nI (pn b 9)) := bc9 b (by omega)
      have T : sg (fun b => wt v b M) (ctv rd M P q) (b + 1) = sg (fun b => wt v b M) (ctv rd M P q) b + wt v b M * ctv rd M P q b := rfl
      have d0 : s.2.2.1 0 0 = nI M := by rw [k3 0 0 (by omega), hc.2.2.1, h.1]
      have em : mdp s.2.2.1 b M = mdp d b M := mdp_c k3
      have C : CP (mdp d b M) (mdp rd b M) := CP_mdp hc
      obtain ⟨d', x1, x2, x3⟩ := run_v (dr := s.2.2.2) (RQ_cp (RQ_mdp h) C)
      have x4 : ∀ p, p < P → d' 1 p = vd (mdp rd b M) M p := fun p hp => by rw [x3 p hp, vd_c (CV_cp C hM hP) hp]
      have xo := c_vof (cc := cc) hP hq x2 x4
      have E : fX8_weighVerdicts_b16 cc rd s.2.2.1 s.2.2.2 (nI v) x s.1 s.2.1 = if wt v b M = 0 then some (.inl (s.1, nI (b + 1), s.2.2.1, s.2.2.2)) else some (.inl (lN (sg (fun b => wt v b M) (ctv rd M P q) (b + 1)), nI (b + 1), mdp d b M, d')) := by
        unfold fX8_weighVerdicts_b16
        rw [k2, h.1, s2M M hM, if_neg (nI_ge hb (by omega)), hbc, bd_s, hp9, c_power (by omega) (by omega), bd_s, show (10 : Int32) - nI v = nI (10 - v) from pk_sub (a := 10) hv, pk_sub hpl, c_power (by omega) (by omega), bd_s, nm_u, lN_mul, ← wt_v v b M]
        by_cases c1 : wt v b M = 0
        · rw [if_pos ((lN_0 hW).mpr c1), if_pos c1, nm_u, nI_p1]
        · rw [if_neg (fun hh => c1 ((lN_0 hW).mp hh)), if_neg c1, c_putMuds d0 hM (by omega), bd_s, em, x1, bd_s, xo, bd_s, nm_u, nm_u, nI_p1, k1, nI_l, lN_mul, lN_add, T]
          · rfl
          · have := cto_le (mdp rd b M) M P hP q
            omega
      by_cases c1 : wt v b M = 0
      · rw [if_pos c1] at E
        exact ⟨_, E, by dsimp only; rw [T, c1, Nat.zero_mul, Nat.add_zero, k1], rfl, k3⟩
      · rw [if_neg c1] at E
        exact ⟨_, E, rfl, rfl, fun a j haj => mdp_n haj⟩
    · obtain ⟨k1, k2, k3⟩ := hI
      refine ⟨s, ?_, k1⟩
      show fX8_weighVerdicts_b16 cc rd s.2.2.1 s.2.2.2 (nI v) x s.1 s.2.1 = _
      unfold fX8_weighVerdicts_b16
      rw [k2, h.1, s2M M hM, if_pos (nI_le (Nat.le_refl _) (by omega)), ← k2]
  obtain ⟨y, e2, y1⟩ := key
  rw [e2, bd_s, y1]
  exact ⟨_, _, rfl⟩
/-! the reference's sums -/
theorem r_17 {mo : S2} {lam : S6} {M : Nat} {x1 x2 : Int32} (h0 : mo 0 0 = nI M) (hM : M ≤ 8) : ∃ x, wh (fun (c : Int32 × S2 × S6) => fX9_findOdds_b17 c.2.1 c.2.2 x1 x2 c.1) 5000 ((0 : Int32), mo, lam) = some x ∧ (x.2.1 = mo ∧ x.2.2 2 = lam 2 * lN (10 ^ M) ∧ x.2.2 0 = lam 0 ∧ x.2.2 1 = lam 1) := by
  refine wh_ex (body := fun (c : Int32 × S2 × S6) => fX9_findOdds_b17 c.2.1 c.2.2 x1 x2 c.1)
    (fun i c => c.1 = nI i ∧ c.2.1 = mo ∧ c.2.2 2 = lam 2 * lN (10 ^ i) ∧ c.2.2 0 = lam 0 ∧ c.2.2 1 = lam 1)
    (fun x => x.2.1 = mo ∧ x.2.2 2 = lam 2 * lN (10 ^ M) ∧ x.2.2 0 = lam 0 ∧ x.2.2 1 = lam 1) M (fun i c hi hI => ?_) (fun c hI => ?_) 5000 0 _ (by omega) (by omega) ⟨rfl, rfl, (Int64.mul_one _).symm, rfl, rfl⟩
  · obtain ⟨k1, k2, k3, k4, k5⟩ := hI
    left
    refine ⟨(nI (i + 1), mo, vp_updL c.2.2 2 (c.2.2 2 * 10)), ?_, rfl, rfl, ?_, ?_, ?_⟩
    · show fX9_findOdds_b17 c.2.1 c.2.2 x1 x2 c.1 = _
      unfold fX9_findOdds_b17
      rw [k1, k2, h0, if_neg (nI_ge hi (by omega)), nm_u, nm_u, nI_p1]
    · dsimp only
      rw [pk_uLs, k3, Nat.pow_succ, ← lN_mul, Int64.mul_assoc]
      rfl
    · dsimp only
      rw [pk_uLn (by decide), k4]
    · dsimp only
      rw [pk_uLn (by decide), k5]
  · obtain ⟨k1, k2, k3, k4, k5⟩ := hI
    refine ⟨c, ?_, k2, k3, k4, k5⟩
    show fX9_findOdds_b17 c.2.1 c.2.2 x1 x2 c.1 = _
    unfold fX9_findOdds_b17
    rw [k1, if_pos (by rw [k2, h0]; exact nI_le (Nat.le_refl M) (by omega)), ← k1]
theorem r_65 {mo rd : S2} {lam : S6} {M P v b : Nat} {x2 : Int32} (h : RM mo rd M P) (hM : M ≤ 8) (hP : P ≤ 4) (hv : v ≤ 10) (hb : b < 512) : ∃ z s', wh (fun (c : Int64 × Int32 × S2 × S6) => fX9_findOdds_b65 c.2.2.1 c.2.2.2 (nI v) x2 (nI b) c.1 c.2.1) 5000 ((1 : Int64), (0 : Int32), mo, lam) = some (lN (wt v b M), z, s', lam) ∧ RM s' (mdp rd b M) M P ∧ ∀ a j, a ≠ 2 → s' a j = mo a j := by
  have key : ∃ x, wh (fun (c : Int64 × Int32 × S2 × S6) => fX9_findOdds_b65 c.2.2.1 c.2.2.2 (nI v) x2 (nI b) c.1 c.2.1) 5000 ((1 : Int64), (0 : Int32), mo, lam) = some x ∧ (x.1 = lN (wt v b M) ∧ RM x.2.2.1 (mdp rd b M) M P ∧ (∀ a j, a ≠ 2 → x.2.2.1 a j = mo a j) ∧ x.2.2.2 = lam) := by
    refine wh_ex (body := fun (c : Int64 × Int32 × S2 × S6) => fX9_findOdds_b65 c.2.2.1 c.2.2.2 (nI v) x2 (nI b) c.1 c.2.1)
      (fun i c => c.1 = lN (wt v b i) ∧ c.2.1 = nI i ∧ RM c.2.2.1 (mdp rd b i) M P ∧ (∀ a j, a ≠ 2 → c.2.2.1 a j = mo a j) ∧ c.2.2.2 = lam)
      (fun x => x.1 = lN (wt v b M) ∧ RM x.2.2.1 (mdp rd b M) M P ∧ (∀ a j, a ≠ 2 → x.2.2.1 a j = mo a j) ∧ x.2.2.2 = lam) M (fun i c hi hI => ?_) (fun c hI => ?_) 5000 0 _ (by omega) (by omega) ⟨rfl, rfl, by rw [mdp_0]; exact h, fun _ _ _ => rfl, rfl⟩
    · obtain ⟨k1, k2, k3, k4, k5⟩ := hI
      left
      have z0 : c.2.2.1 0 0 = nI M := by rw [k4 0 0 (by omega), h.2.2.2.2.1]
      have R := RM_mile (k := 2) (v := if b.testBit i = true then 1 else 0) k3 hM hP hi (by omega)
      rw [mdp_s] at R
      refine ⟨(lN (wt v b (i + 1)), nI (i + 1), sE c.2.2.1 2 (3 * i + 2) (if b.testBit i = true then 1 else 0), c.2.2.2), ?_, rfl, rfl, R, fun a j haj => ?_, k5⟩
      · show fX9_findOdds_b65 c.2.2.1 c.2.2.2 (nI v) x2 (nI b) c.1 c.2.1 = _
        unfold fX9_findOdds_b65
        rw [k2, z0, if_neg (nI_ge hi (by omega)), m3_2 i (by omega), gd_n (by omega) (by decide), nm_u, cl_n (by omega), sb9 b hb i (by omega), k1, show (10 : Int32) - nI v = nI (10 - v) from pk_sub (a := 10) hv]
        have ew : wt v b (i + 1) = wt v b i * if b.testBit i = true then v else 10 - v := rfl
        rw [ew]
        cases b.testBit i with
        | false => rw [if_neg (by decide), if_neg (by decide), if_neg (by decide), nm_u, nm_u, nI_p1, nI_l (by omega), lN_mul]
        | true => rw [if_pos rfl, if_pos rfl, if_pos rfl, nm_u, nm_u, nI_p1, nI_l (by omega), lN_mul]
      · dsimp only
        rw [sE_v, if_neg (fun hh => haj hh.1), k4 a j haj]
    · obtain ⟨k1, k2, k3, k4, k5⟩ := hI
      refine ⟨c, ?_, k1, k3, k4, k5⟩
      show fX9_findOdds_b65 c.2.2.1 c.2.2.2 (nI v) x2 (nI b) c.1 c.2.1 = _
      unfold fX9_findOdds_b65
      rw [k2, if_pos (by rw [k4 0 0 (by omega), h.2.2.2.2.1]; exact nI_le (Nat.le_refl M) (by omega)), ← k2]
  obtain ⟨⟨x1, x2', x3, x4⟩, e, q1, q2, q3, q4⟩ := key
  dsimp only at q1 q2 q3 q4
  subst q1 q4
  exact ⟨_, _, e, q2, q3⟩
theorem r_fo {mo rd : S2} {lam : S6} {M P v p : Nat} (h : RR mo rd M P) (hv : v ≤ 10) (hp : p < 4) : ∃ mo' lam', fX9_findOdds mo lam (nI v) (nI p) = some (mo', lam') ∧ SF mo mo' ∧ (p < P → lam' 0 = lN (sg (fun b => wt v b M) (ctv rd M P (some p)) (2 ^ M))) ∧ lam' 1 = lN (sg (fun b => wt v b M) (ctv rd M P none) (2 ^ M)) ∧ lam' 2 = lN (10 ^ M) := by
  obtain ⟨_, _, hM, hP, m0, m1, r0, r1⟩ := id h
  have h2M : 2 ^ M ≤ 256 := Nat.pow_le_pow_right (by decide) hM
  unfold fX9_findOdds
  rw [nm_u, nm_u, nm_u]
  obtain ⟨x, e1, q1, q2, q3, q4⟩ := r_17 (lam := vp_updL (vp_updL (vp_updL lam 0 0) 1 0) 2 1) (x1 := nI v) (x2 := nI p) m0 hM
  rw [pk_uLs, Int64.one_mul] at q2
  rw [pk_uLn (by decide), pk_uLn (by decide), pk_uLs] at q3
  rw [pk_uLn (by decide), pk_uLs] at q4
  obtain ⟨s1, e2, R1, f1⟩ := pX9_startsR h
  rw [e1, bd_s, q1, e2, bd_s]
  have key : ∃ y, wh (fun (c : Int32 × S2 × S6) => fX9_findOdds_b49 c.2.1 c.2.2 (nI v) (nI p) c.1) 5000 ((0 : Int32), s1, x.2.2) = some y ∧ (SF mo y.2.1 ∧ (p < P → y.2.2 0 = lN (sg (fun b => wt v b M) (ctv rd M P (some p)) (2 ^ M))) ∧ y.2.2 1 = lN (sg (fun b => wt v b M) (ctv rd M P none) (2 ^ M)) ∧ y.2.2 2 = lN (10 ^ M)) := by
    refine wh_ex (body := fun (c : Int32 × S2 × S6) => fX9_findOdds_b49 c.2.1 c.2.2 (nI v) (nI p) c.1)
      (fun b c => c.1 = nI b ∧ (∃ rd', RM c.2.1 rd' M P ∧ ∀ a j, ¬ (a = 3 ∧ j < M) → rd' a j = rd a j) ∧ SF mo c.2.1 ∧ (p < P → c.2.2 0 = lN (sg (fun b => wt v b M) (ctv rd M P (some p)) b)) ∧ c.2.2 1 = lN (sg (fun b => wt v b M) (ctv rd M P none) b) ∧ c.2.2 2 = lN (10 ^ M))
      (fun y => SF mo y.2.1 ∧ (p < P → y.2.2 0 = lN (sg (fun b => wt v b M) (ctv rd M P (some p)) (2 ^ M))) ∧ y.2.2 1 = lN (sg (fun b => wt v b M) (ctv rd M P none) (2 ^ M)) ∧ y.2.2 2 = lN (10 ^ M)) (2 ^ M) (fun b c hb hI => ?_) (fun c hI => ?_) 5000 0 _ (Nat.zero_le _) (by omega) ⟨rfl, ⟨rd, R1, fun _ _ _ => rfl⟩, f1, fun _ => q3, q4, q2⟩
    · obtain ⟨k1, ⟨rd', k2, k3⟩, k4, k5, k6, k7⟩ := hI
      left
      obtain ⟨z, s2, e3, R3, f3⟩ := r_65 (lam := c.2.2) (x2 := nI p) k2 hM hP hv (show b < 512 by omega)
      rw [mdp_c k3] at R3
      obtain ⟨s3, e4, q5, f4⟩ := ref_v R3 hM hP
      have F3 : SF mo s3 := SF_t k4 (SF_t (fun a j haj => f3 a j (by omega)) (SF_DF f4))
      have R4 := RM_DF R3 f4
      have z0 : c.2.1 0 0 = nI M := by rw [k4 0 0 (by omega), m0]
      have T0 : sg (fun b => wt v b M) (ctv rd M P (some p)) (b + 1) = sg (fun b => wt v b M) (ctv rd M P (some p)) b + wt v b M * ctv rd M P (some p) b := rfl
      have T1 : sg (fun b => wt v b M) (ctv rd M P none) (b + 1) = sg (fun b => wt v b M) (ctv rd M P none) b + wt v b M * ctv rd M P none b := rfl
      have hmk : mk4 (s3 6) P = mk4 (vd (mdp rd b M) M) P := mk4_c P q5
      have hml := mk4_lt (s3 6) P
      have hp16 := pw16 P hP
      have hnv := nv_le (mdp rd b M) M P hP
      have E148 : ∀ k0 k1', fX9_findOdds_148 s3 c.2.2 (nI v) (nI p) (nI b) (lN (wt v b M)) k0 k1' = some (.inl (nI (b + 1), s3, vp_updL (vp_updL c.2.2 0 (k1' + k0)) 1 (c.2.2 1 + lN (wt v b M) * lN (nv (mdp rd b M) M P)))) := by
        intro k0 k1'
        unfold fX9_findOdds_148
        rw [nm_u, pX9_verdicts (by rw [F3 0 1 (by omega), m1]) hP, bd_s, pX9_bitsOf (by omega), bd_s, nm_u, nm_u, nI_p1, pk_uLn (by decide), hmk]
        show some _ = _
        rw [show pc4 (mk4 (vd (mdp rd b M) M) P) = nv (mdp rd b M) M P from rfl, nI_l (by omega)]
      have E : fX9_findOdds_b49 c.2.1 c.2.2 (nI v) (nI p) c.1 = if s3 6 p = -4 then some (.inl (nI (b + 1), s3, vp_updL (vp_updL c.2.2 0 (c.2.2 0 + 0)) 1 (c.2.2 1 + lN (wt v b M) * lN (nv (mdp rd b M) M P)))) else some (.inl (nI (b + 1), s3, vp_updL (vp_updL c.2.2 0 (c.2.2 0 + lN (wt v b M))) 1 (c.2.2 1 + lN (wt v b M) * lN (nv (mdp rd b M) M P)))) := by
        unfold fX9_findOdds_b49
        rw [k1, z0, s2M M hM, if_neg (nI_ge hb (by omega)), e3, bd_s, e4, bd_s, gd_n hp (by decide), cl_n (by omega)]
        dsimp only
        rw [E148, E148]
      have L1 : c.2.2 1 + lN (wt v b M) * lN (nv (mdp rd b M) M P) = lN (sg (fun b => wt v b M) (ctv rd M P none) (b + 1)) := by
        rw [k6, lN_mul, lN_add, T1]; rfl
      by_cases c1 : s3 6 p = -4
      · rw [if_pos c1] at E
        refine ⟨_, E, rfl, ⟨_, R4, fun a j haj => mdp_n haj⟩, F3, fun hpP => ?_, ?_, ?_⟩
        · dsimp only
          rw [pk_uLn (by decide), pk_uLs, Int64.add_zero, k5 hpP, T0]
          have : ctv rd M P (some p) b = 0 := by
            show (if vd (mdp rd b M) M p = -4 then 0 else 1) = 0
            rw [if_pos (by rw [← q5 p hpP]; exact c1)]
          rw [this, Nat.mul_zero, Nat.add_zero]
        · dsimp only
          rw [pk_uLs]; exact L1
        · dsimp only
          rw [pk_uLn (by decide), pk_uLn (by decide), k7]
      · rw [if_neg c1] at E
        refine ⟨_, E, rfl, ⟨_, R4, fun a j haj => mdp_n haj⟩, F3, fun hpP => ?_, ?_, ?_⟩
        · dsimp only
          rw [pk_uLn (by decide), pk_uLs, k5 hpP, lN_add, T0]
          have : ctv rd M P (some p) b = 1 := by
            show (if vd (mdp rd b M) M p = -4 then 0 else 1) = 1
            rw [if_neg (by rw [← q5 p hpP]; exact c1)]
          rw [this, Nat.mul_one]
        · dsimp only
          rw [pk_uLs]; exact L1
        · dsimp only
          rw [pk_uLn (by decide), pk_uLn (by decide), k7]
    · obtain ⟨k1, k2, k4, k5, k6, k7⟩ := hI
      refine ⟨c, ?_, k4, k5, k6, k7⟩
      show fX9_findOdds_b49 c.2.1 c.2.2 (nI v) (nI p) c.1 = _
      unfold fX9_findOdds_b49
      rw [k1, if_pos (by rw [k4 0 0 (by omega), m0, s2M M hM]; exact nI_le (Nat.le_refl _) (by omega)), ← k1]
  obtain ⟨y, e3, y1, y2, y3, y4⟩ := key
  rw [e3, bd_s]
  exact ⟨_, _, rfl, y1, y2, y3, y4⟩
theorem sgq_b {rd : S2} {M P v : Nat} {q : Option Nat} (hM : M ≤ 8) (hP : P ≤ 4) (hv : v ≤ 10) : sg (fun b => wt v b M) (ctv rd M P q) (2 ^ M) < 2 ^ 37 := by
  have h1 := sg_le (W := fun b => wt v b M) (n := ctv rd M P q) (A := 10 ^ 8) (B := 4) (fun b => Nat.le_trans (wt_le hv M) (Nat.pow_le_pow_right (by decide) hM)) (fun b => cto_le _ _ _ hP _) (2 ^ M)
  have h2M : 2 ^ M ≤ 256 := Nat.pow_le_pow_right (by decide) hM
  have h3 := Nat.mul_le_mul_right (10 ^ 8 * 4) h2M
  have h4 : 256 * (10 ^ 8 * 4) < 2 ^ 37 := by decide
  omega
theorem tm_b {M : Nat} (hM : M ≤ 8) : 0 < 10 ^ M ∧ 10 ^ M < 2 ^ 27 := by
  have h1 : 10 ^ M ≤ 10 ^ 8 := Nat.pow_le_pow_right (by decide) hM
  have h2 : 10 ^ 8 < 2 ^ 27 := by decide
  exact ⟨Nat.pow_pos (by decide), by omega⟩
theorem sim_luck {mo rd tr dr cc : S2} {lam : S6} {M P : Nat} {p1 p2 p3 : Int32} (h : RR mo rd M P) : ∃ v tr' dr' mo' lam', fX8_luck cc rd tr dr p1 p2 p3 = some (v, tr', dr') ∧ fX9_luck mo lam p1 p2 p3 = some (v, mo', lam') ∧ SF mo mo' := by
  obtain ⟨_, _, hM, hP, m0, m1, r0, r1⟩ := id h
  unfold fX8_luck fX9_luck
  rw [w8, bd_s, w8, bd_s, w9 (lo := 0) (hi := 10) (by decide) (by decide), bd_s, pX2_hasParty r1, bd_s, pX9_isParty m1 (by omega), bd_s, pX9_isPart, bd_s]
  cases hw : win p1 0 10 with
  | false => exact ⟨_, _, _, _, _, rfl, rfl, SF_r mo⟩
  | true =>
    obtain ⟨v, rfl, hv⟩ := win_le (h := 10) (by decide) hw
    cases hb : blw p2 P with
    | false => exact ⟨_, _, _, _, _, rfl, rfl, SF_r mo⟩
    | true =>
      obtain ⟨p, rfl, hp⟩ := blw_n (by omega) hb
      cases hx : win p3 0 1 with
      | false => exact ⟨_, _, _, _, _, rfl, rfl, SF_r mo⟩
      | true =>
        obtain ⟨tr', dr', e1⟩ := c_wv (cc := cc) (tr := tr) (dr := dr) (q := some p) (x := nI p) (RQ_RR h) hv (Or.inr ⟨p, rfl, hp, rfl⟩)
        obtain ⟨mo', lam', e2, f2, g0, g1, g2⟩ := r_fo (lam := lam) (p := p) h hv (by omega)
        obtain ⟨w, e3, e4⟩ := sim_frac (w := p3) (sgq_b (rd := rd) (q := some p) hM hP hv) (tm_b hM).1 (tm_b hM).2
        simp only [it_t]
        rw [e1, bd_s, r0, show (10 : Int32) = nI 10 from rfl, c_power (by decide) (by omega), bd_s, e3, bd_s, e2, bd_s]
        dsimp only
        rw [g0 hp, g2, e4, bd_s]
        exact ⟨_, _, _, _, _, rfl, rfl, f2⟩
theorem sim_mean {mo rd tr dr cc : S2} {lam : S6} {M P : Nat} {p1 p2 : Int32} (h : RR mo rd M P) : ∃ v tr' dr' mo' lam', fX8_mean cc rd tr dr p1 p2 = some (v, tr', dr') ∧ fX9_mean mo lam p1 p2 = some (v, mo', lam') ∧ SF mo mo' := by
  obtain ⟨_, _, hM, hP, m0, m1, r0, r1⟩ := id h
  unfold fX8_mean fX9_mean
  rw [w8, bd_s, w8, bd_s, w9 (lo := 0) (hi := 10) (by decide) (by decide), bd_s, pX9_isPart, bd_s]
  cases hw : win p1 0 10 with
  | false => exact ⟨_, _, _, _, _, rfl, rfl, SF_r mo⟩
  | true =>
    obtain ⟨v, rfl, hv⟩ := win_le (h := 10) (by decide) hw
    cases hx : win p2 0 1 with
    | false => exact ⟨_, _, _, _, _, rfl, rfl, SF_r mo⟩
    | true =>
      obtain ⟨tr', dr', e1⟩ := c_wv (cc := cc) (tr := tr) (dr := dr) (q := none) (x := -1) (RQ_RR h) hv (Or.inl ⟨rfl, rfl⟩)
      obtain ⟨mo', lam', e2, f2, g0, g1, g2⟩ := r_fo (lam := lam) (p := 0) h hv (by omega)
      obtain ⟨w, e3, e4⟩ := sim_frac (w := p2) (sgq_b (rd := rd) (q := none) hM hP hv) (tm_b hM).1 (tm_b hM).2
      simp only [it_t]
      rw [e1, bd_s, r0, show (10 : Int32) = nI 10 from rfl, c_power (by decide) (by omega), bd_s, e3, bd_s, show (0 : Int32) = nI 0 from rfl, e2, bd_s]
      dsimp only
      rw [g1, g2, e4, bd_s]
      exact ⟨_, _, _, _, _, rfl, rfl, f2⟩
