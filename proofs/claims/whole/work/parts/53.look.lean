/-! PURE: look -/
theorem ifn {p q : Prop} [Decidable p] [Decidable q] (h : p ↔ q) : (if p then 1 else 0 : Nat) = if q then 1 else 0 := by
  by_cases hq : q
  · rw [if_pos hq, if_pos (h.mpr hq)]
  · rw [if_neg hq, if_neg (fun hh => hq (h.mp hh))]
def tc (F : Nat → Bool) (G : Nat → Nat) : Nat → Nat → Nat
  | 0, _ => 0
  | i + 1, g => tc F G i g + if F i = true ∧ G i = g then 1 else 0
theorem tc_s (F : Nat → Bool) (G : Nat → Nat) (i g : Nat) : tc F G (i + 1) g = tc F G i g + if F i = true ∧ G i = g then 1 else 0 := rfl
theorem tc_le (F : Nat → Bool) (G : Nat → Nat) : ∀ i g, tc F G i g ≤ i := by
  intro i
  induction i with
  | zero => intro g; exact Nat.le_refl 0
  | succ i ih =>
    intro g
    have := ih g
    unfold tc
    split <;> omega
def mx (f : Nat → Nat) : Nat → Nat
  | 0 => 0
  | k + 1 => if mx f k < f k then f k else mx f k
theorem mx_le {f : Nat → Nat} {N : Nat} (h : ∀ g, f g ≤ N) : ∀ k, mx f k ≤ N := by
  intro k
  induction k with
  | zero => exact Nat.zero_le N
  | succ k ih =>
    have := h k
    unfold mx
    split <;> omega
theorem mx_up {f f' : Nat → Nat} {g0 : Nat} (hne : ∀ g, g ≠ g0 → f' g = f g) (hge : f g0 ≤ f' g0) : ∀ k, mx f' k = if g0 < k then (if mx f k < f' g0 then f' g0 else mx f k) else mx f k := by
  intro k
  induction k with
  | zero => rfl
  | succ k ih =>
    have e1 : mx f' (k + 1) = if mx f' k < f' k then f' k else mx f' k := rfl
    have e2 : mx f (k + 1) = if mx f k < f k then f k else mx f k := rfl
    rw [e1, e2]
    by_cases hk : k = g0
    · subst hk
      rw [if_neg (Nat.lt_irrefl k)] at ih
      rw [ih, if_pos (Nat.lt_succ_self k)]
      (repeat' split) <;> omega
    · have h3 := hne k hk
      by_cases hg : g0 < k
      · rw [if_pos hg] at ih
        rw [ih, h3, if_pos (show g0 < k + 1 by omega)]
        (repeat' split) <;> omega
      · rw [if_neg hg] at ih
        rw [ih, h3, if_neg (show ¬ g0 < k + 1 by omega)]
theorem mx_c {f g : Nat → Nat} : ∀ k, (∀ j, j < k → f j = g j) → mx f k = mx g k := by
  intro k
  induction k with
  | zero => intro _; rfl
  | succ k ih =>
    intro h
    unfold mx
    rw [ih (fun j hj => h j (by omega)), h k (by omega)]
theorem tb_bit (F : Nat → Bool) : ∀ k i, (tb F k).testBit i = (decide (i < k) && F i) := by
  intro k
  induction k with
  | zero =>
    intro i
    show (0 : Nat).testBit i = _
    rw [Nat.zero_testBit, decide_eq_false (Nat.not_lt_zero i), Bool.false_and]
  | succ k ih =>
    intro i
    unfold tb
    cases hF : F k with
    | false =>
      rw [if_neg (by decide), Nat.add_zero, ih i]
      by_cases hi : i = k
      · subst hi
        rw [hF, Bool.and_false, Bool.and_false]
      · rw [show decide (i < k + 1) = decide (i < k) from decide_eq_decide.mpr (by omega)]
    | true =>
      rw [if_pos rfl, Nat.add_comm]
      have hlt := tb_lt F k
      rcases Nat.lt_trichotomy i k with hi | hi | hi
      · rw [Nat.testBit_two_pow_add_gt hi, ih i, decide_eq_true hi, decide_eq_true (by omega)]
      · subst hi
        rw [Nat.testBit_two_pow_add_eq, Nat.testBit_lt_two_pow hlt, decide_eq_true (by omega), hF]
        rfl
      · have h2 : 2 ^ (k + 1) ≤ 2 ^ i := Nat.pow_le_pow_right (by decide) hi
        rw [Nat.pow_succ] at h2
        rw [Nat.testBit_lt_two_pow (by omega), decide_eq_false (by omega), Bool.false_and]
theorem tv_bit {F : Nat → Bool} {K i : Nat} (hK : K ≤ 7) (hi : i < 9) : (tb F K + 256 * (if F K = true then 1 else 0)).testBit i = if i = 8 then F K else decide (i < K) && F i := by
  have hlt := tb_lt F K
  have h7 : 2 ^ K ≤ 2 ^ 7 := Nat.pow_le_pow_right (by decide) hK
  have h8 : (2 : Nat) ^ 7 = 128 := rfl
  have h9 : (2 : Nat) ^ 8 = 256 := rfl
  cases hF : F K with
  | false =>
    rw [if_neg (by decide), Nat.mul_zero, Nat.add_zero, tb_bit]
    by_cases h : i = 8
    · subst h
      rw [if_pos rfl, decide_eq_false (by omega), Bool.false_and]
    · rw [if_neg h]
  | true =>
    rw [if_pos rfl, Nat.mul_one, Nat.add_comm, ← h9]
    by_cases h : i = 8
    · subst h
      rw [if_pos rfl, Nat.testBit_two_pow_add_eq, Nat.testBit_lt_two_pow (by omega)]
      rfl
    · rw [if_neg h, Nat.testBit_two_pow_add_gt (by omega), tb_bit]
theorem tc_re {F F' : Nat → Bool} {G : Nat → Nat} {K g : Nat} (hK : K ≤ 7) (hF : ∀ i, i < 9 → F' i = if i = 8 then F K else decide (i < K) && F i) (hG : G 8 = G K) : tc F' G 9 g = tc F G (K + 1) g := by
  have a : ∀ i, i ≤ K → tc F' G i g = tc F G i g := by
    intro i
    induction i with
    | zero => intro _; rfl
    | succ i ih =>
      intro hi
      unfold tc
      rw [ih (by omega), hF i (by omega), if_neg (show ¬ i = 8 by omega), decide_eq_true (show i < K by omega), Bool.true_and]
  have b : ∀ j, K + j ≤ 8 → tc F' G (K + j) g = tc F G K g := by
    intro j
    induction j with
    | zero => intro _; exact a K (Nat.le_refl K)
    | succ j ih =>
      intro hj
      show tc F' G (K + j) g + (if F' (K + j) = true ∧ G (K + j) = g then 1 else 0) = _
      rw [ih (by omega), hF (K + j) (by omega), if_neg (show ¬ K + j = 8 by omega), decide_eq_false (show ¬ K + j < K by omega), Bool.false_and, if_neg (fun h => by cases h.1), Nat.add_zero]
  have c := b (8 - K) (by omega)
  rw [show K + (8 - K) = 8 by omega] at c
  show tc F' G 8 g + (if F' 8 = true ∧ G 8 = g then 1 else 0) = tc F G K g + if F K = true ∧ G K = g then 1 else 0
  rw [c, hF 8 (by omega), if_pos rfl, hG]
theorem sb9 : ∀ b, b < 512 → ∀ i, i < 9 → (nI b >>> (nI i &&& 31)) &&& (1 : Int32) = if b.testBit i = true then 1 else 0 := by decide +kernel
theorem bc9 : ∀ b, b < 512 → fJ6_bitCount_0f7a4 (nI b) = some (nI (tc (fun i => b.testBit i) (fun _ => 0) 9 0)) := by decide +kernel
theorem tv_lt {rd sn : S2} {M n : Nat} (hM : M ≤ 8) : tv rd sn M n < 512 := by
  have hlt := tb_lt (FB rd sn M n) (M - 1)
  have h7 : 2 ^ (M - 1) ≤ 2 ^ 7 := Nat.pow_le_pow_right (by decide) (by omega)
  have h8 : (2 : Nat) ^ 7 = 128 := rfl
  unfold tv
  split <;> omega
def gr (v : Int32) : Nat := if v = -4 then 8 else v.toNatClampNeg
theorem gr_v {rd : S2} {M p : Nat} (hM : M ≤ 8) : (win (vd rd M p) 0 7 = false ∧ vd rd M p = -4 ∧ gr (vd rd M p) = 8) ∨ (win (vd rd M p) 0 7 = true ∧ ¬ vd rd M p = -4 ∧ vd rd M p = nI (gr (vd rd M p)) ∧ gr (vd rd M p) < 8) := by
  rcases vd_r rd M p with h | ⟨j, h, hj⟩
  · left
    rw [h]
    exact ⟨by decide, rfl, by decide⟩
  · right
    have hj8 : j < 8 := by omega
    have h4 : ¬ nI j = -4 := by
      have : ∀ j, j < 8 → ¬ nI j = -4 := by decide
      exact this j hj8
    have h5 : win (nI j) 0 7 = true := by
      have : ∀ j, j < 8 → win (nI j) 0 7 = true := by decide
      exact this j hj8
    have h6 : gr (nI j) = j := by
      unfold gr
      rw [if_neg h4, cl_n (by omega)]
    rw [h]
    exact ⟨h5, h4, by rw [h6], by omega⟩
theorem gr_9 {rd : S2} {M p : Nat} (hM : M ≤ 8) : gr (vd rd M p) < 9 := by
  rcases gr_v (rd := rd) (p := p) hM with ⟨_, _, h⟩ | ⟨_, _, _, h⟩ <;> omega
/-- the group of a signpost, by a party's verdict -/
def GP (rd : S2) (M p i : Nat) : Nat := gr (vd (tn rd i M) M p)
theorem GP_8 {rd : S2} {M p : Nat} (hM : M ≤ 8) : GP rd M p 8 = GP rd M p (M - 1) := by
  unfold GP
  rw [tn_no (by omega), tn_no (by omega)]
theorem nI_mx {a b : Nat} (ha : a < 100) (hb : b < 100) : (if nI a < nI b then nI b else nI a) = nI (if a < b then b else a) := by
  by_cases h : a < b
  · rw [if_pos h, if_pos (nI_lt h (by omega))]
  · rw [if_neg h, if_neg (nI_nlt (by omega) (by omega))]
theorem c_ml {cc rd tr dr : S2} {M P p b : Nat} (h : RQ rd M P) (hp : p < P) (hb : b < 512) : ∃ cc' tr' dr', fX8_mostLeftBy cc rd tr dr (nI p) (nI b) = some (nI (mx (tc (fun i => b.testBit i) (GP rd M p) 9) 9), cc', tr', dr') ∧ cc' 0 0 = cc 0 0 := by
  have hM := h.2.2.1
  have hP := h.2.2.2.1
  have hp4 : p < 4 := by omega
  unfold fX8_mostLeftBy
  have key1 : ∃ x, wh (fun (c : Int32 × S2 × S2 × S2) => fX8_mostLeftBy_b2 c.2.1 rd c.2.2.1 c.2.2.2 (nI p) (nI b) c.1) 5000 ((0 : Int32), cc, tr, dr) = some x ∧ ((∀ g, g < 9 → x.2.1 1 g = 0) ∧ x.2.1 0 0 = cc 0 0) := by
    refine wh_ex (body := fun (c : Int32 × S2 × S2 × S2) => fX8_mostLeftBy_b2 c.2.1 rd c.2.2.1 c.2.2.2 (nI p) (nI b) c.1)
      (fun i c => c.1 = nI i ∧ (∀ g, g < i → c.2.1 1 g = 0) ∧ c.2.1 0 0 = cc 0 0)
      (fun x => (∀ g, g < 9 → x.2.1 1 g = 0) ∧ x.2.1 0 0 = cc 0 0) 9 (fun i c hi hI => ?_) (fun c hI => ?_) 5000 0 _ (by decide) (by decide) ⟨rfl, fun g hg => absurd hg (Nat.not_lt_zero g), rfl⟩
    · obtain ⟨k1, k2, k3⟩ := hI
      left
      refine ⟨(nI (i + 1), sE c.2.1 1 i 0, c.2.2.1, c.2.2.2), ?_, rfl, fun g hg => ?_, ?_⟩
      · unfold fX8_mostLeftBy_b2
        rw [k1, if_neg (show ¬ (9 : Int32) ≤ nI i from nI_ge (a := i) (b := 9) hi (by decide)), gd_n hi (by decide), nm_u, nm_u, nI_p1, cl_n (by omega)]
      · dsimp only
        rw [sE_v]
        by_cases hx : 1 = 1 ∧ g = i
        · rw [if_pos hx]
        · rw [if_neg hx]; exact k2 g (by omega)
      · dsimp only
        rw [sE_v, if_neg (by omega), k3]
    · obtain ⟨k1, k2, k3⟩ := hI
      refine ⟨c, ?_, k2, k3⟩
      unfold fX8_mostLeftBy_b2
      rw [k1, if_pos (by decide), ← k1]
  obtain ⟨x, e1, z1, z2⟩ := key1
  rw [e1, bd_s]
  have key2 : ∃ y, wh (fun (c : Int32 × Int32 × S2 × S2 × S2) => fX8_mostLeftBy_b29 c.2.2.1 rd c.2.2.2.1 c.2.2.2.2 (nI p) (nI b) c.1 c.2.1) 5000 ((0 : Int32), (0 : Int32), x.2.1, x.2.2.1, x.2.2.2) = some y ∧ (y.1 = nI (mx (tc (fun i => b.testBit i) (GP rd M p) 9) 9) ∧ y.2.2.1 0 0 = cc 0 0) := by
    refine wh_ex (body := fun (c : Int32 × Int32 × S2 × S2 × S2) => fX8_mostLeftBy_b29 c.2.2.1 rd c.2.2.2.1 c.2.2.2.2 (nI p) (nI b) c.1 c.2.1)
      (fun i c => c.1 = nI (mx (tc (fun i => b.testBit i) (GP rd M p) i) 9) ∧ c.2.1 = nI i ∧ (∀ g, g < 9 → c.2.2.1 1 g = nI (tc (fun i => b.testBit i) (GP rd M p) i g)) ∧ c.2.2.1 0 0 = cc 0 0)
      (fun y => y.1 = nI (mx (tc (fun i => b.testBit i) (GP rd M p) 9) 9) ∧ y.2.2.1 0 0 = cc 0 0) 9 (fun i c hi hI => ?_) (fun c hI => ?_) 5000 0 _ (by decide) (by decide) ⟨rfl, rfl, fun g hg => z1 g hg, z2⟩
    · obtain ⟨k1, k2, k3, k4⟩ := hI
      left
      have hg9 : GP rd M p i < 9 := gr_9 hM
      have ht := tc_le (fun i => b.testBit i) (GP rd M p) i (GP rd M p i)
      have hm := mx_le (tc_le (fun i => b.testBit i) (GP rd M p) i) 9
      obtain ⟨tr', dr', x1, x2, x3⟩ := c_dt (cc := c.2.2.1) (tr := c.2.2.2.1) (dr := c.2.2.2.2) h (show i ≤ 8 by omega)
      cases hF : b.testBit i with
      | false =>
        refine ⟨(c.1, nI (i + 1), c.2.2.1, c.2.2.2.1, c.2.2.2.2), ?_, ?_, rfl, fun g hg => ?_, k4⟩
        · unfold fX8_mostLeftBy_b29
          rw [k2, if_neg (show ¬ (8 : Int32) < nI i from nI_nlt (a := 8) (b := i) (by omega) (by decide)), sb9 b hb i hi, hF, if_pos (by decide), nm_u, nI_p1]
        · dsimp only
          rw [k1, mx_c (f := tc (fun i => b.testBit i) (GP rd M p) (i + 1)) (g := tc (fun i => b.testBit i) (GP rd M p) i) 9 (fun g hg => by rw [tc_s, hF, if_neg (fun hh => by cases hh.1), Nat.add_zero])]
        · dsimp only
          rw [k3 g hg, tc_s, hF, if_neg (fun hh => by cases hh.1), Nat.add_zero]
      | true =>
        have T : ∀ g, tc (fun i => b.testBit i) (GP rd M p) (i + 1) g = tc (fun i => b.testBit i) (GP rd M p) i g + if GP rd M p i = g then 1 else 0 := fun g => by
          show tc _ _ i g + (if b.testBit i = true ∧ GP rd M p i = g then 1 else 0) = _
          rw [hF]
          by_cases hx : GP rd M p i = g
          · rw [if_pos ⟨rfl, hx⟩, if_pos hx]
          · rw [if_neg (fun hh => hx hh.2), if_neg hx]
        have T0 := T (GP rd M p i)
        rw [if_pos rfl] at T0
        have U := mx_up (f := tc (fun i => b.testBit i) (GP rd M p) i) (f' := tc (fun i => b.testBit i) (GP rd M p) (i + 1)) (g0 := GP rd M p i) (fun g hg => by rw [T g, if_neg (fun hh => hg hh.symm)]; rfl) (by omega) 9
        rw [if_pos hg9, T0] at U
        have E80 : ∀ k0, k0 = nI (GP rd M p i) → fX8_mostLeftBy_80 c.2.2.1 rd tr' dr' (nI p) (nI b) c.1 (nI i) k0 = some (.inl (nI (mx (tc (fun i => b.testBit i) (GP rd M p) (i + 1)) 9), nI (i + 1), sE c.2.2.1 1 (GP rd M p i) (nI (tc (fun i => b.testBit i) (GP rd M p) i (GP rd M p i) + 1)), tr', dr')) := by
          rintro k0 rfl
          unfold fX8_mostLeftBy_80
          rw [gd_n hg9 (by decide), nm_u, cl_n (by omega), sE_e, k3 _ hg9, nI_p1, k1, nI_mx (by omega) (by omega), ← U, nm_u, nm_u, nI_p1]
        refine ⟨(nI (mx (tc (fun i => b.testBit i) (GP rd M p) (i + 1)) 9), nI (i + 1), sE c.2.2.1 1 (GP rd M p i) (nI (tc (fun i => b.testBit i) (GP rd M p) i (GP rd M p i) + 1)), tr', dr'), ?_, rfl, rfl, fun g hg => ?_, ?_⟩
        rotate_left
        · dsimp only
          rw [sE_v, T g]
          by_cases hx : g = GP rd M p i
          · subst hx
            rw [if_pos ⟨rfl, rfl⟩, if_pos rfl]
          · rw [if_neg (fun hh => hx hh.2), if_neg (fun hh => hx hh.symm), k3 g hg]; rfl
        · dsimp only
          rw [sE_v, if_neg (by omega), k4]
        · unfold fX8_mostLeftBy_b29
          rw [k2, if_neg (show ¬ (8 : Int32) < nI i from nI_nlt (a := 8) (b := i) (by omega) (by decide)), sb9 b hb i hi, hF, if_pos rfl, if_neg (by decide), x1, bd_s, gd_n hp4 (by decide), nm_u, cl_n (i := p) (by omega)]
          show ((fX8_within (dr' 1 p) 0 7).bind fun v12 => if v12 = 0 then fX8_mostLeftBy_80 c.2.2.1 rd tr' dr' (nI p) (nI b) c.1 (nI i) 8 else fX8_mostLeftBy_80 c.2.2.1 rd tr' dr' (nI p) (nI b) c.1 (nI i) (dr' 1 p)) = _
          rw [x3 p hp, w8, bd_s]
          rcases gr_v (rd := tn rd i M) (p := p) hM with ⟨a1, a2, a3⟩ | ⟨a1, a2, a3, a4⟩
          · rw [a1]
            simp only [it_f]
            exact E80 8 (by unfold GP; rw [a3]; rfl)
          · rw [a1]
            simp only [it_t]
            exact E80 _ a3
    · obtain ⟨k1, k2, k3, k4⟩ := hI
      refine ⟨c, ?_, k1, k4⟩
      unfold fX8_mostLeftBy_b29
      rw [k2, if_pos (by decide), ← k2]
  obtain ⟨y, e2, y1, y2⟩ := key2
  rw [e2, bd_s, y1]
  exact ⟨_, _, _, rfl, y2⟩
/-- the reference's rows of groups -/
def WY (s : S2) (rd sn : S2) (M P n i : Nat) : Prop := ∀ p, p < P → ∀ g, g < 9 → s 12 (9 * p + g) = nI (tc (FB rd sn M n) (GP rd M p) i g)
theorem m9 : ∀ p, p < 4 → ∀ g, g < 9 → (9 : Int32) * nI p + nI g = nI (9 * p + g) := by decide
theorem r_l69 {s rd sn : S2} {M P n i : Nat} {a b c d : Int32} (hM : M ≤ 8) (hP : P ≤ 4) (h1 : s 0 1 = nI P) (hi : i < 9) (hF : FB rd sn M n i = true) (hw : WY s rd sn M P n i) (hv : ∀ p, p < P → s 6 p = vd (tn rd i M) M p) : ∃ x, wh (fun (e : Int32 × S2) => fX9_look_b69 e.2 a b c d e.1) 5000 ((0 : Int32), s) = some x ∧ WY x.2 rd sn M P n (i + 1) ∧ ∀ a b, a ≠ 12 → x.2 a b = s a b := by
  refine wh_ex (body := fun (e : Int32 × S2) => fX9_look_b69 e.2 a b c d e.1)
    (fun q e => e.1 = nI q ∧ (∀ p, p < P → ∀ g, g < 9 → e.2 12 (9 * p + g) = nI (tc (FB rd sn M n) (GP rd M p) i g + if p < q ∧ GP rd M p i = g then 1 else 0)) ∧ ∀ a b, a ≠ 12 → e.2 a b = s a b)
    (fun x => WY x.2 rd sn M P n (i + 1) ∧ ∀ a b, a ≠ 12 → x.2 a b = s a b) P (fun q e hq hI => ?_) (fun e hI => ?_) 5000 0 _ (by omega) (by omega) ⟨rfl, fun p hp g hg => by rw [if_neg (fun hh => by omega)]; exact hw p hp g hg, fun _ _ _ => rfl⟩
  · obtain ⟨k1, k2, k3⟩ := hI
    left
    have hg9 : GP rd M q i < 9 := gr_9 hM
    have E111 : ∀ k0, k0 = nI (GP rd M q i) → fX9_look_111 e.2 a b c d (nI q) k0 ((9 : Int32) * nI q) = some (.inl (nI (q + 1), sE e.2 12 (9 * q + GP rd M q i) (nI (tc (FB rd sn M n) (GP rd M q) i (GP rd M q i) + 1)))) := by
      rintro k0 rfl
      unfold fX9_look_111
      rw [m9 q (by omega) _ hg9, gd_n (by omega) (by decide), nm_u, nm_u, nI_p1, cl_n (by omega), k2 q hq _ hg9, if_neg (fun hh => by omega), Nat.add_zero, nI_p1]
    refine ⟨(nI (q + 1), sE e.2 12 (9 * q + GP rd M q i) (nI (tc (FB rd sn M n) (GP rd M q) i (GP rd M q i) + 1))), ?_, rfl, fun p hp g hg => ?_, fun a b hab => ?_⟩
    rotate_left
    · dsimp only
      rw [sE_v]
      by_cases hx : p = q ∧ g = GP rd M q i
      · obtain ⟨rfl, rfl⟩ := hx
        rw [if_pos ⟨rfl, rfl⟩, if_pos ⟨by omega, rfl⟩]
      · rw [if_neg (fun hh => hx ?_), k2 p hp g hg]
        · have : (p < q ∧ GP rd M p i = g) ↔ (p < q + 1 ∧ GP rd M p i = g) := by
            constructor
            · intro hh; exact ⟨by omega, hh.2⟩
            · intro hh
              refine ⟨?_, hh.2⟩
              rcases Nat.lt_or_ge p q with h2 | h2
              · exact h2
              · have : p = q := by omega
                subst this
                exact absurd ⟨rfl, hh.2.symm⟩ hx
          rw [ifn this]
        · have := hh.2
          have : p = q := by omega
          subst this
          exact ⟨rfl, by omega⟩
    · dsimp only
      rw [sE_v, if_neg (fun hh => hab hh.1), k3 a b hab]
    · unfold fX9_look_b69
      rw [k1, k3 0 1 (by omega), h1, if_neg (nI_ge hq (by omega)), gd_n (by omega) (by decide), cl_n (by omega), k3 6 q (by omega), hv q hq]
      rcases gr_v (rd := tn rd i M) (p := q) hM with ⟨a1, a2, a3⟩ | ⟨a1, a2, a3, a4⟩
      · rw [if_pos a2]
        exact E111 8 (by unfold GP; rw [a3]; rfl)
      · rw [if_neg a2]
        exact E111 _ a3
  · obtain ⟨k1, k2, k3⟩ := hI
    refine ⟨e, ?_, fun p hp g hg => ?_, k3⟩
    · unfold fX9_look_b69
      rw [k1, k3 0 1 (by omega), h1, if_pos (nI_le (Nat.le_refl P) (by omega)), ← k1]
    · rw [k2 p hp g hg, tc_s, hF, ifn (p := p < P ∧ GP rd M p i = g) (q := true = true ∧ GP rd M p i = g) ⟨fun hh => ⟨rfl, hh.2⟩, fun hh => ⟨hp, hh.2⟩⟩]
theorem WY_fr {s s' rd sn : S2} {M P n i : Nat} (h : WY s rd sn M P n i) (hf : ∀ b, s' 12 b = s 12 b) : WY s' rd sn M P n i := fun p hp g hg => by rw [hf]; exact h p hp g hg
theorem r_l41 {mo s rd sn : S2} {M P n : Nat} {a c : Int32} (h : RR mo rd M P) (hs : SE mo sn n P) (hf : SF mo s) (hw : WY s rd sn M P n 0) : ∃ x, wh (fun (e : Int32 × Int32 × S2) => fX9_look_b41 e.2.2 a e.1 c e.2.1) 5000 ((0 : Int32), (0 : Int32), s) = some x ∧ x.1 = nI (tc (FB rd sn M n) (fun _ => 0) (M - 1 + 1) 0) ∧ WY x.2.2 rd sn M P n (M - 1 + 1) ∧ SF mo x.2.2 := by
  obtain ⟨_, _, hM, hP, m0, m1, r0, r1⟩ := id h
  refine wh_ex (body := fun (e : Int32 × Int32 × S2) => fX9_look_b41 e.2.2 a e.1 c e.2.1)
    (fun i e => e.1 = nI (tc (FB rd sn M n) (fun _ => 0) i 0) ∧ e.2.1 = nI i ∧ WY e.2.2 rd sn M P n i ∧ SF mo e.2.2)
    (fun x => x.1 = nI (tc (FB rd sn M n) (fun _ => 0) (M - 1 + 1) 0) ∧ WY x.2.2 rd sn M P n (M - 1 + 1) ∧ SF mo x.2.2) (M - 1 + 1) (fun i e hi hI => ?_) (fun e hI => ?_) 5000 0 _ (by omega) (by omega) ⟨rfl, rfl, hw, hf⟩
  · obtain ⟨k1, k2, k3, k4⟩ := hI
    left
    have Rt := RR_SF h k4
    obtain ⟨s1, e1, R1, f1⟩ := r_st (m := i) Rt (by omega)
    obtain ⟨s2, e2, q2, f2⟩ := pX9_isSo R1 hM hP (SE_fr hs (fun b => by rw [f1 1 b (by omega), k4 1 b (by omega)]))
    have F2 : SF mo s2 := SF_t k4 (SF_t f1 (SF_DF f2))
    have w12 : ∀ b, s2 12 b = e.2.2 12 b := fun b => by
      rw [f2 12 b (by omega) (by omega)]
      obtain ⟨s', e', q⟩ := pX9_starts (mo := e.2.2)
      unfold fX9_startsTurned at e1
      rw [e', bd_s] at e1
      have hq : s' 12 b = e.2.2 12 b := by rw [q, if_neg (by omega)]
      rw [← hq]
      by_cases c1 : i + 1 < M
      · have t0 : s' 0 0 = nI M := by rw [q, if_neg (by omega), k4 0 0 (by omega), m0]
        rw [t0, if_neg (fun hh => (sg_i M hM i (by omega)).mp hh c1), m3_0 i (by omega), nm_u, gd_n (by omega) (by decide), nm_u, show nI (3 * i) + (3 : Int32) = nI (3 * i + 3) from nI_ad (3 * i) 3, gd_n (by omega) (by decide), nm_u, nm_u] at e1
        have := so_eq e1
        rw [this, sE_v, if_neg (by omega), sE_v, if_neg (by omega)]
      · have t0 : s' 0 0 = nI M := by rw [q, if_neg (by omega), k4 0 0 (by omega), m0]
        rw [t0, if_pos ((sg_i M hM i (by omega)).mpr c1)] at e1
        rw [so_eq e1]
    have W2 : WY s2 rd sn M P n i := WY_fr k3 w12
    have T : tc (FB rd sn M n) (fun _ => 0) (i + 1) 0 = tc (FB rd sn M n) (fun _ => 0) i 0 + if FB rd sn M n i = true ∧ (0 : Nat) = 0 then 1 else 0 := tc_s _ _ _ _
    cases hF : FB rd sn M n i with
    | false =>
      rw [hF, if_neg (fun hh => by cases hh.1), Nat.add_zero] at T
      refine ⟨(e.1, nI (i + 1), s2), ?_, by rw [T]; exact k1, rfl, fun p hp g hg => ?_, F2⟩
      · unfold fX9_look_b41
        rw [k2, pX9_signs Rt.2.2.2.2.1 hM, bd_s, if_neg (nI_ge hi (by omega)), e1, bd_s, e2, bd_s]
        have hF' : agr sn (vd (tn rd i M) M) n = false := hF
        rw [hF']
        simp only [it_f]
        rw [nm_u, nI_p1]
      · dsimp only
        rw [W2 p hp g hg, tc_s, hF, if_neg (fun hh => by cases hh.1), Nat.add_zero]
    | true =>
      rw [hF, if_pos ⟨rfl, rfl⟩] at T
      obtain ⟨x, ex, wx, fx⟩ := r_l69 (s := s2) (a := a) (b := e.1 + 1) (c := c) (d := nI i) hM hP (by rw [F2 0 1 (by omega), m1]) (by omega) hF W2 q2
      refine ⟨(e.1 + 1, nI (i + 1), x.2), ?_, by rw [T]; dsimp only; rw [k1, nI_p1], rfl, wx, SF_t F2 (fun a b hab => fx a b (by omega))⟩
      unfold fX9_look_b41
      rw [k2, pX9_signs Rt.2.2.2.2.1 hM, bd_s, if_neg (nI_ge hi (by omega)), e1, bd_s, e2, bd_s]
      have hF' : agr sn (vd (tn rd i M) M) n = true := hF
      rw [hF']
      simp only [it_t]
      rw [nm_u, ex, bd_s, nm_u, nI_p1]
  · obtain ⟨k1, k2, k3, k4⟩ := hI
    refine ⟨e, ?_, k1, k3, k4⟩
    unfold fX9_look_b41
    rw [k2, pX9_signs (by rw [k4 0 0 (by omega), m0]) hM, bd_s, if_pos (nI_le (Nat.le_refl _) (by omega)), ← k2]
theorem r_l147 {s rd sn : S2} {M P n i p : Nat} {a b c : Int32} (hP : P ≤ 4) (hp : p < P) (hi : i ≤ 9) (hw : WY s rd sn M P n i) : ∃ x, wh (fun (e : Int32 × Int32 × S2) => fX9_look_b147 e.2.2 a b c (nI p) e.1 e.2.1) 5000 ((0 : Int32), (0 : Int32), s) = some (nI (mx (tc (FB rd sn M n) (GP rd M p) i) 9), x, s) := by
  have key := wh_f (body := fun (e : Int32 × Int32 × S2) => fX9_look_b147 e.2.2 a b c (nI p) e.1 e.2.1) (fun k => (nI (mx (tc (FB rd sn M n) (GP rd M p) i) k), nI k, s)) (nI (mx (tc (FB rd sn M n) (GP rd M p) i) 9), nI 9, s) 9 (fun k hk => by
    have ht := tc_le (FB rd sn M n) (GP rd M p) i k
    have hm := mx_le (tc_le (FB rd sn M n) (GP rd M p) i) k
    show fX9_look_b147 s a b c (nI p) (nI (mx (tc (FB rd sn M n) (GP rd M p) i) k)) (nI k) = _
    unfold fX9_look_b147
    rw [if_neg (show ¬ (8 : Int32) < nI k from nI_nlt (a := 8) (b := k) (by omega) (by decide)), m9 p (by omega) k hk, gd_n (by omega) (by decide), cl_n (i := 9 * p + k) (by omega), hw p hp k hk, nm_u, nm_u, nm_u, nI_p1]
    have e : mx (tc (FB rd sn M n) (GP rd M p) i) (k + 1) = if mx (tc (FB rd sn M n) (GP rd M p) i) k < tc (FB rd sn M n) (GP rd M p) i k then tc (FB rd sn M n) (GP rd M p) i k else mx (tc (FB rd sn M n) (GP rd M p) i) k := rfl
    rw [e]
    by_cases hx : mx (tc (FB rd sn M n) (GP rd M p) i) k < tc (FB rd sn M n) (GP rd M p) i k
    · rw [if_pos hx, if_neg (nI_ge hx (by omega))]
    · rw [if_neg hx, if_pos (nI_le (by omega) (by omega))]) (by
    unfold fX9_look_b147
    dsimp only
    rw [if_pos (by decide)]) (n := 5000) (by decide)
  exact ⟨_, key⟩
theorem sim_look {mo rd tr dr sn cc : S2} {M P : Nat} {p1 : Int32} (h : RR mo rd M P) (hs : SN mo sn 0 P) : ∃ v cc' tr' dr' mo', fX8_look cc rd tr dr sn p1 = some (v, cc', tr', dr') ∧ fX9_look mo p1 = some (v, mo') ∧ SF mo mo' ∧ cc' 0 0 = cc 0 0 := by
  obtain ⟨_, _, hM, hP, m0, m1, r0, r1⟩ := id h
  obtain ⟨n, hn⟩ := SE_SN hs
  have Q := RQ_RR h
  unfold fX8_look fX9_look
  rw [w8, bd_s, pX9_isPart, bd_s]
  cases hw : win p1 0 1 with
  | false => exact ⟨_, _, _, _, _, rfl, rfl, SF_r mo, rfl⟩
  | true =>
    obtain ⟨t1, d1, x1⟩ := c_tu (cc := cc) (tr := tr) (dr := dr) Q hn
    have key1 : ∃ x, wh (fun (c : Int32 × S2) => fX9_look_b17 c.2 p1 (0 : Int32) (-4 : Int32) c.1) 5000 ((0 : Int32), mo) = some x ∧ ((∀ g, g < 36 → x.2 12 g = 0) ∧ ∀ a b, a ≠ 12 → x.2 a b = mo a b) := by
      refine wh_ex (body := fun (c : Int32 × S2) => fX9_look_b17 c.2 p1 (0 : Int32) (-4 : Int32) c.1)
        (fun i c => c.1 = nI i ∧ (∀ g, g < i → c.2 12 g = 0) ∧ ∀ a b, a ≠ 12 → c.2 a b = mo a b)
        (fun x => (∀ g, g < 36 → x.2 12 g = 0) ∧ ∀ a b, a ≠ 12 → x.2 a b = mo a b) 36 (fun i c hi hI => ?_) (fun c hI => ?_) 5000 0 _ (by decide) (by decide) ⟨rfl, fun g hg => absurd hg (Nat.not_lt_zero g), fun _ _ _ => rfl⟩
      · obtain ⟨k1, k2, k3⟩ := hI
        left
        refine ⟨(nI (i + 1), sE c.2 12 i 0), ?_, rfl, fun g hg => ?_, fun a b hab => ?_⟩
        · unfold fX9_look_b17
          rw [k1, if_neg (show ¬ (36 : Int32) ≤ nI i from nI_ge (a := i) (b := 36) hi (by decide)), gd_n hi (by decide), nm_u, nm_u, nI_p1, cl_n (by omega)]
        · dsimp only
          rw [sE_v]
          by_cases hx : 12 = 12 ∧ g = i
          · rw [if_pos hx]
          · rw [if_neg hx]; exact k2 g (by omega)
        · dsimp only
          rw [sE_v, if_neg (fun hh => hab hh.1), k3 a b hab]
      · obtain ⟨k1, k2, k3⟩ := hI
        refine ⟨c, ?_, k2, k3⟩
        unfold fX9_look_b17
        rw [k1, if_pos (by decide), ← k1]
    obtain ⟨x, e1, z1, z2⟩ := key1
    obtain ⟨y, e2, y1, y2, y3⟩ := r_l41 (s := x.2) (a := p1) (c := -4) h hn (fun a b hab => z2 a b (by omega)) (fun p hp g hg => by rw [z1 _ (by omega)]; rfl)
    have hb := tv_lt (rd := rd) (sn := sn) (n := n) hM
    have hbit : ∀ i, i < 9 → (tv rd sn M n).testBit i = if i = 8 then FB rd sn M n (M - 1) else decide (i < M - 1) && FB rd sn M n i := fun i hi => tv_bit (by omega) hi
    have hcnt : tc (fun i => (tv rd sn M n).testBit i) (fun _ => 0) 9 0 = tc (FB rd sn M n) (fun _ => 0) (M - 1 + 1) 0 := tc_re (by omega) hbit rfl
    have hmx : ∀ p, mx (tc (fun i => (tv rd sn M n).testBit i) (GP rd M p) 9) 9 = mx (tc (FB rd sn M n) (GP rd M p) (M - 1 + 1)) 9 := fun p => mx_c 9 (fun g _ => tc_re (by omega) hbit (GP_8 hM))
    simp only [it_t]
    rw [x1, bd_s, nm_u, bc9 _ hb, bd_s, hcnt, e1, bd_s, e2, bd_s, y1]
    have key : ∃ r u, wh (fun (c : Int32 × Int32 × Int32 × S2 × S2 × S2) => fX8_look_b28 c.2.2.2.1 rd c.2.2.2.2.1 c.2.2.2.2.2 sn p1 (nI (tv rd sn M n)) c.1 c.2.1 c.2.2.1) 5000 (nI (tc (FB rd sn M n) (fun _ => 0) (M - 1 + 1) 0), (-4 : Int32), (0 : Int32), cc, t1, d1) = some r ∧ wh (fun (c : Int32 × Int32 × Int32 × S2) => fX9_look_b132 c.2.2.2 p1 c.1 c.2.1 c.2.2.1) 5000 (nI (tc (FB rd sn M n) (fun _ => 0) (M - 1 + 1) 0), (-4 : Int32), (0 : Int32), y.2.2) = some u ∧ (r.1 = u.1 ∧ r.2.1 = u.2.1 ∧ SF mo u.2.2.2 ∧ r.2.2.2.1 0 0 = cc 0 0) := by
      refine wh_2 (b1 := fun (c : Int32 × Int32 × Int32 × S2 × S2 × S2) => fX8_look_b28 c.2.2.2.1 rd c.2.2.2.2.1 c.2.2.2.2.2 sn p1 (nI (tv rd sn M n)) c.1 c.2.1 c.2.2.1) (b2 := fun (c : Int32 × Int32 × Int32 × S2) => fX9_look_b132 c.2.2.2 p1 c.1 c.2.1 c.2.2.1)
        (fun i s t => s.1 = t.1 ∧ s.2.1 = t.2.1 ∧ s.2.2.1 = nI i ∧ t.2.2.1 = nI i ∧ t.2.2.2 = y.2.2 ∧ s.2.2.2.1 0 0 = cc 0 0)
        (fun r u => r.1 = u.1 ∧ r.2.1 = u.2.1 ∧ SF mo u.2.2.2 ∧ r.2.2.2.1 0 0 = cc 0 0) P (fun i s t hi hI => ?_) (fun s t hI => ?_) 5000 0 _ _ (by omega) (by omega) ⟨rfl, rfl, rfl, rfl, rfl, rfl⟩
      · obtain ⟨k1, k2, k3, k4, k5, k6⟩ := hI
        left
        obtain ⟨cc', tr', dr', v1, v2⟩ := c_ml (cc := s.2.2.2.1) (tr := s.2.2.2.2.1) (dr := s.2.2.2.2.2) Q hi hb
        rw [hmx i] at v1
        obtain ⟨xx, v3⟩ := r_l147 (a := p1) (b := t.1) (c := t.2.1) hP hi (by omega) y2
        have E1 : fX8_look_b28 s.2.2.2.1 rd s.2.2.2.2.1 s.2.2.2.2.2 sn p1 (nI (tv rd sn M n)) s.1 s.2.1 s.2.2.1 = if s.1 ≤ nI (mx (tc (FB rd sn M n) (GP rd M i) (M - 1 + 1)) 9) then some (.inl (s.1, s.2.1, nI (i + 1), cc', tr', dr')) else some (.inl (nI (mx (tc (FB rd sn M n) (GP rd M i) (M - 1 + 1)) 9), nI i, nI (i + 1), cc', tr', dr')) := by
          unfold fX8_look_b28
          rw [k3, r1, if_neg (nI_ge hi (by omega)), v1, bd_s]
          simp only [nm_u, nI_p1]
        have E2 : fX9_look_b132 t.2.2.2 p1 t.1 t.2.1 t.2.2.1 = if s.1 ≤ nI (mx (tc (FB rd sn M n) (GP rd M i) (M - 1 + 1)) 9) then some (.inl (s.1, s.2.1, nI (i + 1), y.2.2)) else some (.inl (nI (mx (tc (FB rd sn M n) (GP rd M i) (M - 1 + 1)) 9), nI i, nI (i + 1), y.2.2)) := by
          unfold fX9_look_b132 fX9_look_210
          rw [k4, k5, y3 0 1 (by omega), m1, if_neg (nI_ge hi (by omega)), v3, bd_s, ← k1, ← k2]
          simp only [nm_u, nI_p1]
          by_cases c1 : s.1 ≤ nI (mx (tc (FB rd sn M n) (GP rd M i) (M - 1 + 1)) 9)
          · simp only [if_pos c1]
          · simp only [if_neg c1]
        by_cases c1 : s.1 ≤ nI (mx (tc (FB rd sn M n) (GP rd M i) (M - 1 + 1)) 9)
        · rw [if_pos c1] at E1 E2
          exact ⟨_, _, E1, E2, rfl, rfl, rfl, rfl, rfl, by rw [← k6]; exact v2⟩
        · rw [if_neg c1] at E1 E2
          exact ⟨_, _, E1, E2, rfl, rfl, rfl, rfl, rfl, by rw [← k6]; exact v2⟩
      · obtain ⟨k1, k2, k3, k4, k5, k6⟩ := hI
        have E1 : fX8_look_b28 s.2.2.2.1 rd s.2.2.2.2.1 s.2.2.2.2.2 sn p1 (nI (tv rd sn M n)) s.1 s.2.1 s.2.2.1 = some (.inr s) := by
          unfold fX8_look_b28
          rw [k3, r1, if_pos (nI_le (Nat.le_refl P) (by omega)), ← k3]
        have E2 : fX9_look_b132 t.2.2.2 p1 t.1 t.2.1 t.2.2.1 = some (.inr t) := by
          unfold fX9_look_b132
          rw [k4, k5, y3 0 1 (by omega), m1, if_pos (nI_le (Nat.le_refl P) (by omega)), ← k4, ← k5]
        exact ⟨_, _, E1, E2, k1, k2, by rw [k5]; exact y3, k6⟩
    obtain ⟨r, u, w1, w2, g1, g2, g3, g4⟩ := key
    rw [w1, bd_s, w2, bd_s, g1, g2]
    by_cases c1 : u.2.1 = -4
    · rcases win_01 hw with rfl | rfl
      · rw [if_pos rfl, if_pos c1, c1]
        exact ⟨_, _, _, _, _, rfl, rfl, g3, g4⟩
      · rw [if_neg (by decide), if_pos c1, if_pos c1, c1]
        exact ⟨_, _, _, _, _, rfl, rfl, g3, g4⟩
    · rcases win_01 hw with rfl | rfl
      · rw [if_pos rfl, if_neg c1, if_pos rfl]
        exact ⟨_, _, _, _, _, rfl, rfl, g3, g4⟩
      · rw [if_neg (by decide), if_neg c1, if_neg c1, if_neg (by decide)]
        exact ⟨_, _, _, _, _, rfl, rfl, g3, g4⟩
