/-! PURE: best: what one alone can do bounds what it does among others -/
theorem tr_c1 {d ro : S2} {M p : Nat} {c1 c2 : Nat → Nat} (h1 : ∀ j, j < M → d 1 j = ro 1 j ∧ d 2 j = ro 2 j ∧ d 3 j = ro 3 j) (h2 : d 4 p = ro 4 p ∧ d 5 p = ro 5 p ∧ d 6 p = ro 6 p ∧ d 7 p = ro 7 p ∧ d 8 p = ro 8 p) (h3 : d 0 2 = ro 0 2) : ∀ m, m ≤ M → (∀ j, j < m → c1 j = c2 j) → tr d p c1 m = tr ro p c2 m := by
  obtain ⟨b4, b5, b6, b7, b8⟩ := h2
  intro m
  induction m with
  | zero =>
    intro _ _
    unfold tr
    rw [b5]
  | succ m ih =>
    intro hm hc
    obtain ⟨a1, a2, a3⟩ := h1 m (by omega)
    obtain ⟨x1, _, _⟩ := h1 (m - 1) (by omega)
    unfold tr
    rw [ih (by omega) (fun j hj => hc j (by omega)), hc m (by omega)]
    unfold stp acb cab hr1 wd1
    rw [a1, a2, a3, x1, b4, b6, b7, b8, h3]
theorem stp_t {rd : S2} {p m c : Nat} {x : T5} (hx : x.1 = true → x.2.1 = -4) (h : (stp rd p m c x).1 = true) : (stp rd p m c x).2.1 = -4 := by
  unfold stp at h ⊢
  by_cases h1 : acb rd p m x = true
  · rw [if_pos h1] at h ⊢
    by_cases h2 : cab rd p m c x = true
    · rw [if_pos h2] at h ⊢
      by_cases h3 : hr1 rd p m x < rd 6 p
      · rw [if_pos h3]
      · rw [if_neg h3] at h; cases h
    · rw [if_neg h2] at h; cases h
  · rw [if_neg h1] at h ⊢
    exact hx h
theorem tr_t {rd : S2} {p : Nat} {cnt : Nat → Nat} : ∀ m, (tr rd p cnt m).1 = true → (tr rd p cnt m).2.1 = -4 := by
  intro m
  induction m with
  | zero => intro h; cases h
  | succ m ih =>
    intro h
    exact stp_t ih h
theorem tr_mono {rd : S2} {p f : Nat} {cnt : Nat → Nat} (hf : rd 8 p = nI f) (hf8 : f < 8) (hr : nI 0 < rd 0 2) : ∀ m, m ≤ 8 → tr rd p cnt m = tr rd p (fun _ => 0) m ∨ ((tr rd p cnt m).1 = false ∧ (tr rd p cnt m).2.1 = -4 ∧ f < m) := by
  intro m
  induction m with
  | zero => intro _; exact Or.inl rfl
  | succ m ih =>
    intro hm
    have e1 : tr rd p cnt (m + 1) = stp rd p m (cnt m) (tr rd p cnt m) := rfl
    have e2 : tr rd p (fun _ => 0) (m + 1) = stp rd p m 0 (tr rd p (fun _ => 0) m) := rfl
    rw [e1, e2]
    rcases ih (by omega) with h | ⟨h1, h2, h3⟩
    · rw [← h]
      by_cases ha : acb rd p m (tr rd p cnt m) = true
      · by_cases hc : cab rd p m (cnt m) (tr rd p cnt m) = true
        · left
          have hc0 : cab rd p m 0 (tr rd p cnt m) = true := by
            unfold cab at hc ⊢
            rw [Bool.and_eq_true] at hc ⊢
            exact ⟨decide_eq_true hr, hc.2⟩
          unfold stp
          rw [if_pos ha, if_pos hc, if_pos ha, if_pos hc0]
        · right
          have e3 : stp rd p m (cnt m) (tr rd p cnt m) = (false, (tr rd p cnt m).2.1, nI m, (tr rd p cnt m).2.2.2.1, (tr rd p cnt m).2.2.2.2) := by
            unfold stp
            rw [if_pos ha, if_neg hc]
          rw [e3]
          have hx : (tr rd p cnt m).2.1 = -4 ∧ f < m + 1 := by
            rcases Nat.lt_or_ge f m with h4 | h4
            · have hne : ¬ rd 8 p = nI m := by
                rw [hf]
                intro e
                have := (nI_eq (by omega) (by omega)).mp e
                omega
              unfold acb at ha
              rw [decide_eq_false hne, Bool.false_or] at ha
              exact ⟨tr_t m ha, by omega⟩
            · have hid := tr_idle (cnt := cnt) hf (by omega) m h4
              rw [hid] at ha ⊢
              unfold acb at ha
              rw [Bool.or_false, decide_eq_true_eq, hf] at ha
              have := (nI_eq (by omega) (by omega)).mp ha
              exact ⟨rfl, by omega⟩
          exact ⟨rfl, hx.1, hx.2⟩
      · left
        unfold stp
        rw [if_neg ha, if_neg ha]
    · right
      have hne : ¬ rd 8 p = nI m := by
        rw [hf]
        intro e
        have := (nI_eq (by omega) (by omega)).mp e
        omega
      have e3 : stp rd p m (cnt m) (tr rd p cnt m) = tr rd p cnt m := by
        unfold stp acb
        rw [decide_eq_false hne, h1]
        rfl
      rw [e3]
      exact ⟨h1, h2, by omega⟩
/-- the road with stands -/
def sdp (rd : S2) (σ : Nat → Nat) (i : Nat) : S2 := fun a b => if a = 8 ∧ b < i then nI (σ b) else rd a b
theorem sdp_0 (rd : S2) (σ : Nat → Nat) : sdp rd σ 0 = rd := by
  funext a j
  unfold sdp
  rw [if_neg (fun h => by omega)]
theorem sdp_s (rd : S2) (σ : Nat → Nat) (i : Nat) : sE (sdp rd σ i) 8 i (nI (σ i)) = sdp rd σ (i + 1) := by
  funext a j
  rw [sE_v]
  unfold sdp
  by_cases h : a = 8 ∧ j = i
  · rw [if_pos h, if_pos (show a = 8 ∧ j < i + 1 from ⟨h.1, by omega⟩), h.2]
  · rw [if_neg h]
    by_cases h2 : a = 8 ∧ j < i
    · rw [if_pos h2, if_pos (show a = 8 ∧ j < i + 1 from ⟨h2.1, by omega⟩)]
    · rw [if_neg h2, if_neg (fun hh => h2 ⟨hh.1, by
        rcases Nat.lt_or_ge j i with h3 | h3
        · exact h3
        · exact absurd ⟨hh.1, by omega⟩ h⟩)]
theorem sdp_c {r1 r2 : S2} {σ : Nat → Nat} {P : Nat} (h : ∀ a j, ¬ (a = 8 ∧ j < P) → r1 a j = r2 a j) : sdp r1 σ P = sdp r2 σ P := by
  funext a j
  unfold sdp
  by_cases h2 : a = 8 ∧ j < P
  · rw [if_pos h2, if_pos h2]
  · rw [if_neg h2, if_neg h2, h a j h2]
theorem sdp_n {rd : S2} {σ : Nat → Nat} {P a j : Nat} (h : ¬ (a = 8 ∧ j < P)) : sdp rd σ P a j = rd a j := by
  unfold sdp
  rw [if_neg h]
theorem sdp_8 {rd : S2} {σ : Nat → Nat} {P j : Nat} (h : j < P) : sdp rd σ P 8 j = nI (σ j) := by
  unfold sdp
  rw [if_pos ⟨rfl, h⟩]
/-- alone at a stone -/
def alo (rd : S2) (M p m : Nat) : Bool := !decide ((tr (sE rd 8 p (nI m)) p (fun _ => 0) (dvn rd M)).2.1 = -4)
def anyb (f : Nat → Bool) : Nat → Bool
  | 0 => false
  | k + 1 => anyb f k || f k
theorem anyb_t {f : Nat → Bool} {m : Nat} (h : f m = true) : ∀ k, m < k → anyb f k = true := by
  intro k
  induction k with
  | zero => intro hk; omega
  | succ k ih =>
    intro hk
    unfold anyb
    rcases Nat.lt_or_ge m k with h1 | h1
    · rw [ih h1, Bool.true_or]
    · have : m = k := by omega
      subst this
      rw [h, Bool.or_true]
def can (rd : S2) (M P p : Nat) : Bool := decide (p < P) && anyb (alo rd M p) M
def hk (c : Nat → Bool) : Nat → Nat
  | 0 => 0
  | k + 1 => hk c k + if c (3 - k) = true then 1 else 0
theorem hk_le (c : Nat → Bool) : ∀ k, hk c k ≤ k := by
  intro k
  induction k with
  | zero => exact Nat.le_refl 0
  | succ k ih =>
    unfold hk
    split <;> omega
theorem hk_0 {c : Nat → Bool} {P : Nat} (hP : P ≤ 4) (h : ∀ r, P ≤ r → c r = false) : ∀ k, k ≤ 4 - P → hk c k = 0 := by
  intro k
  induction k with
  | zero => intro _; rfl
  | succ k ih =>
    intro hk'
    unfold hk
    rw [ih (by omega), h (3 - k) (by omega), if_neg (by decide)]
def cn (f : Nat → Int32) (p : Nat) : Nat := pc4 (mk4 f p)
theorem cn_s {f : Nat → Int32} {p : Nat} (hp : p < 4) : cn f (p + 1) = cn f p + if f p = -4 then 0 else 1 := by
  unfold cn
  have e : mk4 f (p + 1) = mk4 f p + if f p = -4 then 0 else 2 ^ p := rfl
  rw [e]
  by_cases h : f p = -4
  · rw [if_pos h, if_pos h, Nat.add_zero, Nat.add_zero]
  · rw [if_neg h, if_neg h, pc4_add p hp _ (mk4_lt f p)]
theorem cn_b {f : Nat → Int32} {c : Nat → Bool} {P : Nat} (hP : P ≤ 4) (h : ∀ r, r < P → ¬ f r = -4 → c r = true) : ∀ k p, p + k = P → cn f P ≤ cn f p + hk c (4 - p) := by
  intro k
  induction k with
  | zero => intro p hp; have : p = P := by omega
            subst this; omega
  | succ k ih =>
    intro p hp
    have h1 := ih (p + 1) (by omega)
    rw [cn_s (by omega)] at h1
    have e : hk c (4 - p) = hk c (4 - (p + 1)) + if c p = true then 1 else 0 := by
      rw [show 4 - p = (4 - (p + 1)) + 1 by omega]
      show hk c (4 - (p + 1)) + (if c (3 - (4 - (p + 1))) = true then 1 else 0) = _
      rw [show 3 - (4 - (p + 1)) = p by omega]
    rw [e]
    by_cases h2 : f p = -4
    · rw [if_pos h2] at h1
      split <;> omega
    · rw [if_neg h2] at h1
      rw [if_pos (h p (by omega) h2)]
      omega
theorem vd_can {rd : S2} {σ : Nat → Nat} {M P r : Nat} (hM : M ≤ 8) (hr : r < P) (hσ : σ r < M) (hpl : nI 0 < rd 0 2) (hv : ¬ vd (sdp rd σ P) M r = -4) : can rd M P r = true := by
  unfold can
  rw [decide_eq_true hr, Bool.true_and]
  refine anyb_t (m := σ r) ?_ M hσ
  unfold alo
  have eD : dvn (sdp rd σ P) M = dvn rd M := dvn_c (fun j hj => ⟨sdp_n (by omega), sdp_n (by omega)⟩) (sdp_n (by omega)) M (Nat.le_refl M)
  have hDM := dvn_le rd M
  have e8 : sdp rd σ P 8 r = nI (σ r) := sdp_8 hr
  unfold vd TT at hv
  rw [eD] at hv
  rcases tr_mono (cnt := cnf (sdp rd σ P) r) e8 (by omega) (by rw [sdp_n (by omega)]; exact hpl) (dvn rd M) (by omega) with h | ⟨_, h, _⟩
  · rw [h] at hv
    have e : tr (sdp rd σ P) r (fun _ => 0) (dvn rd M) = tr (sE rd 8 r (nI (σ r))) r (fun _ => 0) (dvn rd M) := by
      refine tr_c1 (M := M) (fun j hj => ?_) ?_ ?_ (dvn rd M) hDM (fun _ _ => rfl)
      · rw [sdp_n (by omega), sdp_n (by omega), sdp_n (by omega), sE_v, if_neg (by omega), sE_v, if_neg (by omega), sE_v, if_neg (by omega)]
        exact ⟨rfl, rfl, rfl⟩
      · rw [sdp_n (by omega), sdp_n (by omega), sdp_n (by omega), sdp_n (by omega), e8, sE_v, if_neg (by omega), sE_v, if_neg (by omega), sE_v, if_neg (by omega), sE_v, if_neg (by omega), sE_e]
        exact ⟨rfl, rfl, rfl, rfl, rfl⟩
      · rw [sdp_n (by omega), sE_v, if_neg (by omega)]
    rw [e] at hv
    rw [decide_eq_false hv]
    rfl
  · exact absurd h hv
/-! the first best of a row of numbers -/
def bst (f : Nat → Nat) : Nat → Nat × Nat
  | 0 => (0, 0)
  | k + 1 => if (bst f k).1 < f k + 1 then (f k + 1, k) else bst f k
theorem bst_s (f : Nat → Nat) (k : Nat) : bst f (k + 1) = if (bst f k).1 < f k + 1 then (f k + 1, k) else bst f k := rfl
theorem bst_n {f : Nat → Nat} {a : Nat} : ∀ j, (∀ N, a ≤ N → N < a + j → f N + 1 ≤ (bst f a).1) → bst f (a + j) = bst f a := by
  intro j
  induction j with
  | zero => intro _; rfl
  | succ j ih =>
    intro h
    have h1 := ih (fun N h1 h2 => h N h1 (by omega))
    rw [← Nat.add_assoc, bst_s, h1, if_neg (by have := h (a + j) (by omega) (by omega); omega)]
theorem bst_le {f : Nat → Nat} {B : Nat} (h : ∀ k, f k ≤ B) : ∀ k, (bst f k).1 ≤ B + 1 := by
  intro k
  induction k with
  | zero => exact Nat.zero_le _
  | succ k ih =>
    rw [bst_s]
    have := h k
    split
    · exact Nat.succ_le_succ this
    · exact ih
theorem bst_2 {f : Nat → Nat} : ∀ k, 0 < k → (bst f k).2 < k := by
  intro k
  induction k with
  | zero => intro h; omega
  | succ k ih =>
    intro _
    rw [bst_s]
    split
    · exact Nat.lt_succ_self k
    · rcases Nat.eq_zero_or_pos k with h | h
      · subst h; exact Nat.one_pos
      · have := ih h; omega
theorem bst_1 {f : Nat → Nat} : ∀ k, 0 < k → 0 < (bst f k).1 := by
  intro k
  induction k with
  | zero => intro h; omega
  | succ k ih =>
    intro _
    rw [bst_s]
    split
    · exact Nat.succ_pos _
    · omega
/-! figures of a number -/
def dg (M P N q : Nat) : Nat := N / M ^ (P - 1 - q) % M
theorem dg_s {M p n m q : Nat} (hm : m < M) (hq : q < p) : dg M (p + 1) (n * M + m) q = dg M p n q := by
  unfold dg
  have e : M ^ (p + 1 - 1 - q) = M * M ^ (p - 1 - q) := by
    rw [show p + 1 - 1 - q = (p - 1 - q) + 1 by omega, Nat.pow_succ, Nat.mul_comm]
  have h2 : (n * M + m) / M = n := by
    rw [Nat.mul_comm, Nat.mul_add_div (by omega), Nat.div_eq_of_lt hm, Nat.add_zero]
  rw [e, ← Nat.div_div_eq_div_mul, h2]
theorem dg_l {M p n m : Nat} (hm : m < M) : dg M (p + 1) (n * M + m) p = m := by
  unfold dg
  rw [show p + 1 - 1 - p = 0 by omega, Nat.pow_zero, Nat.div_one, Nat.mul_comm, Nat.mul_add_mod, Nat.mod_eq_of_lt hm]
theorem dg_pre {M P p n N q j : Nat} (hj : p + j = P) (hN : N / M ^ j = n) (hq : q < p) : dg M P N q = dg M p n q := by
  unfold dg
  rw [show P - 1 - q = j + (p - 1 - q) by omega, Nat.pow_add, ← Nat.div_div_eq_div_mul, hN]
theorem dg_lt {M P N q : Nat} (hM : 0 < M) : dg M P N q < M := Nat.mod_lt _ hM
