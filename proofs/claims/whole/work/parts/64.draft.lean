/-! PURE: the draft in both, and what a line tells -/
def KFR (mo mo' : S2) : Prop := ∀ a b, ((a ≠ 0 ∧ a ≠ 4) ∨ (a = 0 ∧ (b ≤ 1 ∨ b = 7 ∨ 14 ≤ b))) → mo' a b = mo a b
theorem KFR_r (mo : S2) : KFR mo mo := fun _ _ _ => rfl
theorem KFR_t {a b c : S2} (h1 : KFR a b) (h2 : KFR b c) : KFR a c := fun x y h => by rw [h2 x y h, h1 x y h]
theorem KFR_M {mo mo' : S2} (h : MFR mo mo') : KFR mo mo' := fun a b hab => h a b (by omega)
theorem KFR_4 {mo : S2} {k : Nat} {v : Int32} : KFR mo (sE mo 4 k v) := fun a b hab => by rw [sE_v, if_neg (by omega)]
theorem KFR_0 {mo : S2} {k : Nat} {v : Int32} (hk : 2 ≤ k ∧ k ≤ 6) : KFR mo (sE mo 0 k v) := fun a b hab => by rw [sE_v, if_neg (by omega)]
theorem TX_k {tp mo tp' mo' : S2} {n : Nat} {c : Nat → Nat} (h : TX tp mo n c) (h1 : TFR tp tp') (h2 : KFR mo mo') : TX tp' mo' n c := by
  obtain ⟨a1, a2, a3, a4⟩ := h
  exact ⟨a1, by rw [h1 0 0 (by omega), a2], by rw [h2 0 7 (by omega), a3], fun i hi => by rw [h1 1 i (by omega), h2 5 i (by omega)]; exact a4 i hi⟩
def DR (tl td mo : S2) (M P : Nat) : Prop :=
  (M ≤ 8 ∧ P ≤ 4 ∧ td 0 0 = nI M ∧ td 0 1 = nI P ∧ mo 0 2 = nI M ∧ mo 0 3 = nI P) ∧
  (∀ j, j < M → mo 4 (3 * j) = td 1 j ∧ mo 4 (3 * j + 1) = td 2 j ∧ win (td 1 j) 0 3 = true ∧ win (td 2 j) 0 3 = true) ∧
  (∀ p, p < P → (mo 4 (24 + 5 * p) = td 4 p ∧ mo 4 (24 + 5 * p + 1) = td 5 p ∧ mo 4 (24 + 5 * p + 2) = td 6 p ∧ mo 4 (24 + 5 * p + 3) = td 7 p ∧ mo 4 (24 + 5 * p + 4) = td 8 p) ∧ win (td 4 p) 0 3 = true ∧ win (td 5 p) 0 99 = true ∧ win (td 6 p) 1 20 = true ∧ win (td 7 p) 0 3 = true ∧ ∃ f, td 8 p = nI f ∧ f < 8) ∧
  (mo 4 44 = td 0 2 ∧ win (td 0 2) 1 4 = true ∧ mo 4 45 = td 0 3 ∧ win (td 0 3) 0 99 = true ∧ mo 4 46 = 0) ∧
  (∃ B, B < 256 ∧ mo 0 4 = nI B ∧ ∀ j, j < 8 → td 3 j = if B.testBit j = true then 1 else 0) ∧
  (∃ r s, r < 2 ∧ s < 2 ∧ tl 0 0 = nI r ∧ tl 0 1 = nI s ∧ mo 0 5 = nI (64 * r + 128 * s)) ∧
  (∀ x, x ≤ 8 → (mo 0 6 < nI x ↔ ((∀ j, j < 8 → ¬ td 3 j = 0 → j < x) ∧ ∀ p, p < P → td 8 p < nI x)))
theorem DR_f {tl td mo mo' : S2} {M P : Nat} (h : DR tl td mo M P) (h4 : ∀ b, mo' 4 b = mo 4 b) (h0 : ∀ b, 2 ≤ b → b ≤ 6 → mo' 0 b = mo 0 b) : DR tl td mo' M P := by
  unfold DR at h ⊢
  simp only [h4, h0 2 (by omega) (by omega), h0 3 (by omega) (by omega), h0 4 (by omega) (by omega), h0 5 (by omega) (by omega), h0 6 (by omega) (by omega)]
  exact h
theorem DR_M {tl td mo mo' : S2} {M P : Nat} (h : DR tl td mo M P) (hf : MFR mo mo') : DR tl td mo' M P := DR_f h (fun b => hf 4 b (by omega)) (fun b h1 h2 => hf 0 b (by omega))
theorem win_nI {x a b : Nat} (h1 : a ≤ x) (h2 : x ≤ b) (hb : b < 2 ^ 31) : win (nI x) (nI a) (nI b) = true := by
  unfold win
  rw [decide_eq_true (nI_le h1 (by omega)), decide_eq_true (nI_le h2 hb)]
  rfl
theorem DR_mile {tl td mo mo2 : S2} {M P x y : Nat} (D : DR tl td mo M P) (hM : M < 8) (hx : x ≤ 3) (hy : y ≤ 3) (h4 : ∀ b, mo2 4 b = if b = 3 * M + 1 then nI y else if b = 3 * M then nI x else mo 4 b) (h2 : mo2 0 2 = nI (M + 1)) (h0 : ∀ b, 3 ≤ b → b ≤ 6 → mo2 0 b = mo 0 b) : DR tl (sE (sE (sE td 1 M (nI x)) 2 M (nI y)) 0 0 (nI (M + 1))) mo2 (M + 1) P := by
  obtain ⟨⟨a1, a2, a3, a4, a5, a6⟩, b, c, ⟨d1, d2, d3, d4, d5⟩, ⟨B, e1, e2, e3⟩, ⟨r, s, f1, f2, f3, f4, f5⟩, g⟩ := D
  have T : ∀ a k, ¬ (a = 1 ∧ k = M) → ¬ (a = 2 ∧ k = M) → ¬ (a = 0 ∧ k = 0) → sE (sE (sE td 1 M (nI x)) 2 M (nI y)) 0 0 (nI (M + 1)) a k = td a k := fun a k n1 n2 n3 => by
    rw [sE_v, if_neg n3, sE_v, if_neg n2, sE_v, if_neg n1]
  refine ⟨⟨by omega, a2, sE_e, by rw [T 0 1 (by omega) (by omega) (by omega), a4], h2, by rw [h0 3 (by omega) (by omega), a6]⟩, fun j hj => ?_, fun p hp => ?_, ?_, ⟨B, e1, by rw [h0 4 (by omega) (by omega), e2], fun j hj => by rw [T 3 j (by omega) (by omega) (by omega), e3 j hj]⟩, ⟨r, s, f1, f2, f3, f4, by rw [h0 5 (by omega) (by omega), f5]⟩, fun z hz => ?_⟩
  · rcases Nat.lt_or_ge j M with h5 | h5
    · rw [h4, if_neg (by omega), if_neg (by omega), h4, if_neg (by omega), if_neg (by omega), T 1 j (by omega) (by omega) (by omega), T 2 j (by omega) (by omega) (by omega)]
      exact b j h5
    · have : j = M := by omega
      subst this
      have t1 : sE (sE (sE td 1 j (nI x)) 2 j (nI y)) 0 0 (nI (j + 1)) 1 j = nI x := by rw [sE_v, if_neg (by omega), sE_v, if_neg (by omega), sE_e]
      have t2 : sE (sE (sE td 1 j (nI x)) 2 j (nI y)) 0 0 (nI (j + 1)) 2 j = nI y := by rw [sE_v, if_neg (by omega), sE_e]
      rw [t1, t2, h4, if_neg (by omega), if_pos rfl, h4, if_pos rfl]
      exact ⟨rfl, rfl, win_nI (a := 0) (b := 3) (by omega) hx (by decide), win_nI (a := 0) (b := 3) (by omega) hy (by decide)⟩
  · have q : ∀ k, k ≤ 4 → mo2 4 (24 + 5 * p + k) = mo 4 (24 + 5 * p + k) := fun k hk => by rw [h4, if_neg (by omega), if_neg (by omega)]
    have q0 := q 0 (by omega)
    rw [Nat.add_zero] at q0
    rw [q0, q 1 (by omega), q 2 (by omega), q 3 (by omega), q 4 (by omega), T 4 p (by omega) (by omega) (by omega), T 5 p (by omega) (by omega) (by omega), T 6 p (by omega) (by omega) (by omega), T 7 p (by omega) (by omega) (by omega), T 8 p (by omega) (by omega) (by omega)]
    exact c p hp
  · rw [h4, if_neg (by omega), if_neg (by omega), h4, if_neg (by omega), if_neg (by omega), h4, if_neg (by omega), if_neg (by omega), T 0 2 (by omega) (by omega) (by omega), T 0 3 (by omega) (by omega) (by omega)]
    exact ⟨d1, d2, d3, d4, d5⟩
  · rw [h0 6 (by omega) (by omega), g z hz]
    constructor
    · intro hh
      exact ⟨fun j hj hn => hh.1 j hj (by rw [T 3 j (by omega) (by omega) (by omega)] at hn; exact hn), fun p hp => by rw [T 8 p (by omega) (by omega) (by omega)]; exact hh.2 p hp⟩
    · intro hh
      exact ⟨fun j hj hn => hh.1 j hj (by rw [T 3 j (by omega) (by omega) (by omega)]; exact hn), fun p hp => by have := hh.2 p hp; rw [T 8 p (by omega) (by omega) (by omega)] at this; exact this⟩
theorem DR_set {tl td mo mo2 : S2} {M P k : Nat} {v : Int32} (D : DR tl td mo M P) (hk : k = 2 ∨ k = 3) (hv : (k = 2 → win v 1 4 = true) ∧ (k = 3 → win v 0 99 = true)) (h4 : ∀ b, mo2 4 b = if b = 42 + k then v else mo 4 b) (h0 : ∀ b, 2 ≤ b → b ≤ 6 → mo2 0 b = mo 0 b) : DR tl (sE td 0 k v) mo2 M P := by
  obtain ⟨⟨a1, a2, a3, a4, a5, a6⟩, b, c, ⟨d1, d2, d3, d4, d5⟩, ⟨B, e1, e2, e3⟩, ⟨r, s, f1, f2, f3, f4, f5⟩, g⟩ := D
  have T : ∀ a j, ¬ (a = 0 ∧ j = k) → sE td 0 k v a j = td a j := fun a j n1 => by rw [sE_v, if_neg n1]
  refine ⟨⟨a1, a2, by rw [T 0 0 (by omega), a3], by rw [T 0 1 (by omega), a4], by rw [h0 2 (by omega) (by omega), a5], by rw [h0 3 (by omega) (by omega), a6]⟩, fun j hj => ?_, fun p hp => ?_, ?_, ⟨B, e1, by rw [h0 4 (by omega) (by omega), e2], fun j hj => by rw [T 3 j (by omega), e3 j hj]⟩, ⟨r, s, f1, f2, f3, f4, by rw [h0 5 (by omega) (by omega), f5]⟩, fun z hz => ?_⟩
  · rw [h4, if_neg (by omega), h4, if_neg (by omega), T 1 j (by omega), T 2 j (by omega)]
    exact b j hj
  · have q : ∀ i, i ≤ 4 → mo2 4 (24 + 5 * p + i) = mo 4 (24 + 5 * p + i) := fun i hi => by rw [h4, if_neg (by omega)]
    have q0 := q 0 (by omega)
    rw [Nat.add_zero] at q0
    rw [q0, q 1 (by omega), q 2 (by omega), q 3 (by omega), q 4 (by omega), T 4 p (by omega), T 5 p (by omega), T 6 p (by omega), T 7 p (by omega), T 8 p (by omega)]
    exact c p hp
  · rcases hk with rfl | rfl
    · rw [h4, if_pos rfl, h4, if_neg (by omega), h4, if_neg (by omega), sE_e, T 0 3 (by omega)]
      exact ⟨rfl, hv.1 rfl, d3, d4, d5⟩
    · rw [h4, if_neg (by omega), h4, if_pos rfl, h4, if_neg (by omega), sE_e, T 0 2 (by omega)]
      exact ⟨d1, d2, rfl, hv.2 rfl, d5⟩
  · rw [h0 6 (by omega) (by omega), g z hz]
    constructor
    · intro hh
      exact ⟨fun j hj hn => hh.1 j hj (by rw [T 3 j (by omega)] at hn; exact hn), fun p hp => by rw [T 8 p (by omega)]; exact hh.2 p hp⟩
    · intro hh
      exact ⟨fun j hj hn => hh.1 j hj (by rw [T 3 j (by omega)]; exact hn), fun p hp => by have := hh.2 p hp; rw [T 8 p (by omega)] at this; exact this⟩
theorem or_b : ∀ B, B < 256 → ∀ x, x < 8 → nI B ||| ((1 : Int32) <<< (nI x &&& 31)) = nI (B ||| 2 ^ x) ∧ B ||| 2 ^ x < 256 ∧ ∀ j, j < 8 → (B ||| 2 ^ x).testBit j = (B.testBit j || decide (j = x)) := by decide +kernel
/-- the highest, with one more -/
def hiM (h v : Int32) : Int32 := if v ≤ h then h else v
theorem hiM_lt {h v x : Int32} : hiM h v < x ↔ h < x ∧ v < x := by
  unfold hiM
  by_cases c : v ≤ h
  · rw [if_pos c]
    rw [Int32.le_iff_toInt_le] at c
    rw [Int32.lt_iff_toInt_lt, Int32.lt_iff_toInt_lt]
    omega
  · rw [if_neg c]
    rw [Int32.le_iff_toInt_le] at c
    rw [Int32.lt_iff_toInt_lt, Int32.lt_iff_toInt_lt]
    omega
theorem DR_mud {tl td mo mo2 : S2} {M P x : Nat} (D : DR tl td mo M P) (hx : x < 8) (h4 : ∀ b, mo2 4 b = mo 4 b) (h04 : mo2 0 4 = mo 0 4 ||| ((1 : Int32) <<< (nI x &&& 31))) (h06 : mo2 0 6 = hiM (mo 0 6) (nI x)) (h0 : ∀ b, 2 ≤ b → b ≤ 6 → b ≠ 4 → b ≠ 6 → mo2 0 b = mo 0 b) : DR tl (sE td 3 x 1) mo2 M P := by
  obtain ⟨⟨a1, a2, a3, a4, a5, a6⟩, b, c, ⟨d1, d2, d3, d4, d5⟩, ⟨B, e1, e2, e3⟩, ⟨r, s, f1, f2, f3, f4, f5⟩, g⟩ := D
  have T : ∀ a j, ¬ (a = 3 ∧ j = x) → sE td 3 x 1 a j = td a j := fun a j n1 => by rw [sE_v, if_neg n1]
  obtain ⟨o1, o2, o3⟩ := or_b B e1 x hx
  refine ⟨⟨a1, a2, by rw [T 0 0 (by omega), a3], by rw [T 0 1 (by omega), a4], by rw [h0 2 (by omega) (by omega) (by omega) (by omega), a5], by rw [h0 3 (by omega) (by omega) (by omega) (by omega), a6]⟩, fun j hj => ?_, fun p hp => ?_, ?_, ⟨B ||| 2 ^ x, o2, by rw [h04, e2, o1], fun j hj => ?_⟩, ⟨r, s, f1, f2, f3, f4, by rw [h0 5 (by omega) (by omega) (by omega) (by omega), f5]⟩, fun z hz => ?_⟩
  · rw [h4, h4, T 1 j (by omega), T 2 j (by omega)]
    exact b j hj
  · simp only [h4]
    rw [T 4 p (by omega), T 5 p (by omega), T 6 p (by omega), T 7 p (by omega), T 8 p (by omega)]
    exact c p hp
  · rw [h4, h4, h4, T 0 2 (by omega), T 0 3 (by omega)]
    exact ⟨d1, d2, d3, d4, d5⟩
  · rw [o3 j hj, sE_v]
    by_cases hj2 : j = x
    · rw [if_pos ⟨rfl, hj2⟩, decide_eq_true hj2, Bool.or_true, if_pos rfl]
    · rw [if_neg (fun hh => hj2 hh.2), decide_eq_false hj2, Bool.or_false, e3 j hj]
  · rw [h06, hiM_lt, g z hz, nI_ltI (by omega) (by omega)]
    constructor
    · rintro ⟨⟨u1, u2⟩, u3⟩
      refine ⟨fun j hj hn => ?_, fun p hp => by rw [T 8 p (by omega)]; exact u2 p hp⟩
      by_cases hj2 : j = x
      · omega
      · rw [T 3 j (by omega)] at hn
        exact u1 j hj hn
    · rintro ⟨u1, u2⟩
      refine ⟨⟨fun j hj hn => ?_, fun p hp => by have := u2 p hp; rw [T 8 p (by omega)] at this; exact this⟩, u1 x hx (by rw [sE_e]; decide)⟩
      by_cases hj2 : j = x
      · subst hj2
        exact u1 j hj (by rw [sE_e]; decide)
      · exact u1 j hj (by rw [T 3 j (by omega)]; exact hn)
theorem DR_party {tl td td2 mo mo2 : S2} {M P k x1 x2 x3 x4 : Nat} (D : DR tl td mo M P) (hP : P < 4) (hk : k ≤ 3) (hx1 : x1 ≤ 99) (hx2 : 1 ≤ x2 ∧ x2 ≤ 20) (hx3 : x3 ≤ 3) (hx4 : x4 ≤ 7)
    (ht : ∀ a j, td2 a j = if a = 0 ∧ j = 1 then nI (P + 1) else if a = 4 ∧ j = P then nI k else if a = 5 ∧ j = P then nI x1 else if a = 6 ∧ j = P then nI x2 else if a = 7 ∧ j = P then nI x3 else if a = 8 ∧ j = P then nI x4 else td a j)
    (h4 : ∀ b, mo2 4 b = if b = 24 + 5 * P then nI k else if b = 24 + 5 * P + 1 then nI x1 else if b = 24 + 5 * P + 2 then nI x2 else if b = 24 + 5 * P + 3 then nI x3 else if b = 24 + 5 * P + 4 then nI x4 else mo 4 b)
    (h03 : mo2 0 3 = nI (P + 1)) (h06 : mo2 0 6 = hiM (mo 0 6) (nI x4)) (h0 : ∀ b, 2 ≤ b → b ≤ 5 → b ≠ 3 → mo2 0 b = mo 0 b) : DR tl td2 mo2 M (P + 1) := by
  obtain ⟨⟨a1, a2, a3, a4, a5, a6⟩, b, c, ⟨d1, d2, d3, d4, d5⟩, ⟨B, e1, e2, e3⟩, ⟨r, s, f1, f2, f3, f4, f5⟩, g⟩ := D
  have T : ∀ a j, ¬ (a = 0 ∧ j = 1) → ¬ (4 ≤ a ∧ a ≤ 8 ∧ j = P) → td2 a j = td a j := fun a j n1 n2 => by
    rw [ht, if_neg n1, if_neg (by omega), if_neg (by omega), if_neg (by omega), if_neg (by omega), if_neg (by omega)]
  have U : ∀ b, (b < 24 + 5 * P ∨ 24 + 5 * P + 4 < b) → mo2 4 b = mo 4 b := fun b hb => by
    rw [h4, if_neg (by omega), if_neg (by omega), if_neg (by omega), if_neg (by omega), if_neg (by omega)]
  refine ⟨⟨a1, by omega, by rw [T 0 0 (by omega) (by omega), a3], by rw [ht, if_pos ⟨rfl, rfl⟩], by rw [h0 2 (by omega) (by omega) (by omega), a5], h03⟩, fun j hj => ?_, fun p hp => ?_, ?_, ⟨B, e1, by rw [h0 4 (by omega) (by omega) (by omega), e2], fun j hj => by rw [T 3 j (by omega) (by omega), e3 j hj]⟩, ⟨r, s, f1, f2, f3, f4, by rw [h0 5 (by omega) (by omega) (by omega), f5]⟩, fun z hz => ?_⟩
  · rw [U _ (by omega), U _ (by omega), T 1 j (by omega) (by omega), T 2 j (by omega) (by omega)]
    exact b j hj
  · rcases Nat.lt_or_ge p P with h5 | h5
    · rw [U _ (by omega), U _ (by omega), U _ (by omega), U _ (by omega), U _ (by omega), T 4 p (by omega) (by omega), T 5 p (by omega) (by omega), T 6 p (by omega) (by omega), T 7 p (by omega) (by omega), T 8 p (by omega) (by omega)]
      exact c p h5
    · have : p = P := by omega
      subst this
      have t4 : td2 4 p = nI k := by rw [ht, if_neg (by omega), if_pos ⟨rfl, rfl⟩]
      have t5 : td2 5 p = nI x1 := by rw [ht, if_neg (by omega), if_neg (by omega), if_pos ⟨rfl, rfl⟩]
      have t6 : td2 6 p = nI x2 := by rw [ht, if_neg (by omega), if_neg (by omega), if_neg (by omega), if_pos ⟨rfl, rfl⟩]
      have t7 : td2 7 p = nI x3 := by rw [ht, if_neg (by omega), if_neg (by omega), if_neg (by omega), if_neg (by omega), if_pos ⟨rfl, rfl⟩]
      have t8 : td2 8 p = nI x4 := by rw [ht, if_neg (by omega), if_neg (by omega), if_neg (by omega), if_neg (by omega), if_neg (by omega), if_pos ⟨rfl, rfl⟩]
      have u0 : mo2 4 (24 + 5 * p) = nI k := by rw [h4, if_pos rfl]
      have u1 : mo2 4 (24 + 5 * p + 1) = nI x1 := by rw [h4, if_neg (by omega), if_pos rfl]
      have u2 : mo2 4 (24 + 5 * p + 2) = nI x2 := by rw [h4, if_neg (by omega), if_neg (by omega), if_pos rfl]
      have u3 : mo2 4 (24 + 5 * p + 3) = nI x3 := by rw [h4, if_neg (by omega), if_neg (by omega), if_neg (by omega), if_pos rfl]
      have u4 : mo2 4 (24 + 5 * p + 4) = nI x4 := by rw [h4, if_neg (by omega), if_neg (by omega), if_neg (by omega), if_neg (by omega), if_pos rfl]
      rw [t4, t5, t6, t7, t8, u0, u1, u2, u3, u4]
      exact ⟨⟨rfl, rfl, rfl, rfl, rfl⟩, win_nI (a := 0) (b := 3) (by omega) hk (by decide), win_nI (a := 0) (b := 99) (by omega) hx1 (by decide), win_nI (a := 1) (b := 20) hx2.1 hx2.2 (by decide), win_nI (a := 0) (b := 3) (by omega) hx3 (by decide), x4, rfl, by omega⟩
  · rw [U _ (by omega), U _ (by omega), U _ (by omega), T 0 2 (by omega) (by omega), T 0 3 (by omega) (by omega)]
    exact ⟨d1, d2, d3, d4, d5⟩
  · have t8 : td2 8 P = nI x4 := by rw [ht, if_neg (by omega), if_neg (by omega), if_neg (by omega), if_neg (by omega), if_neg (by omega), if_pos ⟨rfl, rfl⟩]
    rw [h06, hiM_lt, g z hz]
    constructor
    · rintro ⟨⟨u1, u2⟩, u3⟩
      refine ⟨fun j hj hn => u1 j hj (by rw [T 3 j (by omega) (by omega)] at hn; exact hn), fun p hp => ?_⟩
      rcases Nat.lt_or_ge p P with h5 | h5
      · rw [T 8 p (by omega) (by omega)]; exact u2 p h5
      · have : p = P := by omega
        subst this
        rw [t8]; exact u3
    · rintro ⟨u1, u2⟩
      refine ⟨⟨fun j hj hn => u1 j hj (by rw [T 3 j (by omega) (by omega)]; exact hn), fun p hp => ?_⟩, ?_⟩
      · have := u2 p (by omega)
        rw [T 8 p (by omega) (by omega)] at this
        exact this
      · have := u2 P (by omega)
        rw [t8] at this
        exact this
