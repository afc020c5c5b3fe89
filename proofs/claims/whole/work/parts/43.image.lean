/-! PURE: copies, keep, back -/
theorem nI_ad (a b : Nat) : nI a + nI b = nI (a + b) := by
  unfold nI
  rw [Int32.ofNat_add]
theorem pX9_copies {mo : S2} {d s : Nat} (hd : d + 59 ≤ 177) (hs : s + 59 ≤ 177) (hx : d + 59 ≤ s ∨ s + 59 ≤ d) : ∃ s', fX9_copies mo (nI d) (nI s) = some s' ∧ ∀ a b, s' a b = if a = 1 ∧ d ≤ b ∧ b < d + 59 then mo 1 (s + (b - d)) else mo a b := by
  unfold fX9_copies
  have key : ∃ x, wh (fun (c : Int32 × S2) => fX9_copies_b2 c.2 (nI d) (nI s) c.1) 5000 ((0 : Int32), mo) = some x ∧ ∀ a b, x.2 a b = if a = 1 ∧ d ≤ b ∧ b < d + 59 then mo 1 (s + (b - d)) else mo a b := by
    refine wh_ex (body := fun (c : Int32 × S2) => fX9_copies_b2 c.2 (nI d) (nI s) c.1)
      (fun i c => c.1 = nI i ∧ ∀ a b, c.2 a b = if a = 1 ∧ d ≤ b ∧ b < d + i then mo 1 (s + (b - d)) else mo a b)
      (fun c => ∀ a b, c.2 a b = if a = 1 ∧ d ≤ b ∧ b < d + 59 then mo 1 (s + (b - d)) else mo a b) 59
      (fun i c hi hI => ?_) (fun c hI => ?_) 5000 0 _ (by decide) (by decide) ⟨rfl, fun a b => by rw [if_neg (by omega)]⟩
    · obtain ⟨h1, h2⟩ := hI
      left
      refine ⟨(nI (i + 1), sE c.2 1 (d + i) (mo 1 (s + i))), ?_, rfl, fun a b => ?_⟩
      · unfold fX9_copies_b2
        rw [h1, if_neg (show ¬ (59 : Int32) ≤ nI i from nI_ge (a := i) (b := 59) hi (by decide)), nI_ad, nI_ad, gd_n (by omega) (by decide), gd_n (by omega) (by decide), cl_n (i := d + i) (by omega), cl_n (i := s + i) (by omega), nm_u, nm_u, nI_p1, h2 1 (s + i), if_neg (by omega)]
      · dsimp only
        rw [sE_v, h2]
        by_cases hb : a = 1 ∧ b = d + i
        · rw [if_pos hb, if_pos (by omega), hb.2, show d + i - d = i by omega]
        · rw [if_neg hb]
          by_cases h3 : a = 1 ∧ d ≤ b ∧ b < d + i
          · rw [if_pos h3, if_pos (by omega)]
          · rw [if_neg h3, if_neg (by omega)]
    · obtain ⟨h1, h2⟩ := hI
      refine ⟨c, ?_, h2⟩
      unfold fX9_copies_b2
      rw [h1, if_pos (show (59 : Int32) ≤ nI 59 from nI_le (a := 59) (b := 59) (Nat.le_refl _) (by decide)), ← h1]
  obtain ⟨x, e, q⟩ := key
  rw [e, bd_s]
  exact ⟨_, rfl, q⟩
/-- d has the road's rows of ro -/
def CP (d ro : S2) : Prop := (∀ j, j < 8 → d 1 j = ro 1 j ∧ d 2 j = ro 2 j ∧ d 3 j = ro 3 j) ∧ (∀ p, p < 4 → d 4 p = ro 4 p ∧ d 5 p = ro 5 p ∧ d 6 p = ro 6 p ∧ d 7 p = ro 7 p ∧ d 8 p = ro 8 p) ∧ d 0 0 = ro 0 0 ∧ d 0 1 = ro 0 1 ∧ d 0 2 = ro 0 2 ∧ d 0 3 = ro 0 3
theorem cpy_v {f g : Nat → Int32} {n j : Nat} (h : j < n) : va_cpy f g 0 0 n j = f j := by
  unfold va_cpy
  rw [if_pos ⟨Nat.zero_le j, by omega⟩, Nat.zero_add, Nat.sub_zero]
theorem pX2_copy {rd ro : S2} : ∃ d, fX2_copyFrom rd ro = some d ∧ CP d ro := by
  unfold fX2_copyFrom
  simp only [nm_u]
  refine ⟨_, rfl, fun j hj => ⟨?_, ?_, ?_⟩, fun p hp => ⟨?_, ?_, ?_, ?_, ?_⟩, ?_, ?_, ?_, ?_⟩
  all_goals simp [sE_v, sR_v, cpy_v, *]
theorem RA_cp {mo d ro : S2} {o M P : Nat} (h : RA mo ro o M P) (hM : M ≤ 8) (hP : P ≤ 4) (hc : CP d ro) : RA mo d o M P := by
  obtain ⟨a1, a2, a3, a4⟩ := h
  obtain ⟨c1, c2, _, _, c5, c6⟩ := hc
  refine ⟨fun j hj => ?_, fun p hp => ?_, ?_, ?_⟩
  · obtain ⟨x1, x2, x3⟩ := c1 j (by omega)
    rw [x1, x2, x3]; exact a1 j hj
  · obtain ⟨x1, x2, x3, x4, x5⟩ := c2 p (by omega)
    rw [x1, x2, x3, x4, x5]; exact a2 p hp
  · rw [c5]; exact a3
  · rw [c6]; exact a4
theorem RG_cp {d ro : S2} {M P : Nat} (h : RG ro M P) (hM : M ≤ 8) (hP : P ≤ 4) (hc : CP d ro) : RG d M P := by
  obtain ⟨g1, g2, g3, g4⟩ := h
  obtain ⟨c1, c2, _, _, c5, c6⟩ := hc
  refine ⟨fun j hj => ?_, fun p hp => ?_, ?_, ?_⟩
  · obtain ⟨x1, x2, x3⟩ := c1 j (by omega)
    rw [x1, x2, x3]; exact g1 j hj
  · obtain ⟨x1, x2, x3, x4, x5⟩ := c2 p (by omega)
    rw [x1, x2, x3, x4, x5]; exact g2 p hp
  · rw [c5]; exact g3
  · rw [c6]; exact g4
theorem pX5_copy {sn so : S2} : ∃ d, fX5_copyFrom sn so = some d ∧ d 0 0 = so 0 0 ∧ ∀ i, i < 6 → d 1 i = so 1 i ∧ d 2 i = so 2 i := by
  unfold fX5_copyFrom
  simp only [nm_u]
  refine ⟨_, rfl, ?_, fun i hi => ⟨?_, ?_⟩⟩
  all_goals simp [sE_v, sR_v, cpy_v, *]
theorem RA_mv {mo mo' rd : S2} {o o' M P : Nat} (h : RA mo rd o M P) (hM : M ≤ 8) (hP : P ≤ 4) (hv : ∀ b, b < 46 → mo' 1 (o' + b) = mo 1 (o + b)) : RA mo' rd o' M P := by
  obtain ⟨a1, a2, a3, a4⟩ := h
  refine ⟨fun j hj => ?_, fun p hp => ?_, ?_, ?_⟩
  · rw [hv (3 * j) (by omega), Nat.add_assoc o', hv (3 * j + 1) (by omega), Nat.add_assoc o', hv (3 * j + 2) (by omega)]
    exact a1 j hj
  · have := a2 p hp
    simp only [Nat.add_assoc] at this ⊢
    rw [hv (24 + 5 * p) (by omega), hv (24 + (5 * p + 1)) (by omega), hv (24 + (5 * p + 2)) (by omega), hv (24 + (5 * p + 3)) (by omega), hv (24 + (5 * p + 4)) (by omega)]
    exact this
  · rw [hv 44 (by omega)]; exact a3
  · rw [hv 45 (by omega)]; exact a4
theorem SN_mv {mo mo' sn d : S2} {o o' P : Nat} (h : SN mo sn o P) (hv : ∀ b, b < 59 → mo' 1 (o' + b) = mo 1 (o + b)) (h0 : d 0 0 = sn 0 0) (h1 : ∀ i, i < 6 → d 1 i = sn 1 i ∧ d 2 i = sn 2 i) : SN mo' d o' P := by
  obtain ⟨n, hn, a1, a2, a3⟩ := h
  refine ⟨n, hn, by rw [hv 46 (by omega), a1], by rw [h0, a2], fun i hi => ?_⟩
  obtain ⟨x1, x2⟩ := h1 i (by omega)
  have := a3 i hi
  simp only [Nat.add_assoc] at this ⊢
  rw [x1, x2, hv (47 + 2 * i) (by omega), hv (48 + 2 * i) (by omega)]
  exact this
