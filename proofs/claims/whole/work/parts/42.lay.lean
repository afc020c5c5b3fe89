/-! PURE: lay, torn -/
theorem sim_lay_bad {mo sh cc : S2} {p1 p2 p3 : Int32} (hb : win p1 0 3 = false) : fX8_lay cc sh p1 p2 p3 = some (-1, sh) ∧ fX9_lay mo p1 p2 p3 = some (-1, mo) := by
  unfold fX8_lay fX9_lay
  rw [w8, bd_s, pX9_isSheet, bd_s, hb]
  exact ⟨rfl, rfl⟩
theorem win_3 : ∀ k, k < 4 → win (nI k) 0 3 = true := by decide
theorem ref_b {sh : S2} {p2 : Int32} {z : Nat} (h0 : sh 0 0 = 1) (h2 : sh 0 2 = nI z) {l : Int32} (hl : l = sh 0 1) : fX4_refusal sh l p2 = some (if blw p2 z = true then 0 else 2) := by
  unfold fX4_refusal
  rw [h0, if_neg (by decide), if_pos hl, h2]
  unfold blw
  by_cases h1 : p2 < 0
  · have : ¬ (0 : Int32) ≤ p2 := fun h => i32_nlt.mpr h h1
    rw [if_pos h1, decide_eq_false this]; rfl
  · rw [if_neg h1, decide_eq_true (i32_nlt.mp h1)]
    by_cases h3 : nI z ≤ p2
    · have : ¬ p2 < nI z := fun h => i32_nle.mpr h h3
      rw [if_pos h3, decide_eq_false this]; rfl
    · rw [if_neg h3, decide_eq_true (i32_nle.mp h3)]; rfl
theorem sim_lay {mo sh cc : S2} {k : Nat} {p2 p3 : Int32} (hk : k < 4) (h : SH mo sh k) : ∃ v sh' mo', fX8_lay cc sh (nI k) p2 p3 = some (v, sh') ∧ fX9_lay mo (nI k) p2 p3 = some (v, mo') ∧ SH mo' sh' k ∧ HF k mo mo' := by
  unfold fX8_lay fX9_lay
  rw [w8, bd_s, pX9_isSheet, bd_s, win_3 k hk, show win (0 : Int32) 0 2 = true by decide, Bool.true_and]
  simp only [it_t]
  rw [gd_n hk (by decide), gd_n hk (by decide), cl_n (by omega)]
  rcases id h with ⟨h0, h13⟩ | ⟨h0, h1, hl, h2, hz, hc⟩
  · have e : fX4_refusal sh (sh 0 1) p2 = some 1 := by
      unfold fX4_refusal
      rw [if_pos h0]
    rw [e, bd_s, if_neg (by decide), if_pos h13]
    exact ⟨_, _, _, rfl, rfl, h, HF_r k mo⟩
  · obtain ⟨z, ez, hz40⟩ := win_le (h := 40) (by decide) hz
    have hn4 : ¬ mo 13 k = -4 := fun e => by rw [e] at hl; exact absurd hl (by decide)
    rw [ref_b h0 (by rw [h2, ez]) rfl, bd_s, if_neg hn4, w9 (lo := 0) (hi := mo 14 k - 1) (by decide) rfl, bd_s, ez, win_b (by omega)]
    cases hb : blw p2 z with
    | false => exact ⟨_, _, _, rfl, rfl, h, HF_r k mo⟩
    | true =>
      obtain ⟨i, rfl, hi⟩ := blw_n (by omega) hb
      simp only [it_t]
      have fin : ∀ v : Int32, ∃ w sh' mo', (gd (ixb (nI i) 40) <| nm (sE sh 1 (Int32.toNatClampNeg (nI i)) v) fun s8 => some ((1 : Int32), s8)) = some (w, sh') ∧ fX9_lay_85 mo v ((40 : Int32) * nI k + nI i) = some (w, mo') ∧ SH mo' sh' k ∧ HF k mo mo' := by
        intro v
        unfold fX9_lay_85
        rw [m40 k hk i (by omega), gd_n (n := 160) (by omega) (by decide), gd_n (by omega) (by decide), nm_u, nm_u, cl_n (by omega), cl_n (i := 40 * k + i) (by omega)]
        refine ⟨_, _, _, rfl, rfl, Or.inr ⟨?_, ?_, ?_, ?_, ?_, fun j hj => ?_⟩, fun a b hab => ?_⟩
        · rw [sE_v, if_neg (by omega), h0]
        · rw [sE_v, if_neg (by omega), sE_v, if_neg (by omega), h1]
        · rw [sE_v, if_neg (by omega), hl]
        · rw [sE_v, if_neg (by omega), sE_v, if_neg (by omega), h2]
        · rw [sE_v, if_neg (by omega), hz]
        · rw [sE_v, sE_v]; exact ifc (by omega) (hc j hj)
        · rw [sE_v, if_neg (by omega)]
      unfold fX4_cutToLane
      rw [nm_u, h1]
      have t0 : (if true = true then (0 : Int32) else 2) = 0 := rfl
      simp only [if_true]
      by_cases k0 : mo 13 k = 0
      · rw [if_pos k0, if_pos k0, bd_s]; exact fin _
      · rw [if_neg k0, if_neg k0]
        by_cases k1 : mo 13 k = 1
        · rw [if_pos k1, if_pos k1, bd_s]; exact fin _
        · rw [if_neg k1, if_neg k1, bd_s]; exact fin _
