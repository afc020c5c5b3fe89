/-! PURE: see, forget, sheet, lay -/
theorem sim_see {mo rd sn cc : S2} {M P : Nat} {p1 p2 : Int32} (h : RR mo rd M P) (hs : SN mo sn 0 P) : ∃ v sn' mo', fX8_see cc rd sn p1 p2 = some (v, sn') ∧ fX9_see mo p1 p2 = some (v, mo') ∧ SN mo' sn' 0 P ∧ NF mo mo' := by
  obtain ⟨_, _, hM, hP, m0, m1, r0, r1⟩ := id h
  unfold fX8_see fX9_see
  rw [pX2_hasParty r1, bd_s, pX9_isParty m1 (by omega), bd_s, w8, bd_s, w9 (lo := 0) (hi := 7) (by decide) (by decide), bd_s]
  cases hb : blw p1 P with
  | false => exact ⟨_, _, _, rfl, rfl, hs, NF_r mo⟩
  | true =>
    obtain ⟨q, rfl, hq⟩ := blw_n (by omega) hb
    simp only [it_t]
    by_cases h4 : p2 = -4
    · rw [if_pos h4, if_pos h4]
      exact sim_see29 hs hq
    · rw [if_neg h4, if_neg h4]
      cases hw : win p2 0 7 with
      | false => exact ⟨_, _, _, rfl, rfl, hs, NF_r mo⟩
      | true =>
        simp only [it_t]
        exact sim_see29 hs hq
theorem sim_forget {mo sn cc : S2} {P : Nat} {p1 : Int32} (h : SN mo sn 0 P) : ∃ v sn' mo', fX8_forget cc sn p1 = some (v, sn') ∧ fX9_forget mo p1 = some (v, mo') ∧ SN mo' sn' 0 P ∧ NF mo mo' := by
  obtain ⟨n, hn, m46, s0, hb⟩ := id h
  have m46' : mo 1 46 = nI n := by rw [← m46]
  unfold fX8_forget fX9_forget
  rw [w8, bd_s, w9 (lo := 0) (hi := mo 1 (Int32.toNatClampNeg 46)) (by decide) rfl, bd_s, show Int32.toNatClampNeg (46 : Int32) = 46 from rfl, s0, m46']
  cases hw : win p1 0 (nI n) with
  | false => exact ⟨_, _, _, rfl, rfl, h, NF_r mo⟩
  | true =>
    obtain ⟨k, rfl, hk⟩ := win_le (by omega) hw
    simp only [it_t, nm_u]
    rw [show (46 : Int32) = nI 46 from rfl, pX9_becomes (by decide), bd_s, m46']
    refine ⟨nI n, sE sn 0 0 (nI k), sE mo 1 46 (nI k), rfl, rfl, ⟨k, by omega, by rw [sE_v, if_pos ⟨rfl, by omega⟩], by rw [sE_e], fun i hi => ?_⟩, fun a b hab => ?_⟩
    · have c1 : sE sn 0 0 (nI k) 1 i = sn 1 i := by rw [sE_v, if_neg (by omega)]
      have c2 : sE sn 0 0 (nI k) 2 i = sn 2 i := by rw [sE_v, if_neg (by omega)]
      have c3 : sE mo 1 46 (nI k) 1 (0 + 47 + 2 * i) = mo 1 (0 + 47 + 2 * i) := by rw [sE_v, if_neg (by omega)]
      have c4 : sE mo 1 46 (nI k) 1 (0 + 48 + 2 * i) = mo 1 (0 + 48 + 2 * i) := by rw [sE_v, if_neg (by omega)]
      rw [c1, c2, c3, c4]
      exact hb i (by omega)
    · rw [sE_v, if_neg (by omega)]
/-- sheet k in both -/
def SH (mo sh : S2) (k : Nat) : Prop := (sh 0 0 = 0 ∧ mo 13 k = -4) ∨ (sh 0 0 = 1 ∧ sh 0 1 = mo 13 k ∧ win (mo 13 k) 0 2 = true ∧ sh 0 2 = mo 14 k ∧ win (mo 14 k) 0 40 = true ∧ ∀ j, j < 40 → sh 1 j = mo 15 (40 * k + j))
/-- all but sheet k -/
def HF (k : Nat) (mo mo' : S2) : Prop := ∀ a b, ((a ≠ 13 ∧ a ≠ 14 ∧ a ≠ 15) ∨ (a ≤ 14 ∧ b ≠ k) ∨ (a = 15 ∧ (b < 40 * k ∨ 40 * k + 40 ≤ b))) → mo' a b = mo a b
theorem HF_r (k : Nat) (mo : S2) : HF k mo mo := fun _ _ _ => rfl
theorem pX4_renew {sh : S2} {l z : Int32} : ∃ s', fX4_renew sh l z = some s' ∧ s' 0 0 = 1 ∧ s' 0 1 = l ∧ s' 0 2 = z ∧ ∀ j, j < 40 → s' 1 j = 0 := by
  unfold fX4_renew
  rw [nm_u, nm_u, nm_u]
  generalize hg : sE (sE (sE sh 0 0 1) 0 1 l) 0 2 z = s
  have g0 : s 0 0 = 1 := by rw [← hg, sE_v, if_neg (by omega), sE_v, if_neg (by omega), sE_e]
  have g1 : s 0 1 = l := by rw [← hg, sE_v, if_neg (by omega), sE_e]
  have g2 : s 0 2 = z := by rw [← hg, sE_e]
  have key : ∃ x, wh (fun (c : Int32 × S2) => fX4_renew_b17 c.2 c.1) 5000 ((0 : Int32), s) = some x ∧ ∀ a b, x.2 a b = if a = 1 ∧ b < 40 then 0 else s a b := by
    refine wh_ex (body := fun (c : Int32 × S2) => fX4_renew_b17 c.2 c.1)
      (fun i c => c.1 = nI i ∧ ∀ a b, c.2 a b = if a = 1 ∧ b < i then 0 else s a b)
      (fun c => ∀ a b, c.2 a b = if a = 1 ∧ b < 40 then 0 else s a b) 40
      (fun i c hi hI => ?_) (fun c hI => ?_) 5000 0 _ (by decide) (by decide) ⟨rfl, fun a b => by simp⟩
    · obtain ⟨h1, h2⟩ := hI
      left
      refine ⟨(nI (i + 1), sE c.2 1 i 0), ?_, rfl, fun a b => ?_⟩
      · unfold fX4_renew_b17
        rw [h1, if_neg (show ¬ (40 : Int32) ≤ nI i from nI_ge (a := i) (b := 40) hi (by decide)), gd_n hi (by decide), cl_n (by omega), nm_u, nm_u, nI_p1]
      · dsimp only
        rw [sE_v, h2]
        by_cases h5 : a = 1
        · subst h5
          by_cases hb : b = i
          · subst hb; simp
          · have : (b < i + 1) ↔ b < i := by omega
            simp [hb, this]
        · simp [h5]
    · obtain ⟨h1, h2⟩ := hI
      refine ⟨c, ?_, h2⟩
      unfold fX4_renew_b17
      rw [h1, if_pos (show (40 : Int32) ≤ nI 40 from nI_le (a := 40) (b := 40) (Nat.le_refl _) (by decide)), ← h1]
  obtain ⟨x, e, q⟩ := key
  rw [e, bd_s]
  refine ⟨_, rfl, ?_, ?_, ?_, fun j hj => ?_⟩
  · rw [q, if_neg (by omega), g0]
  · rw [q, if_neg (by omega), g1]
  · rw [q, if_neg (by omega), g2]
  · rw [q, if_pos ⟨rfl, hj⟩]
theorem m40a : ∀ k, k < 4 → ∀ i, i < 20 → (40 : Int32) * nI k + nI i = nI (40 * k + i) := by decide
theorem m40b : ∀ k, k < 4 → ∀ i, i < 20 → (40 : Int32) * nI k + nI (20 + i) = nI (40 * k + (20 + i)) := by decide
theorem m40 (k : Nat) (hk : k < 4) (i : Nat) (hi : i < 40) : (40 : Int32) * nI k + nI i = nI (40 * k + i) := by
  rcases Nat.lt_or_ge i 20 with h | h
  · exact m40a k hk i h
  · have := m40b k hk (i - 20) (by omega)
    rwa [show 20 + (i - 20) = i by omega] at this
theorem pX9_sh40 {mo : S2} {k : Nat} (hk : k < 4) : ∃ x, wh (fun (c : Int32 × S2) => fX9_sheet_b40 c.2 (nI k) c.1) 5000 ((0 : Int32), mo) = some x ∧ ∀ a b, x.2 a b = if a = 15 ∧ 40 * k ≤ b ∧ b < 40 * k + 40 then 0 else mo a b := by
  refine wh_ex (body := fun (c : Int32 × S2) => fX9_sheet_b40 c.2 (nI k) c.1)
    (fun i c => c.1 = nI i ∧ ∀ a b, c.2 a b = if a = 15 ∧ 40 * k ≤ b ∧ b < 40 * k + i then 0 else mo a b)
    (fun c => ∀ a b, c.2 a b = if a = 15 ∧ 40 * k ≤ b ∧ b < 40 * k + 40 then 0 else mo a b) 40
    (fun i c hi hI => ?_) (fun c hI => ?_) 5000 0 _ (by decide) (by decide) ⟨rfl, fun a b => by rw [if_neg (by omega)]⟩
  · obtain ⟨h1, h2⟩ := hI
    left
    refine ⟨(nI (i + 1), sE c.2 15 (40 * k + i) 0), ?_, rfl, fun a b => ?_⟩
    · unfold fX9_sheet_b40
      rw [h1, if_neg (show ¬ (40 : Int32) ≤ nI i from nI_ge (a := i) (b := 40) hi (by decide)), m40 k hk i hi, gd_n (by omega) (by decide), cl_n (by omega), nm_u, nm_u, nI_p1]
    · dsimp only
      rw [sE_v, h2]
      by_cases hb : a = 15 ∧ b = 40 * k + i
      · rw [if_pos hb, if_pos (by omega)]
      · rw [if_neg hb]
        by_cases h3 : a = 15 ∧ 40 * k ≤ b ∧ b < 40 * k + i
        · rw [if_pos h3, if_pos (by omega)]
        · rw [if_neg h3, if_neg (by omega)]
  · obtain ⟨h1, h2⟩ := hI
    refine ⟨c, ?_, h2⟩
    unfold fX9_sheet_b40
    rw [h1, if_pos (show (40 : Int32) ≤ nI 40 from nI_le (a := 40) (b := 40) (Nat.le_refl _) (by decide)), ← h1]
theorem pX9_isSheet {p1 p2 : Int32} : fX9_isSheet p1 p2 = some (bI (win p1 0 3 && win p2 0 2)) := by
  unfold fX9_isSheet
  rw [w9 (lo := 0) (hi := 3) (by decide) (by decide), bd_s, w9 (lo := 0) (hi := 2) (by decide) (by decide), bd_s]
  cases win p1 0 3 <;> cases win p2 0 2 <;> rfl
theorem sim_sheet_bad {mo sh cc : S2} {p1 p2 p3 : Int32} (hb : win p1 0 3 = false) : fX8_sheet cc sh p1 p2 p3 = some (-1, sh) ∧ fX9_sheet mo p1 p2 p3 = some (-1, mo) := by
  unfold fX8_sheet fX9_sheet
  rw [w8, bd_s, pX9_isSheet, bd_s, hb]
  exact ⟨rfl, rfl⟩
theorem sim_sheet {mo sh cc : S2} {k : Nat} {p2 p3 : Int32} (hk : k < 4) (h : SH mo sh k) : ∃ v sh' mo', fX8_sheet cc sh (nI k) p2 p3 = some (v, sh') ∧ fX9_sheet mo (nI k) p2 p3 = some (v, mo') ∧ SH mo' sh' k ∧ HF k mo mo' := by
  have hw : win (nI k) 0 3 = true := by
    have : ∀ k, k < 4 → win (nI k) 0 3 = true := by decide
    exact this k hk
  unfold fX8_sheet fX9_sheet
  rw [w8, bd_s, w8, bd_s, pX9_isSheet, bd_s, hw, Bool.true_and]
  simp only [it_t]
  cases hl : win p2 0 2 with
  | false => exact ⟨_, _, _, rfl, rfl, h, HF_r k mo⟩
  | true =>
    simp only [it_t]
    by_cases h1 : p3 ≤ 40
    · rw [if_pos h1, if_pos h1]
      by_cases h2 : 0 ≤ p3
      · rw [if_pos h2, if_pos h2, gd_n hk (by decide), gd_n hk (by decide), nm_u, nm_u, cl_n (by omega)]
        obtain ⟨s', e1, a1, a2, a3, a4⟩ := pX4_renew (sh := sh) (l := p2) (z := p3)
        obtain ⟨x, e2, q⟩ := pX9_sh40 (mo := sE (sE mo 13 k p2) 14 k p3) hk
        rw [e1, bd_s, e2, bd_s]
        have q13 : x.2 13 k = p2 := by rw [q, if_neg (by omega), sE_v, if_neg (by omega), sE_e]
        have q14 : x.2 14 k = p3 := by rw [q, if_neg (by omega), sE_e]
        refine ⟨_, _, _, rfl, rfl, Or.inr ⟨a1, by rw [a2, q13], by rw [q13, hl], by rw [a3, q14], ?_, fun j hj => ?_⟩, fun a b hab => ?_⟩
        · rw [q14]
          unfold win
          rw [decide_eq_true h2, decide_eq_true h1]
          rfl
        · rw [a4 j hj, q, if_pos ⟨rfl, by omega, by omega⟩]
        · rw [q, if_neg (by omega), sE_v, if_neg (by omega), sE_v, if_neg (by omega)]
      · rw [if_neg h2, if_neg h2]
        exact ⟨_, _, _, rfl, rfl, h, HF_r k mo⟩
    · rw [if_neg h1, if_neg h1]
      exact ⟨_, _, _, rfl, rfl, h, HF_r k mo⟩
