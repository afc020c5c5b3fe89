/-! PURE: the tape, the sightings -/
def TP (mo tp : S2) : Prop := ∃ n, n ≤ 160 ∧ mo 0 7 = nI n ∧ tp 0 0 = nI n ∧ (∀ i, i < n → tp 1 i = mo 5 i ∧ win (mo 5 i) 0 127 = true) ∧ tp 0 4 = mo 0 12
theorem TP_SF {mo mo' tp : S2} (h : TP mo tp) (hs : SF mo mo') : TP mo' tp := by
  unfold TP at h ⊢
  have e1 : ∀ b, mo' 5 b = mo 5 b := fun b => hs 5 b (by omega)
  simp only [e1, hs 0 7 (by omega), hs 0 12 (by omega)]
  exact h
theorem TP_RF {mo mo' tp : S2} (h : TP mo tp) (hs : RF mo mo') : TP mo' tp := by
  unfold TP at h ⊢
  have e1 : ∀ b, mo' 5 b = mo 5 b := fun b => hs 5 b (by omega)
  simp only [e1, hs 0 7 (by omega), hs 0 12 (by omega)]
  exact h
/-- all but the tape's bytes and length -/
def FF (mo mo' : S2) : Prop := ∀ a b, a ≠ 5 → (a ≠ 0 ∨ b ≠ 7) → mo' a b = mo a b
theorem FF_r (mo : S2) : FF mo mo := fun _ _ _ _ => rfl
theorem by_id1 : ∀ a, a < 8 → ∀ b, b < 16 → vp_nar .byte ((Int32.toInt8 (nI (16 * a + b))).toInt32) = nI (16 * a + b) := by decide
theorem by_id (n : Nat) (h : n < 128) : vp_nar .byte ((Int32.toInt8 (nI n)).toInt32) = nI n := by
  have := by_id1 (n / 16) (by omega) (n % 16) (by omega)
  rwa [show 16 * (n / 16) + n % 16 = n by omega] at this
theorem sim_feed {mo tp cc : S2} {p1 : Int32} (h : TP mo tp) : ∃ v tp' mo', fX8_feed cc tp p1 = some (v, tp') ∧ fX9_feed mo p1 = some (v, mo') ∧ TP mo' tp' ∧ FF mo mo' := by
  obtain ⟨n, hn, m7, t0, hb, ht⟩ := id h
  unfold fX8_feed fX9_feed
  rw [w8, bd_s, w9 (lo := 0) (hi := 127) (by decide) (by decide), bd_s]
  cases hw : win p1 0 127 with
  | false => exact ⟨_, _, _, rfl, rfl, h, FF_r mo⟩
  | true =>
    obtain ⟨k, rfl, hk⟩ := win_le (h := 127) (by decide) hw
    simp only [it_t]
    unfold fX6_put
    rw [t0, m7]
    by_cases hc : n = 160
    · subst hc
      rw [if_neg (by decide), if_pos (by decide)]
      exact ⟨_, _, _, rfl, rfl, h, FF_r mo⟩
    · have hlt : n < 160 := by omega
      have e1 : nI n < (160 : Int32) := nI_lt (a := n) (b := 160) hlt (by decide)
      have e2 : ¬ nI n = (160 : Int32) := fun e => hc ((nI_eq (a := n) (b := 160) (by omega) (by decide)).mp e)
      rw [if_pos e1, if_neg e2, gd_n hlt (by decide), gd_n hlt (by decide), cl_n (by omega)]
      simp only [nm_u, bd_s, by_id k (by omega)]
      have q1 : sE tp 1 n (nI k) 0 0 = nI n := by rw [sE_v, if_neg (by omega), t0]
      have q2 : sE mo 5 n (nI k) 0 7 = nI n := by rw [sE_v, if_neg (by omega), m7]
      rw [q1, q2, nI_p1, if_neg (by decide), sE_e, sE_e]
      refine ⟨_, _, _, rfl, rfl, ⟨n + 1, by omega, by rw [sE_e], by rw [sE_e], fun i hi => ?_, ?_⟩, fun a b h5 h7 => ?_⟩
      · have A1 : ∀ z, sE (sE tp 1 n (nI k)) 0 0 z 1 i = if i = n then nI k else tp 1 i := fun z => by
          rw [sE_n (by decide), sE_v]; simp
        have A2 : ∀ z, sE (sE mo 5 n (nI k)) 0 7 z 5 i = if i = n then nI k else mo 5 i := fun z => by
          rw [sE_n (by decide), sE_v]; simp
        rw [A1, A2]
        by_cases hin : i = n
        · rw [if_pos hin, if_pos hin]
          exact ⟨rfl, hw⟩
        · rw [if_neg hin, if_neg hin]
          exact hb i (by omega)
      · rw [sE_v, if_neg (by omega), sE_v, if_neg (by omega), sE_v, if_neg (by omega), sE_v, if_neg (by omega), ht]
      · rw [sE_v, if_neg (by omega), sE_v, if_neg (by omega)]
theorem sim_end {mo tp cc : S2} {p1 : Int32} (h : TP mo tp) : ∃ v tp' mo', fX8_end cc tp p1 = some (v, tp') ∧ fX9_end mo p1 = some (v, mo') ∧ TP mo' tp' ∧ FF mo mo' := by
  obtain ⟨n, hn, m7, t0, hb, ht⟩ := id h
  unfold fX8_end fX9_end
  rw [w8, bd_s, w9 (lo := 0) (hi := mo 0 7) (by decide) rfl, bd_s, t0, m7]
  cases hw : win p1 0 (nI n) with
  | false => exact ⟨_, _, _, rfl, rfl, h, FF_r mo⟩
  | true =>
    obtain ⟨k, rfl, hk⟩ := win_le (by omega) hw
    simp only [it_t, nm_u]
    refine ⟨_, _, _, rfl, rfl, ⟨k, by omega, by rw [sE_e], by rw [sE_e], fun i hi => ?_, ?_⟩, fun a b h5 h7 => ?_⟩
    · rw [sE_v, if_neg (by omega), sE_v, if_neg (by omega)]
      exact hb i (by omega)
    · rw [sE_v, if_neg (by omega), sE_v, if_neg (by omega), ht]
    · rw [sE_v, if_neg (by omega)]
theorem sim_fault {mo tp cc : S2} (h : TP mo tp) : fX8_fault cc tp = fX9_fault mo := by
  obtain ⟨n, hn, m7, t0, hb, ht⟩ := h
  unfold fX8_fault fX9_fault
  rw [ht]
/-- the sightings from o on -/
def SN (mo sn : S2) (o P : Nat) : Prop := ∃ n, n ≤ 6 ∧ mo 1 (o + 46) = nI n ∧ sn 0 0 = nI n ∧ ∀ i, i < n → mo 1 (o + 47 + 2 * i) = sn 1 i ∧ mo 1 (o + 48 + 2 * i) = sn 2 i ∧ ∃ q, sn 1 i = nI q ∧ q < P
/-- all but the sightings of now -/
def NF (mo mo' : S2) : Prop := ∀ a b, (a ≠ 1 ∨ b < 46 ∨ 59 ≤ b) → mo' a b = mo a b
theorem NF_r (mo : S2) : NF mo mo := fun _ _ _ => rfl
theorem m47 : ∀ n, n < 6 → (47 : Int32) + (2 : Int32) * nI n = nI (47 + 2 * n) := by decide
theorem sim_see29 {mo sn rd cc : S2} {P q : Nat} {p2 : Int32} (h : SN mo sn 0 P) (hq : q < P) : ∃ v sn' mo', fX8_see_29 cc rd sn (nI q) p2 = some (v, sn') ∧ fX9_see_28 mo (nI q) p2 = some (v, mo') ∧ SN mo' sn' 0 P ∧ NF mo mo' := by
  obtain ⟨n, hn, m46, s0, hb⟩ := id h
  simp only [Nat.zero_add] at m46 hb
  unfold fX8_see_29 fX9_see_28 fX5_put
  rw [show Int32.toNatClampNeg (46 : Int32) = 46 from rfl, m46, s0]
  by_cases hc : n = 6
  · subst hc
    rw [if_neg (by decide), if_pos (by decide)]
    exact ⟨_, _, _, rfl, rfl, h, NF_r mo⟩
  · have hlt : n < 6 := by omega
    have e1 : nI n < (6 : Int32) := nI_lt (a := n) (b := 6) hlt (by decide)
    have e2 : ¬ nI n = (6 : Int32) := fun e => hc ((nI_eq (a := n) (b := 6) (by omega) (by decide)).mp e)
    rw [if_pos e1, if_neg e2, gd_n hlt (by decide), m47 n hlt, gd_n (n := 177) (by omega) (by decide), cl_n (by omega), cl_n (i := 47 + 2 * n) (by omega)]
    have q1 : sE sn 1 n (nI q) 0 0 = nI n := by rw [sE_v, if_neg (by omega), s0]
    have q2 : sE mo 1 (47 + 2 * n) (nI q) 1 46 = nI n := by rw [sE_v, if_neg (by omega), m46]
    simp only [nm_u, q1, q2, m47 n hlt, nI_p1, gd_n hlt (show 6 < 2 ^ 31 by decide), gd_n (show 47 + 2 * n + 1 < 177 by omega) (by decide), cl_n (show n < 2 ^ 31 by omega), cl_n (show 47 + 2 * n + 1 < 2 ^ 31 by omega), bd_s]
    have q3 : sE (sE sn 1 n (nI q)) 2 n p2 0 0 = nI n := by rw [sE_v, if_neg (by omega), q1]
    have q4 : sE (sE mo 1 (47 + 2 * n) (nI q)) 1 (47 + 2 * n + 1) p2 1 46 = nI n := by rw [sE_v, if_neg (by omega), q2]
    rw [q3, q4, nI_p1, if_neg (by decide), sE_e, sE_e]
    refine ⟨_, _, _, rfl, rfl, ⟨n + 1, by omega, by rw [sE_e], by rw [sE_e], fun i hi => ?_⟩, fun a b hab => ?_⟩
    · have B1 : ∀ z, sE (sE (sE mo 1 (47 + 2 * n) (nI q)) 1 (47 + 2 * n + 1) p2) 1 46 z 1 (0 + 47 + 2 * i) = if i = n then nI q else mo 1 (47 + 2 * i) := fun z => by
        rw [sE_v, if_neg (by omega), sE_v, if_neg (by omega), sE_v]
        exact ifc (by omega) (by rw [Nat.zero_add])
      have B2 : ∀ z, sE (sE (sE mo 1 (47 + 2 * n) (nI q)) 1 (47 + 2 * n + 1) p2) 1 46 z 1 (0 + 48 + 2 * i) = if i = n then p2 else mo 1 (48 + 2 * i) := fun z => by
        rw [sE_v, if_neg (by omega), sE_v]
        exact ifc (by omega) (by rw [sE_v, if_neg (by omega), Nat.zero_add])
      have C1 : ∀ z, sE (sE (sE sn 1 n (nI q)) 2 n p2) 0 0 z 1 i = if i = n then nI q else sn 1 i := fun z => by
        rw [sE_n (by decide), sE_n (by decide), sE_v]; simp
      have C2 : ∀ z, sE (sE (sE sn 1 n (nI q)) 2 n p2) 0 0 z 2 i = if i = n then p2 else sn 2 i := fun z => by
        rw [sE_n (by decide), sE_v]
        exact ifc (by omega) (by rw [sE_n (by decide)])
      rw [B1, B2, C1, C2]
      by_cases hin : i = n
      · rw [if_pos hin, if_pos hin, if_pos hin, if_pos hin]
        exact ⟨rfl, rfl, q, rfl, hq⟩
      · rw [if_neg hin, if_neg hin, if_neg hin, if_neg hin]
        exact hb i (by omega)
    · rw [sE_v, if_neg (by omega), sE_v, if_neg (by omega), sE_v, if_neg (by omega)]
