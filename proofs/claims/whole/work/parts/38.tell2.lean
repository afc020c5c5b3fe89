/-! PURE: alter, stand, set, turn -/
def oka (p2 p3 : Int32) : Bool := if p2 = 0 then win p3 0 3 else if p2 = 1 then win p3 0 99 else if p2 = 2 then win p3 1 20 else if p2 = 3 then win p3 0 3 else false
theorem pX9_alter_e {mo : S2} {p1 p2 p3 : Int32} : fX9_alter mo p1 p2 p3 = fX9_alter_72 mo p1 p2 p3 (bI (oka p2 p3)) := by
  unfold fX9_alter oka
  rw [w9 (lo := 0) (hi := 3) (by decide) (by decide), bd_s, w9 (lo := 0) (hi := 99) (by decide) (by decide), bd_s, w9 (lo := 1) (hi := 20) (by decide) (by decide), bd_s, bd_s]
  by_cases k0 : p2 = 0
  · rw [if_pos k0, if_pos k0]
  · rw [if_neg k0, if_neg k0]
    by_cases k1 : p2 = 1
    · rw [if_pos k1, if_pos k1]
    · rw [if_neg k1, if_neg k1]
      by_cases k2 : p2 = 2
      · rw [if_pos k2, if_pos k2]
      · rw [if_neg k2, if_neg k2]
        by_cases k3 : p2 = 3
        · rw [if_pos k3, if_pos k3]
          cases win p3 0 3 <;> rfl
        · rw [if_neg k3, if_neg k3]; rfl
theorem sim_alter {mo rd cc : S2} {M P : Nat} {p1 p2 p3 : Int32} (h : RR mo rd M P) : ∃ v rd' mo', fX8_alter cc rd p1 p2 p3 = some (v, rd') ∧ fX9_alter mo p1 p2 p3 = some (v, mo') ∧ RR mo' rd' M P ∧ RF mo mo' := by
  obtain ⟨⟨_, a2, _, _⟩, _, hM, hP, m0, m1, r0, r1⟩ := id h
  rw [pX9_alter_e]
  unfold fX8_alter fX9_alter_72
  rw [pX2_hasParty r1, bd_s, pX9_isParty m1 (by omega), bd_s, w8, bd_s, w8, bd_s]
  cases hb : blw p1 P with
  | false => exact ⟨_, _, _, rfl, rfl, h, RF_r mo⟩
  | true =>
    obtain ⟨j, rfl, hj⟩ := blw_n (by omega) hb
    simp only [it_t]
    cases hw : win p2 0 3 with
    | false =>
      have : oka p2 p3 = false := by
        unfold oka
        have n0 : ¬ p2 = 0 := fun e => by subst e; exact absurd hw (by decide)
        have n1 : ¬ p2 = 1 := fun e => by subst e; exact absurd hw (by decide)
        have n2 : ¬ p2 = 2 := fun e => by subst e; exact absurd hw (by decide)
        have n3 : ¬ p2 = 3 := fun e => by subst e; exact absurd hw (by decide)
        rw [if_neg n0, if_neg n1, if_neg n2, if_neg n3]
      rw [this]
      exact ⟨_, _, _, rfl, rfl, h, RF_r mo⟩
    | true =>
      obtain ⟨k, rfl, hk⟩ := win_le (h := 3) (by decide) hw
      obtain ⟨c0, c1, c2, c3, c4⟩ := a2 j hj
      simp only [Nat.zero_add] at c0 c1 c2 c3 c4
      simp only [it_t]
      rw [gd_n (n := 5) (by omega) (by decide), m5_v j (by omega) k (by omega), pX9_becomes (by omega), bd_s]
      simp only [gd_n (show j < 4 by omega) (by decide), cl_n (show j < 2 ^ 31 by omega), nm_u]
      have hk' : k = 0 ∨ k = 1 ∨ k = 2 ∨ k = 3 := by omega
      rcases hk' with rfl | rfl | rfl | rfl
      · show ∃ v rd' mo', (if bI (win p3 0 3) = 0 then _ else _) = _ ∧ (if bI (win p3 0 3) = 0 then _ else _) = _ ∧ _
        cases hv : win p3 0 3 with
        | false => exact ⟨_, _, _, rfl, rfl, h, RF_r mo⟩
        | true =>
          obtain ⟨x1, x2⟩ := RR_party (k := 0) h hj (by omega) (fun _ => hv) (fun e => by omega) (fun e => by omega) (fun e => by omega) (fun e => by omega)
          exact ⟨_, _, _, rfl, by rw [it_t, ← c0]; rfl, x1, x2⟩
      · show ∃ v rd' mo', (if bI (win p3 0 99) = 0 then _ else _) = _ ∧ (if bI (win p3 0 99) = 0 then _ else _) = _ ∧ _
        cases hv : win p3 0 99 with
        | false => exact ⟨_, _, _, rfl, rfl, h, RF_r mo⟩
        | true =>
          obtain ⟨x1, x2⟩ := RR_party (k := 1) h hj (by omega) (fun e => by omega) (fun _ => hv) (fun e => by omega) (fun e => by omega) (fun e => by omega)
          exact ⟨_, _, _, rfl, by rw [it_t, ← c1], x1, x2⟩
      · show ∃ v rd' mo', (if bI (win p3 1 20) = 0 then _ else _) = _ ∧ (if bI (win p3 1 20) = 0 then _ else _) = _ ∧ _
        cases hv : win p3 1 20 with
        | false => exact ⟨_, _, _, rfl, rfl, h, RF_r mo⟩
        | true =>
          obtain ⟨x1, x2⟩ := RR_party (k := 2) h hj (by omega) (fun e => by omega) (fun e => by omega) (fun _ => hv) (fun e => by omega) (fun e => by omega)
          exact ⟨_, _, _, rfl, by rw [it_t, ← c2], x1, x2⟩
      · show ∃ v rd' mo', (if bI (win p3 0 3) = 0 then _ else _) = _ ∧ (if bI (win p3 0 3) = 0 then _ else _) = _ ∧ _
        cases hv : win p3 0 3 with
        | false => exact ⟨_, _, _, rfl, rfl, h, RF_r mo⟩
        | true =>
          obtain ⟨x1, x2⟩ := RR_party (k := 3) h hj (by omega) (fun e => by omega) (fun e => by omega) (fun e => by omega) (fun _ => hv) (fun e => by omega)
          exact ⟨_, _, _, rfl, by rw [it_t, ← c3], x1, x2⟩
theorem sim_stand {mo rd cc : S2} {M P : Nat} {p1 p2 : Int32} (h : RR mo rd M P) : ∃ v rd' mo', fX8_stand cc rd p1 p2 = some (v, rd') ∧ fX9_stand mo p1 p2 = some (v, mo') ∧ RR mo' rd' M P ∧ RF mo mo' := by
  obtain ⟨⟨_, a2, _, _⟩, _, hM, hP, m0, m1, r0, r1⟩ := id h
  unfold fX8_stand fX9_stand
  rw [pX2_hasParty r1, bd_s, pX9_isParty m1 (by omega), bd_s, pX2_hasMile r0, bd_s, pX9_isMile m0 (by omega), bd_s]
  cases hb : blw p1 P with
  | false => exact ⟨_, _, _, rfl, rfl, h, RF_r mo⟩
  | true =>
    obtain ⟨j, rfl, hj⟩ := blw_n (by omega) hb
    simp only [it_t]
    cases hc : blw p2 M with
    | false => exact ⟨_, _, _, rfl, rfl, h, RF_r mo⟩
    | true =>
      obtain ⟨m, rfl, hm⟩ := blw_n (by omega) hc
      obtain ⟨c0, c1, c2, c3, c4⟩ := a2 j hj
      simp only [Nat.zero_add] at c4
      simp only [it_t]
      obtain ⟨x1, x2⟩ := RR_party (k := 4) (v := nI m) h hj (by omega) (fun e => by omega) (fun e => by omega) (fun e => by omega) (fun e => by omega) (fun _ => ⟨m, rfl, hm⟩)
      rw [m5_4 j (by omega), pX9_becomes (by omega), bd_s, gd_n (by omega) (by decide), nm_u, nm_u, cl_n (by omega), c4]
      exact ⟨_, _, _, rfl, rfl, x1, x2⟩
theorem sim_set {mo rd cc : S2} {M P : Nat} {p1 p2 : Int32} (h : RR mo rd M P) : ∃ v rd' mo', fX8_set cc rd p1 p2 = some (v, rd') ∧ fX9_set mo p1 p2 = some (v, mo') ∧ RR mo' rd' M P ∧ RF mo mo' := by
  obtain ⟨⟨_, _, a3, a4⟩, _, hM, hP, m0, m1, r0, r1⟩ := id h
  simp only [Nat.zero_add] at a3 a4
  unfold fX8_set fX9_set fX8_set_32 fX9_set_39
  rw [w8, bd_s, w8, bd_s, w9 (lo := 1) (hi := 4) (by decide) (by decide), bd_s, w9 (lo := 0) (hi := 99) (by decide) (by decide), bd_s]
  by_cases k2 : p1 = 2
  · subst k2
    rw [if_pos rfl, if_pos rfl]
    cases hv : win p2 1 4 with
    | false => exact ⟨_, _, _, rfl, rfl, h, RF_r mo⟩
    | true =>
      obtain ⟨x1, x2⟩ := RR_set (k := 2) h (by omega) (fun _ => hv) (fun e => by omega)
      simp only [it_t]
      rw [show (44 : Int32) + 2 - 2 = nI 44 from rfl, pX9_becomes (by decide), bd_s, nm_u, nm_u, a3]
      exact ⟨_, _, _, rfl, rfl, x1, x2⟩
  · rw [if_neg k2, if_neg k2]
    by_cases k3 : p1 = 3
    · subst k3
      rw [if_pos rfl, if_pos rfl]
      cases hv : win p2 0 99 with
      | false => exact ⟨_, _, _, rfl, rfl, h, RF_r mo⟩
      | true =>
        obtain ⟨x1, x2⟩ := RR_set (k := 3) h (by omega) (fun e => by omega) (fun _ => hv)
        simp only [it_t]
        rw [if_neg (by decide), show (44 : Int32) + 3 - 2 = nI 45 from rfl, pX9_becomes (by decide), bd_s, nm_u, nm_u, a4]
        exact ⟨_, _, _, rfl, rfl, x1, x2⟩
    · rw [if_neg k3, if_neg k3]
      exact ⟨_, _, _, rfl, rfl, h, RF_r mo⟩
theorem nI_sub1 {M : Nat} (h : 0 < M) (hM : M < 2 ^ 31) : nI M - (1 : Int32) = nI (M - 1) := by
  apply Int32.toInt_inj.mp
  rw [Int32.toInt_sub, nI_toInt hM, nI_toInt (by omega), show (1 : Int32).toInt = 1 from rfl, Int.bmod_eq_of_le (by omega) (by omega)]
  omega
theorem sg_b : ∀ M, M ≤ 8 → nI M - (2 : Int32) = (nI M - 1) - 1 := by decide
theorem pX2_hasSign {rd : S2} {M : Nat} {p : Int32} (h : rd 0 0 = nI M) (hM : M ≤ 8) : fX2_hasSignpost rd p = some (bI (blw p (M - 1))) := by
  rcases Nat.eq_zero_or_pos M with h0 | h0
  · subst h0
    unfold fX2_hasSignpost blw
    rw [h]
    by_cases h1 : p < 0
    · have : ¬ (0 : Int32) ≤ p := fun h => i32_nlt.mpr h h1
      rw [if_pos h1, decide_eq_false this]; rfl
    · have h2 : nI 0 - 1 ≤ p := by
        have := i32_nlt.mp h1
        rw [Int32.le_iff_toInt_le] at this ⊢
        rw [show (nI 0 - 1).toInt = -1 from rfl]
        rw [Int32.toInt_zero] at this
        omega
      have h3 : ¬ p < nI 0 := h1
      rw [if_neg h1, if_pos h2, decide_eq_false (p := p < nI (0 - 1)) h3]
      simp [bI]
  · exact has_b (by rw [h, nI_sub1 h0 (by omega)])
theorem pX9_sign {mo : S2} {M : Nat} {p : Int32} (h : mo 0 0 = nI M) (hM : M ≤ 8) : fX9_in (Int32.toInt64 p) (0 : Int64) (Int32.toInt64 ((mo 0 0) - (2 : Int32))) = some (bI (blw p (M - 1))) := by
  rw [w9 (lo := 0) (hi := mo 0 0 - 2) (by decide) rfl, h]
  rcases Nat.eq_zero_or_pos M with h0 | h0
  · subst h0
    have : win p 0 (nI 0 - 2) = blw p (0 - 1) := by
      unfold win blw
      by_cases h1 : (0 : Int32) ≤ p
      · have h2 : ¬ p ≤ nI 0 - 2 := by
          rw [Int32.le_iff_toInt_le] at h1 ⊢
          rw [show (nI 0 - 2).toInt = -2 from rfl]
          rw [Int32.toInt_zero] at h1
          omega
        have h3 : ¬ p < nI (0 - 1) := i32_nlt.mpr h1
        rw [decide_eq_false h2, decide_eq_false h3]
      · rw [decide_eq_false h1]; rfl
    rw [this]
  · rw [sg_b M hM, nI_sub1 h0 (by omega), win_b (by omega)]
theorem sim_turn {mo rd cc : S2} {M P : Nat} {p1 : Int32} (h : RR mo rd M P) : ∃ v rd' mo', fX8_turn cc rd p1 = some (v, rd') ∧ fX9_turn mo p1 = some (v, mo') ∧ RR mo' rd' M P ∧ RF mo mo' := by
  obtain ⟨⟨a1, _, _, _⟩, ⟨g1, _, _, _⟩, hM, hP, m0, m1, r0, r1⟩ := id h
  unfold fX8_turn fX9_turn
  rw [pX2_hasSign r0 hM, bd_s, pX9_sign m0 hM, bd_s]
  cases hb : blw p1 (M - 1) with
  | false => exact ⟨_, _, _, rfl, rfl, h, RF_r mo⟩
  | true =>
    obtain ⟨j, rfl, hj⟩ := blw_n (by omega) hb
    have c0 := (a1 j (by omega)).1
    have c1 := (a1 (j + 1) (by omega)).1
    simp only [Nat.zero_add] at c0 c1
    obtain ⟨x1, x2⟩ := RR_mile (k := 0) (v := rd 1 (j + 1)) h (show j < M by omega) (by omega) (fun _ => (g1 (j + 1) (by omega)).1) (fun e => by omega) (fun e => by omega)
    obtain ⟨y1, y2⟩ := RR_mile (k := 0) (v := rd 1 j) x1 (show j + 1 < M by omega) (by omega) (fun _ => (g1 j (by omega)).1) (fun e => by omega) (fun e => by omega)
    simp only [it_t]
    have e3 : nI (3 * j) + (3 : Int32) = nI (3 * j + 3) := by
      have : ∀ j, j < 8 → nI (3 * j) + (3 : Int32) = nI (3 * j + 3) := by decide
      exact this j (by omega)
    unfold fX2_turnSignpost
    simp only [nm_u, m3_0 j (show j < 8 by omega), e3, nI_p1, gd_n (show 3 * j + 3 < 177 by omega) (by decide), gd_n (show 3 * j < 177 by omega) (by decide), gd_n (show j < 8 by omega) (by decide), gd_n (show j + 1 < 8 by omega) (by decide), cl_n (show 3 * j + 3 < 2 ^ 31 by omega), cl_n (show 3 * j < 2 ^ 31 by omega), cl_n (show j < 2 ^ 31 by omega), cl_n (show j + 1 < 2 ^ 31 by omega), pX9_becomes (mo := mo) (v := mo 1 (3 * j + 3)) (show 3 * j < 177 by omega), bd_s]
    rw [show mo 1 (3 * j + 3) = rd 1 (j + 1) from c1, c0]
    refine ⟨_, _, _, rfl, ?_, y1, fun a b hab => by rw [y2 a b hab, x2 a b hab]⟩
    have q1 : sE (sE rd 1 j (rd 1 (j + 1))) 1 (j + 1) (rd 1 j) 1 j = rd 1 (j + 1) := by
      rw [sE_v, if_neg (by omega), sE_e]
    have q2 : sE (sE mo 1 (3 * j) (rd 1 (j + 1))) 1 (3 * j + 3) (rd 1 j) 1 (3 * j) = rd 1 (j + 1) := by
      rw [sE_v, if_neg (by omega), sE_e]
    rw [q2]
    show some (_, _) = some (sE (sE rd 1 j (rd 1 (j + 1))) 1 (j + 1) (rd 1 j) 1 j, _)
    rw [q1]
    rfl
