/-! PURE: the questions that look at the road or at one drive -/
theorem it_t {α : Type} {a b : α} : (if bI true = (0 : Int32) then a else b) = b := if_neg (by decide)
theorem it_f {α : Type} {a b : α} : (if bI false = (0 : Int32) then a else b) = a := if_pos rfl
theorem win_le {a : Int32} {h : Nat} (hh : h < 2 ^ 31) (hw : win a 0 (nI h) = true) : ∃ n, a = nI n ∧ n ≤ h := by
  obtain ⟨n, e, _, h2⟩ := win_n (l := 0) (h := h) rfl rfl (by decide) hh hw
  exact ⟨n, e, h2⟩
theorem sim_fate {mo rd dr cc : S2} {M P : Nat} {p1 p2 : Int32} (h : RR mo rd M P) : ∃ v d' mo', fX8_fate cc rd dr p1 p2 = some (v, d') ∧ fX9_fate mo p1 p2 = some (v, mo') ∧ SF mo mo' := by
  obtain ⟨_, _, hM, hP, m0, m1, r0, r1⟩ := id h
  unfold fX8_fate fX9_fate
  rw [pX2_hasParty r1, bd_s, pX9_isParty m1 (by omega), bd_s, w8, bd_s, w9 (lo := 0) (hi := 3) (by decide) (by decide), bd_s]
  cases hb : blw p1 P with
  | false => exact ⟨_, _, _, rfl, rfl, SF_r mo⟩
  | true =>
    obtain ⟨p, rfl, hp⟩ := blw_n (by omega) hb
    simp only [it_t]
    cases hw : win p2 0 3 with
    | false => exact ⟨_, _, _, rfl, rfl, SF_r mo⟩
    | true =>
      obtain ⟨k, rfl, hk⟩ := win_le (h := 3) (by decide) hw
      obtain ⟨s1, s2, e1, e2, _, ⟨_, q2, _⟩, hf⟩ := pX9_drivesR h
      obtain ⟨d', e3, _, _, d3, _⟩ := pX0_runR (dr := dr) h
      obtain ⟨b1, b2, b3, b4⟩ := d3 p hp
      obtain ⟨_, c1, c2, c3, c4⟩ := q2 p hp
      simp only [it_t]
      rw [e1, bd_s, e2, bd_s, e3, bd_s]
      simp only [gd_n (show p < 4 by omega) (by decide), cl_n (show p < 2 ^ 31 by omega)]
      have hk' : k = 0 ∨ k = 1 ∨ k = 2 ∨ k = 3 := by omega
      rcases hk' with rfl | rfl | rfl | rfl
      · exact ⟨_, _, _, rfl, by rw [b1, ← c1]; rfl, hf⟩
      · exact ⟨_, _, _, rfl, by rw [b2, ← c2]; rfl, hf⟩
      · exact ⟨_, _, _, rfl, by rw [b3, ← c3]; rfl, hf⟩
      · exact ⟨_, _, _, rfl, by rw [b4, ← c4]; rfl, hf⟩
theorem sim_beside {mo rd dr cc : S2} {M P : Nat} {p1 : Int32} (h : RR mo rd M P) : ∃ v d' mo', fX8_beside cc rd dr p1 = some (v, d') ∧ fX9_beside mo p1 = some (v, mo') ∧ SF mo mo' := by
  obtain ⟨_, _, hM, hP, m0, m1, r0, r1⟩ := id h
  unfold fX8_beside fX9_beside
  rw [pX2_hasMile r0, bd_s, pX9_isMile m0 (by omega), bd_s]
  cases hb : blw p1 M with
  | false => exact ⟨_, _, _, rfl, rfl, SF_r mo⟩
  | true =>
    obtain ⟨m, rfl, hm⟩ := blw_n (by omega) hb
    obtain ⟨s1, s2, e1, e2, _, ⟨_, _, q3⟩, hf⟩ := pX9_drivesR h
    obtain ⟨d', e3, _, _, _, d4⟩ := pX0_runR (dr := dr) h
    simp only [it_t]
    rw [e1, bd_s, e2, bd_s, e3, bd_s, gd_n (by omega) (by decide), gd_n (by omega) (by decide), cl_n (by omega), d4 m (by omega), q3 m (by omega)]
    exact ⟨_, _, _, rfl, rfl, hf⟩
theorem m5_v : ∀ j, j < 4 → ∀ k, k ≤ 4 → ((24 : Int32) + (5 : Int32) * nI j) + nI k = nI (24 + 5 * j + k) := by decide
theorem m3_v : ∀ j, j < 8 → ∀ k, k ≤ 2 → (3 : Int32) * nI j + nI k = nI (3 * j + k) := by decide
theorem sim_party {mo rd cc : S2} {M P : Nat} {p1 p2 : Int32} (h : RR mo rd M P) : ∃ v, fX8_party cc rd p1 p2 = some v ∧ fX9_party mo p1 p2 = some v := by
  obtain ⟨⟨_, a2, _, _⟩, _, hM, hP, m0, m1, r0, r1⟩ := id h
  unfold fX8_party fX9_party
  rw [pX2_hasParty r1, bd_s, pX9_isParty m1 (by omega), bd_s, w8, bd_s, w9 (lo := 0) (hi := 4) (by decide) (by decide), bd_s]
  cases hb : blw p1 P with
  | false => exact ⟨_, rfl, rfl⟩
  | true =>
    obtain ⟨p, rfl, hp⟩ := blw_n (by omega) hb
    simp only [it_t]
    cases hw : win p2 0 4 with
    | false => exact ⟨_, rfl, rfl⟩
    | true =>
      obtain ⟨k, rfl, hk⟩ := win_le (h := 4) (by decide) hw
      obtain ⟨c0, c1, c2, c3, c4⟩ := a2 p hp
      simp only [Nat.zero_add] at c0 c1 c2 c3 c4
      simp only [it_t]
      rw [m5_v p (by omega) k hk, gd_n (n := 177) (by omega) (by decide), cl_n (i := 24 + 5 * p + k) (by omega)]
      simp only [gd_n (show p < 4 by omega) (by decide), cl_n (show p < 2 ^ 31 by omega)]
      have hk' : k = 0 ∨ k = 1 ∨ k = 2 ∨ k = 3 ∨ k = 4 := by omega
      rcases hk' with rfl | rfl | rfl | rfl | rfl
      · exact ⟨_, rfl, by rw [Nat.add_zero, c0]⟩
      · exact ⟨_, rfl, by rw [c1]⟩
      · exact ⟨_, rfl, by rw [c2]⟩
      · exact ⟨_, rfl, by rw [c3]⟩
      · exact ⟨_, rfl, by rw [c4]⟩
theorem sim_mile {mo rd cc : S2} {M P : Nat} {p1 p2 : Int32} (h : RR mo rd M P) : ∃ v mo', fX8_mile cc rd p1 p2 = some v ∧ fX9_mile mo p1 p2 = some (v, mo') ∧ SF mo mo' := by
  obtain ⟨_, _, hM, hP, m0, m1, r0, r1⟩ := id h
  unfold fX8_mile fX9_mile
  rw [pX2_hasMile r0, bd_s, pX9_isMile m0 (by omega), bd_s, w8, bd_s, w9 (lo := 0) (hi := 4) (by decide) (by decide), bd_s]
  cases hb : blw p1 M with
  | false => exact ⟨_, _, rfl, rfl, SF_r mo⟩
  | true =>
    obtain ⟨m, rfl, hm⟩ := blw_n (by omega) hb
    simp only [it_t]
    cases hw : win p2 0 4 with
    | false => exact ⟨_, _, rfl, rfl, SF_r mo⟩
    | true =>
      obtain ⟨k, rfl, hk⟩ := win_le (h := 4) (by decide) hw
      obtain ⟨s1, e1, R, hf⟩ := pX9_startsR h
      simp only [it_t]
      rw [e1, bd_s, pX2_minutesOf (by omega), bd_s, pX2_hearingOf (by omega), bd_s, pX9_minutes R hM hm, bd_s, pX9_hearing R hM hm, bd_s]
      simp only [gd_n (show m < 8 by omega) (by decide), cl_n (show m < 2 ^ 31 by omega)]
      have hk' : k = 0 ∨ k = 1 ∨ k = 2 ∨ k = 3 ∨ k = 4 := by omega
      rcases hk' with rfl | rfl | rfl | rfl | rfl
      · exact ⟨_, _, rfl, by rw [if_neg (by decide), show nI 0 = 0 from rfl, pX9_om0 R hM hm, bd_s], hf⟩
      · exact ⟨_, _, rfl, by rw [if_neg (by decide), show nI 1 = 1 from rfl, pX9_om1 R hM hm, bd_s], hf⟩
      · exact ⟨_, _, rfl, by rw [if_neg (by decide), show nI 2 = 2 from rfl, pX9_om2 R hM hm, bd_s], hf⟩
      · exact ⟨_, _, rfl, rfl, hf⟩
      · exact ⟨_, _, rfl, rfl, hf⟩
theorem sim_strain {mo rd cc : S2} {M P : Nat} {p1 p2 : Int32} (h : RR mo rd M P) : ∃ v mo', fX8_strain cc rd p1 p2 = some v ∧ fX9_strain mo p1 p2 = some (v, mo') ∧ SF mo mo' := by
  obtain ⟨_, _, hM, hP, m0, m1, r0, r1⟩ := id h
  unfold fX8_strain fX9_strain
  rw [pX2_hasParty r1, bd_s, pX9_isParty m1 (by omega), bd_s, pX2_hasMile r0, bd_s, pX9_isMile m0 (by omega), bd_s]
  cases hb : blw p1 P with
  | false => exact ⟨_, _, rfl, rfl, SF_r mo⟩
  | true =>
    obtain ⟨p, rfl, hp⟩ := blw_n (by omega) hb
    simp only [it_t]
    cases hc : blw p2 M with
    | false => exact ⟨_, _, rfl, rfl, SF_r mo⟩
    | true =>
      obtain ⟨m, rfl, hm⟩ := blw_n (by omega) hc
      obtain ⟨s1, e1, R, hf⟩ := pX9_startsR h
      simp only [it_t]
      rw [e1, bd_s, pX2_strainOf (by omega) (by omega), bd_s, pX9_strainOf R hM hP hp hm, bd_s]
      exact ⟨_, _, rfl, rfl, hf⟩
theorem pX2_minutesOfAll {rd : S2} {M : Nat} (h0 : rd 0 0 = nI M) (hM : M ≤ 8) : fX2_minutesOfAll rd = some (bg rd M) := by
  unfold fX2_minutesOfAll
  have key := wh_f (body := fun (c : Int32 × Int32) => fX2_minutesOfAll_b4 rd c.1 c.2) (fun i => (bg rd i, nI i)) (bg rd M, nI M) M (fun i hi => by
    unfold fX2_minutesOfAll_b4
    rw [h0]
    dsimp only
    rw [if_neg (nI_ge hi (by omega)), pX2_minutesOf (by omega), bd_s, nm_u, nm_u, nI_p1]
    rfl) (by
    unfold fX2_minutesOfAll_b4
    rw [h0]
    dsimp only
    rw [if_pos (nI_le (Nat.le_refl _) (by omega))]) (n := 5000) (by omega)
  have e0 : ((0 : Int32), (0 : Int32)) = (bg rd 0, nI 0) := rfl
  rw [e0, key, bd_s]
theorem sim_rule {mo rd cc : S2} {M P : Nat} {p1 : Int32} (h : RR mo rd M P) : ∃ v mo', fX8_rule cc rd p1 = some v ∧ fX9_rule mo p1 = some (v, mo') ∧ SF mo mo' := by
  obtain ⟨⟨_, _, a3, a4⟩, _, hM, hP, m0, m1, r0, r1⟩ := id h
  obtain ⟨s1, s2, e1, e2, R, ⟨q1, _, _⟩, hf⟩ := pX9_drivesR h
  unfold fX8_rule fX9_rule
  have key := wh_f (body := fun (c : Int32 × Int32 × S2) => fX9_rule_b12 c.2.2 p1 c.1 c.2.1) (fun i => (bg rd i, nI i, s2)) (bg rd M, nI M, s2) M (fun i hi => by
    show fX9_rule_b12 s2 p1 (bg rd i) (nI i) = _
    unfold fX9_rule_b12
    rw [R.2.2.2.2.1, if_neg (nI_ge hi (by omega)), pX9_minutes R hM hi, bd_s, nm_u, nm_u, nI_p1]
    rfl) (by
    show fX9_rule_b12 s2 p1 (bg rd M) (nI M) = _
    unfold fX9_rule_b12
    rw [R.2.2.2.2.1, if_pos (nI_le (Nat.le_refl _) (by omega))]) (n := 5000) (by omega)
  have e0 : ((0 : Int32), (0 : Int32), s2) = (bg rd 0, nI 0, s2) := rfl
  rw [e1, bd_s, e2, bd_s, e0, key, bd_s, pX2_minutesOfAll r0 hM, bd_s, pX2_drivenMiles r0 hM, bd_s]
  dsimp only
  rw [q1, R.2.2.2.2.1, R.2.2.2.2.2, r0, r1]
  by_cases k0 : p1 = 0
  · rw [if_pos k0, if_pos k0]; exact ⟨_, _, rfl, rfl, hf⟩
  rw [if_neg k0, if_neg k0]
  by_cases k1 : p1 = 1
  · rw [if_pos k1, if_pos k1]; exact ⟨_, _, rfl, rfl, hf⟩
  rw [if_neg k1, if_neg k1]
  by_cases k2 : p1 = 2
  · rw [if_pos k2, if_pos k2, k2]
    unfold fX9_rule_82
    rw [gd_t (by decide), show Int32.toNatClampNeg ((44 : Int32) + 2 - 2) = 44 from rfl, hf 1 44 (by omega), ← a3]
    exact ⟨_, _, rfl, rfl, hf⟩
  rw [if_neg k2, if_neg k2]
  by_cases k3 : p1 = 3
  · rw [if_pos k3, if_pos k3, k3]
    unfold fX9_rule_82
    rw [gd_t (by decide), show Int32.toNatClampNeg ((44 : Int32) + 3 - 2) = 45 from rfl, hf 1 45 (by omega), ← a4]
    exact ⟨_, _, rfl, rfl, hf⟩
  rw [if_neg k3, if_neg k3]
  by_cases k4 : p1 = 4
  · rw [if_pos k4, if_pos k4]; exact ⟨_, _, rfl, rfl, hf⟩
  rw [if_neg k4, if_neg k4]
  by_cases k5 : p1 = 5
  · rw [if_pos k5, if_pos k5]; exact ⟨_, _, rfl, rfl, hf⟩
  rw [if_neg k5, if_neg k5]
  exact ⟨_, _, rfl, rfl, hf⟩
