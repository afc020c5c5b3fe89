/-! PURE: oats -/
theorem RM_re {mo s rd : S2} {M P x : Nat} {w : Int32} (h : RM (sE mo 2 x w) rd M P) (hf : ∀ a b, (a < 6 ∨ 11 < a) → (a ≠ 0 ∨ b ≠ 14) → s a b = mo a b) : RM (sE s 2 x w) rd M P := by
  refine RM_fr h (fun b => ?_) ?_ ?_
  · rw [sE_v, sE_v, hf 2 b (by omega) (by omega)]
  · rw [sE_v, if_neg (by omega), sE_v, if_neg (by omega), hf 0 0 (by omega) (by omega)]
  · rw [sE_v, if_neg (by omega), sE_v, if_neg (by omega), hf 0 1 (by omega) (by omega)]
theorem RQ_e {rd : S2} {M P k i : Nat} {w : Int32} (h : RQ rd M P) (hk : 1 ≤ k ∧ k ≠ 8) : RQ (sE rd k i w) M P := by
  obtain ⟨h0, h1, hM, hP, hs⟩ := h
  refine ⟨by rw [sE_v, if_neg (by omega), h0], by rw [sE_v, if_neg (by omega), h1], hM, hP, fun p hp => ?_⟩
  rw [sE_v, if_neg (by omega)]
  exact hs p hp
theorem pX0_has {dr : S2} {p : Nat} (hp : p < 4) : fX0_hasVerdict dr (nI p) = if dr 1 p = -4 then some 0 else some 1 := by
  unfold fX0_hasVerdict
  rw [gd_n hp (by decide), cl_n (by omega)]
theorem sim_oats {mo rd tr dr cc : S2} {M P : Nat} {p1 : Int32} (h : RR mo rd M P) : ∃ v tr' dr' mo', fX8_oats cc rd tr dr p1 = some (v, tr', dr') ∧ fX9_oats mo p1 = some (v, mo') ∧ SF mo mo' := by
  obtain ⟨_, _, hM, hP, m0, m1, r0, r1⟩ := id h
  unfold fX8_oats fX9_oats
  rw [pX2_hasParty r1, bd_s, pX9_isParty m1 (by omega), bd_s]
  cases hb : blw p1 P with
  | false => exact ⟨_, _, _, _, rfl, rfl, SF_r mo⟩
  | true =>
    obtain ⟨p, rfl, hp⟩ := blw_n (by omega) hb
    have hp4 : p < 4 := by omega
    obtain ⟨d, e1, hc⟩ := pX2_copy (rd := tr) (ro := rd)
    obtain ⟨s1, e2, R1, f1⟩ := pX9_startsR h
    simp only [it_t]
    rw [e1, bd_s, e2, bd_s]
    have RD : RM s1 d M P := RM_cp R1 hM hP hc
    have QD : RQ d M P := RQ_cp (RQ_RR h) hc
    have key : ∃ r u, wh (fun (c : Int32 × S2 × S2) => fX8_oats_b26 cc rd c.2.1 c.2.2 (nI p) c.1) 5000 ((0 : Int32), d, dr) = some r ∧ wh (fun (c : Int32 × S2) => fX9_oats_b16 c.2 (nI p) c.1) 5000 ((0 : Int32), s1) = some u ∧ ((∃ a b c a' c', r = .inl (a, b, c) ∧ u = .inl (a', c') ∧ SF mo c') ∨ ∃ a b c c', r = .inr (a, b, c) ∧ u = .inr (a, c') ∧ SF mo c') := by
      refine wh_2 (b1 := fun (c : Int32 × S2 × S2) => fX8_oats_b26 cc rd c.2.1 c.2.2 (nI p) c.1) (b2 := fun (c : Int32 × S2) => fX9_oats_b16 c.2 (nI p) c.1)
        (fun i s t => s.1 = nI i ∧ t.1 = nI i ∧ (∀ w, sE s.2.1 5 p w = sE d 5 p w) ∧ (∀ w, RM (sE t.2 2 (24 + 5 * p + 1) w) (sE d 5 p w) M P) ∧ SF mo t.2)
        _ 100 (fun i s t hi hI => ?_) (fun s t hI => ?_) 5000 0 _ _ (by decide) (by decide) ⟨rfl, rfl, fun w => rfl, fun w => RM_party (k := 1) RD hM hP hp (by omega), f1⟩
      · obtain ⟨k1, k2, k3, k4, k5⟩ := hI
        obtain ⟨s2, e3, q3, f3⟩ := pX9_drives (k4 (nI i)) hM hP
        obtain ⟨d', e4, q4⟩ := RQ_run (dr := s.2.2) (RQ_e (k := 5) (i := p) (w := nI i) QD (by omega))
        have hv := (try_eq q3 q4 hp).1
        have F2 : SF mo s2 := SF_t k5 (fun a b hab => by rw [f3 a b (by omega) (by omega), sE_v, if_neg (by omega)])
        have E1 : fX8_oats_b26 cc rd s.2.1 s.2.2 (nI p) s.1 = if s2 6 p = -4 then some (.inl (nI (i + 1), sE d 5 p (nI i), d')) else some (.inr (.inr (nI i, sE d 5 p (nI i), d'))) := by
          unfold fX8_oats_b26
          rw [k1, if_neg (show ¬ (99 : Int32) < nI i from nI_nlt (a := 99) (b := i) (by omega) (by decide)), gd_n hp4 (by decide), nm_u, cl_n (by omega), k3, e4, bd_s, pX0_has hp4, hv, nm_u, nI_p1]
          by_cases hz : s2 6 p = -4
          · rw [if_pos hz, if_pos hz, bd_s, if_pos rfl]
          · rw [if_neg hz, if_neg hz, bd_s, if_neg (by decide)]
        have E2 : fX9_oats_b16 t.2 (nI p) t.1 = if s2 6 p = -4 then some (.inl (nI (i + 1), s2)) else some (.inr (.inr (nI i, s2))) := by
          unfold fX9_oats_b16
          rw [k2, if_neg (show ¬ (99 : Int32) < nI i from nI_nlt (a := 99) (b := i) (by omega) (by decide)), m5_1 p hp4, gd_n (by omega) (by decide), nm_u, cl_n (i := 24 + 5 * p + 1) (by omega), e3, bd_s, gd_n hp4 (by decide), cl_n (by omega), nm_u, nI_p1]
        by_cases hz : s2 6 p = -4
        · left
          rw [if_pos hz] at E1 E2
          refine ⟨_, _, E1, E2, rfl, rfl, fun w => sE_sE, fun w => ?_, F2⟩
          have := k4 w
          rw [← sE_sE (σ := t.2) (x := nI i)] at this
          exact RM_re this f3
        · right
          rw [if_neg hz] at E1 E2
          exact ⟨_, _, E1, E2, Or.inr ⟨_, _, _, _, rfl, rfl, F2⟩⟩
      · obtain ⟨k1, k2, k3, k4, k5⟩ := hI
        have E1 : fX8_oats_b26 cc rd s.2.1 s.2.2 (nI p) s.1 = some (.inr (.inl (s.1, s.2.1, s.2.2))) := by
          unfold fX8_oats_b26
          rw [k1, if_pos (by decide)]
        have E2 : fX9_oats_b16 t.2 (nI p) t.1 = some (.inr (.inl (t.1, t.2))) := by
          unfold fX9_oats_b16
          rw [k2, if_pos (by decide)]
        exact ⟨_, _, E1, E2, Or.inl ⟨_, _, _, _, _, rfl, rfl, k5⟩⟩
    obtain ⟨r, u, x1, x2, hq⟩ := key
    rw [x1, bd_s, x2, bd_s]
    rcases hq with ⟨a, b, c, a', c', rfl, rfl, hf⟩ | ⟨a, b, c, c', rfl, rfl, hf⟩
    · exact ⟨_, _, _, _, rfl, rfl, hf⟩
    · exact ⟨_, _, _, _, rfl, rfl, hf⟩
