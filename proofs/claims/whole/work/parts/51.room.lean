/-! PURE: room, snow, rain -/
theorem c_vu {cc rd tr dr : S2} {M P : Nat} {a b : Int32} (h : RQ rd M P) : ∃ tr' dr', fX8_verdictsUnder cc rd tr dr a b = some (nI (nv (sE (sE rd 0 2 a) 0 3 b) M P), tr', dr') := by
  have hP := h.2.2.2.1
  obtain ⟨d, e1, hc⟩ := pX2_copy (rd := tr) (ro := rd)
  have Q : RQ (sE (sE rd 0 2 a) 0 3 b) M P := RQ_g (RQ_g h (by omega)) (by omega)
  have C : CP (sE (sE d 0 2 a) 0 3 b) (sE (sE rd 0 2 a) 0 3 b) := CP_e (CP_e hc)
  obtain ⟨d', e2, q0, q⟩ := run_v (dr := dr) (RQ_cp Q C)
  unfold fX8_verdictsUnder
  rw [e1, bd_s, nm_u, nm_u, e2, bd_s, ver_v q0 hP q, bd_s, nv_c (CV_cp C h.2.2.1 hP)]
  exact ⟨_, _, rfl⟩
theorem sim_room {mo rd tr dr cc : S2} {M P : Nat} (h : RR mo rd M P) : ∃ v tr' dr' mo', fX8_room cc rd tr dr = some (v, tr', dr') ∧ fX9_room mo = some (v, mo') ∧ SF mo mo' := by
  obtain ⟨_, _, hM, hP, m0, m1, r0, r1⟩ := id h
  have Q := RQ_RR h
  have V : ∀ (w : Int32) (tr dr : S2), ∃ tr' dr', fX8_verdictsUnder cc rd tr dr w (rd 0 3) = some (nI (nv (sE rd 0 2 w) M P), tr', dr') := fun w tr dr => by
    have := c_vu (cc := cc) (tr := tr) (dr := dr) (a := w) (b := rd 0 3) Q
    have e : sE (sE rd 0 2 w) 0 3 (rd 0 3) = sE rd 0 2 w := by
      have e0 := sE_id (σ := sE rd 0 2 w) (k := 0) (i := 3)
      rwa [sE_o (σ := rd) (k := 0) (i := 2) (j := 3) (x := w) (by omega)] at e0
    rwa [e] at this
  unfold fX8_room fX9_room fX9_leastOf
  obtain ⟨tr1, dr1, x1⟩ := V 4 tr dr
  obtain ⟨s1, e1, R1, f1⟩ := pX9_startsR h
  have RW : ∀ w, RM (sE s1 2 44 w) (sE rd 0 2 w) M P := fun w => RM_set (k := 2) R1 hM hP (by omega)
  obtain ⟨s2, e2, _, f2⟩ := ref_n (RW 4) hM hP
  rw [x1, bd_s, nm_u, e1, bd_s, gd_t (by decide), nm_u, show Int32.toNatClampNeg (44 : Int32) = 44 from rfl, e2, bd_s, nm_u]
  have RW2 : ∀ w, RM (sE s2 2 44 w) (sE rd 0 2 w) M P := fun w => by
    have := RW w
    rw [← sE_sE (σ := s1) (x := 4)] at this
    exact RM_re this f2
  have F2 : SF mo s2 := SF_t f1 (fun a b hab => by rw [f2 a b (by omega) (by omega), sE_v, if_neg (by omega)])
  generalize nv (sE rd 0 2 4) M P = D
  have key : ∃ r u, wh (fun (c : Int32 × S2 × S2) => fX8_room_b15 cc rd c.2.1 c.2.2 (nI D) c.1) 5000 ((1 : Int32), tr1, dr1) = some r ∧ wh (fun (c : Int32 × S2) => fX9_leastOf_b20 c.2 (44 : Int32) (4 : Int32) (nI D) c.1) 5000 ((1 : Int32), s2) = some u ∧ ((∃ c, u = .inl c ∧ r.1 = 4 ∧ SF mo c.2) ∨ ∃ c, u = .inr c ∧ r.1 = c.1 ∧ SF mo c.2) := by
    refine wh_2 (b1 := fun (c : Int32 × S2 × S2) => fX8_room_b15 cc rd c.2.1 c.2.2 (nI D) c.1) (b2 := fun (c : Int32 × S2) => fX9_leastOf_b20 c.2 (44 : Int32) (4 : Int32) (nI D) c.1)
      (fun i s t => s.1 = nI i ∧ t.1 = nI i ∧ (∀ w, RM (sE t.2 2 44 w) (sE rd 0 2 w) M P) ∧ SF mo t.2)
      (fun r u => (∃ c, u = .inl c ∧ r.1 = 4 ∧ SF mo c.2) ∨ ∃ c, u = .inr c ∧ r.1 = c.1 ∧ SF mo c.2) 4 (fun i s t hi hI => ?_) (fun s t hI => ?_) 5000 1 _ _ (by decide) (by decide) ⟨rfl, rfl, RW2, F2⟩
    · obtain ⟨k1, k2, k3, k4⟩ := hI
      obtain ⟨tr', dr', y1⟩ := V (nI i) s.2.1 s.2.2
      obtain ⟨s3, e3, _, f3⟩ := ref_n (k3 (nI i)) hM hP
      have F3 : SF mo s3 := SF_t k4 (fun a b hab => by rw [f3 a b (by omega) (by omega), sE_v, if_neg (by omega)])
      have R3 : ∀ w, RM (sE s3 2 44 w) (sE rd 0 2 w) M P := fun w => by
        have := k3 w
        rw [← sE_sE (σ := t.2) (x := nI i)] at this
        exact RM_re this f3
      have E1 : fX8_room_b15 cc rd s.2.1 s.2.2 (nI D) s.1 = if nI (nv (sE rd 0 2 (nI i)) M P) = nI D then some (.inr (nI i, tr', dr')) else some (.inl (nI (i + 1), tr', dr')) := by
        unfold fX8_room_b15
        rw [k1, if_neg (show ¬ (4 : Int32) ≤ nI i from nI_ge (a := i) (b := 4) hi (by decide)), y1, bd_s]
        simp only [nm_u, nI_p1]
      have E2 : fX9_leastOf_b20 t.2 (44 : Int32) (4 : Int32) (nI D) t.1 = if nI (nv (sE rd 0 2 (nI i)) M P) = nI D then some (.inr (.inr (nI i, s3))) else some (.inl (nI (i + 1), s3)) := by
        unfold fX9_leastOf_b20
        rw [k2, if_neg (show ¬ (4 : Int32) ≤ nI i from nI_ge (a := i) (b := 4) hi (by decide)), gd_t (by decide), nm_u, show Int32.toNatClampNeg (44 : Int32) = 44 from rfl, e3, bd_s]
        simp only [nm_u, nI_p1]
      by_cases c1 : nI (nv (sE rd 0 2 (nI i)) M P) = nI D
      · rw [if_pos c1] at E1 E2
        right
        exact ⟨_, _, E1, E2, Or.inr ⟨_, rfl, rfl, F3⟩⟩
      · rw [if_neg c1] at E1 E2
        left
        exact ⟨_, _, E1, E2, rfl, rfl, R3, F3⟩
    · obtain ⟨k1, k2, k3, k4⟩ := hI
      have E1 : fX8_room_b15 cc rd s.2.1 s.2.2 (nI D) s.1 = some (.inr (s.1, s.2.1, s.2.2)) := by
        unfold fX8_room_b15
        rw [k1, if_pos (by decide)]
      have E2 : fX9_leastOf_b20 t.2 (44 : Int32) (4 : Int32) (nI D) t.1 = some (.inr (.inl (t.1, t.2))) := by
        unfold fX9_leastOf_b20
        rw [k2, if_pos (by decide)]
      exact ⟨_, _, E1, E2, Or.inl ⟨_, rfl, k1, k4⟩⟩
  obtain ⟨r, u, w1, w2, hq⟩ := key
  rw [w1, bd_s, w2, bd_s]
  rcases hq with ⟨c, rfl, g1, g2⟩ | ⟨c, rfl, g1, g2⟩
  · exact ⟨_, _, _, _, rfl, by rw [g1]; rfl, g2⟩
  · exact ⟨_, _, _, _, rfl, by rw [g1]; rfl, g2⟩
theorem sim_snow {mo rd tr dr cc : S2} {M P : Nat} (h : RR mo rd M P) : ∃ v tr' dr' mo', fX8_snow cc rd tr dr = some (v, tr', dr') ∧ fX9_snow mo = some (v, mo') ∧ SF mo mo' := by
  obtain ⟨_, _, hM, hP, m0, m1, r0, r1⟩ := id h
  have Q := RQ_RR h
  have V : ∀ (w : Int32) (tr dr : S2), ∃ tr' dr', fX8_verdictsUnder cc rd tr dr (rd 0 2) w = some (nI (nv (sE rd 0 3 w) M P), tr', dr') := fun w tr dr => by
    have := c_vu (cc := cc) (tr := tr) (dr := dr) (a := rd 0 2) (b := w) Q
    rwa [sE_id] at this
  unfold fX8_snow fX9_snow fX9_leastOf
  obtain ⟨tr1, dr1, x1⟩ := V 99 tr dr
  obtain ⟨s1, e1, R1, f1⟩ := pX9_startsR h
  have RW : ∀ w, RM (sE s1 2 45 w) (sE rd 0 3 w) M P := fun w => RM_set (k := 3) R1 hM hP (by omega)
  obtain ⟨s2, e2, _, f2⟩ := ref_n (RW 99) hM hP
  rw [x1, bd_s, nm_u, e1, bd_s, gd_t (by decide), nm_u, show Int32.toNatClampNeg (45 : Int32) = 45 from rfl, e2, bd_s, nm_u]
  have RW2 : ∀ w, RM (sE s2 2 45 w) (sE rd 0 3 w) M P := fun w => by
    have := RW w
    rw [← sE_sE (σ := s1) (x := 99)] at this
    exact RM_re this f2
  have F2 : SF mo s2 := SF_t f1 (fun a b hab => by rw [f2 a b (by omega) (by omega), sE_v, if_neg (by omega)])
  generalize nv (sE rd 0 3 99) M P = D
  have key : ∃ r u, wh (fun (c : Int32 × S2 × S2) => fX8_snow_b16 cc rd c.2.1 c.2.2 (nI D) c.1) 5000 ((0 : Int32), tr1, dr1) = some r ∧ wh (fun (c : Int32 × S2) => fX9_leastOf_b20 c.2 (45 : Int32) (99 : Int32) (nI D) c.1) 5000 ((0 : Int32), s2) = some u ∧ ((∃ c, u = .inl c ∧ r.1 = 99 ∧ SF mo c.2) ∨ ∃ c, u = .inr c ∧ r.1 = c.1 ∧ SF mo c.2) := by
    refine wh_2 (b1 := fun (c : Int32 × S2 × S2) => fX8_snow_b16 cc rd c.2.1 c.2.2 (nI D) c.1) (b2 := fun (c : Int32 × S2) => fX9_leastOf_b20 c.2 (45 : Int32) (99 : Int32) (nI D) c.1)
      (fun i s t => s.1 = nI i ∧ t.1 = nI i ∧ (∀ w, RM (sE t.2 2 45 w) (sE rd 0 3 w) M P) ∧ SF mo t.2)
      (fun r u => (∃ c, u = .inl c ∧ r.1 = 99 ∧ SF mo c.2) ∨ ∃ c, u = .inr c ∧ r.1 = c.1 ∧ SF mo c.2) 99 (fun i s t hi hI => ?_) (fun s t hI => ?_) 5000 0 _ _ (by decide) (by decide) ⟨rfl, rfl, RW2, F2⟩
    · obtain ⟨k1, k2, k3, k4⟩ := hI
      obtain ⟨tr', dr', y1⟩ := V (nI i) s.2.1 s.2.2
      obtain ⟨s3, e3, _, f3⟩ := ref_n (k3 (nI i)) hM hP
      have F3 : SF mo s3 := SF_t k4 (fun a b hab => by rw [f3 a b (by omega) (by omega), sE_v, if_neg (by omega)])
      have R3 : ∀ w, RM (sE s3 2 45 w) (sE rd 0 3 w) M P := fun w => by
        have := k3 w
        rw [← sE_sE (σ := t.2) (x := nI i)] at this
        exact RM_re this f3
      have E1 : fX8_snow_b16 cc rd s.2.1 s.2.2 (nI D) s.1 = if nI (nv (sE rd 0 3 (nI i)) M P) = nI D then some (.inr (nI i, tr', dr')) else some (.inl (nI (i + 1), tr', dr')) := by
        unfold fX8_snow_b16
        rw [k1, if_neg (show ¬ (99 : Int32) ≤ nI i from nI_ge (a := i) (b := 99) hi (by decide)), y1, bd_s]
        simp only [nm_u, nI_p1]
      have E2 : fX9_leastOf_b20 t.2 (45 : Int32) (99 : Int32) (nI D) t.1 = if nI (nv (sE rd 0 3 (nI i)) M P) = nI D then some (.inr (.inr (nI i, s3))) else some (.inl (nI (i + 1), s3)) := by
        unfold fX9_leastOf_b20
        rw [k2, if_neg (show ¬ (99 : Int32) ≤ nI i from nI_ge (a := i) (b := 99) hi (by decide)), gd_t (by decide), nm_u, show Int32.toNatClampNeg (45 : Int32) = 45 from rfl, e3, bd_s]
        simp only [nm_u, nI_p1]
      by_cases c1 : nI (nv (sE rd 0 3 (nI i)) M P) = nI D
      · rw [if_pos c1] at E1 E2
        right
        exact ⟨_, _, E1, E2, Or.inr ⟨_, rfl, rfl, F3⟩⟩
      · rw [if_neg c1] at E1 E2
        left
        exact ⟨_, _, E1, E2, rfl, rfl, R3, F3⟩
    · obtain ⟨k1, k2, k3, k4⟩ := hI
      have E1 : fX8_snow_b16 cc rd s.2.1 s.2.2 (nI D) s.1 = some (.inr (s.1, s.2.1, s.2.2)) := by
        unfold fX8_snow_b16
        rw [k1, if_pos (by decide)]
      have E2 : fX9_leastOf_b20 t.2 (45 : Int32) (99 : Int32) (nI D) t.1 = some (.inr (.inl (t.1, t.2))) := by
        unfold fX9_leastOf_b20
        rw [k2, if_pos (by decide)]
      exact ⟨_, _, E1, E2, Or.inl ⟨_, rfl, k1, k4⟩⟩
  obtain ⟨r, u, w1, w2, hq⟩ := key
  rw [w1, bd_s, w2, bd_s]
  rcases hq with ⟨c, rfl, g1, g2⟩ | ⟨c, rfl, g1, g2⟩
  · exact ⟨_, _, _, _, rfl, by rw [g1]; rfl, g2⟩
  · exact ⟨_, _, _, _, rfl, by rw [g1]; rfl, g2⟩
theorem c_vm {cc rd tr dr : S2} {M P m : Nat} (h : RQ rd M P) (hm : m < 8) : ∃ tr' dr', fX8_verdictsWithOtherMud cc rd tr dr (nI m) = some (nI (nv (sE rd 3 m ((1 : Int32) - rd 3 m)) M P), tr', dr') := by
  have hP := h.2.2.2.1
  obtain ⟨d, e1, hc⟩ := pX2_copy (rd := tr) (ro := rd)
  have Q : RQ (sE rd 3 m ((1 : Int32) - rd 3 m)) M P := RQ_g h (by omega)
  have C : CP (sE d 3 m ((1 : Int32) - rd 3 m)) (sE rd 3 m ((1 : Int32) - rd 3 m)) := CP_e hc
  obtain ⟨d', e2, q0, q⟩ := run_v (dr := dr) (RQ_cp Q C)
  unfold fX8_verdictsWithOtherMud
  rw [e1, bd_s, gd_n hm (by decide), cl_n (by omega), nm_u, e2, bd_s, ver_v q0 hP q, bd_s, nv_c (CV_cp C h.2.2.1 hP)]
  exact ⟨_, _, rfl⟩
theorem sim_rain {mo rd tr dr cc : S2} {M P : Nat} {p1 : Int32} (h : RR mo rd M P) : ∃ v tr' dr' mo', fX8_rain cc rd tr dr p1 = some (v, tr', dr') ∧ fX9_rain mo p1 = some (v, mo') ∧ SF mo mo' := by
  obtain ⟨_, _, hM, hP, m0, m1, r0, r1⟩ := id h
  have Q := RQ_RR h
  unfold fX8_rain fX9_rain
  rw [w8, bd_s, pX9_isPart, bd_s]
  cases hw : win p1 0 1 with
  | false => exact ⟨_, _, _, _, rfl, rfl, SF_r mo⟩
  | true =>
    obtain ⟨d1, x1, q0, q1⟩ := run_v (dr := dr) Q
    obtain ⟨s1, e1, R1, f1⟩ := pX9_startsR h
    obtain ⟨s2, e2, _, f2⟩ := ref_n R1 hM hP
    have F2 : SF mo s2 := SF_t f1 (SF_DF f2)
    simp only [it_t]
    rw [x1, bd_s, ver_v q0 hP q1, bd_s, e1, bd_s, e2, bd_s, nm_u]
    have key : ∃ r u, wh (fun (c : Int32 × Int32 × Int32 × S2 × S2) => fX8_rain_b36 cc rd c.2.2.2.1 c.2.2.2.2 p1 c.1 c.2.1 c.2.2.1) 5000 (nI (nv rd M P), (-4 : Int32), (0 : Int32), tr, d1) = some r ∧ wh (fun (c : Int32 × Int32 × Int32 × S2) => fX9_rain_b24 c.2.2.2 p1 c.1 c.2.1 c.2.2.1) 5000 (nI (nv rd M P), (-4 : Int32), (0 : Int32), s2) = some u ∧ (r.1 = u.1 ∧ r.2.1 = u.2.1 ∧ SF mo u.2.2.2) := by
      refine wh_2 (b1 := fun (c : Int32 × Int32 × Int32 × S2 × S2) => fX8_rain_b36 cc rd c.2.2.2.1 c.2.2.2.2 p1 c.1 c.2.1 c.2.2.1) (b2 := fun (c : Int32 × Int32 × Int32 × S2) => fX9_rain_b24 c.2.2.2 p1 c.1 c.2.1 c.2.2.1)
        (fun i s t => s.1 = t.1 ∧ s.2.1 = t.2.1 ∧ s.2.2.1 = nI i ∧ t.2.2.1 = nI i ∧ SF mo t.2.2.2)
        (fun r u => r.1 = u.1 ∧ r.2.1 = u.2.1 ∧ SF mo u.2.2.2) M (fun i s t hi hI => ?_) (fun s t hI => ?_) 5000 0 _ _ (by omega) (by omega) ⟨rfl, rfl, rfl, rfl, F2⟩
      · obtain ⟨k1, k2, k3, k4, k5⟩ := hI
        left
        obtain ⟨tr', dr', y1⟩ := c_vm (cc := cc) (tr := s.2.2.2.1) (dr := s.2.2.2.2) Q (show i < 8 by omega)
        obtain ⟨s3, e3, R3, f3⟩ := pX9_startsR (RR_SF h k5)
        obtain ⟨s4, e4, _, f4⟩ := ref_n (RM_mile (k := 2) (v := (1 : Int32) - rd 3 i) R3 hM hP hi (by omega)) hM hP
        have F4 : SF mo s4 := SF_t k5 (SF_t f3 (fun a b hab => by rw [f4 a b (by omega) (by omega), sE_v, if_neg (by omega)]))
        have E1 : fX8_rain_b36 cc rd s.2.2.2.1 s.2.2.2.2 p1 s.1 s.2.1 s.2.2.1 = if nI (nv (sE rd 3 i ((1 : Int32) - rd 3 i)) M P) ≤ s.1 then some (.inl (s.1, s.2.1, nI (i + 1), tr', dr')) else some (.inl (nI (nv (sE rd 3 i ((1 : Int32) - rd 3 i)) M P), nI i, nI (i + 1), tr', dr')) := by
          unfold fX8_rain_b36
          rw [k3, r0, if_neg (nI_ge hi (by omega)), y1, bd_s]
          simp only [nm_u, nI_p1]
        have E2 : fX9_rain_b24 t.2.2.2 p1 t.1 t.2.1 t.2.2.1 = if nI (nv (sE rd 3 i ((1 : Int32) - rd 3 i)) M P) ≤ s.1 then some (.inl (s.1, s.2.1, nI (i + 1), s4)) else some (.inl (nI (nv (sE rd 3 i ((1 : Int32) - rd 3 i)) M P), nI i, nI (i + 1), s4)) := by
          unfold fX9_rain_b24 fX9_rain_75
          rw [k4, k5 0 0 (by omega), m0, if_neg (nI_ge hi (by omega)), e3, bd_s, pX9_om2 R3 hM hi, bd_s, m3_2 i (by omega), gd_n (by omega) (by decide), cl_n (i := 3 * i + 2) (by omega), nm_u, e4, bd_s, ← k1, ← k2]
          simp only [nm_u, nI_p1]
          by_cases c1 : nI (nv (sE rd 3 i ((1 : Int32) - rd 3 i)) M P) ≤ s.1
          · simp only [if_pos c1]
          · simp only [if_neg c1]
        by_cases c1 : nI (nv (sE rd 3 i ((1 : Int32) - rd 3 i)) M P) ≤ s.1
        · rw [if_pos c1] at E1 E2
          exact ⟨_, _, E1, E2, rfl, rfl, rfl, rfl, F4⟩
        · rw [if_neg c1] at E1 E2
          exact ⟨_, _, E1, E2, rfl, rfl, rfl, rfl, F4⟩
      · obtain ⟨k1, k2, k3, k4, k5⟩ := hI
        have E1 : fX8_rain_b36 cc rd s.2.2.2.1 s.2.2.2.2 p1 s.1 s.2.1 s.2.2.1 = some (.inr (s.1, s.2.1, s.2.2.1, s.2.2.2.1, s.2.2.2.2)) := by
          unfold fX8_rain_b36
          rw [k3, r0, if_pos (nI_le (Nat.le_refl M) (by omega))]
        have E2 : fX9_rain_b24 t.2.2.2 p1 t.1 t.2.1 t.2.2.1 = some (.inr (t.1, t.2.1, t.2.2.1, t.2.2.2)) := by
          unfold fX9_rain_b24
          rw [k4, k5 0 0 (by omega), m0, if_pos (nI_le (Nat.le_refl M) (by omega))]
        exact ⟨_, _, E1, E2, k1, k2, k5⟩
    obtain ⟨r, u, w1, w2, g1, g2, g3⟩ := key
    rw [w1, bd_s, w2, bd_s, g1, g2]
    by_cases c1 : u.2.1 = -4
    · rcases win_01 hw with rfl | rfl
      · rw [if_pos rfl, if_pos c1, c1]
        exact ⟨_, _, _, _, rfl, rfl, g3⟩
      · rw [if_neg (by decide), if_pos c1, if_pos c1, c1]
        exact ⟨_, _, _, _, rfl, rfl, g3⟩
    · rcases win_01 hw with rfl | rfl
      · rw [if_pos rfl, if_neg c1, if_pos rfl]
        exact ⟨_, _, _, _, rfl, rfl, g3⟩
      · rw [if_neg (by decide), if_neg c1, if_neg c1, if_neg (by decide)]
        exact ⟨_, _, _, _, rfl, rfl, g3⟩
