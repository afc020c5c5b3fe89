/-! PURE: place, never -/
theorem c_vf {cc rd tr dr : S2} {M P p m : Nat} (h : RQ rd M P) (hp : p < P) (hm : m < 8) : ∃ tr' dr', fX8_verdictFrom cc rd tr dr (nI p) (nI m) = some (vd (sE rd 8 p (nI m)) M p, tr', dr') := by
  have hP := h.2.2.2.1
  obtain ⟨d, e1, hc⟩ := pX2_copy (rd := tr) (ro := rd)
  have Q : RQ (sE rd 8 p (nI m)) M P := RQ_s h hm
  obtain ⟨d', e2, _, q⟩ := run_v (dr := dr) (RQ_cp Q (CP_e hc))
  unfold fX8_verdictFrom
  rw [e1, bd_s, gd_n (by omega) (by decide), cl_n (by omega), nm_u, e2, bd_s, q p hp, vd_c (CV_cp (CP_e hc) h.2.2.1 hP) hp]
  exact ⟨_, _, rfl⟩
theorem fp0 {s : S2} {x1 x2 : Int32} : fX9_findPlace_73 s x1 x2 0 = some (.inl (x2 + 1, s)) := by
  unfold fX9_findPlace_73 fX9_findPlace_87 fX9_findPlace_108
  rw [if_pos rfl, nm_u, if_pos rfl, nm_u, nm_u, sE_id, sE_id]
theorem fp1 {s : S2} {p : Nat} {x2 : Int32} (hp : p < 4) : fX9_findPlace_73 s (nI p) x2 1 = some (.inl (x2 + 1, sE (sE s 0 15 x2) 0 16 (s 6 p))) := by
  unfold fX9_findPlace_73 fX9_findPlace_87 fX9_findPlace_108
  rw [if_neg (by decide), nm_u, if_neg (by decide), gd_n hp (by decide), cl_n (by omega), nm_u, nm_u, sE_v, if_neg (by omega)]
theorem sim_sp {mo rd tr dr cc : S2} {M P p : Nat} (h : RR mo rd M P) (hp : p < P) : ∃ st tr' dr' mo', fX8_soonestStone cc rd tr dr (nI p) = some (st, tr', dr') ∧ fX9_findPlace mo (nI p) = some mo' ∧ mo' 0 15 = st ∧ SF mo mo' ∧ (st ≠ -4 → ∃ m, m < M ∧ st = nI m ∧ mo' 0 16 = vd (sE rd 8 p (nI m)) M p) := by
  obtain ⟨_, _, hM, hP, m0, m1, r0, r1⟩ := id h
  have hp4 : p < 4 := by omega
  have Q := RQ_RR h
  unfold fX8_soonestStone fX9_findPlace
  rw [nm_u, nm_u]
  have hf0 : SF mo (sE (sE mo 0 15 (-4)) 0 16 1000000) := fun a b hab => by rw [sE_v, if_neg (by omega), sE_v, if_neg (by omega)]
  obtain ⟨s1, e1, R1, f1⟩ := pX9_startsR (RR_SF h hf0)
  have z15 : s1 0 15 = -4 ∧ s1 0 16 = 1000000 := by
    obtain ⟨s', e', q⟩ := pX9_starts (mo := sE (sE mo 0 15 (-4)) 0 16 1000000)
    rw [e1] at e'
    cases e'
    rw [q, q, if_neg (by omega), if_neg (by omega), sE_v, if_neg (by omega), sE_e, sE_e]
    exact ⟨rfl, rfl⟩
  rw [e1, bd_s]
  have key : ∃ r u, wh (fun (c : Int32 × Int32 × Int32 × S2 × S2) => fX8_soonestStone_b9 cc rd c.2.2.2.1 c.2.2.2.2 (nI p) c.1 c.2.1 c.2.2.1) 5000 ((8 : Int32), (-4 : Int32), (0 : Int32), tr, dr) = some r ∧ wh (fun (c : Int32 × S2) => fX9_findPlace_b18 c.2 (nI p) c.1) 5000 ((0 : Int32), s1) = some u ∧ (u.2 0 15 = r.2.1 ∧ SF mo u.2 ∧ (r.2.1 ≠ -4 → ∃ m, m < M ∧ r.2.1 = nI m ∧ u.2 0 16 = vd (sE rd 8 p (nI m)) M p)) := by
    refine wh_2 (b1 := fun (c : Int32 × Int32 × Int32 × S2 × S2) => fX8_soonestStone_b9 cc rd c.2.2.2.1 c.2.2.2.2 (nI p) c.1 c.2.1 c.2.2.1) (b2 := fun (c : Int32 × S2) => fX9_findPlace_b18 c.2 (nI p) c.1)
      (fun i s t => s.2.2.1 = nI i ∧ t.1 = nI i ∧ t.2 0 15 = s.2.1 ∧ ((s.2.1 = -4 ∧ s.1 = 8 ∧ t.2 0 16 = 1000000) ∨ ∃ m, m < M ∧ s.2.1 = nI m ∧ s.1 = vd (sE rd 8 p (nI m)) M p ∧ t.2 0 16 = s.1) ∧ (∀ w, RM (sE t.2 2 (24 + 5 * p + 4) w) (sE rd 8 p w) M P) ∧ SF mo t.2)
      (fun r u => u.2 0 15 = r.2.1 ∧ SF mo u.2 ∧ (r.2.1 ≠ -4 → ∃ m, m < M ∧ r.2.1 = nI m ∧ u.2 0 16 = vd (sE rd 8 p (nI m)) M p)) M (fun i s t hi hI => ?_) (fun s t hI => ?_) 5000 0 _ _ (by omega) (by omega) ⟨rfl, rfl, z15.1, Or.inl ⟨rfl, rfl, z15.2⟩, fun w => RM_party (k := 4) R1 hM hP hp (by omega), SF_t hf0 f1⟩
    · obtain ⟨k1, k2, k3, k4, k5, k6⟩ := hI
      left
      obtain ⟨tr', dr', x1⟩ := c_vf (cc := cc) (tr := s.2.2.2.1) (dr := s.2.2.2.2) Q hp (show i < 8 by omega)
      obtain ⟨s2, x2, q2, f2⟩ := ref_v (k5 (nI i)) hM hP
      have k16 : s2 0 16 = t.2 0 16 := by rw [f2 0 16 (by omega) (by omega), sE_v, if_neg (by omega)]
      have k15 : s2 0 15 = t.2 0 15 := by rw [f2 0 15 (by omega) (by omega), sE_v, if_neg (by omega)]
      have F2 : SF mo s2 := SF_t k6 (fun a b hab => by rw [f2 a b (by omega) (by omega), sE_v, if_neg (by omega)])
      have R2 : ∀ w, RM (sE s2 2 (24 + 5 * p + 4) w) (sE rd 8 p w) M P := fun w => by
        have := k5 w
        rw [← sE_sE (σ := t.2) (x := nI i)] at this
        exact RM_re this f2
      have hvr := vd_r (sE rd 8 p (nI i)) M p
      have E1 : fX8_soonestStone_b9 cc rd s.2.2.2.1 s.2.2.2.2 (nI p) s.1 s.2.1 s.2.2.1 = if vd (sE rd 8 p (nI i)) M p = -4 then some (.inl (s.1, s.2.1, nI (i + 1), tr', dr')) else if s.1 < vd (sE rd 8 p (nI i)) M p then some (.inl (s.1, s.2.1, nI (i + 1), tr', dr')) else some (.inl (vd (sE rd 8 p (nI i)) M p, nI i, nI (i + 1), tr', dr')) := by
        unfold fX8_soonestStone_b9
        rw [k1, r0, if_neg (nI_ge hi (by omega)), x1, bd_s]
        simp only [nm_u, nI_p1]
      have E2 : fX9_findPlace_b18 t.2 (nI p) t.1 = if vd (sE rd 8 p (nI i)) M p = -4 then some (.inl (nI (i + 1), s2)) else if t.2 0 16 < vd (sE rd 8 p (nI i)) M p then some (.inl (nI (i + 1), s2)) else some (.inl (nI (i + 1), sE (sE s2 0 15 (nI i)) 0 16 (vd (sE rd 8 p (nI i)) M p))) := by
        unfold fX9_findPlace_b18
        have t0 : t.2 0 0 = nI M := by rw [k6 0 0 (by omega), m0]
        rw [k2, t0, if_neg (nI_ge hi (by omega)), m5_4 p hp4, gd_n (by omega) (by decide), nm_u, cl_n (i := 24 + 5 * p + 4) (by omega), x2, bd_s, gd_n hp4 (by decide), cl_n (by omega), q2 p hp, k16, fp0, fp1 hp4, q2 p hp, nI_p1]
      generalize hv : vd (sE rd 8 p (nI i)) M p = v at E1 E2 hvr
      by_cases c1 : v = -4
      · rw [if_pos c1] at E1 E2
        exact ⟨_, _, E1, E2, rfl, rfl, by rw [← k3]; exact k15, by rcases k4 with ⟨a, b, c⟩ | ⟨m, a, b, c, d⟩; exact Or.inl ⟨a, b, by rw [← c]; exact k16⟩; exact Or.inr ⟨m, a, b, c, by rw [← d]; exact k16⟩, R2, F2⟩
      · obtain ⟨j, hj, hjM⟩ : ∃ j, v = nI j ∧ j < M := by
          rcases hvr with hh | hh
          · exact absurd hh c1
          · exact hh
        have cc1 : t.2 0 16 < v ↔ s.1 < v := by
          rcases k4 with ⟨_, b, c⟩ | ⟨m, _, _, _, d⟩
          · rw [b, c, hj]
            constructor
            · intro hh; exact absurd hh (nI_nlt (a := 1000000) (b := j) (by omega) (by decide))
            · intro hh; exact absurd hh (nI_nlt (a := 8) (b := j) (by omega) (by decide))
          · rw [d]
        rw [if_neg c1] at E1 E2
        by_cases c2 : s.1 < v
        · rw [if_pos c2] at E1
          rw [if_pos (cc1.mpr c2)] at E2
          exact ⟨_, _, E1, E2, rfl, rfl, by rw [← k3]; exact k15, by rcases k4 with ⟨a, b, c⟩ | ⟨m, a, b, c, d⟩; exact Or.inl ⟨a, b, by rw [← c]; exact k16⟩; exact Or.inr ⟨m, a, b, c, by rw [← d]; exact k16⟩, R2, F2⟩
        · rw [if_neg c2] at E1
          rw [if_neg (fun hh => c2 (cc1.mp hh))] at E2
          refine ⟨_, _, E1, E2, rfl, rfl, ?_, Or.inr ⟨i, hi, rfl, hv.symm, ?_⟩, fun w => ?_, ?_⟩
          · dsimp only
            rw [sE_v, if_neg (by omega), sE_e]
          · dsimp only
            rw [sE_e]
          · refine RM_re2 (R2 w) (fun b => ?_) ?_ ?_
            · dsimp only; rw [sE_v, if_neg (by omega), sE_v, if_neg (by omega)]
            · dsimp only; rw [sE_v, if_neg (by omega), sE_v, if_neg (by omega)]
            · dsimp only; rw [sE_v, if_neg (by omega), sE_v, if_neg (by omega)]
          · exact SF_t F2 (fun a b hab => by dsimp only; rw [sE_v, if_neg (by omega), sE_v, if_neg (by omega)])
    · obtain ⟨k1, k2, k3, k4, k5, k6⟩ := hI
      have E1 : fX8_soonestStone_b9 cc rd s.2.2.2.1 s.2.2.2.2 (nI p) s.1 s.2.1 s.2.2.1 = some (.inr (s.1, s.2.1, s.2.2.1, s.2.2.2.1, s.2.2.2.2)) := by
        unfold fX8_soonestStone_b9
        rw [k1, r0, if_pos (nI_le (Nat.le_refl M) (by omega))]
      have E2 : fX9_findPlace_b18 t.2 (nI p) t.1 = some (.inr (t.1, t.2)) := by
        unfold fX9_findPlace_b18
        rw [k2, k6 0 0 (by omega), m0, if_pos (nI_le (Nat.le_refl M) (by omega))]
      refine ⟨_, _, E1, E2, k3, k6, fun hne => ?_⟩
      rcases k4 with ⟨a, _, _⟩ | ⟨m, a, b, c, d⟩
      · exact absurd a hne
      · exact ⟨m, a, b, by rw [← c]; exact d⟩
  obtain ⟨r, u, w1, w2, g1, g2, g3⟩ := key
  rw [w1, bd_s, w2, bd_s]
  exact ⟨_, _, _, _, rfl, rfl, g1, g2, g3⟩
theorem win_01 {a : Int32} (h : win a 0 1 = true) : a = 0 ∨ a = 1 := by
  obtain ⟨n, rfl, hn⟩ := win_le (h := 1) (by decide) h
  have : n = 0 ∨ n = 1 := by omega
  rcases this with rfl | rfl
  · exact Or.inl rfl
  · exact Or.inr rfl
theorem sim_place {mo rd tr dr cc : S2} {M P : Nat} {p1 p2 : Int32} (h : RR mo rd M P) : ∃ v tr' dr' mo', fX8_place cc rd tr dr p1 p2 = some (v, tr', dr') ∧ fX9_place mo p1 p2 = some (v, mo') ∧ SF mo mo' := by
  obtain ⟨_, _, hM, hP, m0, m1, r0, r1⟩ := id h
  unfold fX8_place fX9_place
  rw [pX2_hasParty r1, bd_s, pX9_isParty m1 (by omega), bd_s, w8, bd_s, pX9_isPart, bd_s]
  cases hb : blw p1 P with
  | false => exact ⟨_, _, _, _, rfl, rfl, SF_r mo⟩
  | true =>
    obtain ⟨p, rfl, hp⟩ := blw_n (by omega) hb
    cases hw : win p2 0 1 with
    | false => exact ⟨_, _, _, _, rfl, rfl, SF_r mo⟩
    | true =>
      obtain ⟨st, tr', dr', mo', e1, e2, q1, q2, q3⟩ := sim_sp (tr := tr) (dr := dr) (cc := cc) h hp
      simp only [it_t]
      rw [e1, bd_s, e2, bd_s, nm_u, q1]
      by_cases c1 : st = -4
      · rcases win_01 hw with rfl | rfl
        · rw [if_pos rfl, if_pos c1, c1]
          exact ⟨_, _, _, _, rfl, rfl, q2⟩
        · rw [if_neg (by decide), if_pos c1, if_pos c1, c1]
          exact ⟨_, _, _, _, rfl, rfl, q2⟩
      · rcases win_01 hw with rfl | rfl
        · rw [if_pos rfl, if_neg c1, if_pos rfl]
          exact ⟨_, _, _, _, rfl, rfl, q2⟩
        · obtain ⟨m, hm, rfl, g⟩ := q3 c1
          obtain ⟨tr2, dr2, e3⟩ := c_vf (cc := cc) (tr := tr') (dr := dr') (RQ_RR h) hp (show m < 8 by omega)
          rw [if_neg (by decide), if_neg c1, if_neg c1, if_neg (by decide), e3, bd_s, g]
          exact ⟨_, _, _, _, rfl, rfl, q2⟩
theorem sh0 : ∀ p, p < 16 → (0 : Int32) <<< (nI p &&& 31) = 0 := by decide
theorem sim_never {mo rd tr dr cc : S2} {M P : Nat} (h : RR mo rd M P) : ∃ v tr' dr' mo', fX8_never cc rd tr dr = some (v, tr', dr') ∧ fX9_never mo = some (v, mo') ∧ SF mo mo' := by
  obtain ⟨_, _, hM, hP, m0, m1, r0, r1⟩ := id h
  unfold fX8_never fX9_never
  have key : ∃ r u, wh (fun (c : Int32 × Int32 × S2 × S2) => fX8_never_b4 cc rd c.2.2.1 c.2.2.2 c.1 c.2.1) 5000 ((0 : Int32), (0 : Int32), tr, dr) = some r ∧ wh (fun (c : Int32 × Int32 × S2) => fX9_never_b4 c.2.2 c.1 c.2.1) 5000 ((0 : Int32), (0 : Int32), mo) = some u ∧ (r.1 = u.1 ∧ SF mo u.2.2) := by
    refine wh_2 (b1 := fun (c : Int32 × Int32 × S2 × S2) => fX8_never_b4 cc rd c.2.2.1 c.2.2.2 c.1 c.2.1) (b2 := fun (c : Int32 × Int32 × S2) => fX9_never_b4 c.2.2 c.1 c.2.1)
      (fun i s t => s.1 = t.1 ∧ s.2.1 = nI i ∧ t.2.1 = nI i ∧ SF mo t.2.2)
      (fun r u => r.1 = u.1 ∧ SF mo u.2.2) P (fun i s t hi hI => ?_) (fun s t hI => ?_) 5000 0 _ _ (by omega) (by omega) ⟨rfl, rfl, rfl, SF_r mo⟩
    · obtain ⟨k1, k2, k3, k4⟩ := hI
      left
      have Rt := RR_SF h k4
      obtain ⟨st, tr', dr', mo', e1, e2, q1, q2, _⟩ := sim_sp (tr := s.2.2.1) (dr := s.2.2.2) (cc := cc) Rt hi
      have E1 : fX8_never_b4 cc rd s.2.2.1 s.2.2.2 s.1 s.2.1 = if st = -4 then some (.inl (s.1 ||| ((1 : Int32) <<< (nI i &&& 31)), nI (i + 1), tr', dr')) else some (.inl (s.1, nI (i + 1), tr', dr')) := by
        unfold fX8_never_b4
        rw [k2, r1, if_neg (nI_ge hi (by omega)), e1, bd_s]
        simp only [nm_u, nI_p1]
      have E2 : fX9_never_b4 t.2.2 t.1 t.2.1 = if st = -4 then some (.inl (s.1 ||| ((1 : Int32) <<< (nI i &&& 31)), nI (i + 1), mo')) else some (.inl (s.1, nI (i + 1), mo')) := by
        unfold fX9_never_b4 fX9_never_32
        rw [k3, Rt.2.2.2.2.2.1, if_neg (nI_ge hi (by omega)), e2, bd_s, q1, fl_t, bd_s, fl_f, bd_s, sh0 i (by omega), Int32.or_zero, ← k1]
        simp only [nm_u, nI_p1]
      by_cases c1 : st = -4
      · rw [if_pos c1] at E1 E2
        exact ⟨_, _, E1, E2, rfl, rfl, rfl, SF_t k4 q2⟩
      · rw [if_neg c1] at E1 E2
        exact ⟨_, _, E1, E2, rfl, rfl, rfl, SF_t k4 q2⟩
    · obtain ⟨k1, k2, k3, k4⟩ := hI
      have E1 : fX8_never_b4 cc rd s.2.2.1 s.2.2.2 s.1 s.2.1 = some (.inr (s.1, s.2.1, s.2.2.1, s.2.2.2)) := by
        unfold fX8_never_b4
        rw [k2, r1, if_pos (nI_le (Nat.le_refl P) (by omega))]
      have E2 : fX9_never_b4 t.2.2 t.1 t.2.1 = some (.inr (t.1, t.2.1, t.2.2)) := by
        unfold fX9_never_b4
        rw [k3, k4 0 1 (by omega), m1, if_pos (nI_le (Nat.le_refl P) (by omega))]
      exact ⟨_, _, E1, E2, k1, k4⟩
  obtain ⟨r, u, w1, w2, g1, g2⟩ := key
  rw [w1, bd_s, w2, bd_s, g1]
  exact ⟨_, _, _, _, rfl, rfl, g2⟩
