/-! PURE: drift -/
theorem sh16 (v : Int32) : ((v.toUInt32 >>> (Int32.toUInt32 (16 : Int32) &&& Int32.toUInt32 31)).toInt32) &&& (32767 : Int32) = (v >>> ((16 : Int32) &&& 31)) &&& (32767 : Int32) := by
  rw [pk_and _ 15 (by decide), pk_and _ 15 (by decide), pk_ushr v 16 16 (by decide)]
  have e := pk_shr v ((16 : Int32) &&& 31) 16 (by decide)
  rw [Int.shiftRight_eq_div_pow] at e
  have a1 : v.toInt = v.toBitVec.toInt := rfl
  have a2 : (v >>> ((16 : Int32) &&& 31)).toInt = (v >>> ((16 : Int32) &&& 31)).toBitVec.toInt := rfl
  rw [a1, a2, BitVec.toInt_eq_toNat_cond, BitVec.toInt_eq_toNat_cond] at e
  have l1 := v.toBitVec.isLt
  have l2 := (v >>> ((16 : Int32) &&& 31)).toBitVec.isLt
  congr 1
  generalize v.toBitVec.toNat = a at *
  generalize (v >>> ((16 : Int32) &&& 31)).toBitVec.toNat = b at *
  split at e <;> split at e <;> omega
theorem dr_of (v : Int32) : ∃ x, x < 32768 ∧ (v >>> ((16 : Int32) &&& 31)) &&& (32767 : Int32) = nI x := by
  obtain ⟨j, h1, h2⟩ := pk_andE (v >>> ((16 : Int32) &&& 31)) (m := 32767) 15 (by decide)
  exact ⟨j, by omega, h2⟩
theorem nzb_n {n : Nat} (h0 : 0 < n) (h : n < 2 ^ 31) : nzb (nI n) = true := decide_eq_true (nI_ne0 h0 h)
theorem sim_drift {mo rd tr dr cc : S2} {M P : Nat} {p1 p2 p3 : Int32} (h : RR mo rd M P) : ∃ v tr' dr' mo', fX8_drift cc rd tr dr p1 p2 p3 = some (v, tr', dr') ∧ fX9_drift mo p1 p2 p3 = some (v, mo') ∧ SF mo mo' := by
  obtain ⟨_, _, hM, hP, m0, m1, r0, r1⟩ := id h
  have Q := RQ_RR h
  unfold fX8_drift fX9_drift
  rw [w8, bd_s, w8, bd_s, w9 (lo := 1) (hi := 60) (by decide) (by decide), bd_s, pX9_isPart, bd_s]
  cases hw : win p2 1 60 with
  | false => exact ⟨_, _, _, _, rfl, rfl, SF_r mo⟩
  | true =>
    obtain ⟨n, rfl, hn1, hn2⟩ := win_n (l := 1) (h := 60) rfl rfl (by decide) (by decide) hw
    cases hv : win p3 0 1 with
    | false => exact ⟨_, _, _, _, rfl, rfl, SF_r mo⟩
    | true =>
      simp only [it_t]
      rw [r0, r1, m0, m1]
      by_cases cM : M = 0
      · subst cM
        by_cases cP : P = 0
        · subst cP
          exact ⟨_, _, _, _, rfl, rfl, SF_r mo⟩
        · rw [if_neg (nI_ne0 (by omega) (by omega))]
          exact ⟨_, _, _, _, rfl, rfl, SF_r mo⟩
      · by_cases cP : P = 0
        · subst cP
          rw [if_pos (show nI 0 = (0 : Int32) from rfl), if_neg (nI_ne0 (n := M) (by omega) (by omega)), if_pos (show nI 0 = (0 : Int32) from rfl)]
          exact ⟨_, _, _, _, rfl, rfl, SF_r mo⟩
        · obtain ⟨d, e1, hc⟩ := pX2_copy (rd := tr) (ro := rd)
          obtain ⟨s1, e2, R1, f1⟩ := pX9_startsR h
          rw [if_neg (nI_ne0 (n := M) (by omega) (by omega)), if_neg (nI_ne0 (n := P) (by omega) (by omega)), if_neg (nI_ne0 (n := M) (by omega) (by omega)), if_neg (nI_ne0 (n := P) (by omega) (by omega)), e1, bd_s, e2, bd_s]
          have key : ∃ r u, wh (fun (c : Int32 × Int32 × Int32 × S2 × S2) => fX8_drift_b64 cc rd c.2.2.2.1 c.2.2.2.2 (nI n) p3 c.1 c.2.1 c.2.2.1) 5000 (p1, (0 : Int32), (0 : Int32), d, dr) = some r ∧ wh (fun (c : Int32 × Int32 × Int32 × S2) => fX9_drift_b51 c.2.2.2 (nI n) p3 c.1 c.2.1 c.2.2.1) 5000 (p1, (0 : Int32), (0 : Int32), s1) = some u ∧ (r.2.1 = u.2.1 ∧ SF mo u.2.2.2 ∧ r.2.2.2.2 0 0 = nI P ∧ ∀ q, q < P → r.2.2.2.2 1 q = u.2.2.2 6 q) := by
            refine wh_2 (b1 := fun (c : Int32 × Int32 × Int32 × S2 × S2) => fX8_drift_b64 cc rd c.2.2.2.1 c.2.2.2.2 (nI n) p3 c.1 c.2.1 c.2.2.1) (b2 := fun (c : Int32 × Int32 × Int32 × S2) => fX9_drift_b51 c.2.2.2 (nI n) p3 c.1 c.2.1 c.2.2.1)
              (fun i s t => s.1 = t.1 ∧ s.2.1 = t.2.1 ∧ s.2.2.1 = nI i ∧ t.2.2.1 = nI i ∧ RQ s.2.2.2.1 M P ∧ RM t.2.2.2 s.2.2.2.1 M P ∧ SF mo t.2.2.2 ∧ (0 < i → s.2.2.2.2 0 0 = nI P ∧ ∀ q, q < P → s.2.2.2.2 1 q = t.2.2.2 6 q))
              (fun r u => r.2.1 = u.2.1 ∧ SF mo u.2.2.2 ∧ r.2.2.2.2 0 0 = nI P ∧ ∀ q, q < P → r.2.2.2.2 1 q = u.2.2.2 6 q) n (fun i s t hi hI => ?_) (fun s t hI => ?_) 5000 0 _ _ (by omega) (by omega) ⟨rfl, rfl, rfl, rfl, RQ_cp Q hc, RM_cp R1 hM hP hc, f1, fun hh => absurd hh (Nat.lt_irrefl 0)⟩
            · obtain ⟨k1, k2, k3, k4, k5, k6, k7, _⟩ := hI
              left
              obtain ⟨x, hx, ex⟩ := dr_of (s.1 * (1103515245 : Int32) + (12345 : Int32))
              obtain ⟨y, hy, ey⟩ := dr_of ((s.1 * (1103515245 : Int32) + (12345 : Int32)) * (1103515245 : Int32) + (12345 : Int32))
              have hxP : x % P < P := Nat.mod_lt _ (by omega)
              have hyM : y % M < M := Nat.mod_lt _ (by omega)
              have Q2 : RQ (sE s.2.2.2.1 8 (x % P) (nI (y % M))) M P := RQ_s k5 (by omega)
              obtain ⟨d', a1, a2, a3⟩ := run_v (dr := s.2.2.2.2) Q2
              have R2 : RM (sE t.2.2.2 2 (24 + 5 * (x % P) + 4) (nI (y % M))) (sE s.2.2.2.1 8 (x % P) (nI (y % M))) M P := RM_party (k := 4) k6 hM hP hxP (by omega)
              obtain ⟨s2, b1, b2, f2⟩ := ref_n R2 hM hP
              have F2 : SF mo s2 := SF_t k7 (fun a b hab => by rw [f2 a b (by omega) (by omega), sE_v, if_neg (by omega)])
              refine ⟨((s.1 * (1103515245 : Int32) + (12345 : Int32)) * (1103515245 : Int32) + (12345 : Int32), s.2.1 + nI (nv (sE s.2.2.2.1 8 (x % P) (nI (y % M))) M P), nI (i + 1), sE s.2.2.2.1 8 (x % P) (nI (y % M)), d'), ((s.1 * (1103515245 : Int32) + (12345 : Int32)) * (1103515245 : Int32) + (12345 : Int32), s.2.1 + nI (nv (sE s.2.2.2.1 8 (x % P) (nI (y % M))) M P), nI (i + 1), s2), ?_, ?_, rfl, rfl, rfl, rfl, Q2, RM_DF R2 f2, F2, fun _ => ⟨a2, fun q hq => (a3 q hq).trans (b2 q hq).symm⟩⟩
              · unfold fX8_drift_b64 fX8_nextSeed fX8_drawnOf
                rw [k3, if_neg (nI_ge hi (by omega))]
                simp only [bd_s, sh16]
                rw [ex, ey, r1, r0, gd_t (nzb_n (by omega) (by omega)), pk_rem (by omega) (by omega) (by omega), nm_u, gd_t (nzb_n (by omega) (by omega)), pk_rem (by omega) (by omega) (by omega), gd_n (by omega) (by decide), nm_u, cl_n (by omega), a1, bd_s, ver_v a2 hP a3, bd_s, nm_u, nm_u, nI_p1]
              · unfold fX9_drift_b51
                rw [k4, if_neg (nI_ge hi (by omega)), ← k1, nm_u, ex, k7 0 1 (by omega), m1, gd_t (nzb_n (by omega) (by omega)), pk_rem (by omega) (by omega) (by omega), nm_u, nm_u, ey, k7 0 0 (by omega), m0, gd_t (nzb_n (by omega) (by omega)), pk_rem (by omega) (by omega) (by omega), m5_4 (x % P) (by omega), gd_n (by omega) (by decide), nm_u, cl_n (by omega), b1, bd_s, nm_u, nm_u, nI_p1, ← k2]
            · obtain ⟨k1, k2, k3, k4, k5, k6, k7, k8⟩ := hI
              have E1 : fX8_drift_b64 cc rd s.2.2.2.1 s.2.2.2.2 (nI n) p3 s.1 s.2.1 s.2.2.1 = some (.inr s) := by
                unfold fX8_drift_b64
                rw [k3, if_pos (nI_le (Nat.le_refl n) (by omega)), ← k3]
              have E2 : fX9_drift_b51 t.2.2.2 (nI n) p3 t.1 t.2.1 t.2.2.1 = some (.inr t) := by
                unfold fX9_drift_b51
                rw [k4, if_pos (nI_le (Nat.le_refl n) (by omega)), ← k4]
              exact ⟨_, _, E1, E2, k2, k7, k8 (by omega)⟩
          obtain ⟨r, u, w1, w2, g1, g2, g3, g4⟩ := key
          rw [w1, bd_s, w2, bd_s, g1]
          rcases win_01 hv with rfl | rfl
          · rw [if_pos rfl, if_pos rfl]
            exact ⟨_, _, _, _, rfl, rfl, g2⟩
          · rw [if_neg (by decide), if_neg (by decide), pX0_who0 g3 hP, bd_s, pX9_verdicts (by rw [g2 0 1 (by omega), m1]) hP, bd_s, mk4_c P g4]
            exact ⟨_, _, _, _, rfl, rfl, g2⟩
