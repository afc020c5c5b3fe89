/-! PURE: best: the reference's -/
theorem r_stoneIn {mo : S2} {M P N q : Nat} (h0 : mo 0 0 = nI M) (h1 : mo 0 1 = nI P) (hM : M ≤ 8) (hM0 : 0 < M) (hP : P ≤ 4) (hq : q < P) (hN : N < 2 ^ 31) : fX9_stoneIn mo (nI N) (nI q) = some (nI (dg M P N q)) := by
  have hd : ∀ i, N / M ^ i < 2 ^ 31 := fun i => Nat.lt_of_le_of_lt (Nat.div_le_self N _) hN
  unfold fX9_stoneIn
  have key := wh_f (body := fun (c : Int32 × Int32) => fX9_stoneIn_b10 mo (nI q) c.1 c.2) (fun i => (nI (N / M ^ i), nI (P - 1 - i))) (nI (N / M ^ (P - 1 - q)), nI (P - 1 - (P - 1 - q))) (P - 1 - q) (fun i hi => by
    show fX9_stoneIn_b10 mo (nI q) (nI (N / M ^ i)) (nI (P - 1 - i)) = _
    unfold fX9_stoneIn_b10
    rw [if_neg (nI_ge (by omega) (by omega)), h0, gd_t (nzb_n hM0 (by omega)), nm_u, nm_u, pk_div (hd i) hM0 (by omega), Nat.div_div_eq_div_mul, ← Nat.pow_succ, show P - 1 - i = (P - 1 - (i + 1)) + 1 by omega, pk_m1]) (by
    show fX9_stoneIn_b10 mo (nI q) (nI (N / M ^ (P - 1 - q))) (nI (P - 1 - (P - 1 - q))) = _
    unfold fX9_stoneIn_b10
    rw [if_pos (nI_le (by omega) (by omega))]) (n := 5000) (by omega)
  have e0 : (nI N, nI (P - 1)) = (nI (N / M ^ 0), nI (P - 1 - 0)) := by rw [Nat.pow_zero, Nat.div_one, Nat.sub_zero]
  rw [nm_u, h1, nI_sub1 (by omega) (by omega), e0, key, bd_s, h0, gd_t (nzb_n hM0 (by omega)), pk_rem (hd _) hM0 (by omega)]
  rfl
theorem r_b73 {s rd : S2} {M P N : Nat} {a b c d : Int32} (h : RM s rd M P) (hM : M ≤ 8) (hM0 : 0 < M) (hP : P ≤ 4) (hN : N < 2 ^ 31) : ∃ x, wh (fun (e : Int32 × S2) => fX9_best_b73 e.2 a b c d (nI N) e.1) 5000 ((0 : Int32), s) = some x ∧ RM x.2 (sdp rd (dg M P N) P) M P ∧ ∀ a b, a ≠ 2 → x.2 a b = s a b := by
  refine wh_ex (body := fun (e : Int32 × S2) => fX9_best_b73 e.2 a b c d (nI N) e.1)
    (fun i e => e.1 = nI i ∧ RM e.2 (sdp rd (dg M P N) i) M P ∧ ∀ a b, a ≠ 2 → e.2 a b = s a b)
    (fun x => RM x.2 (sdp rd (dg M P N) P) M P ∧ ∀ a b, a ≠ 2 → x.2 a b = s a b) P (fun i e hi hI => ?_) (fun e hI => ?_) 5000 0 _ (by omega) (by omega) ⟨rfl, by rw [sdp_0]; exact h, fun _ _ _ => rfl⟩
  · obtain ⟨k1, k2, k3⟩ := hI
    left
    have z0 : e.2 0 0 = nI M := k2.2.2.2.2.1
    have z1 : e.2 0 1 = nI P := k2.2.2.2.2.2
    have R := RM_party (k := 4) (v := nI (dg M P N i)) k2 hM hP hi (by omega)
    rw [sdp_s] at R
    refine ⟨(nI (i + 1), sE e.2 2 (24 + 5 * i + 4) (nI (dg M P N i))), ?_, rfl, R, fun a b hab => ?_⟩
    · show fX9_best_b73 e.2 a b c d (nI N) e.1 = _
      unfold fX9_best_b73
      rw [k1, z1, if_neg (nI_ge hi (by omega)), r_stoneIn z0 z1 hM hM0 hP hi hN, bd_s, m5_4 i (by omega), gd_n (by omega) (by decide), nm_u, nm_u, nI_p1, cl_n (by omega)]
    · dsimp only
      rw [sE_v, if_neg (fun hh => hab hh.1), k3 a b hab]
  · obtain ⟨k1, k2, k3⟩ := hI
    refine ⟨e, ?_, k2, k3⟩
    show fX9_best_b73 e.2 a b c d (nI N) e.1 = _
    unfold fX9_best_b73
    rw [k1, if_pos (by rw [k2.2.2.2.2.2]; exact nI_le (Nat.le_refl P) (by omega)), ← k1]
theorem cmp2 : ∀ b, b < 8 → ∀ x, x < 8 → (nI x ≤ nI b - (1 : Int32) ↔ ¬ b < x + 1) := by decide
theorem pw_b {M P : Nat} (hM : M ≤ 8) (hP : P ≤ 4) : M ^ P ≤ 4096 := Nat.le_trans (Nat.pow_le_pow_left hM P) (Nat.pow_le_pow_right (n := 8) (by decide) hP)
theorem r_b64 {mo s rd : S2} {M P : Nat} {a : Int32} (h : RR mo rd M P) (hM0 : 0 < M) (h2 : RM s rd M P) (hf : SF mo s) : ∃ x, wh (fun (e : Int32 × Int32 × Int32 × S2) => fX9_best_b64 e.2.2.2 a (nI (M ^ P)) e.1 e.2.1 e.2.2.1) 5000 ((-1 : Int32), (0 : Int32), (0 : Int32), s) = some x ∧ x.1 = nI (bst (Fb rd M P) (M ^ P)).1 - 1 ∧ x.2.1 = nI (bst (Fb rd M P) (M ^ P)).2 ∧ SF mo x.2.2.2 := by
  obtain ⟨_, _, hM, hP, m0, m1, r0, r1⟩ := id h
  have hpw := pw_b hM hP
  refine wh_ex (body := fun (e : Int32 × Int32 × Int32 × S2) => fX9_best_b64 e.2.2.2 a (nI (M ^ P)) e.1 e.2.1 e.2.2.1)
    (fun k e => e.1 = nI (bst (Fb rd M P) k).1 - 1 ∧ e.2.1 = nI (bst (Fb rd M P) k).2 ∧ e.2.2.1 = nI k ∧ (∃ rd', RM e.2.2.2 rd' M P ∧ ∀ a j, ¬ (a = 8 ∧ j < P) → rd' a j = rd a j) ∧ SF mo e.2.2.2)
    (fun x => x.1 = nI (bst (Fb rd M P) (M ^ P)).1 - 1 ∧ x.2.1 = nI (bst (Fb rd M P) (M ^ P)).2 ∧ SF mo x.2.2.2) (M ^ P) (fun k e hk hI => ?_) (fun e hI => ?_) 5000 0 _ (Nat.zero_le _) (by omega) ⟨rfl, rfl, rfl, ⟨rd, h2, fun _ _ _ => rfl⟩, hf⟩
  · obtain ⟨k1, k2, k3, ⟨rd', k4, k5⟩, k6⟩ := hI
    left
    obtain ⟨x, e1, R1, f1⟩ := r_b73 (N := k) (a := a) (b := nI (M ^ P)) (c := e.1) (d := e.2.1) k4 hM hM0 hP (by omega)
    rw [sdp_c k5] at R1
    obtain ⟨s2, e2, q2, f2⟩ := ref_n R1 hM hP
    have F2 : SF mo s2 := SF_t k6 (SF_t (fun a b hab => f1 a b (by omega)) (SF_DF f2))
    have hb := bst_le (f := Fb rd M P) (fun k => Fb_le hP k) k
    have hF := Fb_le (rd := rd) (M := M) hP k
    have e2' : fX9_howMany x.2 = some (nI (Fb rd M P k), s2) := e2
    have E : fX9_best_b64 e.2.2.2 a (nI (M ^ P)) e.1 e.2.1 e.2.2.1 = if (bst (Fb rd M P) k).1 < Fb rd M P k + 1 then some (.inl (nI (Fb rd M P k), nI k, nI (k + 1), s2)) else some (.inl (e.1, e.2.1, nI (k + 1), s2)) := by
      unfold fX9_best_b64 fX9_best_129
      rw [k3, if_neg (nI_ge hk (by omega)), e1, bd_s, e2', bd_s]
      simp only [nm_u, nI_p1]
      rw [k1]
      by_cases c1 : (bst (Fb rd M P) k).1 < Fb rd M P k + 1
      · simp only [if_neg (fun hh => (cmp2 _ (show (bst (Fb rd M P) k).1 < 8 by omega) _ (show Fb rd M P k < 8 by omega)).mp hh c1), if_pos c1]
      · simp only [if_pos ((cmp2 _ (show (bst (Fb rd M P) k).1 < 8 by omega) _ (show Fb rd M P k < 8 by omega)).mpr c1), if_neg c1]
    by_cases c1 : (bst (Fb rd M P) k).1 < Fb rd M P k + 1
    · rw [if_pos c1] at E
      refine ⟨_, E, ?_, ?_, rfl, ⟨_, RM_DF R1 f2, fun a j haj => sdp_n haj⟩, F2⟩
      · rw [bst_s, if_pos c1]
        exact (nI_pred _).symm
      · rw [bst_s, if_pos c1]
    · rw [if_neg c1] at E
      refine ⟨_, E, ?_, ?_, rfl, ⟨_, RM_DF R1 f2, fun a j haj => sdp_n haj⟩, F2⟩
      · rw [bst_s, if_neg c1]; exact k1
      · rw [bst_s, if_neg c1]; exact k2
  · obtain ⟨k1, k2, k3, _, k6⟩ := hI
    refine ⟨e, ?_, k1, k2, k6⟩
    show fX9_best_b64 e.2.2.2 a (nI (M ^ P)) e.1 e.2.1 e.2.2.1 = _
    unfold fX9_best_b64
    rw [k3, if_pos (nI_le (Nat.le_refl _) (by omega)), ← k3]
theorem r_b31 {mo : S2} {M P : Nat} {a : Int32} (m0 : mo 0 0 = nI M) (m1 : mo 0 1 = nI P) (hP : P ≤ 4) : ∃ z, wh (fun (c : Int32 × Int32 × S2) => fX9_best_b31 c.2.2 a c.1 c.2.1) 5000 ((1 : Int32), (0 : Int32), mo) = some (nI (M ^ P), z, mo) := by
  have key := wh_f (body := fun (c : Int32 × Int32 × S2) => fX9_best_b31 c.2.2 a c.1 c.2.1) (fun i => (nI (M ^ i), nI i, mo)) (nI (M ^ P), nI P, mo) P (fun i hi => by
    show fX9_best_b31 mo a (nI (M ^ i)) (nI i) = _
    unfold fX9_best_b31
    rw [m1, if_neg (nI_ge hi (by omega)), nm_u, nm_u, m0, pk_mul, nI_p1, Nat.pow_succ]) (by
    show fX9_best_b31 mo a (nI (M ^ P)) (nI P) = _
    unfold fX9_best_b31
    rw [m1, if_pos (nI_le (Nat.le_refl P) (by omega))]) (n := 5000) (by omega)
  exact ⟨_, key⟩
/-- best, once what is asked is good -/
theorem sim_best1 {mo rd td dr sk cc : S2} {M P : Nat} {x1 k0 : Int32} (h : RR mo rd M P) (h4 : sk 2 4 = 0) (hx : (x1 = 0 ∧ k0 = 0) ∨ ∃ q, x1 - 10 = nI q ∧ q < P ∧ k0 = 1 ∧ ¬ x1 = 0) : ∃ v td' dr' sk' mo', fX8_best_36 cc rd td dr sk x1 k0 = some (v, td', dr', sk') ∧ fX9_best_17 mo x1 = some (v, mo') ∧ SF mo mo' ∧ sk' 2 4 = 0 := by
  obtain ⟨_, G, hM, hP, m0, m1, r0, r1⟩ := id h
  unfold fX8_best_36 fX9_best_17
  rw [r0, m0]
  by_cases c0 : M = 0
  · subst c0
    exact ⟨_, _, _, _, _, rfl, rfl, SF_r mo, h4⟩
  · have hM0 : 0 < M := by omega
    have hpw := pw_b hM hP
    have hpl : nI 0 < rd 0 2 := by
      obtain ⟨n, e, h1, h2⟩ := win_n (l := 1) (h := 4) rfl rfl (by decide) (by decide) G.2.2.1
      rw [e]
      exact nI_lt (by omega) (by omega)
    obtain ⟨sk', td', dr', e1, s4, S1, S2'⟩ := c_seek (td := td) (dr := dr) hM hM0 hP r0 r1 hpl h4
    obtain ⟨z, e2⟩ := r_b31 (a := x1) m0 m1 hP
    obtain ⟨s1, e3, R1, f1⟩ := pX9_startsR h
    obtain ⟨x, e4, q1, q2, q3⟩ := r_b64 (a := x1) h hM0 R1 f1
    rw [if_neg (nI_ne0 hM0 (by omega)), if_neg (nI_ne0 hM0 (by omega)), e1, bd_s, e2, bd_s]
    dsimp only
    rw [e3, bd_s, e4, bd_s]
    rcases hx with ⟨rfl, rfl⟩ | ⟨q, hq1, hq2, rfl, hq3⟩
    · rw [if_pos rfl, if_pos rfl, S1, q1]
      exact ⟨_, _, _, _, _, rfl, rfl, q3, s4⟩
    · have hb2 := bst_2 (f := Fb rd M P) (M ^ P) (Nat.pow_pos hM0)
      rw [if_neg (by decide), if_neg hq3, hq1, gd_n (by omega) (by decide), cl_n (by omega), S2' q hq2, q2, r_stoneIn (by rw [q3 0 0 (by omega), m0]) (by rw [q3 0 1 (by omega), m1]) hM hM0 hP hq2 (by omega), bd_s]
      exact ⟨_, _, _, _, _, rfl, rfl, q3, s4⟩
theorem sim_best {mo rd td dr sk cc : S2} {M P : Nat} {p1 : Int32} (h : RR mo rd M P) (h4 : sk 2 4 = 0) : ∃ v td' dr' sk' mo', fX8_best cc rd td dr sk p1 = some (v, td', dr', sk') ∧ fX9_best mo p1 = some (v, mo') ∧ SF mo mo' ∧ sk' 2 4 = 0 := by
  obtain ⟨_, _, hM, hP, m0, m1, r0, r1⟩ := id h
  unfold fX8_best fX9_best fX8_best_25
  by_cases c0 : p1 = 0
  · subst c0
    rw [if_pos (by decide), if_pos rfl, if_pos rfl]
    exact sim_best1 h h4 (Or.inl ⟨rfl, rfl⟩)
  · rw [if_neg c0, if_neg c0, if_neg c0, pX9_isParty m1 (by omega), bd_s, pX2_hasParty r1, bd_s]
    cases hb : blw (p1 - 10) P with
    | false =>
      simp only [it_f]
      by_cases c1 : p1 < 10
      · rw [if_pos c1, if_pos trivial]
        exact ⟨_, _, _, _, _, rfl, rfl, SF_r mo, h4⟩
      · rw [if_neg c1, if_pos trivial]
        exact ⟨_, _, _, _, _, rfl, rfl, SF_r mo, h4⟩
    | true =>
      obtain ⟨q, e, hq⟩ := blw_n (by omega) hb
      have e2 : p1 = nI (q + 10) := by
        have : p1 = (p1 - 10) + 10 := (Int32.sub_add_cancel p1 10).symm
        rw [this, e]
        exact nI_ad q 10
      have c1 : ¬ p1 < 10 := by rw [e2]; exact nI_nlt (a := q + 10) (b := 10) (by omega) (by omega)
      simp only [it_t]
      rw [if_neg c1, if_neg (by decide)]
      exact sim_best1 h h4 (Or.inr ⟨q, e, hq, rfl, c0⟩)
