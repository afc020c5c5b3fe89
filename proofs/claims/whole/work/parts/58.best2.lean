/-! PURE: best: the class's search -/
def CN (d ro : S2) : Prop := (∀ j, j < 8 → d 1 j = ro 1 j ∧ d 2 j = ro 2 j ∧ d 3 j = ro 3 j) ∧ (∀ p, p < 4 → d 4 p = ro 4 p ∧ d 5 p = ro 5 p ∧ d 6 p = ro 6 p ∧ d 7 p = ro 7 p) ∧ d 0 0 = ro 0 0 ∧ d 0 1 = ro 0 1 ∧ d 0 2 = ro 0 2 ∧ d 0 3 = ro 0 3
theorem CN_cp {d ro : S2} (h : CP d ro) : CN d ro := ⟨h.1, fun p hp => ⟨(h.2.1 p hp).1, (h.2.1 p hp).2.1, (h.2.1 p hp).2.2.1, (h.2.1 p hp).2.2.2.1⟩, h.2.2⟩
theorem CN_e {d ro : S2} {p : Nat} {v : Int32} (h : CN d ro) : CN (sE d 8 p v) ro := by
  obtain ⟨h1, h2, h3, h4, h5, h6⟩ := h
  have A : ∀ a b, a ≠ 8 → sE d 8 p v a b = d a b := fun a b hab => by rw [sE_v, if_neg (fun hh => hab hh.1)]
  refine ⟨fun j hj => ?_, fun q hq => ?_, ?_, ?_, ?_, ?_⟩
  · rw [A 1 j (by omega), A 2 j (by omega), A 3 j (by omega)]; exact h1 j hj
  · rw [A 4 q (by omega), A 5 q (by omega), A 6 q (by omega), A 7 q (by omega)]; exact h2 q hq
  · rw [A 0 0 (by omega)]; exact h3
  · rw [A 0 1 (by omega)]; exact h4
  · rw [A 0 2 (by omega)]; exact h5
  · rw [A 0 3 (by omega)]; exact h6
theorem CN_D {d ro : S2} {M : Nat} (h : CN d ro) (hM : M ≤ 8) : dvn d M = dvn ro M := dvn_c (fun j hj => ⟨(h.1 j (by omega)).2.1, (h.1 j (by omega)).2.2⟩) h.2.2.2.2.2 M (Nat.le_refl M)
def TI (rd td : S2) (M p n : Nat) : Prop := CN td rd ∧ ∀ q, q < p → td 8 q = nI (dg M p n q)
def DI (rd td dr : S2) (M p : Nat) : Prop := dr 0 1 = nI (dvn rd M) ∧ ∃ B : Nat → Nat, ∀ m, m < 8 → dr 5 m = nI (B m) ∧ B m < 16 ∧ B m % 2 ^ p = if m < dvn rd M then btf td p m else 0
def vc (rd : S2) (M p n : Nat) : Nat := cn (vd (sdp rd (dg M p n) p) M) p
theorem CV_TI {rd td : S2} {M p n : Nat} (h : TI rd td M p n) (hM : M ≤ 8) (hp : p ≤ 4) : CV td (sdp rd (dg M p n) p) M p := by
  obtain ⟨⟨h1, h2, h3, h4, h5, h6⟩, h7⟩ := h
  refine ⟨fun j hj => ?_, fun q hq => ?_, ?_, ?_⟩
  · rw [sdp_n (by omega), sdp_n (by omega), sdp_n (by omega)]; exact h1 j (by omega)
  · rw [sdp_n (by omega), sdp_n (by omega), sdp_n (by omega), sdp_n (by omega), sdp_8 hq]
    obtain ⟨x1, x2, x3, x4⟩ := h2 q (by omega)
    exact ⟨x1, x2, x3, x4, h7 q hq⟩
  · rw [sdp_n (by omega)]; exact h5
  · rw [sdp_n (by omega)]; exact h6
theorem vc_td {rd td : S2} {M p n : Nat} (h : TI rd td M p n) (hM : M ≤ 8) (hp : p ≤ 4) : cn (vd td M) p = vc rd M p n := by
  unfold vc cn
  rw [mk4_c p (fun q hq => vd_c (CV_TI h hM hp) hq)]
theorem cn_le {f : Nat → Int32} {p : Nat} (hp : p ≤ 4) : cn f p ≤ 4 := by
  have h1 := mk4_lt f p
  have h2 := pw16 p hp
  exact pc4_le _ (by omega)
/-- the party's stand is chosen, and it is driven -/
theorem run1 {rd td dr : S2} {M P p n m : Nat} (hM : M ≤ 8) (hP : P ≤ 4) (hp : p < P) (hm : m < M) (T : TI rd td M p n) (I : DI rd td dr M p) : ∃ d', fX0_runParty dr (sE td 8 p (nI m)) (nI p) = some d' ∧ d' 1 p = vd (sE td 8 p (nI m)) M p ∧ DI rd (sE td 8 p (nI m)) d' M (p + 1) ∧ TI rd (sE td 8 p (nI m)) M (p + 1) (n * M + m) := by
  obtain ⟨I1, B, I2⟩ := I
  have hD := dvn_le rd M
  have e8 : sE td 8 p (nI m) 8 p = nI m := sE_e
  have Cp : CV (sE td 8 p (nI m)) td M p := by
    have A : ∀ a b, ¬ (a = 8 ∧ b = p) → sE td 8 p (nI m) a b = td a b := fun a b hab => by rw [sE_v, if_neg hab]
    refine ⟨fun j hj => ?_, fun q hq => ?_, ?_, ?_⟩
    · rw [A 1 j (by omega), A 2 j (by omega), A 3 j (by omega)]; exact ⟨rfl, rfl, rfl⟩
    · rw [A 4 q (by omega), A 5 q (by omega), A 6 q (by omega), A 7 q (by omega), A 8 q (by omega)]; exact ⟨rfl, rfl, rfl, rfl, rfl⟩
    · rw [A 0 2 (by omega)]
    · rw [A 0 3 (by omega)]
  have eD : dvn (sE td 8 p (nI m)) M = dvn rd M := CN_D (CN_e T.1) hM
  have hpw := pw_le p (by omega)
  obtain ⟨d', e', q1, q2, q3, q4, q5, q6, q7⟩ := pX0_runParty (dr := dr) (rd := sE td 8 p (nI m)) (p := p) (f := m) (D := dvn rd M) (B := B) (by omega) e8 (by omega) I1 (by omega) (fun x hx => ⟨(I2 x hx).1, (I2 x hx).2.1⟩)
  have hcg : ∀ j, j < dvn rd M → (fun j => pc4 (B j % 2 ^ p)) j = cnf (sE td 8 p (nI m)) p j := by
    intro j hj
    dsimp only
    rw [(I2 j (by omega)).2.2, if_pos hj]
    unfold cnf
    rw [btf_c Cp p (Nat.le_refl p) j (by omega)]
  refine ⟨d', e', ?_, ⟨by rw [q1]; exact I1, fun x => B x % 2 ^ p + if x < dvn rd M ∧ rnb (sE td 8 p (nI m)) p (fun j => pc4 (B j % 2 ^ p)) x = true then 2 ^ p else 0, fun x hx => ⟨q7 x hx, ?_, ?_⟩⟩, CN_e T.1, fun q hq => ?_⟩
  · rw [q3, tr_congr (dvn rd M) hcg]
    unfold vd TT
    rw [eD]
  · have := Nat.mod_lt (B x) (Nat.two_pow_pos p)
    dsimp only
    split <;> omega
  · have h1 := Nat.mod_lt (B x) (Nat.two_pow_pos p)
    dsimp only
    rw [Nat.mod_eq_of_lt (by rw [Nat.pow_succ]; split <;> omega), (I2 x hx).2.2]
    by_cases hxD : x < dvn rd M
    · rw [if_pos hxD, if_pos hxD, btf_s, rnb_congr hcg hxD, btf_c Cp p (Nat.le_refl p) x (by omega)]
      by_cases hr : rnb (sE td 8 p (nI m)) p (cnf (sE td 8 p (nI m)) p) x = true
      · rw [if_pos ⟨hxD, hr⟩, if_pos hr]
      · rw [if_neg (fun z => hr z.2), if_neg hr]
    · rw [if_neg hxD, if_neg (fun z => hxD z.1), if_neg hxD]
  · rw [sE_v]
    by_cases hx : 8 = 8 ∧ q = p
    · rw [if_pos hx, hx.2, dg_l hm]
    · rw [if_neg hx, T.2 q (by omega), dg_s hm (by omega)]
theorem DI_down {rd td dr : S2} {M p : Nat} (hM : M ≤ 8) (h : DI rd td dr M (p + 1)) : DI rd td dr M p := by
  obtain ⟨h1, B, h2⟩ := h
  refine ⟨h1, B, fun m hm => ⟨(h2 m hm).1, (h2 m hm).2.1, ?_⟩⟩
  have e : B m % 2 ^ p = B m % 2 ^ (p + 1) % 2 ^ p := by
    rw [Nat.mod_mod_of_dvd _ (Nat.pow_dvd_pow 2 (Nat.le_succ p))]
  rw [e, (h2 m hm).2.2]
  by_cases hD : m < dvn rd M
  · rw [if_pos hD, if_pos hD, btf_s]
    have hl := btf_lt td p m
    split
    · rw [Nat.add_mod_right, Nat.mod_eq_of_lt hl]
    · rw [Nat.add_zero, Nat.mod_eq_of_lt hl]
  · rw [if_neg hD, if_neg hD, Nat.zero_mod]
theorem TI_down {rd td : S2} {M p n m : Nat} (hm : m < M) (h : TI rd td M (p + 1) (n * M + m)) : TI rd td M p n := ⟨h.1, fun q hq => by rw [h.2 q (by omega), dg_s hm hq]⟩
def Fb (rd : S2) (M P N : Nat) : Nat := nv (sdp rd (dg M P N) P) M P
def SI (rd sk : S2) (M P k : Nat) : Prop := sk 0 0 = nI (bst (Fb rd M P) k).1 - 1 ∧ (0 < (bst (Fb rd M P) k).1 → ∀ q, q < P → sk 1 q = nI (dg M P (bst (Fb rd M P) k).2 q)) ∧ ∀ q, q ≤ 4 → sk 2 q = nI (hk (can rd M P) (4 - q))
theorem cmp1 : ∀ b, b < 8 → ∀ x, x < 10 → (nI b - (1 : Int32) < nI x ↔ b < x + 1) := by decide
theorem Fb_le {rd : S2} {M P : Nat} (hP : P ≤ 4) (N : Nat) : Fb rd M P N ≤ 4 := nv_le _ _ _ hP
theorem prune {rd : S2} {M P p j n N : Nat} (hM : M ≤ 8) (hM0 : 0 < M) (hP : P ≤ 4) (hpl : nI 0 < rd 0 2) (hj : p + j = P) (hN : N / M ^ j = n) : Fb rd M P N ≤ vc rd M p n + hk (can rd M P) (4 - p) := by
  have h1 := cn_b (f := vd (sdp rd (dg M P N) P) M) (c := can rd M P) hP (fun r hr hv => vd_can hM hr (dg_lt hM0) hpl hv) j p hj
  have e : cn (vd (sdp rd (dg M P N) P) M) p = vc rd M p n := by
    unfold vc cn
    rw [mk4_c p (fun q hq => vd_c (P := p) (d := sdp rd (dg M P N) P) (ro := sdp rd (dg M p n) p) ⟨fun j hj => ?_, fun q hq => ?_, ?_, ?_⟩ hq)]
    · rw [sdp_n (by omega), sdp_n (by omega), sdp_n (by omega), sdp_n (by omega), sdp_n (by omega), sdp_n (by omega)]; exact ⟨rfl, rfl, rfl⟩
    · rw [sdp_n (by omega), sdp_n (by omega), sdp_n (by omega), sdp_n (by omega), sdp_n (by omega), sdp_n (by omega), sdp_n (by omega), sdp_n (by omega), sdp_8 (by omega), sdp_8 hq, dg_pre hj hN hq]; exact ⟨rfl, rfl, rfl, rfl, rfl⟩
    · rw [sdp_n (by omega), sdp_n (by omega)]
    · rw [sdp_n (by omega), sdp_n (by omega)]
  rw [e] at h1
  exact h1
theorem rng {n A N : Nat} (h1 : n * A ≤ N) (h2 : N < n * A + A) : N / A = n := by
  obtain ⟨r, rfl⟩ : ∃ r, N = n * A + r := ⟨N - n * A, by omega⟩
  have hr : r < A := by omega
  rw [Nat.mul_comm n A, Nat.mul_add_div (by omega), Nat.div_eq_of_lt hr, Nat.add_zero]
theorem seek {rd : S2} {M P : Nat} (hM : M ≤ 8) (hM0 : 0 < M) (hP : P ≤ 4) (r0 : rd 0 0 = nI M) (r1 : rd 0 1 = nI P) (hpl : nI 0 < rd 0 2) : ∀ (j p n fuel : Nat) (sk td dr : S2), p + j = P → j < fuel → SI rd sk M P (n * M ^ j) → TI rd td M p n → DI rd td dr M p → ∃ sk' td' dr', fX3_seekFrom_F fuel sk td dr (nI p) (nI (vc rd M p n)) = some (sk', td', dr') ∧ SI rd sk' M P (n * M ^ j + M ^ j) ∧ TI rd td' M p n ∧ DI rd td' dr' M p := by
  intro j
  induction j with
  | zero =>
    intro p n fuel sk td dr hp hfu S T I
    obtain ⟨k, rfl⟩ : ∃ k, fuel = k + 1 := ⟨fuel - 1, by omega⟩
    have hpP : p = P := by omega
    subst hpP
    rw [Nat.pow_zero, Nat.mul_one] at S ⊢
    obtain ⟨S1, S2', S3⟩ := S
    have hv : vc rd M p n ≤ 4 := cn_le hP
    have hb := bst_le (f := Fb rd M p) (fun k => Fb_le hP k) n
    have h0 : hk (can rd M p) (4 - p) = 0 := hk_0 hP (fun r hr => by unfold can; rw [decide_eq_false (by omega), Bool.false_and]) (4 - p) (Nat.le_refl _)
    have eF : Fb rd M p n = vc rd M p n := rfl
    have t1 : td 0 1 = nI p := by rw [T.1.2.2.2.1, r1]
    show ∃ sk' td' dr', fX3_seekFrom_S (fX3_seekFrom_F k) sk td dr (nI p) (nI (vc rd M p n)) = some (sk', td', dr') ∧ _
    unfold fX3_seekFrom_S
    rw [if_neg (show ¬ (4 : Int32) < nI p from nI_nlt (a := 4) (b := p) (by omega) (by decide)), gd_n (by omega) (by decide), cl_n (by omega), S3 p hP, h0, nI_ad, Nat.add_zero, S1]
    by_cases c1 : (bst (Fb rd M p) n).1 < vc rd M p n + 1
    · rw [if_pos ((cmp1 _ (by omega) _ (by omega)).mpr c1), pX2_hasParty t1, bd_s, blw_nI (by omega) (by omega), decide_eq_false (Nat.lt_irrefl p)]
      simp only [it_f, nm_u]
      refine ⟨_, _, _, rfl, ⟨?_, fun _ q hq => ?_, fun q hq => ?_⟩, T, I⟩
      · rw [bst_s, eF, if_pos c1, sR_v, if_neg (by omega), sE_e]
        exact (nI_pred _).symm
      · rw [bst_s, eF, if_pos c1, sR_v, if_pos rfl, cpy_v (by omega), T.2 q hq]
      · rw [sR_v, if_neg (by omega), sE_v, if_neg (by omega), S3 q hq]
    · rw [if_neg (fun hh => c1 ((cmp1 _ (by omega) _ (by omega)).mp hh))]
      refine ⟨_, _, _, rfl, ?_, T, I⟩
      have e : bst (Fb rd M p) (n + 1) = bst (Fb rd M p) n := by rw [bst_s, eF, if_neg c1]
      unfold SI
      rw [e]
      exact ⟨S1, S2', S3⟩
  | succ j ih =>
    intro p n fuel sk td dr hp hfu S T I
    obtain ⟨k, rfl⟩ : ∃ k, fuel = k + 1 := ⟨fuel - 1, by omega⟩
    have hpP : p < P := by omega
    obtain ⟨S1, S2', S3⟩ := id S
    have hv : vc rd M p n ≤ 4 := cn_le (by omega)
    have hb := bst_le (f := Fb rd M P) (fun k => Fb_le hP k) (n * M ^ (j + 1))
    have hh4 := hk_le (can rd M P) (4 - p)
    have t1 : td 0 1 = nI P := by rw [T.1.2.2.2.1, r1]
    show ∃ sk' td' dr', fX3_seekFrom_S (fX3_seekFrom_F k) sk td dr (nI p) (nI (vc rd M p n)) = some (sk', td', dr') ∧ _
    unfold fX3_seekFrom_S
    rw [if_neg (show ¬ (4 : Int32) < nI p from nI_nlt (a := 4) (b := p) (by omega) (by decide)), gd_n (by omega) (by decide), cl_n (by omega), S3 p (by omega), nI_ad, S1]
    by_cases c1 : (bst (Fb rd M P) (n * M ^ (j + 1))).1 < vc rd M p n + hk (can rd M P) (4 - p) + 1
    · rw [if_pos ((cmp1 _ (by omega) _ (by omega)).mpr c1), pX2_hasParty t1, bd_s, blw_nI (by omega) (by omega), decide_eq_true hpP]
      simp only [it_t]
      have key : ∃ x, wh (fun (c : Int32 × S2 × S2 × S2) => fX3_seekFrom_b57 (fX3_seekFrom_F k) c.2.1 c.2.2.1 c.2.2.2 (nI p) (nI (vc rd M p n)) c.1) 5000 ((0 : Int32), sk, td, dr) = some x ∧ (SI rd x.2.1 M P (n * M ^ (j + 1) + M ^ (j + 1)) ∧ TI rd x.2.2.1 M p n ∧ DI rd x.2.2.1 x.2.2.2 M p) := by
        refine wh_ex (body := fun (c : Int32 × S2 × S2 × S2) => fX3_seekFrom_b57 (fX3_seekFrom_F k) c.2.1 c.2.2.1 c.2.2.2 (nI p) (nI (vc rd M p n)) c.1)
          (fun m c => c.1 = nI m ∧ SI rd c.2.1 M P (n * M ^ (j + 1) + m * M ^ j) ∧ TI rd c.2.2.1 M p n ∧ DI rd c.2.2.1 c.2.2.2 M p)
          (fun x => SI rd x.2.1 M P (n * M ^ (j + 1) + M ^ (j + 1)) ∧ TI rd x.2.2.1 M p n ∧ DI rd x.2.2.1 x.2.2.2 M p) M (fun m c hm hI => ?_) (fun c hI => ?_) 5000 0 _ (by omega) (by omega) ⟨rfl, by rw [Nat.zero_mul, Nat.add_zero]; exact S, T, I⟩
        · obtain ⟨k1, k2, k3, k4⟩ := hI
          left
          obtain ⟨d', x1, x2, x3, x4⟩ := run1 hM hP hpP hm k3 k4
          have ev : vc rd M (p + 1) (n * M + m) = vc rd M p n + if vd (sE c.2.2.1 8 p (nI m)) M p = -4 then 0 else 1 := by
            rw [← vc_td x4 hM (by omega), cn_s (by omega), vc_td (TI_down hm x4) hM (by omega)]
          have e1 : (n * M + m) * M ^ j = n * M ^ (j + 1) + m * M ^ j := by
            rw [Nat.add_mul, Nat.mul_assoc, Nat.pow_succ, Nat.mul_comm M (M ^ j)]
          obtain ⟨sk', td', dr', y1, y2, y3, y4⟩ := ih (p + 1) (n * M + m) k c.2.1 (sE c.2.2.1 8 p (nI m)) d' (by omega) (by omega) (by rw [e1]; exact k2) x4 x3
          rw [e1] at y2
          have e2 : n * M ^ (j + 1) + m * M ^ j + M ^ j = n * M ^ (j + 1) + (m + 1) * M ^ j := by
            rw [Nat.succ_mul, Nat.add_assoc]
          rw [e2] at y2
          have t0 : c.2.2.1 0 0 = nI M := by rw [k3.1.2.2.1, r0]
          refine ⟨(nI (m + 1), sk', td', dr'), ?_, rfl, y2, TI_down hm y3, DI_down hM y4⟩
          show fX3_seekFrom_b57 (fX3_seekFrom_F k) c.2.1 c.2.2.1 c.2.2.2 (nI p) (nI (vc rd M p n)) c.1 = _
          unfold fX3_seekFrom_b57 fX3_seekFrom_112
          rw [k1, t0, if_neg (nI_ge hm (by omega)), gd_n (by omega) (by decide), nm_u, cl_n (by omega), x1, bd_s, pX0_has (by omega), x2, nI_p1, nI_p1]
          by_cases c2 : vd (sE c.2.2.1 8 p (nI m)) M p = -4
          · have ev0 : vc rd M p n = vc rd M (p + 1) (n * M + m) := by rw [ev, if_pos c2]; rfl
            rw [if_pos c2, bd_s, if_pos rfl, ev0, y1, bd_s, nm_u]
          · have ev0 : nI (vc rd M p n) + (1 : Int32) = nI (vc rd M (p + 1) (n * M + m)) := by rw [ev, if_neg c2, nI_p1]
            rw [if_neg c2, bd_s, if_neg (by decide), ev0, y1, bd_s, nm_u]
        · obtain ⟨k1, k2, k3, k4⟩ := hI
          have t0 : c.2.2.1 0 0 = nI M := by rw [k3.1.2.2.1, r0]
          refine ⟨c, ?_, ?_, k3, k4⟩
          · show fX3_seekFrom_b57 (fX3_seekFrom_F k) c.2.1 c.2.2.1 c.2.2.2 (nI p) (nI (vc rd M p n)) c.1 = _
            unfold fX3_seekFrom_b57
            rw [k1, if_pos (by rw [t0]; exact nI_le (Nat.le_refl M) (by omega)), ← k1]
          · have e : M * M ^ j = M ^ (j + 1) := by rw [Nat.pow_succ, Nat.mul_comm]
            rw [e] at k2
            exact k2
      obtain ⟨x, ex, q1, q2, q3⟩ := key
      rw [ex, bd_s]
      exact ⟨_, _, _, rfl, q1, q2, q3⟩
    · rw [if_neg (fun hh => c1 ((cmp1 _ (by omega) _ (by omega)).mp hh))]
      refine ⟨_, _, _, rfl, ?_, T, I⟩
      have e : bst (Fb rd M P) (n * M ^ (j + 1) + M ^ (j + 1)) = bst (Fb rd M P) (n * M ^ (j + 1)) := by
        refine bst_n (M ^ (j + 1)) (fun N h1 h2 => ?_)
        have := prune (p := p) (j := j + 1) hM hM0 hP hpl hp (rng h1 h2)
        omega
      unfold SI
      rw [e]
      exact ⟨S1, S2', S3⟩
theorem c_alone {rd td dr sk : S2} {M P p : Nat} (hM : M ≤ 8) (hP : P ≤ 4) (hp : p < P) (r0 : rd 0 0 = nI M) (T : CN td rd) : ∃ td' dr', fX3_canBeHeardAlone sk td dr (nI p) = some (bI (can rd M P p), td', dr') ∧ CN td' rd := by
  have hD := dvn_le rd M
  have t0 : td 0 0 = nI M := by rw [T.2.2.1, r0]
  obtain ⟨d1, e1, b1, b2, b3, b4⟩ := pX0_begin (dr := dr) t0 hM
  rw [CN_D T hM] at b2
  have hpw := pw_le p (by omega)
  unfold fX3_canBeHeardAlone
  rw [e1, bd_s]
  have hcan : can rd M P p = anyb (alo rd M p) M := by unfold can; rw [decide_eq_true hp, Bool.true_and]
  have key : ∃ x, wh (fun (c : Int32 × S2 × S2) => fX3_canBeHeardAlone_b13 sk c.2.1 c.2.2 (nI p) c.1) 5000 ((0 : Int32), td, d1) = some x ∧ ((∃ c, x = .inl c ∧ anyb (alo rd M p) M = false ∧ CN c.2.1 rd) ∨ (∃ a b, x = .inr ((1 : Int32), a, b) ∧ anyb (alo rd M p) M = true ∧ CN a rd)) := by
    refine wh_ex (body := fun (c : Int32 × S2 × S2) => fX3_canBeHeardAlone_b13 sk c.2.1 c.2.2 (nI p) c.1)
      (fun m c => c.1 = nI m ∧ anyb (alo rd M p) m = false ∧ CN c.2.1 rd ∧ c.2.2 0 1 = nI (dvn rd M) ∧ ∃ B : Nat → Nat, ∀ x, x < 8 → c.2.2 5 x = nI (B x) ∧ B x < 16 ∧ B x % 2 ^ p = 0)
      (fun x => (∃ c, x = .inl c ∧ anyb (alo rd M p) M = false ∧ CN c.2.1 rd) ∨ (∃ a b, x = .inr ((1 : Int32), a, b) ∧ anyb (alo rd M p) M = true ∧ CN a rd)) M (fun m c hm hI => ?_) (fun c hI => ?_) 5000 0 _ (by omega) (by omega) ⟨rfl, rfl, T, b2, fun _ => 0, fun x hx => ⟨b4 x hx, show 0 < 16 by decide, Nat.zero_mod _⟩⟩
    · obtain ⟨k1, k2, k3, k4, B, k5⟩ := hI
      have e8 : sE c.2.1 8 p (nI m) 8 p = nI m := sE_e
      obtain ⟨d', e', q1, q2, q3, q4, q5, q6, q7⟩ := pX0_runParty (dr := c.2.2) (rd := sE c.2.1 8 p (nI m)) (p := p) (f := m) (D := dvn rd M) (B := B) (by omega) e8 (by omega) k4 (by omega) (fun x hx => ⟨(k5 x hx).1, (k5 x hx).2.1⟩)
      have z0 : c.2.1 0 0 = nI M := by rw [k3.2.2.1, r0]
      have N1 := CN_e (p := p) (v := nI m) k3
      have etr : tr (sE c.2.1 8 p (nI m)) p (fun j => pc4 (B j % 2 ^ p)) (dvn rd M) = tr (sE rd 8 p (nI m)) p (fun _ => 0) (dvn rd M) := by
        refine tr_c1 (M := M) (fun j hj => ?_) ?_ ?_ (dvn rd M) hD (fun j hj => ?_)
        · rw [sE_v (σ := rd), if_neg (by omega), sE_v (σ := rd), if_neg (by omega), sE_v (σ := rd), if_neg (by omega)]
          exact N1.1 j (by omega)
        · rw [sE_v (σ := rd), if_neg (by omega), sE_v (σ := rd), if_neg (by omega), sE_v (σ := rd), if_neg (by omega), sE_v (σ := rd), if_neg (by omega), e8, sE_e]
          obtain ⟨y1, y2, y3, y4⟩ := N1.2.1 p (by omega)
          exact ⟨y1, y2, y3, y4, rfl⟩
        · rw [sE_v (σ := rd), if_neg (by omega)]
          exact N1.2.2.2.2.1
        · rw [(k5 j (by omega)).2.2]
          rfl
      rw [etr] at q3
      have E : fX3_canBeHeardAlone_b13 sk c.2.1 c.2.2 (nI p) c.1 = if alo rd M p m = true then some (.inr (.inr ((1 : Int32), sE c.2.1 8 p (nI m), d'))) else some (.inl (nI (m + 1), sE c.2.1 8 p (nI m), d')) := by
        unfold fX3_canBeHeardAlone_b13 alo
        rw [k1, z0, if_neg (nI_ge hm (by omega)), gd_n (by omega) (by decide), nm_u, cl_n (by omega), e', bd_s, pX0_has (by omega), q3, nm_u, nI_p1]
        by_cases c1 : (tr (sE rd 8 p (nI m)) p (fun _ => 0) (dvn rd M)).2.1 = -4
        · rw [if_pos c1, bd_s, if_pos rfl, decide_eq_true c1, if_neg (by decide)]
        · rw [if_neg c1, bd_s, if_neg (by decide), decide_eq_false c1, if_pos (by decide)]
      cases ha : alo rd M p m with
      | false =>
        left
        rw [ha, if_neg (by decide)] at E
        refine ⟨_, E, rfl, ?_, N1, (q1 1).trans k4, fun x => B x % 2 ^ p + if x < dvn rd M ∧ rnb (sE c.2.1 8 p (nI m)) p (fun j => pc4 (B j % 2 ^ p)) x = true then 2 ^ p else 0, fun x hx => ⟨q7 x hx, ?_, ?_⟩⟩
        · show (anyb (alo rd M p) m || alo rd M p m) = false
          rw [k2, ha]; rfl
        · have := Nat.mod_lt (B x) (Nat.two_pow_pos p)
          dsimp only
          split <;> omega
        · dsimp only
          rw [(k5 x hx).2.2, Nat.zero_add]
          split
          · rw [Nat.mod_self]
          · rw [Nat.zero_mod]
      | true =>
        right
        rw [ha, if_pos rfl] at E
        exact ⟨_, E, Or.inr ⟨_, _, rfl, anyb_t ha M hm, N1⟩⟩
    · obtain ⟨k1, k2, k3, _⟩ := hI
      have z0 : c.2.1 0 0 = nI M := by rw [k3.2.2.1, r0]
      refine ⟨.inl c, ?_, Or.inl ⟨c, rfl, k2, k3⟩⟩
      show fX3_canBeHeardAlone_b13 sk c.2.1 c.2.2 (nI p) c.1 = _
      unfold fX3_canBeHeardAlone_b13
      rw [k1, if_pos (by rw [z0]; exact nI_le (Nat.le_refl M) (by omega)), ← k1]
  obtain ⟨x, ex, hq⟩ := key
  rw [ex, bd_s, hcan]
  rcases hq with ⟨c, rfl, h1, h2⟩ | ⟨a, b, rfl, h1, h2⟩
  · rw [h1]; exact ⟨_, _, rfl, h2⟩
  · rw [h1]; exact ⟨_, _, rfl, h2⟩
theorem c_hopes {rd td dr sk : S2} {M P : Nat} (hM : M ≤ 8) (hP : P ≤ 4) (r0 : rd 0 0 = nI M) (r1 : rd 0 1 = nI P) (T : CN td rd) (h4 : sk 2 4 = 0) : ∃ sk' td' dr', fX3_reckonHopes sk td dr = some (sk', td', dr') ∧ CN td' rd ∧ ∀ q, q ≤ 4 → sk' 2 q = nI (hk (can rd M P) (4 - q)) := by
  unfold fX3_reckonHopes
  have key : ∃ x, wh (fun (c : Int32 × S2 × S2 × S2) => fX3_reckonHopes_b2 c.2.1 c.2.2.1 c.2.2.2 c.1) 5000 ((3 : Int32), sk, td, dr) = some x ∧ (CN x.2.2.1 rd ∧ ∀ q, q ≤ 4 → x.2.1 2 q = nI (hk (can rd M P) (4 - q))) := by
    refine wh_ex (body := fun (c : Int32 × S2 × S2 × S2) => fX3_reckonHopes_b2 c.2.1 c.2.2.1 c.2.2.2 c.1)
      (fun i c => c.1 = nI (4 - i) - 1 ∧ CN c.2.2.1 rd ∧ ∀ q, 4 - i ≤ q → q ≤ 4 → c.2.1 2 q = nI (hk (can rd M P) (4 - q)))
      (fun x => CN x.2.2.1 rd ∧ ∀ q, q ≤ 4 → x.2.1 2 q = nI (hk (can rd M P) (4 - q))) 4 (fun i c hi hI => ?_) (fun c hI => ?_) 5000 0 _ (by decide) (by decide) ⟨rfl, T, fun q h1 h2 => by rw [show q = 4 by omega]; exact h4⟩
    · obtain ⟨k1, k2, k3⟩ := hI
      left
      have e3 : c.1 = nI (3 - i) := by rw [k1, show 4 - i = (3 - i) + 1 by omega, nI_pred]
      have t1 : c.2.2.1 0 1 = nI P := by rw [k2.2.2.2.1, r1]
      have eh : hk (can rd M P) (i + 1) = hk (can rd M P) i + if can rd M P (3 - i) = true then 1 else 0 := rfl
      have ek : c.2.1 2 (4 - i) = nI (hk (can rd M P) i) := by rw [k3 (4 - i) (Nat.le_refl _) (by omega), show 4 - (4 - i) = i by omega]
      have E43 : ∀ (td1 dr1 : S2) (b : Nat), b = (if can rd M P (3 - i) = true then 1 else 0) → CN td1 rd → ∃ c', fX3_reckonHopes_43 c.2.1 td1 dr1 (nI (3 - i)) (nI b) (nI (hk (can rd M P) i)) (nI (3 - i)) = some (.inl c') ∧ c'.1 = nI (4 - (i + 1)) - 1 ∧ CN c'.2.2.1 rd ∧ ∀ q, 4 - (i + 1) ≤ q → q ≤ 4 → c'.2.1 2 q = nI (hk (can rd M P) (4 - q)) := by
        intro td1 dr1 b hb hn
        unfold fX3_reckonHopes_43
        rw [gd_n (by omega) (by decide), nm_u, nm_u, cl_n (by omega), nI_ad, hb, ← eh]
        refine ⟨_, rfl, ?_, hn, fun q h1 h2 => ?_⟩
        · rw [show 4 - (i + 1) = 3 - i by omega, Int32.sub_eq_add_neg]
        · dsimp only
          rw [sE_v]
          by_cases hx : 2 = 2 ∧ q = 3 - i
          · rw [if_pos hx, hx.2, show 4 - (3 - i) = i + 1 by omega]
          · rw [if_neg hx, k3 q (by omega) h2]
      show ∃ s', fX3_reckonHopes_b2 c.2.1 c.2.2.1 c.2.2.2 c.1 = some (.inl s') ∧ _
      unfold fX3_reckonHopes_b2
      rw [e3, if_neg (nI_pos (by omega)), nI_p1, gd_n (by omega) (by decide), pX2_hasParty t1, bd_s, blw_nI (by omega) (by omega), cl_n (by omega), show 3 - i + 1 = 4 - i by omega, ek]
      by_cases c1 : 3 - i < P
      · rw [decide_eq_true c1]
        obtain ⟨td1, dr1, x1, x2⟩ := c_alone (sk := c.2.1) (dr := c.2.2.2) hM hP c1 r0 k2
        simp only [it_t]
        rw [x1, bd_s]
        cases hc : can rd M P (3 - i) with
        | false =>
          simp only [it_f]
          exact E43 td1 dr1 0 (by rw [hc]; rfl) x2
        | true =>
          simp only [it_t]
          exact E43 td1 dr1 1 (by rw [hc]; rfl) x2
      · rw [decide_eq_false c1]
        simp only [it_f]
        exact E43 c.2.2.1 c.2.2.2 0 (by unfold can; rw [decide_eq_false c1]; rfl) k2
    · obtain ⟨k1, k2, k3⟩ := hI
      refine ⟨c, ?_, k2, fun q hq => k3 q (by omega) hq⟩
      show fX3_reckonHopes_b2 c.2.1 c.2.2.1 c.2.2.2 c.1 = _
      unfold fX3_reckonHopes_b2
      rw [if_pos (by rw [k1]; decide)]
  obtain ⟨x, ex, h1, h2⟩ := key
  rw [ex, bd_s]
  exact ⟨_, _, _, rfl, h1, h2⟩
theorem c_seek {rd td dr sk : S2} {M P : Nat} (hM : M ≤ 8) (hM0 : 0 < M) (hP : P ≤ 4) (r0 : rd 0 0 = nI M) (r1 : rd 0 1 = nI P) (hpl : nI 0 < rd 0 2) (h4 : sk 2 4 = 0) : ∃ sk' td' dr', fX3_seekFor sk td dr rd = some (sk', td', dr') ∧ sk' 2 4 = 0 ∧ sk' 0 0 = nI (bst (Fb rd M P) (M ^ P)).1 - 1 ∧ ∀ q, q < P → sk' 1 q = nI (dg M P (bst (Fb rd M P) (M ^ P)).2 q) := by
  obtain ⟨d, e1, hc⟩ := pX2_copy (rd := td) (ro := rd)
  obtain ⟨sk1, td1, dr1, e2, T1, H1⟩ := c_hopes (dr := dr) hM hP r0 r1 (CN_cp hc) h4
  have t0 : td1 0 0 = nI M := by rw [T1.2.2.1, r0]
  obtain ⟨d2, e3, b1, b2, b3, b4⟩ := pX0_begin (dr := dr1) t0 hM
  rw [CN_D T1 hM] at b2
  have v0 : vc rd M 0 0 = 0 := by
    unfold vc cn mk4
    rfl
  obtain ⟨sk', td', dr', e4, S, _, _⟩ := seek hM hM0 hP r0 r1 hpl P 0 0 8 (sE sk1 0 0 (-1)) td1 d2 (by omega) (by omega) ⟨by rw [Nat.zero_mul]; exact sE_e, fun hh => by rw [Nat.zero_mul] at hh; exact absurd hh (Nat.lt_irrefl 0), fun q hq => by rw [sE_v, if_neg (by omega)]; exact H1 q hq⟩ ⟨T1, fun q hq => by omega⟩ ⟨b2, fun _ => 0, fun m hm => ⟨b4 m hm, show 0 < 16 by decide, by unfold btf; split <;> rfl⟩⟩
  rw [Nat.zero_mul, Nat.zero_add] at S
  obtain ⟨S1, S2', S3⟩ := S
  unfold fX3_seekFor
  rw [v0] at e4
  rw [e1, bd_s, e2, bd_s, nm_u]
  dsimp only
  rw [e3, bd_s]
  have e5 : fX3_seekFrom_F 8 (sE sk1 0 0 (-1)) td1 d2 0 0 = some (sk', td', dr') := e4
  rw [e5, bd_s]
  exact ⟨_, _, _, rfl, (S3 4 (by omega)).trans rfl, S1, S2' (bst_1 _ (Nat.pow_pos hM0))⟩
