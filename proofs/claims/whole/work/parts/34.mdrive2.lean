/-! PURE: the reference's drive, mile by mile -/
theorem TT_0 {rd : S2} {p m : Nat} (h : (TT rd p m).1 = true) : 0 < m := by
  cases m with
  | zero => exact absurd (show false = true from h) (by decide)
  | succ m => exact Nat.succ_pos m
theorem TT_s (rd : S2) (p m : Nat) : TT rd p (m + 1) = stp rd p m (pc4 (btf rd p m)) (TT rd p m) := rfl
theorem rn_T (rd : S2) (p m : Nat) : rnb rd p (cnf rd p) m = (acb rd p m (TT rd p m) && cab rd p m (pc4 (btf rd p m)) (TT rd p m)) := rfl
theorem pX9_mgStep {mo rd : S2} {M P p m : Nat} (h : RM mo rd M P) (hM : M ≤ 8) (hP : P ≤ 4) (hp : p < P) (hm : m < M) (hx : psq mo p (TT rd p m)) (hb : mo 11 m = nI (btf rd p m)) : ∃ s', fX9_mileGoes_b4 mo (nI m) (nI (pc4 (btf rd p m))) (nI p) = some (.inl (nI (pc4 (btf rd (p + 1) m)), nI (p + 1), s')) ∧ psq s' p (TT rd p (m + 1)) ∧ s' 11 m = nI (btf rd (p + 1) m) ∧ ∀ a b, (a < 6 ∨ 11 < a ∨ (a ≤ 10 ∧ b ≠ p) ∨ (a = 11 ∧ b ≠ m)) → s' a b = mo a b := by
  have hp4 : p < 4 := by omega
  have cp : Int32.toNatClampNeg (nI p) = p := cl_n (by omega)
  have hlt := btf_lt rd p m
  rw [TT_s, btf_s, rn_T]
  generalize hX : TT rd p m = x at hx
  generalize hB : btf rd p m = B at hb hlt
  have h0 : x.1 = true → 0 < m := fun e => TT_0 (rd := rd) (p := p) (by rw [hX]; exact e)
  have hcr := pX9_canRun (c := pc4 B) h hM hP hp hm hx h0
  have E : fX9_mileGoes_b4 mo (nI m) (nI (pc4 B)) (nI p) = if acb rd p m x = true then fX9_mileGoes_31 mo (nI m) (nI (pc4 B)) (nI p) else some (.inl (nI (pc4 B), nI (p + 1), mo)) := by
    unfold fX9_mileGoes_b4 acb
    rw [h.2.2.2.2.2, if_neg (nI_ge hp (by omega)), pX9_of4 h hP hp, bd_s, gd_n hp4 (by decide), cp, hx.1, nm_u, nI_p1]
    by_cases h1 : rd 8 p = nI m
    · simp [h1]
    · cases hr : x.1 with
      | false => simp [h1, bI]
      | true => simp [h1, bI]
  rw [E]
  by_cases ha : acb rd p m x = true
  · rw [if_pos ha]
    unfold fX9_mileGoes_31
    rw [hcr, bd_s]
    by_cases hc : cab rd p m (pc4 B) x = true
    · obtain ⟨s', e', hs⟩ := pX9_runsIn h hM hP hp hm hx
      rw [hc, if_neg (by decide), e', bd_s, nm_u, nm_u, nI_p1, nI_p1]
      refine ⟨s', ?_, ?_, ?_, fun a b hab => ?_⟩
      · rw [ha]
        simp only [Bool.and_self, if_true]
        rw [pc4_add p hp4 B hlt]
      · unfold stp psq
        rw [if_pos ha, if_pos hc]
        simp only [hs]
        by_cases hh : hr1 rd p m x < rd 6 p
        · simp [hh, bI, hx.2.2.1]
        · simp [hh, bI, hx.2.2.1]
      · rw [hs, ha, if_neg (by omega), if_neg (by omega), if_neg (by omega), if_neg (by omega), if_pos ⟨rfl, rfl⟩, hb, bit_or p hp4 B hlt]
        simp
      · rw [hs, if_neg (by omega), if_neg (by omega), if_neg (by omega), if_neg (by omega), if_neg (by omega)]
    · have hc' : cab rd p m (pc4 B) x = false := by simpa using hc
      have b0 : vp_nar .boolean (0 : Int32) = 0 := by decide
      rw [hc', if_pos (by decide), gd_n hp4 (by decide), nm_u, nm_u, nm_u, nI_p1, cp, b0]
      refine ⟨sE (sE mo 7 p (nI m)) 10 p 0, ?_, ?_, ?_, fun a b hab => ?_⟩
      · simp
      · unfold stp psq
        rw [if_pos ha, if_neg hc]
        simp [sE_v, bI, hx.2.1, hx.2.2.2.1, hx.2.2.2.2]
      · rw [sE_v, if_neg (by omega), sE_v, if_neg (by omega), hb]
        simp
      · rw [sE_v, if_neg (by omega), sE_v, if_neg (by omega)]
  · have ha' : acb rd p m x = false := by simpa using ha
    rw [if_neg ha]
    refine ⟨mo, ?_, ?_, ?_, fun a b _ => rfl⟩
    · rw [ha']; simp
    · unfold stp
      rw [if_neg ha]
      exact hx
    · rw [hb, ha']; simp
theorem pX9_mileGoes {mo rd : S2} {M P m : Nat} (h : RM mo rd M P) (hM : M ≤ 8) (hP : P ≤ 4) (hm : m < M) (hx : ∀ q, q < P → psq mo q (TT rd q m)) (hb : mo 11 m = nI 0) : ∃ s', fX9_mileGoes mo (nI m) = some s' ∧ (∀ q, q < P → psq s' q (TT rd q (m + 1))) ∧ s' 11 m = nI (btf rd P m) ∧ ∀ a b, (a < 6 ∨ 11 < a ∨ (a = 11 ∧ b ≠ m)) → s' a b = mo a b := by
  unfold fX9_mileGoes
  have key : ∃ x, wh (fun (c : Int32 × Int32 × S2) => fX9_mileGoes_b4 c.2.2 (nI m) c.1 c.2.1) 5000 ((0 : Int32), (0 : Int32), mo) = some x ∧ (∀ q, q < P → psq x.2.2 q (TT rd q (m + 1))) ∧ x.2.2 11 m = nI (btf rd P m) ∧ ∀ a b, (a < 6 ∨ 11 < a ∨ (a = 11 ∧ b ≠ m)) → x.2.2 a b = mo a b := by
    refine wh_ex (body := fun (c : Int32 × Int32 × S2) => fX9_mileGoes_b4 c.2.2 (nI m) c.1 c.2.1)
      (fun i c => c.1 = nI (pc4 (btf rd i m)) ∧ c.2.1 = nI i ∧ (∀ q, q < i → psq c.2.2 q (TT rd q (m + 1))) ∧ (∀ q, i ≤ q → q < P → psq c.2.2 q (TT rd q m)) ∧ c.2.2 11 m = nI (btf rd i m) ∧ ∀ a b, (a < 6 ∨ 11 < a ∨ (a = 11 ∧ b ≠ m)) → c.2.2 a b = mo a b)
      (fun x => (∀ q, q < P → psq x.2.2 q (TT rd q (m + 1))) ∧ x.2.2 11 m = nI (btf rd P m) ∧ ∀ a b, (a < 6 ∨ 11 < a ∨ (a = 11 ∧ b ≠ m)) → x.2.2 a b = mo a b) P
      (fun i c hi hI => ?_) (fun c hI => ?_) 5000 0 _ (Nat.zero_le _) (by omega) ⟨show (0 : Int32) = nI (pc4 0) by decide, rfl, fun q hq => absurd hq (Nat.not_lt_zero q), fun q _ hq => hx q hq, hb, fun a b _ => rfl⟩
    · obtain ⟨k1, k2, k3, k4, k5, k6⟩ := hI
      have hR : RM c.2.2 rd M P := RM_fr h (fun b => k6 2 b (by omega)) (k6 0 0 (by omega)) (k6 0 1 (by omega))
      obtain ⟨s', e', q1, q2, q3⟩ := pX9_mgStep hR hM hP hi hm (k4 i (Nat.le_refl i) hi) k5
      left
      refine ⟨(nI (pc4 (btf rd (i + 1) m)), nI (i + 1), s'), ?_, rfl, rfl, fun q hq => ?_, fun q hq1 hq2 => ?_, q2, fun a b hab => ?_⟩
      · rw [k1, k2]
        exact e'
      · rcases Nat.lt_or_ge q i with hl | hg
        · have := k3 q hl
          unfold psq at this ⊢
          dsimp only
          rw [q3 10 q (by omega), q3 6 q (by omega), q3 7 q (by omega), q3 8 q (by omega), q3 9 q (by omega)]
          exact this
        · have : q = i := by omega
          subst this
          exact q1
      · have := k4 q (by omega) hq2
        unfold psq at this ⊢
        dsimp only
        rw [q3 10 q (by omega), q3 6 q (by omega), q3 7 q (by omega), q3 8 q (by omega), q3 9 q (by omega)]
        exact this
      · dsimp only
        rw [q3 a b (by omega), k6 a b hab]
    · obtain ⟨k1, k2, k3, k4, k5, k6⟩ := hI
      refine ⟨c, ?_, k3, k5, k6⟩
      unfold fX9_mileGoes_b4
      rw [k6 0 1 (by omega), h.2.2.2.2.2, k2, if_pos (nI_le (Nat.le_refl P) (by omega)), ← k2]
  obtain ⟨x, e, q1, q2, q3⟩ := key
  rw [e, bd_s]
  exact ⟨_, rfl, q1, q2, q3⟩
/-- what the reference's drive leaves: D miles driven -/
def moPost (rd : S2) (P D : Nat) (s : S2) : Prop := s 0 14 = nI D ∧ (∀ q, q < P → psq s q (TT rd q D)) ∧ ∀ j, j < 8 → s 11 j = nI (if j < D then btf rd P j else 0)
theorem pX9_of1 {mo rd : S2} {M P p : Nat} (h : RM mo rd M P) (hP : P ≤ 4) (hp : p < P) : fX9_of mo (nI p) (1 : Int32) = some (rd 5 p) := by
  unfold fX9_of
  rw [m5_1 p (by omega), gd_n (by omega) (by decide), cl_n (by omega), (h.2.1 p hp).2.1]
theorem pX9_dr9 {mo rd : S2} {M P : Nat} (h : RM mo rd M P) (hP : P ≤ 4) : ∃ x, wh (fun (c : Int32 × S2) => fX9_drives_b9 c.2 (0 : Int32) c.1) 5000 ((0 : Int32), mo) = some x ∧ (∀ q, q < P → psq x.2 q (TT rd q 0)) ∧ ∀ a b, (a < 6 ∨ 10 < a) → x.2 a b = mo a b := by
  refine wh_ex (body := fun (c : Int32 × S2) => fX9_drives_b9 c.2 (0 : Int32) c.1)
    (fun i c => c.1 = nI i ∧ (∀ q, q < i → q < P → psq c.2 q (TT rd q 0)) ∧ ∀ a b, (a < 6 ∨ 10 < a) → c.2 a b = mo a b)
    (fun x => (∀ q, q < P → psq x.2 q (TT rd q 0)) ∧ ∀ a b, (a < 6 ∨ 10 < a) → x.2 a b = mo a b) 4
    (fun i c hi hI => ?_) (fun c hI => ?_) 5000 0 _ (Nat.zero_le _) (by omega) ⟨rfl, fun q hq => absurd hq (Nat.not_lt_zero q), fun a b _ => rfl⟩
  · obtain ⟨k1, k2, k3⟩ := hI
    have ci : Int32.toNatClampNeg (nI i) = i := cl_n (by omega)
    have b0 : vp_nar .boolean (0 : Int32) = 0 := by decide
    have e1 : ∀ s : S2, fX9_of s (nI i) (1 : Int32) = some (s 2 (24 + 5 * i + 1)) := fun s => by
      unfold fX9_of
      rw [m5_1 i hi, gd_n (by omega) (by decide), cl_n (by omega)]
    left
    refine ⟨(nI (i + 1), sE (sE (sE (sE (sE c.2 6 i (-4)) 7 i (-4)) 8 i 0) 9 i (mo 2 (24 + 5 * i + 1))) 10 i 0), ?_, rfl, fun q hq1 hq2 => ?_, fun a b hab => ?_⟩
    · unfold fX9_drives_b9
      rw [k1, if_neg (show ¬ (4 : Int32) ≤ nI i from nI_ge (a := i) (b := 4) hi (by decide)), gd_n hi (by decide), nm_u, nm_u, nm_u, e1, bd_s, nm_u, nm_u, nm_u, nI_p1, ci, b0]
      rw [show sE (sE (sE c.2 6 i (-4)) 7 i (-4)) 8 i 0 2 (24 + 5 * i + 1) = mo 2 (24 + 5 * i + 1) by
        rw [sE_v, if_neg (by omega), sE_v, if_neg (by omega), sE_v, if_neg (by omega), k3 2 _ (by omega)]]
    · rcases Nat.lt_or_ge q i with hl | hg
      · have := k2 q hl hq2
        unfold psq at this ⊢
        have hne : q ≠ i := by omega
        simp only [sE_v, hne, and_false, if_false]
        exact this
      · have hqi : q = i := by omega
        subst hqi
        unfold psq
        simp only [sE_v]
        have hw := (h.2.1 q hq2).2.1
        simp [TT, tr, bI, hw]
    · dsimp only
      rw [sE_v, if_neg (by omega), sE_v, if_neg (by omega), sE_v, if_neg (by omega), sE_v, if_neg (by omega), sE_v, if_neg (by omega), k3 a b hab]
  · obtain ⟨k1, k2, k3⟩ := hI
    refine ⟨c, ?_, fun q hq => k2 q (by omega) hq, k3⟩
    unfold fX9_drives_b9
    rw [k1, if_pos (show (4 : Int32) ≤ nI 4 from nI_le (a := 4) (b := 4) (Nat.le_refl _) (by decide)), ← k1]
theorem pX9_dr64 {mo : S2} : ∃ x, wh (fun (c : Int32 × S2) => fX9_drives_b64 c.2 (0 : Int32) c.1) 5000 ((0 : Int32), mo) = some x ∧ ∀ a b, x.2 a b = if a = 11 ∧ b < 8 then 0 else mo a b := by
  refine wh_ex (body := fun (c : Int32 × S2) => fX9_drives_b64 c.2 (0 : Int32) c.1)
    (fun i c => c.1 = nI i ∧ ∀ a b, c.2 a b = if a = 11 ∧ b < i then 0 else mo a b)
    (fun c => ∀ a b, c.2 a b = if a = 11 ∧ b < 8 then 0 else mo a b) 8
    (fun i c hi hI => ?_) (fun c hI => ?_) 5000 0 _ (by decide) (by decide) ⟨rfl, fun a b => by simp⟩
  · obtain ⟨h1, h2⟩ := hI
    left
    refine ⟨(nI (i + 1), sE c.2 11 i 0), ?_, rfl, fun a b => ?_⟩
    · unfold fX9_drives_b64
      rw [h1, if_neg (show ¬ (8 : Int32) ≤ nI i from nI_ge (a := i) (b := 8) hi (by decide)), gd_n hi (by decide), cl_n (by omega), nm_u, nm_u, nI_p1]
    · dsimp only
      rw [sE_v, h2]
      by_cases h5 : a = 11
      · subst h5
        by_cases hb : b = i
        · subst hb; simp
        · have : (b < i + 1) ↔ b < i := by omega
          simp [hb, this]
      · simp [h5]
  · obtain ⟨h1, h2⟩ := hI
    refine ⟨c, ?_, h2⟩
    unfold fX9_drives_b64
    rw [h1, if_pos (show (8 : Int32) ≤ nI 8 from nI_le (a := 8) (b := 8) (Nat.le_refl _) (by decide)), ← h1]
theorem pX9_drives {mo rd : S2} {M P : Nat} (h : RM mo rd M P) (hM : M ≤ 8) (hP : P ≤ 4) : ∃ s', fX9_drives mo = some s' ∧ moPost rd P (dvn rd M) s' ∧ ∀ a b, (a < 6 ∨ 11 < a) → (a ≠ 0 ∨ b ≠ 14) → s' a b = mo a b := by
  have hD := dvn_le rd M
  have hlo := dvn_lo rd M
  have hhi := dvn_hi rd M
  generalize hDe : dvn rd M = D at hD hlo hhi
  unfold fX9_drives
  rw [nm_u]
  have R1 : RM (sE mo 0 14 0) rd M P := RM_fr h (fun b => by rw [sE_v, if_neg (by omega)]) (by rw [sE_v, if_neg (by omega)]) (by rw [sE_v, if_neg (by omega)])
  obtain ⟨x1, e1, p1, f1⟩ := pX9_dr9 R1 hP
  rw [e1, bd_s]
  obtain ⟨x2, e2, f2⟩ := pX9_dr64 (mo := x1.2)
  rw [e2, bd_s]
  have F : ∀ a b, (a < 6 ∨ 11 < a) → x2.2 a b = sE mo 0 14 0 a b := fun a b hab => by rw [f2, if_neg (by omega), f1 a b (by omega)]
  have p2 : ∀ q, q < P → psq x2.2 q (TT rd q 0) := fun q hq => by
    have := p1 q hq
    unfold psq at this ⊢
    rw [f2, if_neg (by omega), f2, if_neg (by omega), f2, if_neg (by omega), f2, if_neg (by omega), f2, if_neg (by omega)]
    exact this
  have key : ∃ x, wh (fun (c : Int32 × S2) => fX9_drives_b83 c.2 c.1) 5000 ((0 : Int32), x2.2) = some x ∧ moPost rd P D x.2 ∧ ∀ a b, (a < 6 ∨ 11 < a) → (a ≠ 0 ∨ b ≠ 14) → x.2 a b = mo a b := by
    refine wh_ex (body := fun (c : Int32 × S2) => fX9_drives_b83 c.2 c.1)
      (fun i c => c.1 = bg rd i ∧ moPost rd P i c.2 ∧ ∀ a b, (a < 6 ∨ 11 < a) → (a ≠ 0 ∨ b ≠ 14) → c.2 a b = mo a b)
      (fun x => moPost rd P D x.2 ∧ ∀ a b, (a < 6 ∨ 11 < a) → (a ≠ 0 ∨ b ≠ 14) → x.2 a b = mo a b) D
      (fun i c hi hI => ?_) (fun c hI => ?_) 5000 0 _ (Nat.zero_le _) (by omega) ⟨rfl, ⟨?_, p2, fun j hj => ?_⟩, fun a b h1 h2 => ?_⟩
    · obtain ⟨k1, ⟨k2, k3, k4⟩, k5⟩ := hI
      have hiM : i < M := by omega
      have hR : RM c.2 rd M P := RM_fr h (fun b => k5 2 b (by omega) (by omega)) (k5 0 0 (by omega) (by omega)) (k5 0 1 (by omega) (by omega))
      obtain ⟨s', e', q1, q2, q3⟩ := pX9_mileGoes hR hM hP hiM k3 (by rw [k4 i (by omega), if_neg (Nat.lt_irrefl i)])
      have hR' : RM s' rd M P := RM_fr hR (fun b => q3 2 b (by omega)) (q3 0 0 (by omega)) (q3 0 1 (by omega))
      left
      refine ⟨(bg rd (i + 1), sE s' 0 14 (nI (i + 1))), ?_, rfl, ⟨?_, fun q hq => ?_, fun j hj => ?_⟩, fun a b h1 h2 => ?_⟩
      · unfold fX9_drives_b83
        rw [hR.2.2.2.2.1, k2, if_neg (nI_ge hiM (by omega)), show Int32.toNatClampNeg (45 : Int32) = 45 from rfl, hR.2.2.2.1, k1, if_neg (hlo i hi), e', bd_s, q3 0 14 (by omega), k2, pX9_minutes hR' hM hiM, bd_s, nm_u, nm_u, nI_p1]
        rfl
      · dsimp only
        rw [sE_v, if_pos ⟨rfl, rfl⟩]
      · have := q1 q hq
        unfold psq at this ⊢
        dsimp only
        rw [sE_v, if_neg (by omega), sE_v, if_neg (by omega), sE_v, if_neg (by omega), sE_v, if_neg (by omega), sE_v, if_neg (by omega)]
        exact this
      · dsimp only
        rw [sE_v, if_neg (by omega)]
        by_cases hji : j = i
        · subst hji
          rw [q2, if_pos (by omega)]
        · rw [q3 11 j (by omega), k4 j hj]
          have : (j < i + 1) ↔ j < i := by omega
          simp only [this]
      · dsimp only
        rw [sE_v, if_neg (by omega), q3 a b (by omega), k5 a b h1 h2]
    · obtain ⟨k1, ⟨k2, k3, k4⟩, k5⟩ := hI
      have hR : RM c.2 rd M P := RM_fr h (fun b => k5 2 b (by omega) (by omega)) (k5 0 0 (by omega) (by omega)) (k5 0 1 (by omega) (by omega))
      refine ⟨c, ?_, ⟨k2, k3, k4⟩, k5⟩
      unfold fX9_drives_b83
      rw [hR.2.2.2.2.1, k2]
      rcases hhi with hh | hh
      · subst hh
        rw [if_pos (nI_le (Nat.le_refl _) (by omega))]
      · rw [show Int32.toNatClampNeg (45 : Int32) = 45 from rfl, hR.2.2.2.1, k1, if_pos hh]
        rw [← k1]
        split <;> rfl
    · rw [F 0 14 (by omega), sE_v, if_pos ⟨rfl, rfl⟩]
      rfl
    · rw [f2, if_pos ⟨rfl, hj⟩, if_neg (Nat.not_lt_zero j)]
      rfl
    · rw [F a b h1, sE_v, if_neg (by omega)]
  obtain ⟨x, e, q1, q2⟩ := key
  rw [e, bd_s]
  exact ⟨_, rfl, q1, q2⟩
