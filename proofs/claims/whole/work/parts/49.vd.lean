/-! PURE: verdicts of a road that is tried, as a function of the road -/
def vd (rd : S2) (M p : Nat) : Int32 := (TT rd p (dvn rd M)).2.1
def nv (rd : S2) (M P : Nat) : Nat := pc4 (mk4 (vd rd M) P)
def CV (d ro : S2) (M P : Nat) : Prop := (∀ j, j < M → d 1 j = ro 1 j ∧ d 2 j = ro 2 j ∧ d 3 j = ro 3 j) ∧ (∀ p, p < P → d 4 p = ro 4 p ∧ d 5 p = ro 5 p ∧ d 6 p = ro 6 p ∧ d 7 p = ro 7 p ∧ d 8 p = ro 8 p) ∧ d 0 2 = ro 0 2 ∧ d 0 3 = ro 0 3
theorem CV_cp {d ro : S2} {M P : Nat} (h : CP d ro) (hM : M ≤ 8) (hP : P ≤ 4) : CV d ro M P := ⟨fun j hj => h.1 j (by omega), fun p hp => h.2.1 p (by omega), h.2.2.2.2.1, h.2.2.2.2.2⟩
theorem bg_c {d ro : S2} {M : Nat} (h : ∀ j, j < M → d 2 j = ro 2 j ∧ d 3 j = ro 3 j) : ∀ k, k ≤ M → bg d k = bg ro k := by
  intro k
  induction k with
  | zero => intro _; rfl
  | succ k ih =>
    intro hk
    unfold bg
    rw [ih (by omega), (h k (by omega)).1, (h k (by omega)).2]
theorem dvn_c {d ro : S2} {M : Nat} (h : ∀ j, j < M → d 2 j = ro 2 j ∧ d 3 j = ro 3 j) (h3 : d 0 3 = ro 0 3) : ∀ k, k ≤ M → dvn d k = dvn ro k := by
  intro k
  induction k with
  | zero => intro _; rfl
  | succ k ih =>
    intro hk
    unfold dvn
    rw [ih (by omega), bg_c h k (by omega), h3]
theorem stp_c {d ro : S2} {M P p m c : Nat} {x : T5} (h : CV d ro M P) (hp : p < P) (hm : m < M) : stp d p m c x = stp ro p m c x ∧ acb d p m x = acb ro p m x ∧ cab d p m c x = cab ro p m c x := by
  obtain ⟨h1, h2, h3, _⟩ := h
  obtain ⟨a1, a2, a3⟩ := h1 m hm
  obtain ⟨b1, _, _⟩ := h1 (m - 1) (by omega)
  obtain ⟨c4, c5, c6, c7, c8⟩ := h2 p hp
  unfold stp acb cab hr1 wd1
  rw [a1, a2, a3, b1, c4, c6, c7, c8, h3]
  exact ⟨rfl, rfl, rfl⟩
theorem tr_c {d ro : S2} {M P p : Nat} {c1 c2 : Nat → Nat} (h : CV d ro M P) (hp : p < P) : ∀ m, m ≤ M → (∀ j, j < m → c1 j = c2 j) → tr d p c1 m = tr ro p c2 m := by
  intro m
  induction m with
  | zero =>
    intro _ _
    unfold tr
    rw [(h.2.1 p hp).2.1]
  | succ m ih =>
    intro hm hc
    unfold tr
    rw [ih (by omega) (fun j hj => hc j (by omega)), hc m (by omega), (stp_c h hp (by omega)).1]
theorem btf_c {d ro : S2} {M P : Nat} (h : CV d ro M P) : ∀ p, p ≤ P → ∀ m, m < M → btf d p m = btf ro p m := by
  intro p
  induction p with
  | zero => intro _ m _; rfl
  | succ p ih =>
    intro hp m hm
    rw [btf_s, btf_s, ih (by omega) m hm]
    have hc : ∀ j, j < M → cnf d p j = cnf ro p j := fun j hj => by unfold cnf; rw [ih (by omega) j hj]
    have e : rnb d p (cnf d p) m = rnb ro p (cnf ro p) m := by
      unfold rnb
      rw [tr_c h (by omega) m (by omega) (fun j hj => hc j (by omega)), hc m hm, (stp_c (c := cnf ro p m) h (by omega) hm).2.1, (stp_c h (by omega) hm).2.2]
    rw [e]
theorem TT_c {d ro : S2} {M P p m : Nat} (h : CV d ro M P) (hp : p < P) (hm : m ≤ M) : TT d p m = TT ro p m := tr_c h hp m hm (fun j hj => by unfold cnf; rw [btf_c h p (by omega) j (by omega)])
theorem dvn_v {d ro : S2} {M P : Nat} (h : CV d ro M P) : dvn d M = dvn ro M := dvn_c (fun j hj => ⟨(h.1 j hj).2.1, (h.1 j hj).2.2⟩) h.2.2.2 M (Nat.le_refl _)
theorem vd_c {d ro : S2} {M P p : Nat} (h : CV d ro M P) (hp : p < P) : vd d M p = vd ro M p := by
  unfold vd
  rw [dvn_v h, TT_c h hp (dvn_le ro M)]
theorem nv_c {d ro : S2} {M P : Nat} (h : CV d ro M P) : nv d M P = nv ro M P := by
  unfold nv
  rw [mk4_c P (fun q hq => vd_c h hq)]
theorem stp_r {rd : S2} {p m c : Nat} {x : T5} : (stp rd p m c x).2.1 = -4 ∨ (stp rd p m c x).2.1 = nI m ∨ (stp rd p m c x).2.1 = x.2.1 := by
  unfold stp
  by_cases h1 : acb rd p m x = true
  · rw [if_pos h1]
    by_cases h2 : cab rd p m c x = true
    · rw [if_pos h2]
      by_cases h3 : hr1 rd p m x < rd 6 p
      · rw [if_pos h3]; exact Or.inl rfl
      · rw [if_neg h3]; exact Or.inr (Or.inl rfl)
    · rw [if_neg h2]; exact Or.inr (Or.inr rfl)
  · rw [if_neg h1]; exact Or.inr (Or.inr rfl)
theorem tr_r {rd : S2} {p : Nat} {cnt : Nat → Nat} : ∀ m, (tr rd p cnt m).2.1 = -4 ∨ ∃ j, (tr rd p cnt m).2.1 = nI j ∧ j < m := by
  intro m
  induction m with
  | zero => exact Or.inl rfl
  | succ m ih =>
    have e : tr rd p cnt (m + 1) = stp rd p m (cnt m) (tr rd p cnt m) := rfl
    rw [e]
    rcases stp_r (rd := rd) (p := p) (m := m) (c := cnt m) (x := tr rd p cnt m) with h | h | h
    · exact Or.inl h
    · exact Or.inr ⟨m, h, by omega⟩
    · rw [h]
      rcases ih with h | ⟨j, h, hj⟩
      · exact Or.inl h
      · exact Or.inr ⟨j, h, by omega⟩
theorem vd_r (rd : S2) (M p : Nat) : vd rd M p = -4 ∨ ∃ j, vd rd M p = nI j ∧ j < M := by
  rcases tr_r (rd := rd) (p := p) (cnt := cnf rd p) (dvn rd M) with h | ⟨j, h, hj⟩
  · exact Or.inl h
  · have := dvn_le rd M
    exact Or.inr ⟨j, h, by omega⟩
theorem run_v {rd dr : S2} {M P : Nat} (h : RQ rd M P) : ∃ d', fX0_run dr rd = some d' ∧ d' 0 0 = nI P ∧ ∀ p, p < P → d' 1 p = vd rd M p := by
  obtain ⟨d', e, q⟩ := RQ_run (dr := dr) h
  exact ⟨d', e, q.1, fun p hp => (q.2.2.1 p hp).1⟩
def DF (mo s' : S2) : Prop := ∀ a b, (a < 6 ∨ 11 < a) → (a ≠ 0 ∨ b ≠ 14) → s' a b = mo a b
theorem SF_DF {mo s' : S2} (h : DF mo s') : SF mo s' := fun a b hab => h a b (by omega) (by omega)
theorem ref_v {mo rd : S2} {M P : Nat} (h : RM mo rd M P) (hM : M ≤ 8) (hP : P ≤ 4) : ∃ s', fX9_drives mo = some s' ∧ (∀ p, p < P → s' 6 p = vd rd M p) ∧ DF mo s' := by
  obtain ⟨s', e, q, f⟩ := pX9_drives h hM hP
  exact ⟨s', e, fun p hp => (q.2.1 p hp).2.1, f⟩
theorem ref_n {mo rd : S2} {M P : Nat} (h : RM mo rd M P) (hM : M ≤ 8) (hP : P ≤ 4) : ∃ s', fX9_howMany mo = some (nI (nv rd M P), s') ∧ (∀ p, p < P → s' 6 p = vd rd M p) ∧ DF mo s' := by
  obtain ⟨s', e, _, q, f⟩ := pX9_howMany h hM hP
  have hv : ∀ p, p < P → s' 6 p = vd rd M p := fun p hp => (q.2.1 p hp).2.1
  refine ⟨s', ?_, hv, f⟩
  rw [e]
  unfold nv
  rw [mk4_c P hv]
theorem ver_v {d rd : S2} {M P : Nat} (h0 : d 0 0 = nI P) (hP : P ≤ 4) (hv : ∀ p, p < P → d 1 p = vd rd M p) : fX0_verdicts d = some (nI (nv rd M P)) := by
  rw [pX0_verdicts h0 hP]
  unfold nv
  rw [mk4_c P hv]
theorem nv_le (rd : S2) (M P : Nat) (hP : P ≤ 4) : nv rd M P ≤ 4 := by
  have h1 := mk4_lt (vd rd M) P
  have h2 := pw16 P hP
  exact pc4_le _ (by omega)
theorem RM_DF {mo s' rd : S2} {M P : Nat} (h : RM mo rd M P) (hf : DF mo s') : RM s' rd M P := RM_fr h (fun b => hf 2 b (by omega) (by omega)) (hf 0 0 (by omega) (by omega)) (hf 0 1 (by omega) (by omega))
theorem sE_id {σ : S2} {k i : Nat} : sE σ k i (σ k i) = σ := by
  funext a b
  rw [sE_v]
  by_cases h : a = k ∧ b = i
  · rw [if_pos h, h.1, h.2]
  · rw [if_neg h]
theorem RM_re2 {s s' rd : S2} {M P x : Nat} {w : Int32} (h : RM (sE s 2 x w) rd M P) (e2 : ∀ b, s' 2 b = s 2 b) (e0 : s' 0 0 = s 0 0) (e1 : s' 0 1 = s 0 1) : RM (sE s' 2 x w) rd M P := by
  refine RM_fr h (fun b => ?_) ?_ ?_
  · rw [sE_v, sE_v, e2]
  · rw [sE_v, if_neg (by omega), sE_v, if_neg (by omega), e0]
  · rw [sE_v, if_neg (by omega), sE_v, if_neg (by omega), e1]
theorem RQ_g {rd : S2} {M P k i : Nat} {w : Int32} (h : RQ rd M P) (hk : ¬ (k = 0 ∧ i ≤ 1) ∧ k ≠ 8) : RQ (sE rd k i w) M P := by
  obtain ⟨h0, h1, hM, hP, hs⟩ := h
  refine ⟨by rw [sE_v, if_neg (by omega), h0], by rw [sE_v, if_neg (by omega), h1], hM, hP, fun p hp => ?_⟩
  rw [sE_v, if_neg (by omega)]
  exact hs p hp
theorem RQ_s {rd : S2} {M P p m : Nat} (h : RQ rd M P) (hm : m < 8) : RQ (sE rd 8 p (nI m)) M P := by
  obtain ⟨h0, h1, hM, hP, hs⟩ := h
  refine ⟨by rw [sE_v, if_neg (by omega), h0], by rw [sE_v, if_neg (by omega), h1], hM, hP, fun q hq => ?_⟩
  rw [sE_v]
  by_cases hx : 8 = 8 ∧ q = p
  · rw [if_pos hx]; exact ⟨m, rfl, hm⟩
  · rw [if_neg hx]; exact hs q hq
