/-! PURE: the tape's tokens in both -/
def TX (tp mo : S2) (n : Nat) (c : Nat → Nat) : Prop := n ≤ 160 ∧ tp 0 0 = nI n ∧ mo 0 7 = nI n ∧ ∀ i, i < n → tp 1 i = nI (c i) ∧ mo 5 i = nI (c i) ∧ c i < 128
def TFR (tp tp' : S2) : Prop := ∀ a b, (a ≠ 0 ∨ b = 0 ∨ 6 ≤ b) → tp' a b = tp a b
def MFR (mo mo' : S2) : Prop := ∀ a b, (a ≠ 0 ∨ b < 8 ∨ 13 < b) → mo' a b = mo a b
theorem TFR_r (tp : S2) : TFR tp tp := fun _ _ _ => rfl
theorem MFR_r (mo : S2) : MFR mo mo := fun _ _ _ => rfl
theorem TFR_t {a b c : S2} (h1 : TFR a b) (h2 : TFR b c) : TFR a c := fun x y h => by rw [h2 x y h, h1 x y h]
theorem MFR_t {a b c : S2} (h1 : MFR a b) (h2 : MFR b c) : MFR a c := fun x y h => by rw [h2 x y h, h1 x y h]
theorem TFR_e {tp : S2} {b : Nat} {v : Int32} (h : 1 ≤ b ∧ b ≤ 5) : TFR tp (sE tp 0 b v) := fun x y hh => by rw [sE_v, if_neg (by omega)]
theorem MFR_e {mo : S2} {b : Nat} {v : Int32} (h : 8 ≤ b ∧ b ≤ 13) : MFR mo (sE mo 0 b v) := fun x y hh => by rw [sE_v, if_neg (by omega)]
theorem TX_f {tp mo tp' mo' : S2} {n : Nat} {c : Nat → Nat} (h : TX tp mo n c) (h1 : TFR tp tp') (h2 : MFR mo mo') : TX tp' mo' n c := by
  obtain ⟨a1, a2, a3, a4⟩ := h
  exact ⟨a1, by rw [h1 0 0 (by omega), a2], by rw [h2 0 7 (by omega), a3], fun i hi => by rw [h1 1 i (by omega), h2 5 i (by omega)]; exact a4 i hi⟩
def SC (f : Nat → Bool) (n i j : Nat) : Prop := i ≤ j ∧ j ≤ n ∧ (∀ t, i ≤ t → t < j → f t = true) ∧ (j < n → f j = false)
theorem SC_ex (f : Nat → Bool) (n : Nat) : ∀ k i, i + k = n → ∃ j, SC f n i j := by
  intro k
  induction k with
  | zero => intro i h; exact ⟨i, Nat.le_refl i, by omega, fun t h1 h2 => by omega, fun h1 => by omega⟩
  | succ k ih =>
    intro i h
    cases hf : f i with
    | false => exact ⟨i, Nat.le_refl i, by omega, fun t h1 h2 => by omega, fun _ => hf⟩
    | true =>
      obtain ⟨j, h1, h2, h3, h4⟩ := ih (i + 1) (by omega)
      refine ⟨j, by omega, h2, fun t t1 t2 => ?_, h4⟩
      rcases Nat.lt_or_ge i t with h5 | h5
      · exact h3 t h5 t2
      · have : t = i := by omega
        subst this
        exact hf
def kd (x : Nat) : Nat := if 97 ≤ x ∧ x ≤ 122 then 1 else if 48 ≤ x ∧ x ≤ 57 then 2 else if x = 59 then 3 else 4
theorem kd_r (x : Nat) : kd x = 1 ∨ kd x = 2 ∨ kd x = 3 ∨ kd x = 4 := by
  unfold kd
  split
  · omega
  · split
    · omega
    · split <;> omega
theorem c_kind : ∀ x, x < 128 → fX6_kindOf (nI x) = some (nI (kd x)) := by decide +kernel
theorem kd_n : ∀ x, x < 128 → win (nI x) 97 122 = decide (kd x = 1) := by decide +kernel
theorem kd_d : ∀ x, x < 128 → win (nI x) 48 57 = decide (kd x = 2) := by decide +kernel
theorem kd_2 {x : Nat} (h : kd x = 2) : 48 ≤ x ∧ x ≤ 57 := by
  unfold kd at h
  split at h
  · omega
  · split at h
    · assumption
    · split at h <;> omega
theorem kd_3 {x : Nat} (h : kd x = 3) : x = 59 := by
  unfold kd at h
  split at h
  · omega
  · split at h
    · omega
    · split at h
      · assumption
      · omega
theorem kd_4 {x : Nat} (h : kd x = 4) : ¬ x = 59 := by
  rintro rfl
  exact absurd h (by decide)
theorem n32 {x : Nat} (h : x < 128) : nI x = (32 : Int32) ↔ x = 32 := nI_eq (b := 32) (by omega) (by decide)
theorem n_ne {k q : Nat} {x : Int32} (h : ¬ k = q) (hx : x = nI q) (hk : k < 2 ^ 31) (hq : q < 2 ^ 31) : ¬ nI k = x := fun hh => h ((nI_eq hk hq).mp (by rw [hh, hx]))
theorem nI_eI {a b : Nat} (h : nI a = nI b) (ha : a < 2 ^ 31) (hb : b < 2 ^ 31) : a = b := (nI_eq ha hb).mp h
/-- the token that the class reads -/
theorem c_grow {q mo : S2} {n j e k : Nat} {c : Nat → Nat} (h : TX q mo n c) (hk : k ≤ 4) (h3 : q 0 3 = nI k) (h1 : q 0 1 = nI j) (hs : SC (fun t => decide (kd (c t) = k)) n j e) : wh (fun (s : S2) => fX6_readToken_b118 s (1 : Int32)) 5000 q = some (sE q 0 1 (nI e)) := by
  obtain ⟨a1, a2, a3, a4⟩ := h
  obtain ⟨b1, b2, b3, b4⟩ := hs
  have r0 : ∀ v, sE q 0 1 v 0 0 = nI n := fun v => by rw [sE_v, if_neg (by omega), a2]
  have r1 : ∀ v, sE q 0 1 v 0 1 = v := fun v => sE_e
  have r3 : ∀ v, sE q 0 1 v 0 3 = nI k := fun v => by rw [sE_v, if_neg (by omega), h3]
  have rb : ∀ v t, sE q 0 1 v 1 t = q 1 t := fun v t => by rw [sE_v, if_neg (by omega)]
  have key := wh_f (body := fun (s : S2) => fX6_readToken_b118 s (1 : Int32)) (fun t => sE q 0 1 (nI (j + t))) (sE q 0 1 (nI e)) (e - j) (fun t ht => by
    show fX6_readToken_b118 (sE q 0 1 (nI (j + t))) 1 = _
    unfold fX6_readToken_b118
    have hb := b3 (j + t) (by omega) (by omega)
    rw [decide_eq_true_eq] at hb
    rw [if_neg (by decide), r0, r1, if_neg (nI_ge (by omega) (by omega)), gd_n (by omega) (by decide), cl_n (by omega), rb, (a4 (j + t) (by omega)).1, c_kind _ (a4 (j + t) (by omega)).2.2, bd_s, r3, hb, if_pos rfl, nm_u, sE_sE, nI_p1]
    rfl) (by
    show fX6_readToken_b118 (sE q 0 1 (nI (j + (e - j)))) 1 = _
    unfold fX6_readToken_b118
    rw [show j + (e - j) = e by omega, if_neg (by decide), r0, r1]
    by_cases he : e < n
    · have hb := b4 he
      rw [decide_eq_false_iff_not] at hb
      have hkd := kd_r (c e)
      rw [if_neg (nI_ge he (by omega)), gd_n (by omega) (by decide), cl_n (by omega), rb, (a4 e he).1, c_kind _ (a4 e he).2.2, bd_s, r3, if_neg (fun hh => hb (nI_eI hh (by omega) (by omega)))]
    · rw [if_pos (nI_le (by omega) (by omega))]) (n := 5000) (by omega)
  have e0 : q = sE q 0 1 (nI (j + 0)) := by rw [Nat.add_zero, ← h1, sE_id]
  have key' : wh (fun (s : S2) => fX6_readToken_b118 s (1 : Int32)) 5000 (sE q 0 1 (nI (j + 0))) = some (sE q 0 1 (nI e)) := key
  rw [← e0] at key'
  exact key'
theorem c_skip {q mo : S2} {n i j : Nat} {c : Nat → Nat} (h : TX q mo n c) (h1 : q 0 1 = nI i) (hs : SC (fun t => decide (c t = 32)) n i j) : wh (fun (s : S2) => fX6_readToken_b8 s) 5000 q = some (sE q 0 1 (nI j)) := by
  obtain ⟨a1, a2, a3, a4⟩ := h
  obtain ⟨b1, b2, b3, b4⟩ := hs
  have r0 : ∀ v, sE q 0 1 v 0 0 = nI n := fun v => by rw [sE_v, if_neg (by omega), a2]
  have r1 : ∀ v, sE q 0 1 v 0 1 = v := fun v => sE_e
  have rb : ∀ v t, sE q 0 1 v 1 t = q 1 t := fun v t => by rw [sE_v, if_neg (by omega)]
  have key : wh (fun (s : S2) => fX6_readToken_b8 s) 5000 (sE q 0 1 (nI (i + 0))) = some (sE q 0 1 (nI j)) := wh_f (body := fun (s : S2) => fX6_readToken_b8 s) (fun t => sE q 0 1 (nI (i + t))) (sE q 0 1 (nI j)) (j - i) (fun t ht => by
    show fX6_readToken_b8 (sE q 0 1 (nI (i + t))) = _
    unfold fX6_readToken_b8
    have hb := b3 (i + t) (by omega) (by omega)
    rw [decide_eq_true_eq] at hb
    rw [r0, r1, if_neg (nI_ge (by omega) (by omega)), gd_n (by omega) (by decide), cl_n (by omega), rb, (a4 (i + t) (by omega)).1, hb, if_pos (show nI 32 = (32 : Int32) from rfl), nm_u, sE_sE, nI_p1]
    rfl) (by
    show fX6_readToken_b8 (sE q 0 1 (nI (i + (j - i)))) = _
    unfold fX6_readToken_b8
    rw [show i + (j - i) = j by omega, r0, r1]
    by_cases he : j < n
    · have hb := b4 he
      rw [decide_eq_false_iff_not] at hb
      rw [if_neg (nI_ge he (by omega)), gd_n (by omega) (by decide), cl_n (by omega), rb, (a4 j he).1, if_neg (fun hh => hb ((n32 (a4 j he).2.2).mp hh))]
    · rw [if_pos (nI_le (by omega) (by omega))]) (n := 5000) (by omega)
  have e0 : q = sE q 0 1 (nI (i + 0)) := by rw [Nat.add_zero, ← h1, sE_id]
  rw [← e0] at key
  exact key
/-- the token at a place: where it begins, where it ends, its kind -/
def TK (c : Nat → Nat) (n i j e k : Nat) : Prop := SC (fun t => decide (c t = 32)) n i j ∧ ((j = n ∧ k = 0 ∧ e = n) ∨ (j < n ∧ k = kd (c j) ∧ (((k = 1 ∨ k = 2) ∧ SC (fun t => decide (kd (c t) = k)) n (j + 1) e) ∨ ((k = 3 ∨ k = 4) ∧ e = j + 1))))
theorem TK_ex (c : Nat → Nat) {n i : Nat} (hi : i ≤ n) : ∃ j e k, TK c n i j e k := by
  obtain ⟨j, hj⟩ := SC_ex (fun t => decide (c t = 32)) n (n - i) i (by omega)
  have h1 := hj.1
  have h2 := hj.2.1
  by_cases hn : j = n
  · exact ⟨j, n, 0, hj, Or.inl ⟨hn, rfl, rfl⟩⟩
  · rcases kd_r (c j) with hk | hk | hk | hk
    · obtain ⟨e, he⟩ := SC_ex (fun t => decide (kd (c t) = kd (c j))) n (n - (j + 1)) (j + 1) (by omega)
      exact ⟨j, e, kd (c j), hj, Or.inr ⟨by omega, rfl, Or.inl ⟨Or.inl hk, he⟩⟩⟩
    · obtain ⟨e, he⟩ := SC_ex (fun t => decide (kd (c t) = kd (c j))) n (n - (j + 1)) (j + 1) (by omega)
      exact ⟨j, e, kd (c j), hj, Or.inr ⟨by omega, rfl, Or.inl ⟨Or.inr hk, he⟩⟩⟩
    · exact ⟨j, j + 1, kd (c j), hj, Or.inr ⟨by omega, rfl, Or.inr ⟨Or.inl hk, rfl⟩⟩⟩
    · exact ⟨j, j + 1, kd (c j), hj, Or.inr ⟨by omega, rfl, Or.inr ⟨Or.inr hk, rfl⟩⟩⟩
def bad (j e k : Nat) : Bool := decide (k = 4) || (decide (k = 2) && decide (j + 2 < e))
theorem TK_b {c : Nat → Nat} {n i j e k : Nat} (h : TK c n i j e k) : i ≤ j ∧ j ≤ e ∧ e ≤ n ∧ k ≤ 4 ∧ (0 < k → j < e ∧ j < n) ∧ (k = 0 → j = n) := by
  obtain ⟨⟨a1, a2, _, _⟩, h⟩ := h
  rcases h with ⟨h1, h2, h3⟩ | ⟨h1, h2, h3⟩
  · exact ⟨a1, by omega, by omega, by omega, fun hh => by omega, fun _ => h1⟩
  · have := kd_r (c j)
    rcases h3 with ⟨_, h4, h5, _, _⟩ | ⟨_, h4⟩
    · exact ⟨a1, by omega, by omega, by omega, fun _ => ⟨by omega, h1⟩, fun _ => by omega⟩
    · exact ⟨a1, by omega, by omega, by omega, fun _ => ⟨by omega, h1⟩, fun _ => by omega⟩
theorem c_165 {q : S2} {j e k : Nat} (hk : k ≤ 4) (he : e ≤ 160) (hj : j ≤ e) (h1 : q 0 1 = nI e) (h2 : q 0 2 = nI j) (h3 : q 0 3 = nI k) (h4 : q 0 4 = 0) : fX6_readToken_165 q = some (if bad j e k = true then sE (sE q 0 4 1) 0 5 (nI j) else q) := by
  have B : fX6_readToken_194 q = some (sE (sE q 0 4 1) 0 5 (nI j)) := by
    unfold fX6_readToken_194 fX6_blame
    rw [if_pos h4, nm_u, nm_u, bd_s, h2]
  unfold fX6_readToken_165 bad
  rw [h3, B, h1, h2, pk_sub hj]
  by_cases c4 : k = 4
  · subst c4
    rw [if_pos (by decide), show decide (4 = 4) = true from rfl, Bool.true_or, if_pos rfl]
  · rw [if_neg (n_ne (x := 4) (q := 4) c4 rfl (by omega) (by decide)), decide_eq_false c4, Bool.false_or]
    by_cases c2 : k = 2
    · subst c2
      rw [if_pos (by decide), decide_eq_true rfl, Bool.true_and]
      by_cases c5 : j + 2 < e
      · rw [if_neg (show ¬ nI (e - j) ≤ (2 : Int32) from nI_ge (a := 2) (b := e - j) (by omega) (by omega)), decide_eq_true c5, if_pos rfl]
      · rw [if_pos (show nI (e - j) ≤ (2 : Int32) from nI_le (a := e - j) (b := 2) (by omega) (by decide)), decide_eq_false c5, if_neg (by decide)]
    · rw [if_neg (n_ne (x := 2) (q := 2) c2 rfl (by omega) (by decide)), decide_eq_false c2, Bool.false_and, if_neg (by decide)]
theorem c_96 {q mo : S2} {n e k : Nat} {c : Nat → Nat} (h : TX q mo n c) (hk : k ≤ 4) (h3 : q 0 3 = nI k) (hg : ((k = 1 ∨ k = 2) ∧ ∃ j', q 0 1 = nI j' ∧ SC (fun t => decide (kd (c t) = k)) n j' e) ∨ (¬ (k = 1 ∨ k = 2) ∧ q 0 1 = nI e)) : fX6_readToken_96 q = fX6_readToken_165 (sE q 0 1 (nI e)) := by
  unfold fX6_readToken_96
  rw [h3]
  rcases hg with ⟨hk2, j', h1, hs⟩ | ⟨hk2, h1⟩
  · have G := c_grow h hk h3 h1 hs
    rcases hk2 with rfl | rfl
    · rw [if_pos (by decide), G, bd_s]
    · rw [if_neg (by decide), if_pos (by decide), G, bd_s]
  · have X : wh (fun (s : S2) => fX6_readToken_b118 s (0 : Int32)) 5000 q = some q := wh_r (by
      show fX6_readToken_b118 q 0 = _
      unfold fX6_readToken_b118
      rw [if_pos rfl]) (by decide)
    rw [if_neg (n_ne (x := 1) (q := 1) (fun hh => hk2 (Or.inl hh)) rfl (by omega) (by decide)), if_neg (n_ne (x := 2) (q := 2) (fun hh => hk2 (Or.inr hh)) rfl (by omega) (by decide)), X, bd_s, ← h1, sE_id]
theorem c_tok {tp mo : S2} {n i j e k : Nat} {c : Nat → Nat} (h : TX tp mo n c) (h1 : tp 0 1 = nI i) (h4 : tp 0 4 = 0) (hT : TK c n i j e k) : ∃ tp', fX6_readToken tp = some tp' ∧ TFR tp tp' ∧ tp' 0 1 = nI e ∧ tp' 0 2 = nI j ∧ tp' 0 3 = nI k ∧ tp' 0 4 = (if bad j e k = true then 1 else 0) ∧ (bad j e k = true → tp' 0 5 = nI j) := by
  obtain ⟨b1, b2, b3, b4, b5, b6⟩ := TK_b hT
  obtain ⟨hs, ht⟩ := hT
  have hn := h.1
  have fin : ∀ q : S2, TFR tp q → q 0 1 = nI e → q 0 2 = nI j → q 0 3 = nI k → q 0 4 = 0 → ∃ tp', fX6_readToken_165 q = some tp' ∧ TFR tp tp' ∧ tp' 0 1 = nI e ∧ tp' 0 2 = nI j ∧ tp' 0 3 = nI k ∧ tp' 0 4 = (if bad j e k = true then 1 else 0) ∧ (bad j e k = true → tp' 0 5 = nI j) := by
    intro q f q1 q2 q3 q4
    rw [c_165 b4 (by omega) b2 q1 q2 q3 q4]
    cases hb : bad j e k with
    | false => exact ⟨_, rfl, f, q1, q2, q3, by rw [if_neg (by decide), if_neg (by decide)]; exact q4, fun hh => by cases hh⟩
    | true =>
      refine ⟨_, rfl, ?_, ?_, ?_, ?_, ?_, fun _ => ?_⟩
      · rw [if_pos rfl]; exact TFR_t f (TFR_t (TFR_e (by omega)) (TFR_e (by omega)))
      · rw [if_pos rfl, sE_v, if_neg (by omega), sE_v, if_neg (by omega), q1]
      · rw [if_pos rfl, sE_v, if_neg (by omega), sE_v, if_neg (by omega), q2]
      · rw [if_pos rfl, sE_v, if_neg (by omega), sE_v, if_neg (by omega), q3]
      · rw [if_pos rfl, if_pos rfl, sE_v, if_neg (by omega), sE_e]
      · rw [if_pos rfl, sE_e]
  unfold fX6_readToken
  rw [if_pos h4, c_skip h h1 hs, bd_s]
  unfold fX6_readToken_46
  rw [nm_u, nm_u, sE_e]
  have Q0 : ∃ q, q = sE (sE (sE tp 0 1 (nI j)) 0 2 (nI j)) 0 3 0 ∧ TFR tp q ∧ q 0 0 = nI n ∧ q 0 1 = nI j ∧ q 0 2 = nI j ∧ q 0 3 = 0 ∧ q 0 4 = 0 := by
    refine ⟨_, rfl, TFR_t (TFR_e (by omega)) (TFR_t (TFR_e (by omega)) (TFR_e (by omega))), ?_, ?_, ?_, ?_, ?_⟩
    · rw [sE_v, if_neg (by omega), sE_v, if_neg (by omega), sE_v, if_neg (by omega), h.2.1]
    · rw [sE_v, if_neg (by omega), sE_v, if_neg (by omega), sE_e]
    · rw [sE_v, if_neg (by omega), sE_e]
    · rw [sE_e]
    · rw [sE_v, if_neg (by omega), sE_v, if_neg (by omega), sE_v, if_neg (by omega), h4]
  obtain ⟨q, eq, f0, z0, z1, z2, z3, z4⟩ := Q0
  rw [← eq, z0, z1]
  rcases ht with ⟨t1, t2, t3⟩ | ⟨t1, t2, t3⟩
  · subst t2 t1
    rw [if_pos (nI_le (by omega) (by omega)), c_96 (e := e) (k := 0) (TX_f h f0 (MFR_r mo)) (by omega) z3 (Or.inr ⟨by omega, by rw [z1, t3]⟩)]
    exact fin _ (TFR_t f0 (TFR_e (by omega))) sE_e (by rw [sE_v, if_neg (by omega), z2]) (by rw [sE_v, if_neg (by omega), z3]; rfl) (by rw [sE_v, if_neg (by omega), z4])
  · have hc := h.2.2.2 j t1
    have hq1 : q 1 j = nI (c j) := by rw [f0 1 j (by omega), hc.1]
    rw [if_neg (nI_ge t1 (by omega)), gd_n (by omega) (by decide), cl_n (by omega), hq1, c_kind _ hc.2.2, bd_s, ← t2, nm_u, nm_u]
    have w1 : sE q 0 3 (nI k) 0 1 = nI j := by rw [sE_v, if_neg (by omega), z1]
    rw [w1, nI_p1]
    have fq : TFR tp (sE (sE q 0 3 (nI k)) 0 1 (nI (j + 1))) := TFR_t f0 (TFR_t (TFR_e (by omega)) (TFR_e (by omega)))
    have y3 : sE (sE q 0 3 (nI k)) 0 1 (nI (j + 1)) 0 3 = nI k := by rw [sE_v, if_neg (by omega), sE_e]
    rw [c_96 (e := e) (k := k) (TX_f h fq (MFR_r mo)) b4 y3 (by
      rcases t3 with ⟨t4, t5⟩ | ⟨t4, t5⟩
      · exact Or.inl ⟨t4, j + 1, sE_e, t5⟩
      · exact Or.inr ⟨by omega, by rw [sE_e, t5]⟩)]
    exact fin _ (TFR_t fq (TFR_e (by omega))) sE_e (by rw [sE_v, if_neg (by omega), sE_v, if_neg (by omega), sE_v, if_neg (by omega), z2]) (by rw [sE_v, if_neg (by omega), y3]) (by rw [sE_v, if_neg (by omega), sE_v, if_neg (by omega), sE_v, if_neg (by omega), z4])
