/-! PURE: the reference's tokens; both side by side -/
theorem r_byte {tp mo : S2} {n i : Nat} {c : Nat → Nat} (h : TX tp mo n c) (hi : i < 2 ^ 31) : fX9_byteAt mo (nI i) = some (if i < n then nI (c i) else -1) := by
  obtain ⟨a1, a2, a3, a4⟩ := h
  unfold fX9_byteAt
  rw [a3]
  by_cases hn : i < n
  · rw [if_neg (nI_ge hn (by omega)), gd_n (by omega) (by decide), cl_n hi, (a4 i hn).2.1, if_pos hn]
  · rw [if_pos (nI_le (by omega) hi), if_neg hn]
theorem SC_down {f : Nat → Bool} {n j e : Nat} (hf : f j = true) (h : SC f n (j + 1) e) : SC f n j e := by
  obtain ⟨h1, h2, h3, h4⟩ := h
  refine ⟨by omega, h2, fun t t1 t2 => ?_, h4⟩
  rcases Nat.lt_or_ge j t with h5 | h5
  · exact h3 t h5 t2
  · have : t = j := by omega
    subst this
    exact hf
theorem r_skip {tp mo : S2} {n i j : Nat} {c : Nat → Nat} (h : TX tp mo n c) (h1 : mo 0 8 = nI i) (hs : SC (fun t => decide (c t = 32)) n i j) : wh (fun (s : S2) => fX9_next_b8 s) 5000 mo = some (sE mo 0 8 (nI j)) := by
  obtain ⟨b1, b2, b3, b4⟩ := hs
  have hn := h.1
  have hx : ∀ v, TX tp (sE mo 0 8 v) n c := fun v => TX_f h (TFR_r tp) (MFR_e (by omega))
  have key : wh (fun (s : S2) => fX9_next_b8 s) 5000 (sE mo 0 8 (nI (i + 0))) = some (sE mo 0 8 (nI j)) := wh_f (body := fun (s : S2) => fX9_next_b8 s) (fun t => sE mo 0 8 (nI (i + t))) (sE mo 0 8 (nI j)) (j - i) (fun t ht => by
    show fX9_next_b8 (sE mo 0 8 (nI (i + t))) = _
    unfold fX9_next_b8
    have hb := b3 (i + t) (by omega) (by omega)
    rw [decide_eq_true_eq] at hb
    rw [sE_e, r_byte (hx _) (by omega), bd_s, if_pos (show i + t < n by omega), hb, if_pos (show nI 32 = (32 : Int32) from rfl), nm_u, sE_sE, nI_p1]
    rfl) (by
    show fX9_next_b8 (sE mo 0 8 (nI (i + (j - i)))) = _
    unfold fX9_next_b8
    rw [show i + (j - i) = j by omega, sE_e, r_byte (hx _) (by omega), bd_s]
    by_cases he : j < n
    · have hb := b4 he
      rw [decide_eq_false_iff_not] at hb
      rw [if_pos he, if_neg (fun hh => hb ((n32 (h.2.2.2 j he).2.2).mp hh))]
    · rw [if_neg he, if_neg (by decide)]) (n := 5000) (by omega)
  have e0 : mo = sE mo 0 8 (nI (i + 0)) := by rw [Nat.add_zero, ← h1, sE_id]
  rw [← e0] at key
  exact key
theorem r_name {tp mo : S2} {n j e : Nat} {c : Nat → Nat} (h : TX tp mo n c) (h1 : mo 0 8 = nI j) (hs : SC (fun t => decide (kd (c t) = 1)) n j e) : wh (fun (s : S2) => fX9_next_b82 s) 5000 mo = some (sE mo 0 8 (nI e)) := by
  obtain ⟨b1, b2, b3, b4⟩ := hs
  have hn := h.1
  have hx : ∀ v, TX tp (sE mo 0 8 v) n c := fun v => TX_f h (TFR_r tp) (MFR_e (by omega))
  have key : wh (fun (s : S2) => fX9_next_b82 s) 5000 (sE mo 0 8 (nI (j + 0))) = some (sE mo 0 8 (nI e)) := wh_f (body := fun (s : S2) => fX9_next_b82 s) (fun t => sE mo 0 8 (nI (j + t))) (sE mo 0 8 (nI e)) (e - j) (fun t ht => by
    show fX9_next_b82 (sE mo 0 8 (nI (j + t))) = _
    unfold fX9_next_b82
    have hb : decide (kd (c (j + t)) = 1) = true := b3 (j + t) (by omega) (by omega)
    rw [sE_e, r_byte (hx _) (by omega), bd_s, if_pos (show j + t < n by omega), w9 (lo := 97) (hi := 122) (by decide) (by decide), bd_s, kd_n _ (h.2.2.2 (j + t) (by omega)).2.2, hb]
    simp only [it_t]
    rw [nm_u, sE_sE, nI_p1]
    rfl) (by
    show fX9_next_b82 (sE mo 0 8 (nI (j + (e - j)))) = _
    unfold fX9_next_b82
    rw [show j + (e - j) = e by omega, sE_e, r_byte (hx _) (by omega), bd_s, w9 (lo := 97) (hi := 122) (by decide) (by decide), bd_s]
    by_cases he : e < n
    · rw [if_pos he, kd_n _ (h.2.2.2 e he).2.2, show decide (kd (c e) = 1) = false from b4 he]
      simp only [it_f]
    · rw [if_neg he, show win (-1) 97 122 = false by decide]
      simp only [it_f]) (n := 5000) (by omega)
  have e0 : mo = sE mo 0 8 (nI (j + 0)) := by rw [Nat.add_zero, ← h1, sE_id]
  rw [← e0] at key
  exact key
def vlp (c : Nat → Nat) (j t : Nat) : Nat := if t = 0 then 0 else if t = 1 then c j - 48 else 10 * (c j - 48) + c (j + 1) - 48
theorem r_num {tp mo : S2} {n j e : Nat} {c : Nat → Nat} (h : TX tp mo n c) (h1 : mo 0 8 = nI j) (h9 : mo 0 9 = nI j) (h11 : mo 0 11 = 0) (hs : SC (fun t => decide (kd (c t) = 2)) n j e) : ∃ x, wh (fun (s : S2) => fX9_next_b140 s) 5000 mo = some x ∧ (x 0 8 = nI e ∧ x 0 11 = nI (vlp c j (e - j)) ∧ ∀ a b, ¬ (a = 0 ∧ (b = 8 ∨ b = 11)) → x a b = mo a b) := by
  obtain ⟨b1, b2, b3, b4⟩ := hs
  have hn := h.1
  refine wh_ex (body := fun (s : S2) => fX9_next_b140 s)
    (fun t s => s 0 8 = nI (j + t) ∧ s 0 11 = nI (vlp c j t) ∧ ∀ a b, ¬ (a = 0 ∧ (b = 8 ∨ b = 11)) → s a b = mo a b)
    (fun x => x 0 8 = nI e ∧ x 0 11 = nI (vlp c j (e - j)) ∧ ∀ a b, ¬ (a = 0 ∧ (b = 8 ∨ b = 11)) → x a b = mo a b) (e - j) (fun t s ht hI => ?_) (fun s hI => ?_) 5000 0 _ (by omega) (by omega) ⟨h1, h11, fun _ _ _ => rfl⟩
  · obtain ⟨k1, k2, k3⟩ := hI
    left
    have hx : TX tp s n c := TX_f h (TFR_r tp) (fun a b hab => k3 a b (by omega))
    have hb : decide (kd (c (j + t)) = 2) = true := b3 (j + t) (by omega) (by omega)
    have hd := kd_2 (of_decide_eq_true hb)
    have s9 : s 0 9 = nI j := by rw [k3 0 9 (by omega), h9]
    refine ⟨sE (sE s 0 11 (nI (vlp c j (t + 1)))) 0 8 (nI (j + (t + 1))), ?_, sE_e, by rw [sE_v, if_neg (by omega), sE_e], fun a b hab => by rw [sE_v, if_neg (by omega), sE_v, if_neg (by omega), k3 a b hab]⟩
    show fX9_next_b140 s = _
    unfold fX9_next_b140 fX9_next_201
    rw [k1, r_byte hx (by omega), bd_s, if_pos (show j + t < n by omega), w9 (lo := 48) (hi := 57) (by decide) (by decide), bd_s, kd_d _ (h.2.2.2 (j + t) (by omega)).2.2, hb, s9, pk_sub (by omega), show j + t - j = t by omega]
    simp only [it_t]
    by_cases c2 : 2 ≤ t
    · rw [if_pos (show (2 : Int32) ≤ nI t from nI_le (a := 2) (b := t) c2 (by omega)), nm_u, nm_u, k2, sE_v, if_neg (by omega), k1, nI_p1]
      have e : vlp c j (t + 1) = vlp c j t := by
        unfold vlp
        rw [if_neg (by omega), if_neg (by omega), if_neg (by omega), if_neg (by omega)]
      rw [e]
      rfl
    · rw [if_neg (show ¬ (2 : Int32) ≤ nI t from nI_ge (a := t) (b := 2) (by omega) (by decide)), bd_s, nm_u, nm_u, k2, sE_v, if_neg (by omega), k1, nI_p1, show (10 : Int32) * nI (vlp c j t) = nI (10 * vlp c j t) from pk_mul 10 _, nI_ad, show nI (10 * vlp c j t + c (j + t)) - (48 : Int32) = nI (10 * vlp c j t + c (j + t) - 48) from pk_sub (b := 48) (by omega)]
      have e : vlp c j (t + 1) = 10 * vlp c j t + c (j + t) - 48 := by
        have : t = 0 ∨ t = 1 := by omega
        rcases this with rfl | rfl
        · show c j - 48 = 10 * 0 + c (j + 0) - 48
          rw [Nat.add_zero]; omega
        · rfl
      rw [e]
      rfl
  · obtain ⟨k1, k2, k3⟩ := hI
    have hx : TX tp s n c := TX_f h (TFR_r tp) (fun a b hab => k3 a b (by omega))
    rw [show j + (e - j) = e by omega] at k1
    refine ⟨s, ?_, k1, k2, k3⟩
    show fX9_next_b140 s = _
    unfold fX9_next_b140
    rw [k1, r_byte hx (by omega), bd_s, w9 (lo := 48) (hi := 57) (by decide) (by decide), bd_s]
    by_cases he : e < n
    · rw [if_pos he, kd_d _ (h.2.2.2 e he).2.2, show decide (kd (c e) = 2) = false from b4 he]
      simp only [it_f]
    · rw [if_neg he, show win (-1) 48 57 = false by decide]
      simp only [it_f]
theorem r_needs0 {mo : S2} {j : Nat} {x : Int32} (h12 : mo 0 12 = 0) (h9 : mo 0 9 = nI j) : fX9_needs mo 0 x = some (sE (sE mo 0 12 x) 0 13 (nI j)) := by
  unfold fX9_needs
  rw [if_pos rfl, if_pos h12, nm_u, nm_u, sE_v, if_neg (by omega), h9]
theorem r_needs1 {mo : S2} {x : Int32} : fX9_needs mo 1 x = some mo := by
  unfold fX9_needs
  rw [if_neg (by decide)]
theorem r_needsF {mo : S2} {x y : Int32} (h12 : ¬ mo 0 12 = 0) : fX9_needs mo y x = some mo := by
  unfold fX9_needs
  by_cases h : y = 0
  · rw [if_pos h, if_neg h12]
  · rw [if_neg h]
theorem r_tok {tp mo : S2} {n i j e k : Nat} {c : Nat → Nat} (h : TX tp mo n c) (h8 : mo 0 8 = nI i) (h12 : mo 0 12 = 0) (hT : TK c n i j e k) : ∃ mo', fX9_next mo = some mo' ∧ MFR mo mo' ∧ mo' 0 8 = nI e ∧ mo' 0 9 = nI j ∧ (k ≤ 3 → mo' 0 10 = nI k) ∧ mo' 0 12 = (if bad j e k = true then 1 else 0) ∧ (bad j e k = true → mo' 0 13 = nI j) ∧ (k = 2 → mo' 0 11 = nI (vlp c j (e - j))) := by
  obtain ⟨b1, b2, b3, b4, b5, b6⟩ := TK_b hT
  obtain ⟨hs, ht⟩ := hT
  have hn := h.1
  unfold fX9_next
  rw [if_pos (show mo 0 12 ≤ 0 by rw [h12]; decide), r_skip h h8 hs, bd_s, nm_u, sE_e]
  have Q0 : ∃ q, q = sE (sE mo 0 8 (nI j)) 0 9 (nI j) ∧ MFR mo q ∧ q 0 8 = nI j ∧ q 0 9 = nI j ∧ q 0 12 = 0 := by
    refine ⟨_, rfl, MFR_t (MFR_e (by omega)) (MFR_e (by omega)), ?_, sE_e, ?_⟩
    · rw [sE_v, if_neg (by omega), sE_e]
    · rw [sE_v, if_neg (by omega), sE_v, if_neg (by omega), h12]
  obtain ⟨q, eq, f0, z8, z9, z12⟩ := Q0
  have hq : TX tp q n c := TX_f h (TFR_r tp) f0
  rw [← eq, z8, r_byte hq (by omega), bd_s]
  rcases ht with ⟨t1, t2, t3⟩ | ⟨t1, t2, t3⟩
  · subst t2
    rw [if_neg (show ¬ j < n by omega), if_neg (by decide), nm_u]
    have hb : bad j e 0 = false := rfl
    refine ⟨_, rfl, MFR_t f0 (MFR_e (by omega)), by rw [sE_v, if_neg (by omega), z8, t1, t3], by rw [sE_v, if_neg (by omega), z9], fun _ => sE_e, ?_, fun hh => (by rw [hb] at hh; cases hh), fun hh => by omega⟩
    rw [sE_v, if_neg (by omega), z12, hb, if_neg (by decide)]
  · have hc := h.2.2.2 j t1
    rw [if_pos t1, if_pos (nI_pos' (by omega)), w9 (lo := 97) (hi := 122) (by decide) (by decide), bd_s, kd_n _ hc.2.2, ← t2]
    by_cases k1 : k = 1
    · subst k1
      rw [decide_eq_true rfl]
      simp only [it_t]
      rcases t3 with ⟨_, t5⟩ | ⟨t4, _⟩
      · have t6 := SC_down (f := fun t => decide (kd (c t) = 1)) (by rw [decide_eq_true t2.symm]) t5
        rw [nm_u, r_name (TX_f hq (TFR_r tp) (MFR_e (by omega))) (by rw [sE_v, if_neg (by omega), z8]) t6, bd_s]
        have hb : bad j e 1 = false := rfl
        refine ⟨_, rfl, MFR_t f0 (MFR_t (MFR_e (by omega)) (MFR_e (by omega))), sE_e, by rw [sE_v, if_neg (by omega), sE_v, if_neg (by omega), z9], fun _ => by rw [sE_v, if_neg (by omega), sE_e]; rfl, ?_, fun hh => (by rw [hb] at hh; cases hh), fun hh => by omega⟩
        rw [sE_v, if_neg (by omega), sE_v, if_neg (by omega), z12, hb, if_neg (by decide)]
      · omega
    · rw [decide_eq_false k1]
      simp only [it_f]
      rw [w9 (lo := 48) (hi := 57) (by decide) (by decide), bd_s, kd_d _ hc.2.2, ← t2]
      by_cases k2 : k = 2
      · subst k2
        rw [decide_eq_true rfl]
        simp only [it_t]
        rcases t3 with ⟨_, t5⟩ | ⟨t4, _⟩
        · have t6 := SC_down (f := fun t => decide (kd (c t) = 2)) (by rw [decide_eq_true t2.symm]) t5
          have f2 : MFR mo (sE (sE q 0 10 2) 0 11 0) := MFR_t f0 (MFR_t (MFR_e (by omega)) (MFR_e (by omega)))
          obtain ⟨x, ex, x8, x11, xf⟩ := r_num (TX_f h (TFR_r tp) f2) (by rw [sE_v, if_neg (by omega), sE_v, if_neg (by omega), z8]) (by rw [sE_v, if_neg (by omega), sE_v, if_neg (by omega), z9]) sE_e t6
          have x9 : x 0 9 = nI j := by rw [xf 0 9 (by omega), sE_v, if_neg (by omega), sE_v, if_neg (by omega), z9]
          have x10 : x 0 10 = nI 2 := by rw [xf 0 10 (by omega), sE_v, if_neg (by omega), sE_e]; rfl
          have x12 : x 0 12 = 0 := by rw [xf 0 12 (by omega), sE_v, if_neg (by omega), sE_v, if_neg (by omega), z12]
          have fx : MFR mo x := MFR_t f2 (fun a b hab => xf a b (by omega))
          rw [nm_u, nm_u, ex, bd_s, x8, x9, pk_sub b2]
          unfold fX9_next_236
          by_cases c5 : j + 2 < e
          · have hb : bad j e 2 = true := by unfold bad; rw [decide_eq_true c5]; rfl
            rw [if_pos (show (2 : Int32) < nI (e - j) from nI_lt (a := 2) (b := e - j) (by omega) (by omega)), r_needs0 x12 x9, bd_s]
            refine ⟨_, rfl, MFR_t fx (MFR_t (MFR_e (by omega)) (MFR_e (by omega))), ?_, ?_, fun _ => ?_, ?_, fun _ => sE_e, fun _ => ?_⟩
            · rw [sE_v, if_neg (by omega), sE_v, if_neg (by omega), x8]
            · rw [sE_v, if_neg (by omega), sE_v, if_neg (by omega), x9]
            · rw [sE_v, if_neg (by omega), sE_v, if_neg (by omega), x10]
            · rw [sE_v, if_neg (by omega), sE_e, hb, if_pos rfl]
            · rw [sE_v, if_neg (by omega), sE_v, if_neg (by omega), x11]
          · have hb : bad j e 2 = false := by unfold bad; rw [decide_eq_false c5]; rfl
            rw [if_neg (show ¬ (2 : Int32) < nI (e - j) from nI_nlt (a := 2) (b := e - j) (by omega) (by decide)), r_needs1, bd_s]
            exact ⟨_, rfl, fx, x8, x9, fun _ => x10, by rw [hb, if_neg (by decide)]; exact x12, fun hh => (by rw [hb] at hh; cases hh), fun _ => x11⟩
        · omega
      · have k34 : (k = 3 ∨ k = 4) ∧ e = j + 1 := by
          rcases t3 with ⟨t4, _⟩ | t4
          · omega
          · exact t4
        have fq : MFR mo (sE q 0 10 3) := MFR_t f0 (MFR_e (by omega))
        have y8 : sE q 0 10 3 0 8 = nI j := by rw [sE_v, if_neg (by omega), z8]
        have y9 : sE q 0 10 3 0 9 = nI j := by rw [sE_v, if_neg (by omega), z9]
        have y12 : sE q 0 10 3 0 12 = 0 := by rw [sE_v, if_neg (by omega), z12]
        rw [decide_eq_false k2]
        simp only [it_f]
        rw [nm_u]
        unfold fX9_next_260
        rcases k34.1 with k3 | k4
        · have hc59 := kd_3 (x := c j) (by rw [← t2]; exact k3)
          have hb : bad j e k = false := by rw [k3]; rfl
          rw [hc59, if_pos (by decide), r_needs1, bd_s, nm_u, y8, nI_p1]
          refine ⟨_, rfl, MFR_t fq (MFR_e (by omega)), by rw [sE_e, k34.2], by rw [sE_v, if_neg (by omega), y9], fun _ => by rw [sE_v, if_neg (by omega), sE_e, k3]; rfl, ?_, fun hh => (by rw [hb] at hh; cases hh), fun hh => by omega⟩
          rw [sE_v, if_neg (by omega), y12, hb, if_neg (by decide)]
        · have hc59 := kd_4 (x := c j) (by rw [← t2]; exact k4)
          have hb : bad j e k = true := by rw [k4]; rfl
          rw [if_neg (n_ne (x := 59) (q := 59) hc59 rfl (by omega) (by decide)), r_needs0 y12 y9, bd_s, nm_u]
          have w8' : sE (sE (sE q 0 10 3) 0 12 1) 0 13 (nI j) 0 8 = nI j := by rw [sE_v, if_neg (by omega), sE_v, if_neg (by omega), y8]
          rw [w8', nI_p1]
          refine ⟨_, rfl, MFR_t fq (MFR_t (MFR_e (by omega)) (MFR_t (MFR_e (by omega)) (MFR_e (by omega)))), by rw [sE_e, k34.2], ?_, fun hh => by omega, ?_, fun _ => ?_, fun hh => by omega⟩
          · rw [sE_v, if_neg (by omega), sE_v, if_neg (by omega), sE_v, if_neg (by omega), y9]
          · rw [sE_v, if_neg (by omega), sE_v, if_neg (by omega), sE_e, hb, if_pos rfl]
          · rw [sE_v, if_neg (by omega), sE_e]
/-- behind a token: both have read it -/
def RT (tp mo : S2) (n : Nat) (c : Nat → Nat) (i : Nat) : Prop := ∃ j e, i ≤ e ∧ j ≤ e ∧ e ≤ n ∧ tp 0 1 = nI e ∧ tp 0 2 = nI j ∧
  ((tp 0 4 = 0 ∧ mo 0 12 = 0 ∧ mo 0 8 = nI e ∧ mo 0 9 = nI j ∧ ∃ k, tp 0 3 = nI k ∧ mo 0 10 = nI k ∧ k ≤ 3 ∧ (k = 0 → j = n) ∧ (0 < k → j < e ∧ i < e) ∧ (k = 2 → e ≤ j + 2 ∧ (∀ t, j ≤ t → t < e → kd (c t) = 2) ∧ mo 0 11 = nI (vlp c j (e - j))))
  ∨ (∃ t, 0 < t ∧ t ≤ 6 ∧ tp 0 4 = nI t ∧ mo 0 12 = nI t ∧ tp 0 5 = mo 0 13))
/-- ahead of a token, at place i -/
def BT (tp mo : S2) (n i : Nat) : Prop := i ≤ n ∧ tp 0 1 = nI i ∧ ((tp 0 4 = 0 ∧ mo 0 12 = 0 ∧ mo 0 8 = nI i) ∨ (∃ t j, j ≤ i ∧ tp 0 2 = nI j ∧ 0 < t ∧ t ≤ 6 ∧ tp 0 4 = nI t ∧ mo 0 12 = nI t ∧ tp 0 5 = mo 0 13))
theorem tk_next {tp mo : S2} {n i : Nat} {c : Nat → Nat} (h : TX tp mo n c) (hb : BT tp mo n i) : ∃ tp' mo', fX6_readToken tp = some tp' ∧ fX9_next mo = some mo' ∧ RT tp' mo' n c i ∧ TFR tp tp' ∧ MFR mo mo' ∧ (tp' 0 4 = 0 → tp 0 4 = 0) := by
  have hn := h.1
  obtain ⟨hi, h1, hb⟩ := hb
  rcases hb with ⟨h4, h12, h8⟩ | ⟨t, j, t1, t2, t3, t4, t5, t6, t7⟩
  · obtain ⟨j, e, k, hT⟩ := TK_ex c hi
    obtain ⟨b1, b2, b3, b4, b5, b6⟩ := TK_b hT
    obtain ⟨tp', a1, a2, a3, a4, a5, a6, a7⟩ := c_tok h h1 h4 hT
    obtain ⟨mo', m1, m2, m3, m4, m5, m6, m7, m8⟩ := r_tok h h8 h12 hT
    refine ⟨tp', mo', a1, m1, ⟨j, e, by omega, b2, b3, a3, a4, ?_⟩, a2, m2, fun _ => h4⟩
    cases hb : bad j e k with
    | false =>
      left
      rw [hb, if_neg (by decide)] at a6 m6
      have hk4 : ¬ k = 4 := by rintro rfl; cases hb
      have hk3 : k ≤ 3 := by omega
      refine ⟨a6, m6, m3, m4, k, a5, m5 hk3, hk3, b6, fun hh => ⟨(b5 hh).1, by have := (b5 hh).1; omega⟩, fun hh => ?_⟩
      subst hh
      refine ⟨?_, fun t t1 t2 => ?_, m8 rfl⟩
      · unfold bad at hb
        rw [show decide (2 = 4) = false from rfl, Bool.false_or, show decide (2 = 2) = true from rfl, Bool.true_and, decide_eq_false_iff_not] at hb
        omega
      · obtain ⟨_, ht⟩ := hT
        rcases ht with ⟨_, x2, _⟩ | ⟨x1, x2, x3⟩
        · cases x2
        · rcases x3 with ⟨_, _, _, x4, _⟩ | ⟨x4, _⟩
          · rcases Nat.lt_or_ge j t with h5 | h5
            · exact of_decide_eq_true (x4 t h5 t2)
            · have : t = j := by omega
              subst this
              exact x2.symm
          · omega
    | true =>
      right
      rw [hb, if_pos rfl] at a6 m6
      exact ⟨1, by omega, by omega, a6, m6, by rw [a7 hb, m7 hb]⟩
  · have h4 : ¬ tp 0 4 = 0 := by rw [t5]; exact nI_ne0 t3 (by omega)
    have h12 : ¬ mo 0 12 ≤ 0 := by rw [t6]; exact nI_nle t3 (by omega)
    refine ⟨tp, mo, ?_, ?_, ⟨j, i, Nat.le_refl i, t1, hi, h1, t2, Or.inr ⟨t, t3, t4, t5, t6, t7⟩⟩, TFR_r tp, MFR_r mo, fun hh => hh⟩
    · unfold fX6_readToken
      rw [if_neg h4]
    · unfold fX9_next
      rw [if_neg h12]
theorem BT_RT {tp mo : S2} {n i : Nat} {c : Nat → Nat} (h : RT tp mo n c i) : ∃ e, i ≤ e ∧ BT tp mo n e := by
  obtain ⟨j, e, h1, h2, h3, h4, h5, h6⟩ := h
  refine ⟨e, h1, h3, h4, ?_⟩
  rcases h6 with ⟨a1, a2, a3, _⟩ | ⟨t, t1, t2, t3, t4, t5⟩
  · exact Or.inl ⟨a1, a2, a3⟩
  · exact Or.inr ⟨t, j, h2, h5, t1, t2, t3, t4, t5⟩
