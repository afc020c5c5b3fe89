/-! PURE: text -/
def EN (tp mo : S2) (n : Nat) (x : Int32 × S2 × S2 × S2) (y : Int32 × S2) : Prop := TFR tp x.2.2.1 ∧ KFR mo y.2 ∧ (∃ M P, M ≤ 8 ∧ P ≤ 4 ∧ x.2.2.2 0 0 = nI M ∧ x.2.2.2 0 1 = nI P) ∧ ((x.2.2.1 0 4 = 0 ∧ y.2 0 12 = 0 ∧ x.1 = y.1 ∧ y.2 0 9 = nI n ∧ ∃ M P, DR x.2.1 x.2.2.2 y.2 M P) ∨ (∃ t, 0 < t ∧ t ≤ 6 ∧ x.2.2.1 0 4 = nI t ∧ y.2 0 12 = nI t ∧ x.2.2.1 0 5 = y.2 0 13))
theorem lp {n : Nat} {c : Nat → Nat} : ∀ (k : Nat) (tl tp td mo : S2) (i L M P N1 N2 : Nat), TX tp mo n c → PB tp mo n c i → tp 0 4 = 0 → DR tl td mo M P → n - i ≤ k → 2 * L ≤ i → k < N1 → k + 1 < N2 → ∃ x y, wh (fun (s : Int32 × S2 × S2 × S2) => fX7_tellInto_b23 s.2.1 s.2.2.1 s.2.2.2 s.1) N1 (nI L, tl, tp, td) = some x ∧ wh (fun (s : Int32 × S2) => fX9_text_b20 s.2 s.1) N2 (nI L, mo) = some y ∧ EN tp mo n x y := by
  intro k
  induction k with
  | zero =>
    intro tl tp td mo i L M P N1 N2 h hb hz D hn hL h1 h2
    obtain ⟨⟨d1, d2, d3, d4, _, _⟩, _⟩ := id D
    have hn160 := h.1
    obtain ⟨tp1, e1, R, f1, g1⟩ := id hb
    obtain ⟨j, e, a1, a2, a3, a4, a5, a6⟩ := id R
    have hL1 : ¬ (160 : Int32) ≤ nI L := nI_ge (a := L) (b := 160) (by omega) (by decide)
    rcases a6 with ⟨b1, b2, b3, b4, kk, k1, k2, k3, k4, k5, k6⟩ | ⟨t, t1, t2, t3, t4, t5⟩
    · have hk0 : kk = 0 := by
        rcases Nat.eq_zero_or_pos kk with hh | hh
        · exact hh
        · have := (k5 hh).2
          omega
      subst hk0
      have E1 : fX7_tellInto_b23 tl tp td (nI L) = some (.inr (nI L, tl, tp1, td)) := by
        unfold fX7_tellInto_b23 fX7_takeLine
        rw [if_neg hL1, e1, bd_s, if_pos b1, k1, if_pos (show nI 0 = (0 : Int32) from rfl), bd_s, if_pos rfl]
      have E2 : fX9_text_b20 mo (nI L) = some (.inr (nI L, mo)) := by
        unfold fX9_text_b20
        rw [if_pos b2, k2, if_pos (show nI 0 = (0 : Int32) from rfl)]
      exact ⟨_, _, wh_r E1 (by omega), wh_r E2 (by omega), f1, KFR_r mo, ⟨M, P, d1, d2, d3, d4⟩, Or.inl ⟨b1, b2, rfl, b4.trans (by rw [k4 rfl]), M, P, D⟩⟩
    · have f4 : ¬ tp1 0 4 = 0 := by rw [t3]; exact nI_ne0 t1 (by omega)
      have f12 : ¬ mo 0 12 = 0 := by rw [t4]; exact nI_ne0 t1 (by omega)
      have E1 : fX7_tellInto_b23 tl tp td (nI L) = some (.inr (nI L, tl, tp1, td)) := by
        unfold fX7_tellInto_b23 fX7_takeLine
        rw [if_neg hL1, e1, bd_s, if_neg f4, bd_s, if_pos rfl]
      have E2 : fX9_text_b20 mo (nI L) = some (.inr (nI L, mo)) := by
        unfold fX9_text_b20
        rw [if_neg f12]
      exact ⟨_, _, wh_r E1 (by omega), wh_r E2 (by omega), f1, KFR_r mo, ⟨M, P, d1, d2, d3, d4⟩, Or.inr ⟨t, t1, t2, t3, t4, t5⟩⟩
  | succ k ih =>
    intro tl tp td mo i L M P N1 N2 h hb hz D hn hL h1 h2
    obtain ⟨⟨d1, d2, d3, d4, _, _⟩, _⟩ := id D
    have hn160 := h.1
    obtain ⟨tp1, e1, R, f1, g1⟩ := id hb
    obtain ⟨j, e, a1, a2, a3, a4, a5, a6⟩ := id R
    have hL1 : ¬ (160 : Int32) ≤ nI L := nI_ge (a := L) (b := 160) (by omega) (by decide)
    rcases a6 with ⟨b1, b2, b3, b4, kk, k1, k2, k3, k4, k5, k6⟩ | ⟨t, t1, t2, t3, t4, t5⟩
    · by_cases hk0 : kk = 0
      · subst hk0
        have E1 : fX7_tellInto_b23 tl tp td (nI L) = some (.inr (nI L, tl, tp1, td)) := by
          unfold fX7_tellInto_b23 fX7_takeLine
          rw [if_neg hL1, e1, bd_s, if_pos b1, k1, if_pos (show nI 0 = (0 : Int32) from rfl), bd_s, if_pos rfl]
        have E2 : fX9_text_b20 mo (nI L) = some (.inr (nI L, mo)) := by
          unfold fX9_text_b20
          rw [if_pos b2, k2, if_pos (show nI 0 = (0 : Int32) from rfl)]
        exact ⟨_, _, wh_r E1 (by omega), wh_r E2 (by omega), f1, KFR_r mo, ⟨M, P, d1, d2, d3, d4⟩, Or.inl ⟨b1, b2, rfl, b4.trans (by rw [k4 rfl]), M, P, D⟩⟩
      · obtain ⟨hje, hie⟩ := k5 (by omega)
        have hx1 : TX tp1 mo n c := TX_f h f1 (MFR_r mo)
        have kn0 : ¬ nI kk = (0 : Int32) := n_ne (x := 0) (q := 0) hk0 rfl (by omega) (by decide)
        have LN : ∃ b tl' tp' td' mo', fX7_takeLine tl tp td = some (b, tl', tp', td') ∧ fX9_readLine mo = some mo' ∧ LE tp1 mo tl' tp' td' mo' b n c i := by
          by_cases hk1 : kk = 1
          · have hl8 : lnn c j e ≤ 8 := by
              unfold lnn
              split
              · omega
              · split
                · omega
                · split
                  · omega
                  · split
                    · omega
                    · split
                      · omega
                      · split
                        · omega
                        · split
                          · omega
                          · split <;> omega
            obtain ⟨b, tl', tp', td', mo', q1, q2, q3⟩ := ln_ok (tl := tl) (td := td) (j := j) (k := lnn c j e) hx1 R hie a3 a4 b1 b2 b3 hl8 D
            refine ⟨b, tl', tp', td', mo', ?_, ?_, q3⟩
            · unfold fX7_takeLine
              rw [e1, bd_s, if_pos b1, k1, if_neg kn0, hk1, if_pos (show nI 1 = (1 : Int32) from rfl), c_line hx1 a2 a3 a4 a5, bd_s, q1]
            · unfold fX9_readLine
              rw [k2, hk1, if_pos (show nI 1 = (1 : Int32) from rfl), r_line hx1 a2 a3 b3 b4, bd_s, q2]
          · obtain ⟨b, tl', tp', td', mo', q1, q2, q3⟩ := ln_ok (tl := tl) (td := td) (j := j) (k := 8) hx1 R hie a3 a4 b1 b2 b3 (by omega) D
            have kn1 : ¬ nI kk = (1 : Int32) := n_ne (x := 1) (q := 1) hk1 rfl (by omega) (by decide)
            refine ⟨b, tl', tp', td', mo', ?_, ?_, q3⟩
            · unfold fX7_takeLine
              rw [e1, bd_s, if_pos b1, k1, if_neg kn0, if_neg kn1]
              exact q1
            · unfold fX9_readLine
              rw [k2, if_neg kn1]
              exact q2
        obtain ⟨b, tl', tp', td', mo', q1, q2, r1, r2, ⟨i', r3, r4⟩, r5, r6, M', P', r7⟩ := LN
        have E2 : fX9_text_b20 mo (nI L) = some (.inl (nI (L + 1), mo')) := by
          unfold fX9_text_b20
          rw [if_pos b2, k2, if_neg kn0, q2, bd_s, nm_u, nI_p1]
        by_cases hz' : tp' 0 4 = 0
        · obtain ⟨hb1, M2, P2, D2⟩ := r5 hz'
          have hi' := r4 hz'
          have E1 : fX7_tellInto_b23 tl tp td (nI L) = some (.inl (nI (L + 1), tl', tp', td')) := by
            unfold fX7_tellInto_b23
            rw [if_neg hL1, q1, bd_s, hb1, if_neg (show ¬ (1 : Int32) = 0 by decide), nm_u, nI_p1]
          obtain ⟨x, y, w1, w2, u1, u2, u3⟩ := ih tl' tp' td' mo' i' (L + 1) M2 P2 (N1 - 1) (N2 - 1) (TX_k h (TFR_t f1 r1) r2) r3 hz' D2 (by omega) (by omega) (by omega) (by omega)
          refine ⟨x, y, ?_, ?_, TFR_t (TFR_t f1 r1) u1, KFR_t r2 u2, u3⟩
          · rw [wh_l (body := fun (s : Int32 × S2 × S2 × S2) => fX7_tellInto_b23 s.2.1 s.2.2.1 s.2.2.2 s.1) (s := (nI L, tl, tp, td)) E1 (by omega)]
            exact w1
          · rw [wh_l (body := fun (s : Int32 × S2) => fX9_text_b20 s.2 s.1) (s := (nI L, mo)) E2 (by omega)]
            exact w2
        · have hb0 := r6 hz'
          have E1 : fX7_tellInto_b23 tl tp td (nI L) = some (.inr (nI L, tl', tp', td')) := by
            unfold fX7_tellInto_b23
            rw [if_neg hL1, q1, bd_s, hb0, if_pos rfl]
          obtain ⟨tp2, v1, ⟨j2, e2, _, _, _, _, _, v2⟩, _, _⟩ := r3
          have v3 : tp2 = tp' := by
            unfold fX6_readToken at v1
            rw [if_neg hz'] at v1
            exact so_eq v1
          subst v3
          rcases v2 with ⟨v4, _⟩ | ⟨t, t1, t2, t3, t4, t5⟩
          · exact absurd v4 hz'
          · have f12 : ¬ mo' 0 12 = 0 := by rw [t4]; exact nI_ne0 t1 (by omega)
            have E3 : fX9_text_b20 mo' (nI (L + 1)) = some (.inr (nI (L + 1), mo')) := by
              unfold fX9_text_b20
              rw [if_neg f12]
            refine ⟨(nI L, tl', tp2, td'), (nI (L + 1), mo'), wh_r E1 (by omega), ?_, TFR_t f1 r1, r2, ⟨M', P', r7⟩, Or.inr ⟨t, t1, t2, t3, t4, t5⟩⟩
            rw [wh_l (body := fun (s : Int32 × S2) => fX9_text_b20 s.2 s.1) (s := (nI L, mo)) E2 (by omega)]
            exact wh_r E3 (by omega)
    · have f4 : ¬ tp1 0 4 = 0 := by rw [t3]; exact nI_ne0 t1 (by omega)
      have f12 : ¬ mo 0 12 = 0 := by rw [t4]; exact nI_ne0 t1 (by omega)
      have E1 : fX7_tellInto_b23 tl tp td (nI L) = some (.inr (nI L, tl, tp1, td)) := by
        unfold fX7_tellInto_b23 fX7_takeLine
        rw [if_neg hL1, e1, bd_s, if_neg f4, bd_s, if_pos rfl]
      have E2 : fX9_text_b20 mo (nI L) = some (.inr (nI L, mo)) := by
        unfold fX9_text_b20
        rw [if_neg f12]
      exact ⟨_, _, wh_r E1 (by omega), wh_r E2 (by omega), f1, KFR_r mo, ⟨M, P, d1, d2, d3, d4⟩, Or.inr ⟨t, t1, t2, t3, t4, t5⟩⟩
theorem c_lacks {td : S2} {M P : Nat} (hM : M ≤ 8) (hP : P ≤ 4) (h0 : td 0 0 = nI M) (h1 : td 0 1 = nI P) : ∃ v, fX2_lacksMile td = some v ∧ ((v = 0 ∧ (∀ j, j < 8 → ¬ td 3 j = 0 → j < M) ∧ ∀ p, p < P → blw (td 8 p) M = true) ∨ (v = 1 ∧ ((∃ j, j < 8 ∧ ¬ td 3 j = 0 ∧ ¬ j < M) ∨ ∃ p, p < P ∧ blw (td 8 p) M = false))) := by
  unfold fX2_lacksMile
  have key1 : ∃ x, wh (fun (s : Int32) => fX2_lacksMile_b2 td s) 5000 (0 : Int32) = some x ∧ ((∃ q, x = .inl q ∧ ∀ j, j < 8 → ¬ td 3 j = 0 → j < M) ∨ (x = .inr 1 ∧ ∃ j, j < 8 ∧ ¬ td 3 j = 0 ∧ ¬ j < M)) := by
    refine wh_ex (body := fun (s : Int32) => fX2_lacksMile_b2 td s) (fun i s => s = nI i ∧ ∀ j, j < i → ¬ td 3 j = 0 → j < M)
      (fun x => (∃ q, x = .inl q ∧ ∀ j, j < 8 → ¬ td 3 j = 0 → j < M) ∨ (x = .inr 1 ∧ ∃ j, j < 8 ∧ ¬ td 3 j = 0 ∧ ¬ j < M)) 8 (fun i s hi hI => ?_) (fun s hI => ?_) 5000 0 _ (by decide) (by decide) ⟨rfl, fun j hj => by omega⟩
    · obtain ⟨k1, k2⟩ := hI
      have E : fX2_lacksMile_b2 td s = if td 3 i = 0 then some (.inl (nI (i + 1))) else if i < M then some (.inl (nI (i + 1))) else some (.inr (.inr 1)) := by
        unfold fX2_lacksMile_b2
        rw [k1, if_neg (show ¬ (8 : Int32) ≤ nI i from nI_ge (a := i) (b := 8) hi (by decide)), gd_n hi (by decide), cl_n (by omega), nm_u, nI_p1, pX2_hasMile h0, bd_s, blw_nI (by omega) (by omega)]
        by_cases c1 : td 3 i = 0
        · rw [if_pos c1, if_pos c1]
        · rw [if_neg c1, if_neg c1]
          by_cases c2 : i < M
          · rw [decide_eq_true c2, if_pos c2]; rfl
          · rw [decide_eq_false c2, if_neg c2]; rfl
      by_cases c1 : td 3 i = 0
      · left
        rw [if_pos c1] at E
        refine ⟨_, E, rfl, fun j hj hn => ?_⟩
        rcases Nat.lt_or_ge j i with h5 | h5
        · exact k2 j h5 hn
        · have : j = i := by omega
          subst this
          exact absurd c1 hn
      · rw [if_neg c1] at E
        by_cases c2 : i < M
        · left
          rw [if_pos c2] at E
          refine ⟨_, E, rfl, fun j hj hn => ?_⟩
          rcases Nat.lt_or_ge j i with h5 | h5
          · exact k2 j h5 hn
          · have : j = i := by omega
            subst this
            exact c2
        · right
          rw [if_neg c2] at E
          exact ⟨_, E, Or.inr ⟨rfl, i, hi, c1, c2⟩⟩
    · obtain ⟨k1, k2⟩ := hI
      refine ⟨.inl s, ?_, Or.inl ⟨s, rfl, k2⟩⟩
      show fX2_lacksMile_b2 td s = _
      unfold fX2_lacksMile_b2
      rw [if_pos (by rw [k1]; decide)]
  obtain ⟨x, ex, hq⟩ := key1
  rw [ex, bd_s]
  rcases hq with ⟨q, rfl, hj⟩ | ⟨rfl, j, j1, j2, j3⟩
  · have key2 : ∃ x, wh (fun (s : Int32) => fX2_lacksMile_b35 td s) 5000 (0 : Int32) = some x ∧ ((∃ q, x = .inl q ∧ ∀ p, p < P → blw (td 8 p) M = true) ∨ (x = .inr 1 ∧ ∃ p, p < P ∧ blw (td 8 p) M = false)) := by
      refine wh_ex (body := fun (s : Int32) => fX2_lacksMile_b35 td s) (fun i s => s = nI i ∧ ∀ p, p < i → blw (td 8 p) M = true)
        (fun x => (∃ q, x = .inl q ∧ ∀ p, p < P → blw (td 8 p) M = true) ∨ (x = .inr 1 ∧ ∃ p, p < P ∧ blw (td 8 p) M = false)) P (fun i s hi hI => ?_) (fun s hI => ?_) 5000 0 _ (by omega) (by omega) ⟨rfl, fun p hp => by omega⟩
      · obtain ⟨k1, k2⟩ := hI
        have E : fX2_lacksMile_b35 td s = if blw (td 8 i) M = true then some (.inl (nI (i + 1))) else some (.inr (.inr 1)) := by
          unfold fX2_lacksMile_b35
          rw [k1, h1, if_neg (nI_ge hi (by omega)), gd_n (by omega) (by decide), cl_n (by omega), pX2_hasMile h0, bd_s, nm_u, nI_p1]
          cases blw (td 8 i) M with
          | true => rfl
          | false => rfl
        cases hb : blw (td 8 i) M with
        | true =>
          left
          rw [hb, if_pos rfl] at E
          refine ⟨_, E, rfl, fun p hp => ?_⟩
          rcases Nat.lt_or_ge p i with h5 | h5
          · exact k2 p h5
          · have : p = i := by omega
            subst this
            exact hb
        | false =>
          right
          rw [hb, if_neg (by decide)] at E
          exact ⟨_, E, Or.inr ⟨rfl, i, hi, hb⟩⟩
      · obtain ⟨k1, k2⟩ := hI
        refine ⟨.inl s, ?_, Or.inl ⟨s, rfl, k2⟩⟩
        show fX2_lacksMile_b35 td s = _
        unfold fX2_lacksMile_b35
        rw [if_pos (by rw [k1, h1]; exact nI_le (Nat.le_refl P) (by omega))]
    obtain ⟨x, ex2, hq⟩ := key2
    show ∃ v, ((wh (fun (s : Int32) => fX2_lacksMile_b35 td s) 5000 (0 : Int32)).bind fun x15 => Sum.elim (fun q16 => some (0 : Int32)) (fun r17 => some r17) x15) = some v ∧ _
    rw [ex2, bd_s]
    rcases hq with ⟨q, rfl, hp⟩ | ⟨rfl, p, p1, p2⟩
    · exact ⟨0, rfl, Or.inl ⟨rfl, hj, hp⟩⟩
    · exact ⟨1, rfl, Or.inr ⟨rfl, Or.inr ⟨p, p1, p2⟩⟩⟩
  · exact ⟨1, rfl, Or.inr ⟨rfl, Or.inl ⟨j, j1, j2, j3⟩⟩⟩
theorem c_wipe {td : S2} : ∃ d, fX2_wipe td = some d ∧ d 0 0 = 0 ∧ d 0 1 = 0 ∧ d 0 2 = 4 ∧ d 0 3 = 99 ∧ ∀ j, j < 8 → d 3 j = 0 := by
  unfold fX2_wipe
  rw [nm_u, nm_u, nm_u, nm_u]
  have key : ∃ x, wh (fun (s : Int32 × S2) => fX2_wipe_b23 s.2 s.1) 5000 ((0 : Int32), sE (sE (sE (sE td 0 0 0) 0 1 0) 0 2 4) 0 3 99) = some x ∧ ((∀ b, x.2 0 b = sE (sE (sE (sE td 0 0 0) 0 1 0) 0 2 4) 0 3 99 0 b) ∧ ∀ j, j < 8 → x.2 3 j = 0) := by
    refine wh_ex (body := fun (s : Int32 × S2) => fX2_wipe_b23 s.2 s.1) (fun i s => s.1 = nI i ∧ (∀ b, s.2 0 b = sE (sE (sE (sE td 0 0 0) 0 1 0) 0 2 4) 0 3 99 0 b) ∧ ∀ j, j < i → s.2 3 j = 0)
      (fun x => (∀ b, x.2 0 b = sE (sE (sE (sE td 0 0 0) 0 1 0) 0 2 4) 0 3 99 0 b) ∧ ∀ j, j < 8 → x.2 3 j = 0) 8 (fun i s hi hI => ?_) (fun s hI => ?_) 5000 0 _ (by decide) (by decide) ⟨rfl, fun _ => rfl, fun j hj => by omega⟩
    · obtain ⟨k1, k2, k3⟩ := hI
      left
      refine ⟨(nI (i + 1), sE s.2 3 i 0), ?_, rfl, fun b => by dsimp only; rw [sE_v, if_neg (by omega), k2], fun j hj => ?_⟩
      · show fX2_wipe_b23 s.2 s.1 = _
        unfold fX2_wipe_b23
        rw [k1, if_neg (show ¬ (8 : Int32) ≤ nI i from nI_ge (a := i) (b := 8) hi (by decide)), gd_n hi (by decide), nm_u, nm_u, nI_p1, cl_n (by omega)]
      · dsimp only
        rw [sE_v]
        by_cases hx : 3 = 3 ∧ j = i
        · rw [if_pos hx]
        · rw [if_neg hx]; exact k3 j (by omega)
    · obtain ⟨k1, k2, k3⟩ := hI
      refine ⟨s, ?_, k2, k3⟩
      show fX2_wipe_b23 s.2 s.1 = _
      unfold fX2_wipe_b23
      rw [k1, if_pos (by decide), ← k1]
  obtain ⟨x, ex, q1, q2⟩ := key
  rw [ex, bd_s]
  refine ⟨_, rfl, ?_, ?_, ?_, ?_, q2⟩
  · rw [q1]; simp [sE_v]
  · rw [q1]; simp [sE_v]
  · rw [q1]; simp [sE_v]
  · rw [q1]; simp [sE_v]
theorem r_first {mo : S2} : ∃ s, fX9_firstDraft mo = some s ∧ (∀ b, b < 59 → s 4 b = if b = 44 then 4 else if b = 45 then 99 else 0) ∧ s 0 2 = 0 ∧ s 0 3 = 0 ∧ s 0 4 = 0 ∧ s 0 5 = 0 ∧ s 0 6 = -4 ∧ ∀ a b, (a ≠ 4 ∧ (a ≠ 0 ∨ b < 2 ∨ 6 < b)) → s a b = mo a b := by
  unfold fX9_firstDraft
  have key : ∃ x, wh (fun (s : Int32 × S2) => fX9_firstDraft_b2 s.2 s.1) 5000 ((0 : Int32), mo) = some x ∧ ∀ a b, x.2 a b = if a = 4 ∧ b < 59 then 0 else mo a b := by
    refine wh_ex (body := fun (s : Int32 × S2) => fX9_firstDraft_b2 s.2 s.1) (fun i c => c.1 = nI i ∧ ∀ a b, c.2 a b = if a = 4 ∧ b < i then 0 else mo a b)
      (fun c => ∀ a b, c.2 a b = if a = 4 ∧ b < 59 then 0 else mo a b) 59 (fun i c hi hI => ?_) (fun c hI => ?_) 5000 0 _ (by decide) (by decide) ⟨rfl, fun a b => by simp⟩
    · obtain ⟨h1, h2⟩ := hI
      left
      refine ⟨(nI (i + 1), sE c.2 4 i 0), ?_, rfl, fun a b => ?_⟩
      · show fX9_firstDraft_b2 c.2 c.1 = _
        unfold fX9_firstDraft_b2
        rw [h1, if_neg (show ¬ (59 : Int32) ≤ nI i from nI_ge (a := i) (b := 59) hi (by decide)), gd_n hi (by decide), cl_n (by omega), nm_u, nm_u, nI_p1]
      · dsimp only
        rw [sE_v, h2]
        by_cases h5 : a = 4
        · subst h5
          by_cases hb : b = i
          · subst hb; simp
          · have : (b < i + 1) ↔ b < i := by omega
            simp [hb, this]
        · simp [h5]
    · obtain ⟨h1, h2⟩ := hI
      refine ⟨c, ?_, h2⟩
      show fX9_firstDraft_b2 c.2 c.1 = _
      unfold fX9_firstDraft_b2
      rw [h1, if_pos (by decide), ← h1]
  obtain ⟨x, ex, q⟩ := key
  rw [ex, bd_s]
  simp only [nm_u]
  refine ⟨_, rfl, fun b hb => ?_, ?_, ?_, ?_, ?_, ?_, fun a b hab => ?_⟩
  · rw [sE_v, if_neg (by omega), sE_v, if_neg (by omega), sE_v, if_neg (by omega), sE_v, if_neg (by omega), sE_v, if_neg (by omega), sE_v, sE_v, q, if_pos (show 4 = 4 ∧ b < 59 from ⟨rfl, hb⟩), show Int32.toNatClampNeg (44 : Int32) = 44 from rfl, show Int32.toNatClampNeg (45 : Int32) = 45 from rfl]
    by_cases c4 : b = 44
    · rw [if_neg (by omega), if_pos ⟨rfl, c4⟩, if_pos c4]
    · by_cases c5 : b = 45
      · rw [if_pos ⟨rfl, c5⟩, if_neg c4, if_pos c5]
      · rw [if_neg (by omega), if_neg (by omega), if_neg c4, if_neg c5]
  · rw [sE_v, if_neg (by omega), sE_v, if_neg (by omega), sE_v, if_neg (by omega), sE_v, if_neg (by omega), sE_e]
  · rw [sE_v, if_neg (by omega), sE_v, if_neg (by omega), sE_v, if_neg (by omega), sE_e]
  · rw [sE_v, if_neg (by omega), sE_v, if_neg (by omega), sE_e]
  · rw [sE_v, if_neg (by omega), sE_e]
  · rw [sE_e]
  · rw [sE_v, if_neg (by omega), sE_v, if_neg (by omega), sE_v, if_neg (by omega), sE_v, if_neg (by omega), sE_v, if_neg (by omega), sE_v, if_neg (by omega), sE_v, if_neg (by omega), q, if_neg (by omega)]
theorem r_keep {mo : S2} {M B : Nat} (h2 : mo 0 2 = nI M) (hM : M ≤ 8) (h4 : mo 0 4 = nI B) (hB : B < 256) : ∃ s, fX9_keepDraft mo = some s ∧ (∀ b, b < 59 → s 1 b = if b < 3 * M ∧ b % 3 = 2 then (if B.testBit (b / 3) = true then 1 else 0) else mo 4 b) ∧ s 0 0 = nI M ∧ s 0 1 = mo 0 3 ∧ s 3 0 = 0 ∧ s 3 1 = 0 ∧ ∀ a b, (a ≠ 1 ∧ a ≠ 3 ∧ (a ≠ 0 ∨ 1 < b)) → s a b = mo a b := by
  unfold fX9_keepDraft
  have key : ∃ x, wh (fun (s : Int32 × S2) => fX9_keepDraft_b2 s.2 s.1) 5000 ((0 : Int32), mo) = some x ∧ ∀ a b, x.2 a b = if a = 1 ∧ b < 59 then mo 4 b else mo a b := by
    refine wh_ex (body := fun (s : Int32 × S2) => fX9_keepDraft_b2 s.2 s.1) (fun i c => c.1 = nI i ∧ ∀ a b, c.2 a b = if a = 1 ∧ b < i then mo 4 b else mo a b)
      (fun c => ∀ a b, c.2 a b = if a = 1 ∧ b < 59 then mo 4 b else mo a b) 59 (fun i c hi hI => ?_) (fun c hI => ?_) 5000 0 _ (by decide) (by decide) ⟨rfl, fun a b => by simp⟩
    · obtain ⟨h1, h2⟩ := hI
      left
      refine ⟨(nI (i + 1), sE c.2 1 i (mo 4 i)), ?_, rfl, fun a b => ?_⟩
      · show fX9_keepDraft_b2 c.2 c.1 = _
        unfold fX9_keepDraft_b2
        rw [h1, if_neg (show ¬ (59 : Int32) ≤ nI i from nI_ge (a := i) (b := 59) hi (by decide)), gd_n hi (by decide), gd_n (by omega) (by decide), cl_n (by omega), nm_u, nm_u, nI_p1, h2 4 i, if_neg (by omega)]
      · dsimp only
        rw [sE_v, h2]
        by_cases h5 : a = 1
        · subst h5
          by_cases hb : b = i
          · subst hb; simp
          · have : (b < i + 1) ↔ b < i := by omega
            simp [hb, this]
        · simp [h5]
    · obtain ⟨h1, h2⟩ := hI
      refine ⟨c, ?_, h2⟩
      show fX9_keepDraft_b2 c.2 c.1 = _
      unfold fX9_keepDraft_b2
      rw [h1, if_pos (by decide), ← h1]
  obtain ⟨x, ex, q⟩ := key
  rw [ex, bd_s, nm_u, nm_u]
  have w0 : x.2 0 2 = nI M := by rw [q, if_neg (by omega), h2]
  have w3 : sE x.2 0 0 (x.2 0 2) 0 3 = mo 0 3 := by rw [sE_v, if_neg (by omega), q, if_neg (by omega)]
  rw [w3, w0]
  have key2 : ∃ y, wh (fun (s : Int32 × S2) => fX9_keepDraft_b44 s.2 s.1) 5000 ((0 : Int32), sE (sE x.2 0 0 (nI M)) 0 1 (mo 0 3)) = some y ∧ ((∀ b, b < 59 → y.2 1 b = if b < 3 * M ∧ b % 3 = 2 then (if B.testBit (b / 3) = true then 1 else 0) else mo 4 b) ∧ ∀ a b, a ≠ 1 → y.2 a b = sE (sE x.2 0 0 (nI M)) 0 1 (mo 0 3) a b) := by
    refine wh_ex (body := fun (s : Int32 × S2) => fX9_keepDraft_b44 s.2 s.1) (fun i c => c.1 = nI i ∧ (∀ b, b < 59 → c.2 1 b = if b < 3 * i ∧ b % 3 = 2 then (if B.testBit (b / 3) = true then 1 else 0) else mo 4 b) ∧ ∀ a b, a ≠ 1 → c.2 a b = sE (sE x.2 0 0 (nI M)) 0 1 (mo 0 3) a b)
      (fun y => (∀ b, b < 59 → y.2 1 b = if b < 3 * M ∧ b % 3 = 2 then (if B.testBit (b / 3) = true then 1 else 0) else mo 4 b) ∧ ∀ a b, a ≠ 1 → y.2 a b = sE (sE x.2 0 0 (nI M)) 0 1 (mo 0 3) a b) M (fun i c hi hI => ?_) (fun c hI => ?_) 5000 0 _ (by omega) (by omega) ⟨rfl, fun b hb => by rw [if_neg (by omega)]; dsimp only; rw [sE_v, if_neg (by omega), sE_v, if_neg (by omega), q, if_pos ⟨rfl, hb⟩], fun _ _ _ => rfl⟩
    · obtain ⟨k1, k2, k3⟩ := hI
      left
      have z0 : c.2 0 0 = nI M := by rw [k3 0 0 (by omega), sE_v, if_neg (by omega), sE_e]
      have z4 : c.2 0 4 = nI B := by rw [k3 0 4 (by omega), sE_v, if_neg (by omega), sE_v, if_neg (by omega), q, if_neg (by omega), h4]
      refine ⟨(nI (i + 1), sE c.2 1 (3 * i + 2) (if B.testBit i = true then 1 else 0)), ?_, rfl, fun b hb => ?_, fun a b hab => by dsimp only; rw [sE_v, if_neg (fun hh => hab hh.1), k3 a b hab]⟩
      · show fX9_keepDraft_b44 c.2 c.1 = _
        unfold fX9_keepDraft_b44
        rw [k1, z0, if_neg (nI_ge hi (by omega)), m3_2 i (by omega), gd_n (by omega) (by decide), cl_n (by omega), nm_u, nm_u, nI_p1, z4, sb9 B (by omega) i (by omega)]
      · dsimp only
        rw [sE_v]
        by_cases hb2 : b = 3 * i + 2
        · rw [if_pos ⟨rfl, hb2⟩, if_pos (show b < 3 * (i + 1) ∧ b % 3 = 2 by omega), show b / 3 = i by omega]
        · rw [if_neg (fun hh => hb2 hh.2), k2 b hb]
          by_cases hb3 : b < 3 * i ∧ b % 3 = 2
          · rw [if_pos hb3, if_pos (show b < 3 * (i + 1) ∧ b % 3 = 2 by omega)]
          · rw [if_neg hb3, if_neg (show ¬ (b < 3 * (i + 1) ∧ b % 3 = 2) by omega)]
    · obtain ⟨k1, k2, k3⟩ := hI
      have z0 : c.2 0 0 = nI M := by rw [k3 0 0 (by omega), sE_v, if_neg (by omega), sE_e]
      refine ⟨c, ?_, k2, k3⟩
      show fX9_keepDraft_b44 c.2 c.1 = _
      unfold fX9_keepDraft_b44
      rw [k1, if_pos (by rw [z0]; exact nI_le (Nat.le_refl M) (by omega)), ← k1]
  obtain ⟨y, ey, y1, y2⟩ := key2
  rw [ey, bd_s, nm_u, nm_u]
  refine ⟨_, rfl, fun b hb => ?_, ?_, ?_, ?_, ?_, fun a b hab => ?_⟩
  · rw [sE_v, if_neg (by omega), sE_v, if_neg (by omega), y1 b hb]
  · rw [sE_v, if_neg (by omega), sE_v, if_neg (by omega), y2 0 0 (by omega), sE_v, if_neg (by omega), sE_e]
  · rw [sE_v, if_neg (by omega), sE_v, if_neg (by omega), y2 0 1 (by omega), sE_e]
  · rw [sE_v, show Int32.toNatClampNeg (1 : Int32) = 1 from rfl, if_neg (by omega), show Int32.toNatClampNeg (0 : Int32) = 0 from rfl, sE_e]; rfl
  · rw [show Int32.toNatClampNeg (1 : Int32) = 1 from rfl, sE_e]; rfl
  · rw [sE_v, if_neg (by omega), sE_v, if_neg (by omega), y2 a b (by omega), sE_v, if_neg (by omega), sE_v, if_neg (by omega), q, if_neg (by omega)]
