/-! PURE: lines -/
theorem ln_fin {tl2 tp2 td2 tp s mo1 mo2 : S2} {n i : Nat} {c : Nat → Nat} {kk : Int32} (h : TX tp mo1 n c) (hP1 : PB tp mo1 n c i) (e1 : fX9_next s = some mo1) (e2 : fX9_readLineOf mo1 kk = some mo2) (H : HB tp mo1 tp2 mo2 tl2 td2 n c i) : ∃ b tp3 mo3 i3, fX7_takeLine_140 tl2 tp2 td2 = some (b, tl2, tp3, td2) ∧ fX9_readLine_125 s kk = some mo3 ∧ TFR tp tp3 ∧ KFR mo1 mo3 ∧ PB tp3 mo3 n c i3 ∧ (tp3 0 4 = 0 → i < i3 ∧ b = 1 ∧ ∃ M P, DR tl2 td2 mo3 M P) ∧ (¬ tp3 0 4 = 0 → b = 0) ∧ ∃ M P, M ≤ 8 ∧ P ≤ 4 ∧ td2 0 0 = nI M ∧ td2 0 1 = nI P := by
  obtain ⟨f, k, ⟨i2, hi, P2⟩, ⟨M2, P2', w1, w2, w3, w4, D⟩, u⟩ := H
  unfold fX7_takeLine_140 fX9_readLine_125
  rw [e1, bd_s]
  by_cases z : mo1 0 12 = 0
  · rw [if_pos (show mo1 0 12 ≤ 0 by rw [z]; decide), e2, bd_s]
    obtain ⟨tp3, mo3, i3, c1, c2, c3, c4, c5, c6⟩ := tk_semi (tl := tl2) (TX_k h f k) P2
    have c2' : (if (mo2 0 12) = (0 : Int32) then (if (mo2 0 10) = (3 : Int32) then fX9_readLine_163 mo2 1 else fX9_readLine_163 mo2 0) else fX9_readLine_167 mo2) = some mo3 := c2
    rw [c1, bd_s, c2']
    by_cases z3 : tp3 0 4 = 0
    · rw [if_pos z3]
      exact ⟨_, tp3, mo3, i3, rfl, rfl, TFR_t f c5, KFR_t k (KFR_M c6), c3, fun _ => ⟨by have := (c4 z3).2; omega, rfl, M2, P2', DR_M (D (c4 z3).1) c6⟩, fun hh => absurd z3 hh, M2, P2', w1, w2, w3, w4⟩
    · rw [if_neg z3]
      exact ⟨_, tp3, mo3, i3, rfl, rfl, TFR_t f c5, KFR_t k (KFR_M c6), c3, fun hh => absurd hh z3, fun _ => rfl, M2, P2', w1, w2, w3, w4⟩
  · obtain ⟨t, t1, t2, t4⟩ : ∃ t, 0 < t ∧ t ≤ 6 ∧ mo1 0 12 = nI t := by
      obtain ⟨tp1, _, ⟨j, e, _, _, _, _, _, h6⟩, _, _⟩ := hP1
      rcases h6 with ⟨_, a2, _⟩ | ⟨t, t1, t2, _, t4, _⟩
      · exact absurd a2 z
      · exact ⟨t, t1, t2, t4⟩
    obtain ⟨u1, u2⟩ := u z
    rw [if_neg (show ¬ mo1 0 12 ≤ 0 by rw [t4]; exact nI_nle t1 (by omega))]
    obtain ⟨tp3, mo3, i3, c1, c2, c3, c4, c5, c6⟩ := tk_semi (tl := tl2) (TX_f h f (MFR_r mo1)) (PB_row P2 (fun b h1 h2 => (u1 b h1 h2).symm))
    have e3 : mo3 = mo1 := by
      unfold rEnd fX9_readLine_167 at c2
      rw [if_neg z, (r_numF (lo := 0) (hi := 0) t1 t2 t4).2, bd_s] at c2
      exact so_eq c2
    have z3 : ¬ tp3 0 4 = 0 := fun hh => u2 (c4 hh).1
    rw [c1, bd_s, if_neg z3]
    rw [e3] at c3
    exact ⟨_, tp3, mo1, i3, rfl, rfl, TFR_t f c5, KFR_r mo1, c3, fun hh => absurd hh z3, fun _ => rfl, M2, P2', w1, w2, w3, w4⟩
theorem ln_bad {tp mo : S2} {n i x : Nat} {c : Nat → Nat} (h : TX tp mo n c) (R : RT tp mo n c i) (hx : 0 < x ∧ x ≤ 6) : ∃ tp2 tp3 mo2 i3, fX6_blame tp (nI x) (tp 0 2) = some tp2 ∧ (∀ tl td, fX7_takeLine_140 tl tp2 td = some (0, tl, tp3, td)) ∧ fX9_needs mo 0 (nI x) = some mo2 ∧ (∀ kk, fX9_readLine_125 mo2 kk = some mo2) ∧ ¬ mo2 0 12 = 0 ∧ TFR tp tp3 ∧ MFR mo mo2 ∧ PB tp3 mo2 n c i3 ∧ ¬ tp3 0 4 = 0 ∧ (∃ t, 0 < t ∧ t ≤ 6 ∧ mo2 0 12 = nI t) ∧ BT tp2 mo2 n i3 ∧ TFR tp tp2 := by
  obtain ⟨tp2, mo2, e, c1, c2, c3, c4, c5, ⟨t, t1, t2, t3⟩, c7, c8, _⟩ := tk_blame R hx
  have f12 : ¬ mo2 0 12 = 0 := by rw [t3]; exact nI_ne0 t1 (by omega)
  have nx := (r_numF (mo := mo2) (lo := 0) (hi := 0) t1 t2 t3).2
  obtain ⟨mo3, e3, P3, f3⟩ := PB_n (TX_f h c7 c8) c4
  have e4 : mo3 = mo2 := by rw [nx] at e3; exact so_eq e3
  rw [e4] at P3
  have rt : fX6_readToken tp2 = some tp2 := by unfold fX6_readToken; rw [if_neg c5]
  have fb : ∀ x y, fX6_blame tp2 x y = some tp2 := fun x y => by unfold fX6_blame; rw [if_neg c5]
  refine ⟨tp2, tp2, mo2, e, c1, fun tl td => ?_, c2, fun kk => ?_, f12, c7, c8, P3, c5, ⟨t, t1, t2, t3⟩, c4, c7⟩
  · unfold fX7_takeLine_140 fX7_takeSemicolon
    rw [rt, bd_s]
    by_cases z : tp2 0 3 = 3
    · rw [if_pos z, bd_s, if_neg c5]
    · rw [if_neg z, fb, bd_s, bd_s, if_neg c5]
  · unfold fX9_readLine_125
    rw [nx, bd_s, if_neg (show ¬ mo2 0 12 ≤ 0 by rw [t3]; exact nI_nle t1 (by omega))]
theorem tb6 : ∀ r, r < 2 → ∀ s, s < 2 → (nI (64 * r + 128 * s) >>> ((6 : Int32) &&& 31)) &&& (1 : Int32) = nI r ∧ (nI (64 * r + 128 * s) >>> ((7 : Int32) &&& 31)) &&& (1 : Int32) = nI s ∧ nI (64 * r + 128 * s) ||| ((1 : Int32) <<< ((6 : Int32) &&& 31)) = nI (64 * 1 + 128 * s) ∧ nI (64 * r + 128 * s) ||| ((1 : Int32) <<< ((7 : Int32) &&& 31)) = nI (64 * r + 128 * 1) := by decide
theorem DR_t6 {tl td mo : S2} {M P : Nat} (D : DR tl td mo M P) : DR (sE tl 0 0 1) td (sE mo 0 5 (mo 0 5 ||| ((1 : Int32) <<< ((6 : Int32) &&& 31)))) M P := by
  obtain ⟨⟨a1, a2, a3, a4, a5, a6⟩, b, c, d, ⟨B, e1, e2, e3⟩, ⟨r, s, f1, f2, f3, f4, f5⟩, g⟩ := D
  have T : ∀ v b, b ≠ 5 → sE mo 0 5 v 0 b = mo 0 b := fun v b hb => by rw [sE_v, if_neg (by omega)]
  have T4 : ∀ v b, sE mo 0 5 v 4 b = mo 4 b := fun v b => by rw [sE_v, if_neg (by omega)]
  refine ⟨⟨a1, a2, a3, a4, by rw [T _ 2 (by omega), a5], by rw [T _ 3 (by omega), a6]⟩, ?_, ?_, ?_, ⟨B, e1, by rw [T _ 4 (by omega), e2], e3⟩, ⟨1, s, by omega, f2, sE_e, by rw [sE_v, if_neg (by omega), f4], by rw [sE_e, f5, (tb6 r f1 s f2).2.2.1]⟩, ?_⟩
  · simp only [T4]; exact b
  · simp only [T4]; exact c
  · simp only [T4]; exact d
  · rw [T _ 6 (by omega)]; exact g
theorem DR_t7 {tl td mo : S2} {M P : Nat} (D : DR tl td mo M P) : DR (sE tl 0 1 1) td (sE mo 0 5 (mo 0 5 ||| ((1 : Int32) <<< ((7 : Int32) &&& 31)))) M P := by
  obtain ⟨⟨a1, a2, a3, a4, a5, a6⟩, b, c, d, ⟨B, e1, e2, e3⟩, ⟨r, s, f1, f2, f3, f4, f5⟩, g⟩ := D
  have T : ∀ v b, b ≠ 5 → sE mo 0 5 v 0 b = mo 0 b := fun v b hb => by rw [sE_v, if_neg (by omega)]
  have T4 : ∀ v b, sE mo 0 5 v 4 b = mo 4 b := fun v b => by rw [sE_v, if_neg (by omega)]
  refine ⟨⟨a1, a2, a3, a4, by rw [T _ 2 (by omega), a5], by rw [T _ 3 (by omega), a6]⟩, ?_, ?_, ?_, ⟨B, e1, by rw [T _ 4 (by omega), e2], e3⟩, ⟨r, 1, f1, by omega, by rw [sE_v, if_neg (by omega), f3], sE_e, by rw [sE_e, f5, (tb6 r f1 s f2).2.2.2]⟩, ?_⟩
  · simp only [T4]; exact b
  · simp only [T4]; exact c
  · simp only [T4]; exact d
  · rw [T _ 6 (by omega)]; exact g
/-- what a line leaves -/
def LE (tp mo tl' tp' td' mo' : S2) (b : Int32) (n : Nat) (c : Nat → Nat) (i : Nat) : Prop := TFR tp tp' ∧ KFR mo mo' ∧ (∃ i', PB tp' mo' n c i' ∧ (tp' 0 4 = 0 → i + 2 ≤ i')) ∧ (tp' 0 4 = 0 → b = 1 ∧ ∃ M P, DR tl' td' mo' M P) ∧ (¬ tp' 0 4 = 0 → b = 0) ∧ ∃ M P, M ≤ 8 ∧ P ≤ 4 ∧ td' 0 0 = nI M ∧ td' 0 1 = nI P
/-- the line's end once its body is known in both -/
theorem ln_go {tl2 tp2 td2 tp mo s mo1 mo2 : S2} {n i e : Nat} {c : Nat → Nat} {kk : Int32} (hie : i < e) (h : TX tp mo1 n c) (hP1 : PB tp mo1 n c e) (hk : KFR mo mo1) (e1 : fX9_next s = some mo1) (e2 : fX9_readLineOf mo1 kk = some mo2) (H : HB tp mo1 tp2 mo2 tl2 td2 n c e) : ∃ b tl' tp' td' mo', fX7_takeLine_140 tl2 tp2 td2 = some (b, tl', tp', td') ∧ fX9_readLine_125 s kk = some mo' ∧ LE tp mo tl' tp' td' mo' b n c i := by
  obtain ⟨b, tp3, mo3, i3, q1, q2, q3, q4, q5, q6, q7, q8⟩ := ln_fin h hP1 e1 e2 H
  exact ⟨b, tl2, tp3, td2, mo3, q1, q2, q3, KFR_t hk q4, ⟨i3, q5, fun hz => by have := (q6 hz).1; omega⟩, fun hz => (q6 hz).2, q7, q8⟩
theorem ln_ok {tl tp td mo : S2} {n i j e M P k : Nat} {c : Nat → Nat} (h : TX tp mo n c) (R : RT tp mo n c i) (hie : i < e) (a3 : e ≤ n) (a4 : tp 0 1 = nI e) (b1 : tp 0 4 = 0) (b2 : mo 0 12 = 0) (b3 : mo 0 8 = nI e) (hk : k ≤ 8) (D : DR tl td mo M P) : ∃ b tl' tp' td' mo', fX7_takeLine_49 tl tp td (nI k) = some (b, tl', tp', td') ∧ fX9_readLine_17 mo (if k = 8 then -4 else nI k) = some mo' ∧ LE tp mo tl' tp' td' mo' b n c i := by
  obtain ⟨⟨d1, d2, d3, d4, d5, d6⟩, _, _, _, _, ⟨r, s, r1, r2, r3, r4, r5⟩, _⟩ := id D
  have hBT : BT tp mo n e := ⟨a3, a4, Or.inl ⟨b1, b2, b3⟩⟩
  obtain ⟨mo1, e1, P1, f1⟩ := PB_n h hBT
  have h1 : TX tp mo1 n c := TX_f h (TFR_r tp) f1
  have D1 := DR_M D f1
  have bad : ∀ x, 0 < x ∧ x ≤ 6 → ∃ tp2 tp3 mo2, fX6_blame tp (nI x) (tp 0 2) = some tp2 ∧ (∀ tl td, fX7_takeLine_140 tl tp2 td = some (0, tl, tp3, td)) ∧ fX9_needs mo 0 (nI x) = some mo2 ∧ (∀ kk, fX9_readLine_125 mo2 kk = some mo2) ∧ ¬ mo2 0 12 = 0 ∧ ∀ tl2 td2, (∃ M P, M ≤ 8 ∧ P ≤ 4 ∧ td2 0 0 = nI M ∧ td2 0 1 = nI P) → LE tp mo tl2 tp3 td2 mo2 0 n c i := by
    intro x hx
    obtain ⟨tp2, tp3, mo2, i3, c1, c2, c3, c4, c5, c6, c7, c8, c9, _, _, _⟩ := ln_bad h R hx
    exact ⟨tp2, tp3, mo2, c1, c2, c3, c4, c5, fun tl2 td2 hs => ⟨c6, KFR_M c7, ⟨i3, c8, fun hh => absurd hh c9⟩, fun hh => absurd hh c9, fun _ => rfl, hs⟩⟩
  have sz : ∃ M P, M ≤ 8 ∧ P ≤ 4 ∧ td 0 0 = nI M ∧ td 0 1 = nI P := ⟨M, P, d1, d2, d3, d4⟩
  have hk' : k = 8 ∨ k = 4 ∨ k = 5 ∨ k = 6 ∨ k = 7 ∨ k ≤ 3 := by omega
  rcases hk' with rfl | rfl | rfl | rfl | rfl | hk3
  · -- no line
    obtain ⟨tp2, tp3, mo2, c1, c2, c3, c4, c5, c6⟩ := bad 2 (by omega)
    have c1' : fX6_blame tp 2 (tp 0 2) = some tp2 := c1
    have c3' : fX9_needs mo 0 2 = some mo2 := c3
    refine ⟨0, tl, tp3, td, mo2, ?_, ?_, c6 tl td sz⟩
    · unfold fX7_takeLine_49
      rw [if_neg (by decide), if_neg (by decide), if_neg (by decide), if_neg (by decide), if_pos (by decide), c1', bd_s, c2]
    · unfold fX9_readLine_17 fX9_readLine_30 fX9_readLine_75
      rw [if_pos rfl, if_pos rfl, c3', bd_s, if_neg (by decide), if_neg (by decide), r_needsF c5, bd_s, r_needsF c5, bd_s, if_neg c5, c4]
      by_cases z : (4 : Int32) ≤ mo2 0 3
      · rw [if_pos z]
      · rw [if_neg z]
  · -- mile
    have R17 : ∀ z, fX9_readLine_30 mo 4 1 = z → fX9_readLine_17 mo (if 4 = 8 then -4 else nI 4) = z := fun z hz => by
      unfold fX9_readLine_17
      rw [if_neg (by decide), if_neg (by decide)]
      exact hz
    have C49 : ∀ tp2 td2, fX7_takeMile tl tp td = some (tp2, td2) → fX7_takeLine_49 tl tp td (nI 4) = fX7_takeLine_140 tl tp2 td2 := fun tp2 td2 e => by
      unfold fX7_takeLine_49
      rw [if_pos (by decide), e, bd_s]
    by_cases hM : M < 8
    · obtain ⟨tp2, td2, mo2, q1, q2, q3⟩ := hb_mile h1 P1 D1 hM
      obtain ⟨b, tl', tp', td', mo', w1, w2, w3⟩ := ln_go (mo := mo) hie h1 P1 (KFR_M f1) e1 q2 q3
      refine ⟨b, tl', tp', td', mo', by rw [C49 _ _ q1]; exact w1, R17 _ ?_, w3⟩
      unfold fX9_readLine_30 fX9_readLine_75
      rw [r_needs1, bd_s, if_pos rfl, if_neg (by rw [d5]; exact nI_ge (a := M) (b := 8) hM (by decide)), r_needs1, bd_s, if_pos b2, if_pos (by decide), w2]
    · obtain ⟨tp2, tp3, mo2, c1, c2, c3, c4, c5, c6⟩ := bad 5 (by omega)
      have c1' : fX6_blame tp 5 (tp 0 2) = some tp2 := c1
      have c3' : fX9_needs mo 0 5 = some mo2 := c3
      have q1 : fX7_takeMile tl tp td = some (tp2, td) := by
        unfold fX7_takeMile
        rw [nm_u, if_neg (by rw [d3]; exact nI_nlt (a := M) (b := 8) (by omega) (by omega)), c1', bd_s]
      refine ⟨0, tl, tp3, td, mo2, by rw [C49 _ _ q1]; exact c2 tl td, R17 _ ?_, c6 tl td sz⟩
      unfold fX9_readLine_30 fX9_readLine_75
      rw [r_needs1, bd_s, if_pos rfl, if_pos (by rw [d5]; exact nI_le (a := 8) (b := M) (by omega) (by omega)), c3', bd_s, if_neg c5, c4]
  · -- mud
    obtain ⟨tp2, td2, mo2, q1, q2, q3⟩ := hb_mud h1 P1 D1
    obtain ⟨b, tl', tp', td', mo', w1, w2, w3⟩ := ln_go (mo := mo) hie h1 P1 (KFR_M f1) e1 q2 q3
    refine ⟨b, tl', tp', td', mo', ?_, ?_, w3⟩
    · unfold fX7_takeLine_49
      rw [if_neg (by decide), if_pos (by decide), q1, bd_s]
      exact w1
    · unfold fX9_readLine_17 fX9_readLine_30 fX9_readLine_75
      rw [if_neg (by decide), if_neg (by decide), r_needs1, bd_s, if_neg (by decide), if_pos (by decide), r_needs1, bd_s, if_pos b2, if_pos (by decide)]
      exact w2
  · -- room
    have R17 : ∀ z, (if (((mo 0 5) >>> ((6 : Int32) &&& 31)) &&& (1 : Int32)) = (0 : Int32) then fX9_readLine_109 mo 6 1 else fX9_readLine_109 mo 6 0) = z → fX9_readLine_17 mo (if 6 = 8 then -4 else nI 6) = z := fun z hz => by
      unfold fX9_readLine_17 fX9_readLine_30 fX9_readLine_75
      rw [if_neg (by decide), if_neg (by decide), r_needs1, bd_s, if_neg (by decide), if_pos (by decide), r_needs1, bd_s, if_pos b2, if_neg (by decide)]
      exact hz
    have C49 : fX7_takeLine_49 tl tp td (nI 6) = (fX7_takeRoom tl tp td).bind fun v12 => fX7_takeLine_140 v12.1 v12.2.1 v12.2.2 := by
      unfold fX7_takeLine_49
      rw [if_neg (by decide), if_neg (by decide), if_pos (by decide)]
    rw [C49]
    unfold fX7_takeRoom
    have hr : r = 0 ∨ r = 1 := by omega
    rcases hr with rfl | rfl
    · have hBs : BT tp (sE mo 0 5 (mo 0 5 ||| ((1 : Int32) <<< ((6 : Int32) &&& 31)))) n e := BT_row hBT (row_0 (by omega))
      obtain ⟨mo1', e1', P1', f1'⟩ := PB_n (TX_k h (TFR_r tp) (KFR_0 (by omega))) hBs
      obtain ⟨tp2, td2, mo2, q1, q2, q3⟩ := hb_room (TX_f (TX_k h (TFR_r tp) (KFR_0 (by omega))) (TFR_r tp) f1') P1' (DR_M (DR_t6 D) f1')
      obtain ⟨b, tl', tp', td', mo', w1, w2, w3⟩ := ln_go (mo := mo) hie (TX_f (TX_k h (TFR_r tp) (KFR_0 (by omega))) (TFR_r tp) f1') P1' (KFR_t (KFR_0 (by omega)) (KFR_M f1')) e1' q2 q3
      refine ⟨b, tl', tp', td', mo', ?_, R17 _ ?_, w3⟩
      · rw [if_pos (by rw [r3]; rfl), q1, bd_s]
        exact w1
      · rw [if_pos (by rw [r5, (tb6 0 (by omega) s r2).1]; rfl)]
        unfold fX9_readLine_109
        rw [r_needs1, bd_s, nm_u]
        exact w2
    · obtain ⟨tp2, tp3, mo2, i3, c1, c2, c3, c4, c5, c6, c7, c8, c9, ⟨t, t1, t2, t3⟩, cB, cT⟩ := ln_bad (x := 4) h R (by omega)
      have c1' : fX6_blame tp 4 (tp 0 2) = some tp2 := c1
      have c3' : fX9_needs mo 0 4 = some mo2 := c3
      have hs : sE mo2 0 5 (mo2 0 5 ||| ((1 : Int32) <<< ((6 : Int32) &&& 31))) 0 12 = nI t := by rw [sE_v, if_neg (by omega), t3]
      have hBs : BT tp2 (sE mo2 0 5 (mo2 0 5 ||| ((1 : Int32) <<< ((6 : Int32) &&& 31)))) n i3 := BT_row cB (row_0 (by omega))
      have hTs : TX tp2 (sE mo2 0 5 (mo2 0 5 ||| ((1 : Int32) <<< ((6 : Int32) &&& 31)))) n c := TX_k (TX_f h cT c7) (TFR_r tp2) (KFR_0 (by omega))
      obtain ⟨mo3, e3, P3, f3⟩ := PB_n hTs hBs
      have nx := (r_numF (lo := 0) (hi := 0) t1 t2 hs).2
      have e4 : mo3 = sE mo2 0 5 (mo2 0 5 ||| ((1 : Int32) <<< ((6 : Int32) &&& 31))) := by rw [nx] at e3; exact so_eq e3
      rw [e4] at P3
      obtain ⟨x1, tpA, y1, moA, iA, eA, rA, _, _, gA, PA, jA, fA, mA, uA⟩ := tk_num (tl := sE tl 0 0 1) (lo := 1) (hi := 4) hTs P3 (by omega) (by omega)
      obtain ⟨v1, v2⟩ := uA (by rw [hs]; exact nI_ne0 t1 (by omega))
      have eA' : fX7_takeNumber (sE tl 0 0 1) tp2 (1 : Int32) (4 : Int32) = some (nI x1, tpA) := eA
      obtain ⟨tp4, mo4, i4, s1, s2, s3, s4, s5, s6⟩ := tk_semi (tl := sE tl 0 0 1) (TX_f hTs fA mA) PA
      have z4 : ¬ tp4 0 4 = 0 := fun hh => v2 (s4 hh).1
      have e5 : mo4 = sE mo2 0 5 (mo2 0 5 ||| ((1 : Int32) <<< ((6 : Int32) &&& 31))) := by
        rw [v1] at s2
        unfold rEnd fX9_readLine_167 at s2
        rw [if_neg (by rw [hs]; exact nI_ne0 t1 (by omega)), nx, bd_s] at s2
        exact so_eq s2
      rw [e5] at s3
      refine ⟨0, sE tl 0 0 1, tp4, sE td 0 2 (nI x1), sE mo2 0 5 (mo2 0 5 ||| ((1 : Int32) <<< ((6 : Int32) &&& 31))), ?_, R17 _ ?_, TFR_t cT (TFR_t fA s5), KFR_t (KFR_M c7) (KFR_0 (by omega)), ⟨i4, s3, fun hh => absurd hh z4⟩, fun hh => absurd hh z4, fun _ => rfl, M, P, d1, d2, by rw [sE_v, if_neg (by omega), d3], by rw [sE_v, if_neg (by omega), d4]⟩
      · rw [if_neg (by rw [r3]; decide), c1', bd_s]
        unfold fX7_takeRoom_22 fX7_takeLine_140
        rw [nm_u, eA', bd_s, nm_u, bd_s]
        dsimp only
        rw [s1, bd_s, if_neg z4]
      · rw [if_neg (by rw [r5, (tb6 1 (by omega) s r2).1]; decide)]
        unfold fX9_readLine_109 fX9_readLine_125
        rw [c3', bd_s, nm_u, nx, bd_s, if_neg (by rw [hs]; exact nI_nle t1 (by omega))]
  · -- snow
    have R17 : ∀ z, (if (((mo 0 5) >>> ((7 : Int32) &&& 31)) &&& (1 : Int32)) = (0 : Int32) then fX9_readLine_109 mo 7 1 else fX9_readLine_109 mo 7 0) = z → fX9_readLine_17 mo (if 7 = 8 then -4 else nI 7) = z := fun z hz => by
      unfold fX9_readLine_17 fX9_readLine_30 fX9_readLine_75
      rw [if_neg (by decide), if_neg (by decide), r_needs1, bd_s, if_neg (by decide), if_pos (by decide), r_needs1, bd_s, if_pos b2, if_neg (by decide)]
      exact hz
    have C49 : fX7_takeLine_49 tl tp td (nI 7) = (fX7_takeSnow tl tp td).bind fun v12 => fX7_takeLine_140 v12.1 v12.2.1 v12.2.2 := by
      unfold fX7_takeLine_49
      rw [if_neg (by decide), if_neg (by decide), if_neg (by decide), if_pos (by decide)]
    rw [C49]
    unfold fX7_takeSnow
    have hr : s = 0 ∨ s = 1 := by omega
    rcases hr with rfl | rfl
    · have hBs : BT tp (sE mo 0 5 (mo 0 5 ||| ((1 : Int32) <<< ((7 : Int32) &&& 31)))) n e := BT_row hBT (row_0 (by omega))
      obtain ⟨mo1', e1', P1', f1'⟩ := PB_n (TX_k h (TFR_r tp) (KFR_0 (by omega))) hBs
      obtain ⟨tp2, td2, mo2, q1, q2, q3⟩ := hb_snow (TX_f (TX_k h (TFR_r tp) (KFR_0 (by omega))) (TFR_r tp) f1') P1' (DR_M (DR_t7 D) f1')
      obtain ⟨b, tl', tp', td', mo', w1, w2, w3⟩ := ln_go (mo := mo) hie (TX_f (TX_k h (TFR_r tp) (KFR_0 (by omega))) (TFR_r tp) f1') P1' (KFR_t (KFR_0 (by omega)) (KFR_M f1')) e1' q2 q3
      refine ⟨b, tl', tp', td', mo', ?_, R17 _ ?_, w3⟩
      · rw [if_pos (by rw [r4]; rfl), q1, bd_s]
        exact w1
      · rw [if_pos (by rw [r5, (tb6 r r1 0 (by omega)).2.1]; rfl)]
        unfold fX9_readLine_109
        rw [r_needs1, bd_s, nm_u]
        exact w2
    · obtain ⟨tp2, tp3, mo2, i3, c1, c2, c3, c4, c5, c6, c7, c8, c9, ⟨t, t1, t2, t3⟩, cB, cT⟩ := ln_bad (x := 4) h R (by omega)
      have c1' : fX6_blame tp 4 (tp 0 2) = some tp2 := c1
      have c3' : fX9_needs mo 0 4 = some mo2 := c3
      have hs : sE mo2 0 5 (mo2 0 5 ||| ((1 : Int32) <<< ((7 : Int32) &&& 31))) 0 12 = nI t := by rw [sE_v, if_neg (by omega), t3]
      have hBs : BT tp2 (sE mo2 0 5 (mo2 0 5 ||| ((1 : Int32) <<< ((7 : Int32) &&& 31)))) n i3 := BT_row cB (row_0 (by omega))
      have hTs : TX tp2 (sE mo2 0 5 (mo2 0 5 ||| ((1 : Int32) <<< ((7 : Int32) &&& 31)))) n c := TX_k (TX_f h cT c7) (TFR_r tp2) (KFR_0 (by omega))
      obtain ⟨mo3, e3, P3, f3⟩ := PB_n hTs hBs
      have nx := (r_numF (lo := 0) (hi := 0) t1 t2 hs).2
      have e4 : mo3 = sE mo2 0 5 (mo2 0 5 ||| ((1 : Int32) <<< ((7 : Int32) &&& 31))) := by rw [nx] at e3; exact so_eq e3
      rw [e4] at P3
      obtain ⟨x1, tpA, y1, moA, iA, eA, rA, _, _, gA, PA, jA, fA, mA, uA⟩ := tk_num (tl := sE tl 0 1 1) (lo := 0) (hi := 99) hTs P3 (by omega) (by omega)
      obtain ⟨v1, v2⟩ := uA (by rw [hs]; exact nI_ne0 t1 (by omega))
      have eA' : fX7_takeNumber (sE tl 0 1 1) tp2 (0 : Int32) (99 : Int32) = some (nI x1, tpA) := eA
      obtain ⟨tp4, mo4, i4, s1, s2, s3, s4, s5, s6⟩ := tk_semi (tl := sE tl 0 1 1) (TX_f hTs fA mA) PA
      have z4 : ¬ tp4 0 4 = 0 := fun hh => v2 (s4 hh).1
      have e5 : mo4 = sE mo2 0 5 (mo2 0 5 ||| ((1 : Int32) <<< ((7 : Int32) &&& 31))) := by
        rw [v1] at s2
        unfold rEnd fX9_readLine_167 at s2
        rw [if_neg (by rw [hs]; exact nI_ne0 t1 (by omega)), nx, bd_s] at s2
        exact so_eq s2
      rw [e5] at s3
      refine ⟨0, sE tl 0 1 1, tp4, sE td 0 3 (nI x1), sE mo2 0 5 (mo2 0 5 ||| ((1 : Int32) <<< ((7 : Int32) &&& 31))), ?_, R17 _ ?_, TFR_t cT (TFR_t fA s5), KFR_t (KFR_M c7) (KFR_0 (by omega)), ⟨i4, s3, fun hh => absurd hh z4⟩, fun hh => absurd hh z4, fun _ => rfl, M, P, d1, d2, by rw [sE_v, if_neg (by omega), d3], by rw [sE_v, if_neg (by omega), d4]⟩
      · rw [if_neg (by rw [r4]; decide), c1', bd_s]
        unfold fX7_takeSnow_22 fX7_takeLine_140
        rw [nm_u, eA', bd_s, nm_u, bd_s]
        dsimp only
        rw [s1, bd_s, if_neg z4]
      · rw [if_neg (by rw [r5, (tb6 r r1 1 (by omega)).2.1]; decide)]
        unfold fX9_readLine_109 fX9_readLine_125
        rw [c3', bd_s, nm_u, nx, bd_s, if_neg (by rw [hs]; exact nI_nle t1 (by omega))]
  · -- a party
    have k3 : ∀ q : Nat, 4 ≤ q → q ≤ 8 → ¬ k = q := fun q h1 h2 => by omega
    have R17 : ∀ z, (if (4 : Int32) ≤ mo 0 3 then fX9_readLine_75 mo (nI k) 0 else fX9_readLine_75 mo (nI k) 1) = z → fX9_readLine_17 mo (if k = 8 then -4 else nI k) = z := fun z hz => by
      have kk : ∀ k, k ≤ 3 → ¬ nI k = -4 := by decide
      unfold fX9_readLine_17 fX9_readLine_30
      rw [if_neg (show ¬ k = 8 by omega), if_neg (kk k hk3), r_needs1, bd_s, if_neg (n_ne (x := 4) (q := 4) (show ¬ k = 4 by omega) rfl (by omega) (by decide)), if_neg (show ¬ (4 : Int32) < nI k from nI_nlt (a := 4) (b := k) (by omega) (by decide))]
      exact hz
    have C49 : ∀ tp2 td2, fX7_takeParty tl tp td (nI k) = some (tp2, td2) → fX7_takeLine_49 tl tp td (nI k) = fX7_takeLine_140 tl tp2 td2 := fun tp2 td2 e => by
      unfold fX7_takeLine_49
      rw [if_neg (n_ne (x := 4) (q := 4) (show ¬ k = 4 by omega) rfl (by omega) (by decide)), if_neg (n_ne (x := 5) (q := 5) (show ¬ k = 5 by omega) rfl (by omega) (by decide)), if_neg (n_ne (x := 6) (q := 6) (show ¬ k = 6 by omega) rfl (by omega) (by decide)), if_neg (n_ne (x := 7) (q := 7) (show ¬ k = 7 by omega) rfl (by omega) (by decide)), if_neg (n_ne (x := 8) (q := 8) (show ¬ k = 8 by omega) rfl (by omega) (by decide)), e, bd_s]
    by_cases hP : P < 4
    · obtain ⟨tp2, td2, mo2, q1, q2, q3⟩ := hb_party h1 P1 D1 hP hk3
      obtain ⟨b, tl', tp', td', mo', w1, w2, w3⟩ := ln_go (mo := mo) hie h1 P1 (KFR_M f1) e1 q2 q3
      refine ⟨b, tl', tp', td', mo', by rw [C49 _ _ q1]; exact w1, R17 _ ?_, w3⟩
      unfold fX9_readLine_75
      rw [if_neg (by rw [d6]; exact nI_ge (a := P) (b := 4) hP (by decide)), r_needs1, bd_s, if_pos b2, if_pos (show nI k < (6 : Int32) from nI_lt (a := k) (b := 6) (by omega) (by decide)), w2]
    · obtain ⟨tp2, tp3, mo2, c1, c2, c3, c4, c5, c6⟩ := bad 5 (by omega)
      have c1' : fX6_blame tp 5 (tp 0 2) = some tp2 := c1
      have c3' : fX9_needs mo 0 5 = some mo2 := c3
      have q1 : fX7_takeParty tl tp td (nI k) = some (tp2, td) := by
        unfold fX7_takeParty
        rw [nm_u, if_neg (by rw [d4]; exact nI_nlt (a := P) (b := 4) (by omega) (by omega)), c1', bd_s]
      refine ⟨0, tl, tp3, td, mo2, by rw [C49 _ _ q1]; exact c2 tl td, R17 _ ?_, c6 tl td sz⟩
      unfold fX9_readLine_75
      rw [if_pos (by rw [d6]; exact nI_le (a := 4) (b := P) (by omega) (by omega)), c3', bd_s, if_neg c5, c4]
