/-! PURE: text, whole -/
/-- what a text leaves of the reference, told or not -/
def QF (mo mo' : S2) : Prop := ∀ a b, ((13 ≤ a ∧ a ≤ 15) ∨ (a = 0 ∧ b = 17)) → mo' a b = mo a b
theorem sim_text {mo tp tl rd td sn im0 im1 cc : S2} {M P : Nat} (h : RR mo rd M P) (ht : TP mo tp) : ∃ v tp' tl' rd' td' sn' im0' im1' mo' M' P', fX8_text cc tp tl rd td sn im0 im1 = some (v, tp', tl', rd', td', sn', im0', im1') ∧ fX9_text mo = some (v, mo') ∧ RR mo' rd' M' P' ∧ TP mo' tp' ∧ QF mo mo' ∧ ((M' = M ∧ P' = P ∧ sn' = sn ∧ im0' = im0 ∧ im1' = im1 ∧ (∀ b, mo' 1 b = mo 1 b) ∧ ∀ b, mo' 3 b = mo 3 b) ∨ (SN mo' sn' 0 P' ∧ im0' 0 0 = 0 ∧ mo' 3 0 = 0 ∧ im1' 0 0 = 0 ∧ mo' 3 1 = 0)) := by
  obtain ⟨n, hn, t1, t2, t3, t4⟩ := id ht
  have hc : ∃ c : Nat → Nat, ∀ i, i < n → mo 5 i = nI (c i) ∧ c i < 128 := by
    refine ⟨fun i => (mo 5 i).toNatClampNeg, fun i hi => ?_⟩
    obtain ⟨x, ex, hx⟩ := win_le (h := 127) (by decide) (t3 i hi).2
    dsimp only
    rw [ex, cl_n (by omega)]
    exact ⟨rfl, by omega⟩
  obtain ⟨c, hc⟩ := hc
  obtain ⟨d0, w0, w1, w2, w3, w4, w5⟩ := c_wipe (td := td)
  obtain ⟨m0, f0, f1, f2, f3, f4, f5, f6, f7⟩ := r_first (mo := sE (sE mo 0 12 0) 0 8 0)
  have hX : TX (sE (sE tp 0 1 0) 0 4 0) m0 n c := by
    refine ⟨hn, by rw [sE_v, if_neg (by omega), sE_v, if_neg (by omega), t2], by rw [f7 0 7 (by omega), sE_v, if_neg (by omega), sE_v, if_neg (by omega), t1], fun i hi => ⟨?_, ?_, (hc i hi).2⟩⟩
    · rw [sE_v, if_neg (by omega), sE_v, if_neg (by omega), (t3 i hi).1, (hc i hi).1]
    · rw [f7 5 i (by omega), sE_v, if_neg (by omega), sE_v, if_neg (by omega), (hc i hi).1]
  have hB : BT (sE (sE tp 0 1 0) 0 4 0) m0 n 0 := ⟨Nat.zero_le n, by rw [sE_v, if_neg (by omega), sE_e]; rfl, Or.inl ⟨sE_e, by rw [f7 0 12 (by omega), sE_v, if_neg (by omega), sE_e], by rw [f7 0 8 (by omega), sE_e]; rfl⟩⟩
  obtain ⟨m1, g1, g2, g3⟩ := PB_n hX hB
  have D0 : DR (sE (sE tl 0 0 0) 0 1 0) d0 m0 0 0 := by
    refine ⟨⟨by omega, by omega, w1, w2, f2, f3⟩, fun j hj => by omega, fun p hp => by omega, ?_, ⟨0, by omega, f4, fun j hj => by rw [w5 j hj, Nat.zero_testBit, if_neg (by decide)]⟩, ⟨0, 0, by omega, by omega, by rw [sE_v, if_neg (by omega), sE_e]; rfl, by rw [sE_e]; rfl, f5⟩, fun x hx => ?_⟩
    · rw [f1 44 (by omega), f1 45 (by omega), f1 46 (by omega), w3, w4]
      exact ⟨rfl, by decide, rfl, by decide, rfl⟩
    · rw [f6]
      constructor
      · intro _
        exact ⟨fun j hj hh => absurd (w5 j hj) hh, fun p hp => by omega⟩
      · intro _
        have : ∀ x, x ≤ 8 → (-4 : Int32) < nI x := by decide
        exact this x hx
  obtain ⟨x, y, e1, e2, u1, u2, ⟨Mc, Pc, v1, v2, v3, v4⟩, u4⟩ := lp n (sE (sE tl 0 0 0) 0 1 0) (sE (sE tp 0 1 0) 0 4 0) d0 m1 0 0 0 0 5000 5000 (TX_f hX (TFR_r _) g3) g2 sE_e (DR_M D0 g3) (by omega) (by omega) (by omega) (by omega)
  have kY : ∀ a b, ((a ≠ 0 ∧ a ≠ 4) ∨ (a = 0 ∧ (b ≤ 1 ∨ b = 7 ∨ 14 ≤ b))) → y.2 a b = mo a b := fun a b hab => by
    rw [u2 a b hab, g3 a b (by omega), f7 a b (by omega), sE_v, if_neg (by omega), sE_v, if_neg (by omega)]
  have x0 : x.2.2.1 0 0 = nI n := by rw [u1 0 0 (by omega), sE_v, if_neg (by omega), sE_v, if_neg (by omega), t2]
  obtain ⟨vl, l1, l2⟩ := c_lacks v1 v2 v3 v4
  have e1' : wh (fun (s : Int32 × S2 × S2 × S2) => fX7_tellInto_b23 s.2.1 s.2.2.1 s.2.2.2 s.1) 5000 ((0 : Int32), sE (sE tl 0 0 0) 0 1 0, sE (sE tp 0 1 0) 0 4 0, d0) = some x := e1
  have e2' : wh (fun (s : Int32 × S2) => fX9_text_b20 s.2 s.1) 5000 ((0 : Int32), m1) = some y := e2
  -- a text that is refused
  have bad : ∀ (tpz moz : S2) (t : Nat), 0 < t → t ≤ 6 → tpz 0 4 = nI t → moz 0 12 = nI t → tpz 0 5 = moz 0 13 → (∀ a b, ((a ≠ 0 ∧ a ≠ 4) ∨ (a = 0 ∧ (b ≤ 1 ∨ b = 7 ∨ 14 ≤ b))) → moz a b = mo a b) → ∃ v tp' tl' rd' td' sn' im0' im1' mo' M' P', (nm (-10 - tpz 0 5) fun y2 => nm (sE tpz 0 0 0) fun s3 => if s3 0 4 = 0 then ((fX2_copyFrom rd x.2.2.2).bind fun v5 => nm (sE sn 0 0 0) fun s6 => nm (sE im0 0 0 0) fun s8 => nm (sE im1 0 0 0) fun s10 => some (y2, s3, x.2.1, v5, x.2.2.2, s6, s8, s10)) else some (y2, s3, x.2.1, rd, x.2.2.2, sn, im0, im1)) = some (v, tp', tl', rd', td', sn', im0', im1') ∧ fX9_text_73 moz y.1 = some (v, mo') ∧ RR mo' rd' M' P' ∧ TP mo' tp' ∧ QF mo mo' ∧ ((M' = M ∧ P' = P ∧ sn' = sn ∧ im0' = im0 ∧ im1' = im1 ∧ (∀ b, mo' 1 b = mo 1 b) ∧ ∀ b, mo' 3 b = mo 3 b) ∨ (SN mo' sn' 0 P' ∧ im0' 0 0 = 0 ∧ mo' 3 0 = 0 ∧ im1' 0 0 = 0 ∧ mo' 3 1 = 0)) := by
    intro tpz moz t z1 z2 z3 z4 z5 z6
    have n4 : ¬ sE tpz 0 0 0 0 4 = 0 := by rw [sE_v, if_neg (by omega), z3]; exact nI_ne0 z1 (by omega)
    have n12 : ¬ sE moz 0 7 0 0 12 ≤ 0 := by rw [sE_v, if_neg (by omega), z4]; exact nI_nle z1 (by omega)
    have e13 : sE moz 0 7 0 0 13 = tpz 0 5 := by rw [sE_v, if_neg (by omega), z5]
    unfold fX9_text_73
    rw [nm_u, nm_u, nm_u, if_neg n4, if_neg n12, e13]
    have r1 : ∀ b, sE moz 0 7 0 1 b = mo 1 b := fun b => by rw [sE_v, if_neg (by omega), z6 1 b (by omega)]
    refine ⟨_, _, _, _, _, _, _, _, _, M, P, rfl, rfl, RR_fr h r1 (by rw [sE_v, if_neg (by omega), z6 0 0 (by omega)]) (by rw [sE_v, if_neg (by omega), z6 0 1 (by omega)]), ⟨0, by omega, by rw [sE_e]; rfl, by rw [sE_e]; rfl, fun i hi => by omega, by rw [sE_v, if_neg (by omega), sE_v, if_neg (by omega), z3, z4]⟩, fun a b hab => by rw [sE_v, if_neg (by omega), z6 a b (by omega)], Or.inl ⟨rfl, rfl, rfl, rfl, rfl, r1, fun b => by rw [sE_v, if_neg (by omega), z6 3 b (by omega)]⟩⟩
  unfold fX8_text fX7_tellInto fX7_tellInto_44 fX7_tellInto_67 fX6_rewind fX9_text fX9_text_44 fX9_text_68
  rw [w0, bd_s, nm_u, nm_u, bd_s, nm_u, nm_u, e1', bd_s, l1, bd_s, nm_u, nm_u, f0, bd_s, g1, bd_s, e2', bd_s]
  rcases u4 with ⟨a1, a2, a3, a4, M', P', D⟩ | ⟨t, b1, b2, b3, b4, b5⟩
  · obtain ⟨⟨c1, c2, c3, c4, c5, c6⟩, cm, cp, ⟨k1, k2, k3, k4, k5⟩, ⟨B, o1, o2, o3⟩, _, hs⟩ := id D
    have hlack : vl = 0 ↔ y.2 0 6 < nI M' := by
      have eM : Mc = M' := by rw [v3] at c3; exact nI_eI c3 (by omega) (by omega)
      have eP : Pc = P' := by rw [v4] at c4; exact nI_eI c4 (by omega) (by omega)
      subst eM eP
      rw [hs Mc v1]
      constructor
      · intro hv
        rcases l2 with ⟨_, p1, p2⟩ | ⟨p0, _⟩
        · refine ⟨p1, fun p hp => ?_⟩
          have := p2 p hp
          unfold blw at this
          simp only [Bool.and_eq_true, decide_eq_true_eq] at this
          exact this.2
        · rw [p0] at hv; exact absurd hv (by decide)
      · rintro ⟨p1, p2⟩
        rcases l2 with ⟨p0, _, _⟩ | ⟨_, p3⟩
        · exact p0
        · exfalso
          rcases p3 with ⟨j, j1, j2, j3⟩ | ⟨p, q1, q2⟩
          · exact j3 (p1 j j1 j2)
          · obtain ⟨f, ef, hf⟩ := (cp p q1).2.2.2.2.2
            have := p2 p q1
            rw [ef, nI_ltI (by omega) (by omega)] at this
            rw [ef, blw_nI (by omega) (by omega), decide_eq_true this] at q2
            cases q2
    by_cases hv : vl = 0
    · have hlt := hlack.mp hv
      rw [hv, if_pos rfl, if_pos a1, bd_s, nm_u, nm_u, if_pos a2, if_neg (show ¬ y.2 0 2 ≤ y.2 0 6 by rw [c5]; exact i32_nle.mpr hlt), r_needs1, bd_s]
      have z4 : sE x.2.2.1 0 0 0 0 4 = 0 := by rw [sE_v, if_neg (by omega), a1]
      obtain ⟨d2, e3, hcp⟩ := pX2_copy (rd := rd) (ro := x.2.2.2)
      obtain ⟨s, ek, s1, s2, s3, s4, s5, s6⟩ := r_keep (mo := sE y.2 0 7 0) (M := M') (B := B) (by rw [sE_v, if_neg (by omega), c5]) c1 (by rw [sE_v, if_neg (by omega), o2]) o1
      have y4 : ∀ b, sE y.2 0 7 0 4 b = y.2 4 b := fun b => by rw [sE_v, if_neg (by omega)]
      dsimp only
      rw [if_pos z4, e3, bd_s, nm_u, nm_u, nm_u]
      unfold fX9_text_73
      rw [nm_u, if_pos (show sE y.2 0 7 0 0 12 ≤ 0 by rw [sE_v, if_neg (by omega), a2]; decide), ek, bd_s, a3]
      refine ⟨_, _, _, _, _, _, _, _, _, M', P', rfl, rfl, ?_, ?_, fun a b hab => ?_, Or.inr ⟨?_, sE_e, s4, sE_e, s5⟩⟩
      · have RAx : RA s x.2.2.2 0 M' P' := by
          refine ⟨fun j hj => ?_, fun p hp => ?_, ?_, ?_⟩
          · obtain ⟨q1, q2, _, _⟩ := cm j hj
            simp only [Nat.zero_add]
            rw [s1 _ (by omega), if_neg (by omega), s1 _ (by omega), if_neg (by omega), s1 _ (by omega), if_pos (by omega), y4, y4, show (3 * j + 2) / 3 = j by omega]
            exact ⟨q1, q2, (o3 j (by omega)).symm⟩
          · obtain ⟨⟨q1, q2, q3, q4, q5⟩, _⟩ := cp p hp
            simp only [Nat.zero_add]
            rw [s1 _ (by omega), if_neg (by omega), s1 _ (by omega), if_neg (by omega), s1 _ (by omega), if_neg (by omega), s1 _ (by omega), if_neg (by omega), s1 _ (by omega), if_neg (by omega), y4, y4, y4, y4, y4]
            exact ⟨q1, q2, q3, q4, q5⟩
          · simp only [Nat.zero_add]
            rw [s1 _ (by omega), if_neg (by omega), y4]; exact k1
          · simp only [Nat.zero_add]
            rw [s1 _ (by omega), if_neg (by omega), y4]; exact k3
        have RGx : RG x.2.2.2 M' P' := by
          refine ⟨fun j hj => ?_, fun p hp => ?_, k2, k4⟩
          · obtain ⟨_, _, q3, q4⟩ := cm j hj
            refine ⟨q3, q4, ?_⟩
            rw [o3 j (by omega)]
            split <;> decide
          · obtain ⟨_, q1, q2, q3, q4, f, ef, _⟩ := cp p hp
            refine ⟨q1, q2, q3, q4, f, ef, ?_⟩
            have := ((hs M' c1).mp hlt).2 p hp
            rw [ef, nI_ltI (by omega) (by omega)] at this
            exact this
        exact ⟨RA_cp RAx c1 c2 hcp, RG_cp RGx c1 c2 hcp, c1, c2, s2, by rw [s3, sE_v, if_neg (by omega), c6], by rw [hcp.2.2.1, c3], by rw [hcp.2.2.2.1, c4]⟩
      · exact ⟨0, by omega, by rw [s6 0 7 (by omega), sE_e]; rfl, by rw [sE_e]; rfl, fun i hi => by omega, by rw [z4, s6 0 12 (by omega), sE_v, if_neg (by omega), a2]⟩
      · rcases hab with hab | hab
        · rw [s6 a b (by omega), sE_v, if_neg (by omega), kY a b (by omega)]
        · rw [s6 a b (by omega), sE_v, if_neg (by omega), kY a b (by omega)]
      · refine ⟨0, by omega, ?_, by rw [sE_e]; rfl, fun i hi => by omega⟩
        simp only [Nat.zero_add]
        rw [s1 46 (by omega), if_neg (by omega), y4, k5]; rfl
    · have hlt : ¬ y.2 0 6 < nI M' := fun hh => hv (hlack.mpr hh)
      have bl : fX6_blame x.2.2.1 6 (x.2.2.1 0 0) = some (sE (sE x.2.2.1 0 4 6) 0 5 (nI n)) := by
        unfold fX6_blame
        rw [if_pos a1, nm_u, nm_u, x0]
      rw [if_neg hv, bl, bd_s, if_neg (by rw [sE_v, if_neg (by omega), sE_e]; decide), bd_s, if_pos a2, if_pos (by rw [c5]; exact i32_nlt.mp hlt), r_needs0 a2 a4, bd_s]
      exact bad _ _ 6 (by omega) (by omega) (by rw [sE_v, if_neg (by omega), sE_e]; rfl) (by rw [sE_v, if_neg (by omega), sE_e]; rfl) (by rw [sE_e, sE_e]) (fun a b hab => by rw [sE_v, if_neg (by omega), sE_v, if_neg (by omega), kY a b hab])
  · have f4' : ¬ x.2.2.1 0 4 = 0 := by rw [b3]; exact nI_ne0 b1 (by omega)
    have f12 : ¬ y.2 0 12 = 0 := by rw [b4]; exact nI_ne0 b1 (by omega)
    have fb : ∀ u v, fX6_blame x.2.2.1 u v = some x.2.2.1 := fun u v => by unfold fX6_blame; rw [if_neg f4']
    have fin := bad x.2.2.1 y.2 t b1 b2 b3 b4 b5 kY
    by_cases hv : vl = 0
    · rw [if_pos hv, if_neg f4', bd_s, if_neg f12]
      exact fin
    · rw [if_neg hv, fb, bd_s, if_neg f4', bd_s, if_neg f12]
      exact fin
