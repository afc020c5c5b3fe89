/-! PURE: the bodies of lines -/
def HB (tp mo tp2 mo2 tl2 td2 : S2) (n : Nat) (c : Nat → Nat) (i : Nat) : Prop := TFR tp tp2 ∧ KFR mo mo2 ∧ (∃ i2, i ≤ i2 ∧ PB tp2 mo2 n c i2) ∧ (∃ M2 P2, M2 ≤ 8 ∧ P2 ≤ 4 ∧ td2 0 0 = nI M2 ∧ td2 0 1 = nI P2 ∧ (tp2 0 4 = 0 → DR tl2 td2 mo2 M2 P2)) ∧ (¬ mo 0 12 = 0 → (∀ b, 8 ≤ b → b ≤ 13 → mo2 0 b = mo 0 b) ∧ ¬ tp2 0 4 = 0)
theorem row_4 {mo : S2} {k : Nat} {v : Int32} : ∀ b, 8 ≤ b → b ≤ 13 → sE mo 4 k v 0 b = mo 0 b := fun b _ _ => by rw [sE_v, if_neg (by omega)]
theorem row_0 {mo : S2} {k : Nat} {v : Int32} (hk : k ≤ 6) : ∀ b, 8 ≤ b → b ≤ 13 → sE mo 0 k v 0 b = mo 0 b := fun b _ _ => by rw [sE_v, if_neg (by omega)]
theorem hb_mile {tl tp td mo : S2} {n i M P : Nat} {c : Nat → Nat} (h : TX tp mo n c) (hb : PB tp mo n c i) (D : DR tl td mo M P) (hM : M < 8) : ∃ tp2 td2 mo2, fX7_takeMile tl tp td = some (tp2, td2) ∧ fX9_readLineOf mo 4 = some mo2 ∧ HB tp mo tp2 mo2 tl td2 n c i := by
  obtain ⟨⟨a1, a2, a3, a4, a5, a6⟩, _⟩ := id D
  obtain ⟨x1, tpA, y1, moA, iA, eA, rA, _, l1, gA, PA, jA, fA, mA, uA⟩ := tk_num (tl := tl) (lo := 0) (hi := 3) h hb (by omega) (by omega)
  have hA : TX tpA (sE moA 4 (3 * M) y1) n c := TX_k h fA (KFR_t (KFR_M mA) KFR_4)
  obtain ⟨x2, tpB, y2, moB, iB, eB, rB, _, l2, gB, PB', jB, fB, mB, uB⟩ := tk_num (tl := tl) (lo := 0) (hi := 3) hA (PB_row PA row_4) (by omega) (by omega)
  have eA' : fX7_takeNumber tl tp (0 : Int32) (tMH.getD (Int32.toNatClampNeg (0 : Int32)) 0) = some (nI x1, tpA) := eA
  have eB' : fX7_takeNumber tl tpA (0 : Int32) (tMH.getD (Int32.toNatClampNeg (1 : Int32)) 0) = some (nI x2, tpB) := eB
  have rA' : fX9_readNumber mo (0 : Int32) (3 : Int32) = some (y1, moA) := rA
  have rB' : fX9_readNumber (sE moA 4 (3 * M) y1) (0 : Int32) (3 : Int32) = some (y2, moB) := rB
  have s2 : sE moA 4 (3 * M) y1 0 2 = nI M := by rw [sE_v, if_neg (by omega), mA 0 2 (by omega), a5]
  have b2 : moB 0 2 = nI M := by rw [mB 0 2 (by omega), s2]
  refine ⟨tpB, sE (sE (sE td 1 M (nI x1)) 2 M (nI x2)) 0 0 (nI (M + 1)), sE (sE moB 4 (3 * M + 1) y2) 0 2 (nI (M + 1)), ?_, ?_, TFR_t fA fB, KFR_t (KFR_t (KFR_t (KFR_M mA) KFR_4) (KFR_M mB)) (KFR_t KFR_4 (KFR_0 (by omega))), ⟨iB, by omega, PB_row (PB_row PB' row_4) (row_0 (by omega))⟩, ⟨M + 1, P, by omega, a2, sE_e, by rw [sE_v, if_neg (by omega), sE_v, if_neg (by omega), sE_v, if_neg (by omega), a4], fun hz => ?_⟩, fun hz => ?_⟩
  · unfold fX7_takeMile
    rw [nm_u, a3, if_pos (show nI M < (8 : Int32) from nI_lt (a := M) (b := 8) hM (by decide)), eA', bd_s, gd_n hM (by decide), nm_u, cl_n (by omega)]
    dsimp only
    rw [eB', bd_s, nm_u, nm_u]
    dsimp only
    have e0 : sE (sE td 1 M (nI x1)) 2 M (nI x2) 0 0 = nI M := by rw [sE_v, if_neg (by omega), sE_v, if_neg (by omega), a3]
    rw [e0, nI_p1]
  · unfold fX9_readLineOf
    rw [if_pos rfl, rA', bd_s, a5, m3_0 M hM, gd_n (by omega) (by decide), nm_u, cl_n (by omega)]
    dsimp only
    rw [rB', bd_s, s2, m3_1 M hM, gd_n (by omega) (by decide), nm_u, nm_u, cl_n (by omega)]
    dsimp only
    have e0 : sE moB 4 (3 * M + 1) y2 0 2 = nI M := by rw [sE_v, if_neg (by omega), b2]
    rw [e0, nI_p1]
  · obtain ⟨q2, z1⟩ := gB hz
    obtain ⟨q1, _⟩ := gA z1
    refine DR_mile D hM l1 l2 (fun b => ?_) sE_e (fun b h1 h2 => ?_)
    · rw [sE_v, if_neg (by omega), sE_v]
      by_cases c1 : b = 3 * M + 1
      · rw [if_pos ⟨rfl, c1⟩, if_pos c1, q2]
      · rw [if_neg (fun hh => c1 hh.2), if_neg c1, mB 4 b (by omega), sE_v]
        by_cases c2 : b = 3 * M
        · rw [if_pos ⟨rfl, c2⟩, if_pos c2, q1]
        · rw [if_neg (fun hh => c2 hh.2), if_neg c2, mA 4 b (by omega)]
    · rw [sE_v, if_neg (by omega), sE_v, if_neg (by omega), mB 0 b (by omega), sE_v, if_neg (by omega), mA 0 b (by omega)]
  · obtain ⟨v1, v2⟩ := uA hz
    obtain ⟨v3, v4⟩ := uB (by rw [sE_v, if_neg (by omega), v1]; exact hz)
    refine ⟨fun b h1 h2 => ?_, v4⟩
    rw [sE_v, if_neg (by omega), sE_v, if_neg (by omega), v3, sE_v, if_neg (by omega), v1]
theorem hb_room {tl tp td mo : S2} {n i M P : Nat} {c : Nat → Nat} (h : TX tp mo n c) (hb : PB tp mo n c i) (D : DR (sE tl 0 0 1) td mo M P) : ∃ tp2 td2 mo2, fX7_takeRoom_22 tl tp td = some (sE tl 0 0 1, tp2, td2) ∧ fX9_readLineOf mo 6 = some mo2 ∧ HB tp mo tp2 mo2 (sE tl 0 0 1) td2 n c i := by
  obtain ⟨⟨a1, a2, a3, a4, a5, a6⟩, _⟩ := id D
  obtain ⟨x1, tpA, y1, moA, iA, eA, rA, l0, l1, gA, PA, jA, fA, mA, uA⟩ := tk_num (tl := sE tl 0 0 1) (lo := 1) (hi := 4) h hb (by omega) (by omega)
  have eA' : fX7_takeNumber (sE tl 0 0 1) tp (1 : Int32) (4 : Int32) = some (nI x1, tpA) := eA
  have rA' : fX9_readNumber mo (1 : Int32) (4 : Int32) = some (y1, moA) := rA
  refine ⟨tpA, sE td 0 2 (nI x1), sE moA 4 44 y1, ?_, ?_, fA, KFR_t (KFR_M mA) KFR_4, ⟨iA, jA, PB_row PA row_4⟩, ⟨M, P, a1, a2, by rw [sE_v, if_neg (by omega), a3], by rw [sE_v, if_neg (by omega), a4], fun hz => ?_⟩, fun hz => ?_⟩
  · unfold fX7_takeRoom_22
    rw [nm_u, eA', bd_s, nm_u]
  · unfold fX9_readLineOf
    rw [if_neg (by decide), if_neg (by decide), if_pos rfl, rA', bd_s, nm_u]
    rfl
  · obtain ⟨q1, _⟩ := gA hz
    refine DR_set D (Or.inl rfl) ⟨fun _ => win_nI (a := 1) (b := 4) l0 l1 (by decide), fun hh => by omega⟩ (fun b => ?_) (fun b h1 h2 => ?_)
    · rw [sE_v]
      by_cases c2 : b = 44
      · rw [if_pos ⟨rfl, c2⟩, if_pos c2, q1]
      · rw [if_neg (fun hh => c2 hh.2), if_neg c2, mA 4 b (by omega)]
    · rw [sE_v, if_neg (by omega), mA 0 b (by omega)]
  · obtain ⟨v1, v2⟩ := uA hz
    exact ⟨fun b h1 h2 => by rw [sE_v, if_neg (by omega), v1], v2⟩
theorem hb_snow {tl tp td mo : S2} {n i M P : Nat} {c : Nat → Nat} (h : TX tp mo n c) (hb : PB tp mo n c i) (D : DR (sE tl 0 1 1) td mo M P) : ∃ tp2 td2 mo2, fX7_takeSnow_22 tl tp td = some (sE tl 0 1 1, tp2, td2) ∧ fX9_readLineOf mo 7 = some mo2 ∧ HB tp mo tp2 mo2 (sE tl 0 1 1) td2 n c i := by
  obtain ⟨⟨a1, a2, a3, a4, a5, a6⟩, _⟩ := id D
  obtain ⟨x1, tpA, y1, moA, iA, eA, rA, l0, l1, gA, PA, jA, fA, mA, uA⟩ := tk_num (tl := sE tl 0 1 1) (lo := 0) (hi := 99) h hb (by omega) (by omega)
  have eA' : fX7_takeNumber (sE tl 0 1 1) tp (0 : Int32) (99 : Int32) = some (nI x1, tpA) := eA
  have rA' : fX9_readNumber mo (0 : Int32) (99 : Int32) = some (y1, moA) := rA
  refine ⟨tpA, sE td 0 3 (nI x1), sE moA 4 45 y1, ?_, ?_, fA, KFR_t (KFR_M mA) KFR_4, ⟨iA, jA, PB_row PA row_4⟩, ⟨M, P, a1, a2, by rw [sE_v, if_neg (by omega), a3], by rw [sE_v, if_neg (by omega), a4], fun hz => ?_⟩, fun hz => ?_⟩
  · unfold fX7_takeSnow_22
    rw [nm_u, eA', bd_s, nm_u]
  · unfold fX9_readLineOf
    rw [if_neg (by decide), if_neg (by decide), if_neg (by decide), if_pos rfl, rA', bd_s, nm_u]
    rfl
  · obtain ⟨q1, _⟩ := gA hz
    refine DR_set D (Or.inr rfl) ⟨fun hh => by omega, fun _ => win_nI (a := 0) (b := 99) l0 l1 (by decide)⟩ (fun b => ?_) (fun b h1 h2 => ?_)
    · rw [sE_v]
      by_cases c2 : b = 45
      · rw [if_pos ⟨rfl, c2⟩, if_pos c2, q1]
      · rw [if_neg (fun hh => c2 hh.2), if_neg c2, mA 4 b (by omega)]
    · rw [sE_v, if_neg (by omega), mA 0 b (by omega)]
  · obtain ⟨v1, v2⟩ := uA hz
    exact ⟨fun b h1 h2 => by rw [sE_v, if_neg (by omega), v1], v2⟩
theorem BT_row {tp mo mo' : S2} {n i : Nat} (h : BT tp mo n i) (hr : ∀ b, 8 ≤ b → b ≤ 13 → mo' 0 b = mo 0 b) : BT tp mo' n i := by
  unfold BT at h ⊢
  rw [hr 8 (by omega) (by omega), hr 12 (by omega) (by omega), hr 13 (by omega) (by omega)]
  exact h
theorem hb_mud {tl tp td mo : S2} {n i M P : Nat} {c : Nat → Nat} (h : TX tp mo n c) (hb : PB tp mo n c i) (D : DR tl td mo M P) : ∃ tp2 td2 mo2, fX7_takeMud tl tp td = some (tp2, td2) ∧ fX9_readLineOf mo 5 = some mo2 ∧ HB tp mo tp2 mo2 tl td2 n c i := by
  obtain ⟨⟨a1, a2, a3, a4, a5, a6⟩, _, _, _, ⟨B, B1, B2, B3⟩, _⟩ := id D
  obtain ⟨x, tpA, y, moA, iA, eA, rA, _, l1, gA, g0, bA, jA, fA, mA, uA⟩ := tk_look (tl := tl) (lo := 0) (hi := 7) h hb (by omega) (by omega)
  have eA' : fX7_takeNumber tl tp (0 : Int32) (7 : Int32) = some (nI x, tpA) := eA
  have rA' : fX9_looked mo (0 : Int32) (7 : Int32) = some (y, moA) := rA
  have hx : x < 8 := by omega
  have z0 : ∀ v, sE td 3 x v 0 0 = nI M := fun v => by rw [sE_v, if_neg (by omega), a3]
  have z1 : ∀ v, sE td 3 x v 0 1 = nI P := fun v => by rw [sE_v, if_neg (by omega), a4]
  have L5 : ∀ m2, fX9_readMud mo = some m2 → fX9_readLineOf mo 5 = some m2 := fun m2 e => by
    unfold fX9_readLineOf
    rw [if_neg (by decide), if_pos rfl, e, bd_s]
  unfold fX7_takeMud fX7_takeMud_32
  rw [eA', bd_s, nm_u]
  dsimp only
  rw [gd_n hx (by decide), cl_n (by omega)]
  by_cases hz : tpA 0 4 = 0
  · obtain ⟨q1, q2, q3, j, q4, q5, q6⟩ := gA hz
    have m4 : moA 0 4 = nI B := by rw [mA 0 4 (by omega), B2]
    rw [B3 x hx]
    cases hT : B.testBit x with
    | false =>
      have hAx : TX tpA (sE (sE moA 0 4 (nI B ||| ((1 : Int32) <<< (nI x &&& 31)))) 0 6 (hiM (mo 0 6) (nI x))) n c := TX_k h fA (KFR_t (KFR_M mA) (KFR_t (KFR_0 (by omega)) (KFR_0 (by omega))))
      obtain ⟨mo3, e3, P3, f3⟩ := PB_n hAx (BT_row (BT_row bA (row_0 (by omega))) (row_0 (by omega)))
      have eR : fX9_readMud mo = some mo3 := by
        unfold fX9_readMud
        rw [rA', bd_s, nm_u]
        show (if moA 0 12 = 0 then (if ((moA 0 4 >>> (y &&& 31)) &&& (1 : Int32)) = 0 then fX9_readMud_32 moA y 1 else fX9_readMud_32 moA y 0) else fX9_readMud_68 moA) = some mo3
        rw [if_pos q3, q1, m4, sb9 B (by omega) x (by omega), hT, if_neg (show ¬ false = true by decide), if_pos rfl]
        unfold fX9_readMud_32 fX9_readMud_65 fX9_readMud_68
        rw [r_needs1, bd_s, nm_u, m4, nm_u, nm_u]
        have s6 : sE moA 0 4 (nI B ||| ((1 : Int32) <<< (nI x &&& 31))) 0 6 = mo 0 6 := by rw [sE_v, if_neg (by omega), mA 0 6 (by omega)]
        rw [s6]
        unfold hiM at e3
        by_cases c1 : nI x ≤ mo 0 6
        · rw [if_pos c1] at e3
          rw [if_pos c1, e3, bd_s]
        · rw [if_neg c1] at e3
          rw [if_neg c1, e3, bd_s]
      rw [if_neg (show ¬ false = true by decide), if_pos rfl, gd_n hx (by decide), nm_u]
      refine ⟨tpA, sE td 3 x 1, mo3, rfl, L5 _ eR, fA, KFR_t (KFR_M mA) (KFR_t (KFR_t (KFR_0 (by omega)) (KFR_0 (by omega))) (KFR_M f3)), ⟨iA, jA, P3⟩, ⟨M, P, a1, a2, z0 _, z1 _, fun _ => ?_⟩, fun hh => absurd hz (uA hh).2⟩
      refine DR_mud D hx (fun b => ?_) ?_ ?_ (fun b h1 h2 h3 h4 => ?_)
      · rw [f3 4 b (by omega), sE_v, if_neg (by omega), sE_v, if_neg (by omega), mA 4 b (by omega)]
      · rw [f3 0 4 (by omega), sE_v, if_neg (by omega), sE_e, B2]
      · rw [f3 0 6 (by omega), sE_e]
      · rw [f3 0 b (by omega), sE_v, if_neg (by omega), sE_v, if_neg (by omega), mA 0 b (by omega)]
    | true =>
      have nB : fX9_needs moA 0 4 = some (sE (sE moA 0 12 4) 0 13 (nI j)) := r_needs0 q3 q5
      have bl : fX6_blame tpA 4 (tpA 0 2) = some (sE (sE tpA 0 4 4) 0 5 (nI j)) := by
        unfold fX6_blame
        rw [if_pos hz, nm_u, nm_u, q4]
      have hfa : TFR tpA (sE (sE tpA 0 4 4) 0 5 (nI j)) := TFR_t (TFR_e (by omega)) (TFR_e (by omega))
      have hma : MFR moA (sE (sE moA 0 12 4) 0 13 (nI j)) := MFR_t (MFR_e (by omega)) (MFR_e (by omega))
      have bB : BT (sE (sE tpA 0 4 4) 0 5 (nI j)) (sE (sE moA 0 12 4) 0 13 (nI j)) n iA := by
        obtain ⟨w1, w2, w3⟩ := id bA
        exact ⟨w1, by rw [sE_v, if_neg (by omega), sE_v, if_neg (by omega), w2], Or.inr ⟨4, j, q6, by rw [sE_v, if_neg (by omega), sE_v, if_neg (by omega), q4], by omega, by omega, by rw [sE_v, if_neg (by omega), sE_e]; rfl, by rw [sE_v, if_neg (by omega), sE_e]; rfl, by rw [sE_e, sE_e]⟩⟩
      have f4 : ¬ sE (sE tpA 0 4 4) 0 5 (nI j) 0 4 = 0 := by rw [sE_v, if_neg (by omega), sE_e]; decide
      have kk : ∀ v w, KFR mo (sE (sE (sE (sE moA 0 12 4) 0 13 (nI j)) 0 4 v) 0 6 w) := fun v w => KFR_t (KFR_M (MFR_t mA hma)) (KFR_t (KFR_0 (by omega)) (KFR_0 (by omega)))
      have eR : ∃ mo3, fX9_readMud mo = some mo3 ∧ PB (sE (sE tpA 0 4 4) 0 5 (nI j)) mo3 n c iA ∧ KFR mo mo3 := by
        unfold fX9_readMud
        rw [rA', bd_s, nm_u]
        show ∃ mo3, (if moA 0 12 = 0 then (if ((moA 0 4 >>> (y &&& 31)) &&& (1 : Int32)) = 0 then fX9_readMud_32 moA y 1 else fX9_readMud_32 moA y 0) else fX9_readMud_68 moA) = some mo3 ∧ _
        rw [if_pos q3, q1, m4, sb9 B (by omega) x (by omega), hT, if_pos rfl, if_neg (show ¬ (1 : Int32) = 0 by decide)]
        unfold fX9_readMud_32 fX9_readMud_65 fX9_readMud_68
        rw [nB, bd_s, nm_u]
        by_cases c1 : nI x ≤ sE (sE (sE moA 0 12 4) 0 13 (nI j)) 0 4 (sE (sE moA 0 12 4) 0 13 (nI j) 0 4 ||| ((1 : Int32) <<< (nI x &&& 31))) 0 6
        · obtain ⟨mo3, e3, P3, f3⟩ := PB_n (TX_k h (TFR_t fA hfa) (kk _ _)) (BT_row (BT_row bB (row_0 (by omega))) (row_0 (by omega)))
          rw [if_pos c1, nm_u, e3, bd_s]
          exact ⟨mo3, rfl, P3, KFR_t (kk _ _) (KFR_M f3)⟩
        · obtain ⟨mo3, e3, P3, f3⟩ := PB_n (TX_k h (TFR_t fA hfa) (kk _ _)) (BT_row (BT_row bB (row_0 (by omega))) (row_0 (by omega)))
          rw [if_neg c1, nm_u, e3, bd_s]
          exact ⟨mo3, rfl, P3, KFR_t (kk _ _) (KFR_M f3)⟩
      obtain ⟨mo3, e3, P3, k3⟩ := eR
      rw [if_pos rfl, if_neg (by decide), bl, bd_s, gd_n hx (by decide), nm_u]
      exact ⟨_, sE td 3 x 1, mo3, rfl, L5 _ e3, TFR_t fA hfa, k3, ⟨iA, jA, P3⟩, ⟨M, P, a1, a2, z0 _, z1 _, fun hh => absurd hh f4⟩, fun hh => absurd hz (uA hh).2⟩
  · obtain ⟨t, t1, t2, t3⟩ := g0 hz
    have f12 : ¬ moA 0 12 = 0 := by rw [t3]; exact nI_ne0 t1 (by omega)
    obtain ⟨mo3, e3, P3, f3⟩ := PB_n (TX_f h fA mA) bA
    have eR : fX9_readMud mo = some mo3 := by
      unfold fX9_readMud fX9_readMud_68
      rw [rA', bd_s, nm_u]
      dsimp only
      rw [if_neg f12, e3, bd_s]
    have e3' : mo3 = moA := by
      rw [(r_numF (lo := 0) (hi := 0) t1 t2 t3).2] at e3
      exact so_eq e3
    have fb : ∀ u v, fX6_blame tpA u v = some tpA := fun u v => by unfold fX6_blame; rw [if_neg hz]
    have fin : ∃ tp2 td2 mo2, some (tpA, sE td 3 x 1) = some (tp2, td2) ∧ fX9_readLineOf mo 5 = some mo2 ∧ HB tp mo tp2 mo2 tl td2 n c i := ⟨tpA, sE td 3 x 1, mo3, rfl, L5 _ eR, fA, KFR_t (KFR_M mA) (KFR_M f3), ⟨iA, jA, P3⟩, ⟨M, P, a1, a2, z0 _, z1 _, fun hh => absurd hh hz⟩, fun hh => ⟨fun b h1 h2 => by rw [e3', (uA hh).1], (uA hh).2⟩⟩
    by_cases c1 : td 3 x = 0
    · rw [if_pos c1, gd_n hx (by decide), nm_u]
      exact fin
    · rw [if_neg c1, fb, bd_s, gd_n hx (by decide), nm_u]
      exact fin
theorem nI_inj4 : ∀ q, 1 ≤ q → q ≤ 4 → (q = 1 ∨ q = 2 ∨ q = 3 ∨ q = 4) := fun q h1 h2 => by omega
theorem hb_party {tl tp td mo : S2} {n i M P k : Nat} {c : Nat → Nat} (h : TX tp mo n c) (hb : PB tp mo n c i) (D : DR tl td mo M P) (hP : P < 4) (hk : k ≤ 3) : ∃ tp2 td2 mo2, fX7_takeParty tl tp td (nI k) = some (tp2, td2) ∧ fX9_readLineOf mo (nI k) = some mo2 ∧ HB tp mo tp2 mo2 tl td2 n c i := by
  obtain ⟨⟨a1, a2, a3, a4, a5, a6⟩, _⟩ := id D
  have h0 : TX tp (sE mo 4 (24 + 5 * P) (nI k)) n c := TX_k h (TFR_r tp) KFR_4
  obtain ⟨x1, tpA, y1, moA, iA, eA, rA, _, l1, gA, PA, jA, fA, mA, uA⟩ := tk_num (tl := tl) (lo := 0) (hi := 99) h0 (PB_row hb row_4) (by omega) (by omega)
  have hA : TX tpA (sE moA 4 (24 + 5 * P + 1) y1) n c := TX_k h0 fA (KFR_t (KFR_M mA) KFR_4)
  obtain ⟨x2, tpB, y2, moB, iB, eB, rB, l2', l2, gB, PB', jB, fB, mB, uB⟩ := tk_num (tl := tl) (lo := 1) (hi := 20) hA (PB_row PA row_4) (by omega) (by omega)
  have hB : TX tpB (sE moB 4 (24 + 5 * P + 2) y2) n c := TX_k hA fB (KFR_t (KFR_M mB) KFR_4)
  obtain ⟨x3, tpC, y3, moC, iC, eC, rC, _, l3, gC, PC, jC, fC, mC, uC⟩ := tk_num (tl := tl) (lo := 0) (hi := 3) hB (PB_row PB' row_4) (by omega) (by omega)
  have hC : TX tpC (sE moC 4 (24 + 5 * P + 3) y3) n c := TX_k hB fC (KFR_t (KFR_M mC) KFR_4)
  obtain ⟨x4, tpD, y4, moD, iD, eD, rD, _, l4, gD, PD, jD, fD, mD, uD⟩ := tk_num (tl := tl) (lo := 0) (hi := 7) hC (PB_row PC row_4) (by omega) (by omega)
  have td4 : ∀ (s : S2) (q : Nat), 1 ≤ q → q ≤ 4 → ∀ tpx tpy v, fX7_takeNumber tl tpx (tPL.getD q 0) (tPH.getD q 0) = some (v, tpy) → fX7_takeParty_b36 tl tpx s (nI P) (nI q) = some (.inl (nI (q + 1), tpy, sE s (4 + q) P v)) := by
    intro s q hq1 hq2 tpx tpy v e
    unfold fX7_takeParty_b36
    rcases nI_inj4 q hq1 hq2 with rfl | rfl | rfl | rfl
    · have e' : fX7_takeNumber tl tpx (tPL.getD (Int32.toNatClampNeg (nI 1)) 0) (tPH.getD (Int32.toNatClampNeg (nI 1)) 0) = some (v, tpy) := e
      rw [if_neg (by decide), if_neg (by decide), if_pos (by decide), gd_t (by decide), e', bd_s, gd_n hP (by decide), nm_u, nm_u, nI_p1, cl_n (by omega)]
    · have e' : fX7_takeNumber tl tpx (tPL.getD (Int32.toNatClampNeg (nI 2)) 0) (tPH.getD (Int32.toNatClampNeg (nI 2)) 0) = some (v, tpy) := e
      rw [if_neg (by decide), if_neg (by decide), if_neg (by decide), if_pos (by decide), gd_t (by decide), e', bd_s, gd_n hP (by decide), nm_u, nm_u, nI_p1, cl_n (by omega)]
    · have e' : fX7_takeNumber tl tpx (tPL.getD (Int32.toNatClampNeg (nI 3)) 0) (tPH.getD (Int32.toNatClampNeg (nI 3)) 0) = some (v, tpy) := e
      rw [if_neg (by decide), if_neg (by decide), if_neg (by decide), if_neg (by decide), if_pos (by decide), gd_t (by decide), e', bd_s, gd_n hP (by decide), nm_u, nm_u, nI_p1, cl_n (by omega)]
    · have e' : fX7_takeNumber tl tpx (tPL.getD (Int32.toNatClampNeg (nI 4)) 0) (tPH.getD (Int32.toNatClampNeg (nI 4)) 0) = some (v, tpy) := e
      rw [if_neg (by decide), if_neg (by decide), if_neg (by decide), if_neg (by decide), if_neg (by decide), gd_t (by decide), e', bd_s, gd_n hP (by decide), nm_u, nm_u, nI_p1, cl_n (by omega)]
  have S1 := td4 (sE td 4 P (nI k)) 1 (by omega) (by omega) tp tpA (nI x1) eA
  have S2' := td4 (sE (sE td 4 P (nI k)) 5 P (nI x1)) 2 (by omega) (by omega) tpA tpB (nI x2) eB
  have S3 := td4 (sE (sE (sE td 4 P (nI k)) 5 P (nI x1)) 6 P (nI x2)) 3 (by omega) (by omega) tpB tpC (nI x3) eC
  have S4 := td4 (sE (sE (sE (sE td 4 P (nI k)) 5 P (nI x1)) 6 P (nI x2)) 7 P (nI x3)) 4 (by omega) (by omega) tpC tpD (nI x4) eD
  have W : wh (fun (c : Int32 × S2 × S2) => fX7_takeParty_b36 tl c.2.1 c.2.2 (nI P) c.1) 5000 ((1 : Int32), tp, sE td 4 P (nI k)) = some (nI 5, tpD, sE (sE (sE (sE (sE td 4 P (nI k)) 5 P (nI x1)) 6 P (nI x2)) 7 P (nI x3)) 8 P (nI x4)) := by
    rw [show ((1 : Int32), tp, sE td 4 P (nI k)) = (nI 1, tp, sE td 4 P (nI k)) from rfl]
    rw [wh_l (body := fun (c : Int32 × S2 × S2) => fX7_takeParty_b36 tl c.2.1 c.2.2 (nI P) c.1) (s := (nI 1, tp, sE td 4 P (nI k))) S1 (by decide)]
    rw [wh_l (body := fun (c : Int32 × S2 × S2) => fX7_takeParty_b36 tl c.2.1 c.2.2 (nI P) c.1) (s := (nI (1 + 1), tpA, sE (sE td 4 P (nI k)) 5 P (nI x1))) S2' (by decide)]
    rw [wh_l (body := fun (c : Int32 × S2 × S2) => fX7_takeParty_b36 tl c.2.1 c.2.2 (nI P) c.1) (s := (nI (2 + 1), tpB, sE (sE (sE td 4 P (nI k)) 5 P (nI x1)) 6 P (nI x2))) S3 (by decide)]
    rw [wh_l (body := fun (c : Int32 × S2 × S2) => fX7_takeParty_b36 tl c.2.1 c.2.2 (nI P) c.1) (s := (nI (3 + 1), tpC, sE (sE (sE (sE td 4 P (nI k)) 5 P (nI x1)) 6 P (nI x2)) 7 P (nI x3))) S4 (by decide)]
    refine wh_r ?_ (by decide)
    show fX7_takeParty_b36 tl tpD _ (nI P) (nI (4 + 1)) = _
    unfold fX7_takeParty_b36
    rw [if_pos (by decide)]
  have m3 : ∀ q, q ≤ 4 → sE mo 4 (24 + 5 * P) (nI k) 0 3 = nI P := fun q hq => by rw [sE_v, if_neg (by omega), a6]
  have e1' : fX9_readNumber (sE mo 4 (24 + 5 * P) (nI k)) (0 : Int32) (99 : Int32) = some (y1, moA) := rA
  have e2' : fX9_readNumber (sE moA 4 (24 + 5 * P + 1) y1) (1 : Int32) (20 : Int32) = some (y2, moB) := rB
  have e3' : fX9_readNumber (sE moB 4 (24 + 5 * P + 2) y2) (0 : Int32) (3 : Int32) = some (y3, moC) := rC
  have e4' : fX9_readNumber (sE moC 4 (24 + 5 * P + 3) y3) (0 : Int32) (7 : Int32) = some (y4, moD) := rD
  have d06 : sE moD 4 (24 + 5 * P + 4) y4 0 6 = mo 0 6 := by rw [sE_v, if_neg (by omega), mD 0 6 (by omega), sE_v, if_neg (by omega), mC 0 6 (by omega), sE_v, if_neg (by omega), mB 0 6 (by omega), sE_v, if_neg (by omega), mA 0 6 (by omega), sE_v, if_neg (by omega)]
  have d03 : ∀ w, sE (sE moD 4 (24 + 5 * P + 4) y4) 0 6 w 0 3 = nI P := fun w => by rw [sE_v, if_neg (by omega), sE_v, if_neg (by omega), mD 0 3 (by omega), sE_v, if_neg (by omega), mC 0 3 (by omega), sE_v, if_neg (by omega), mB 0 3 (by omega), sE_v, if_neg (by omega), mA 0 3 (by omega), sE_v, if_neg (by omega), a6]
  have kD : KFR mo moD := KFR_t KFR_4 (KFR_t (KFR_M mA) (KFR_t KFR_4 (KFR_t (KFR_M mB) (KFR_t KFR_4 (KFR_t (KFR_M mC) (KFR_t KFR_4 (KFR_M mD)))))))
  refine ⟨tpD, sE (sE (sE (sE (sE (sE td 4 P (nI k)) 5 P (nI x1)) 6 P (nI x2)) 7 P (nI x3)) 8 P (nI x4)) 0 1 (nI (P + 1)), sE (sE (sE moD 4 (24 + 5 * P + 4) y4) 0 6 (hiM (mo 0 6) y4)) 0 3 (nI (P + 1)), ?_, ?_, TFR_t fA (TFR_t fB (TFR_t fC fD)), KFR_t kD (KFR_t KFR_4 (KFR_t (KFR_0 (by omega)) (KFR_0 (by omega)))), ⟨iD, by omega, PB_row (PB_row (PB_row PD row_4) (row_0 (by omega))) (row_0 (by omega))⟩, ⟨M, P + 1, a1, by omega, ?_, sE_e, fun hz => ?_⟩, fun hz => ?_⟩
  · unfold fX7_takeParty
    rw [nm_u, a4, if_pos (show nI P < (4 : Int32) from nI_lt (a := P) (b := 4) hP (by decide)), gd_n hP (by decide), nm_u, cl_n (by omega), W, bd_s, nm_u]
    dsimp only
    have e0 : sE (sE (sE (sE (sE td 4 P (nI k)) 5 P (nI x1)) 6 P (nI x2)) 7 P (nI x3)) 8 P (nI x4) 0 1 = nI P := by rw [sE_v, if_neg (by omega), sE_v, if_neg (by omega), sE_v, if_neg (by omega), sE_v, if_neg (by omega), sE_v, if_neg (by omega), a4]
    rw [e0, nI_p1]
  · unfold fX9_readLineOf
    rw [if_neg (n_ne (x := 4) (q := 4) (show ¬ k = 4 by omega) rfl (by omega) (by decide)), if_neg (n_ne (x := 5) (q := 5) (show ¬ k = 5 by omega) rfl (by omega) (by decide)), if_neg (n_ne (x := 6) (q := 6) (show ¬ k = 6 by omega) rfl (by omega) (by decide)), if_neg (n_ne (x := 7) (q := 7) (show ¬ k = 7 by omega) rfl (by omega) (by decide))]
    unfold fX9_readParty fX9_readParty_109
    rw [nm_u, a6, m5_0 P hP, gd_n (by omega) (by decide), nm_u, cl_n (by omega), e1', bd_s, m5_1 P hP, gd_n (by omega) (by decide), nm_u, cl_n (by omega)]
    dsimp only
    rw [e2', bd_s, m5_2 P hP, gd_n (by omega) (by decide), nm_u, cl_n (by omega)]
    dsimp only
    rw [e3', bd_s, m5_3 P hP, gd_n (by omega) (by decide), nm_u, cl_n (by omega)]
    dsimp only
    rw [e4', bd_s, m5_4 P hP, gd_n (by omega) (by decide), nm_u, cl_n (by omega)]
    dsimp only
    rw [d06, sE_e]
    unfold hiM
    by_cases c1 : y4 ≤ mo 0 6
    · rw [if_pos c1, nm_u, nm_u, d03, nI_p1, bd_s, if_pos c1]
    · rw [if_neg c1, nm_u, nm_u, d03, nI_p1, bd_s, if_neg c1]
  · rw [sE_v, if_neg (by omega), sE_v, if_neg (by omega), sE_v, if_neg (by omega), sE_v, if_neg (by omega), sE_v, if_neg (by omega), sE_v, if_neg (by omega), a3]
  · obtain ⟨q4, z3⟩ := gD hz
    obtain ⟨q3, z2⟩ := gC z3
    obtain ⟨q2, z1⟩ := gB z2
    obtain ⟨q1, _⟩ := gA z1
    refine DR_party D hP hk l1 ⟨l2', l2⟩ l3 l4 (fun a j => ?_) (fun b => ?_) sE_e (by rw [sE_v, if_neg (by omega), sE_e, q4]) (fun b h1 h2 h3 => ?_)
    · rw [sE_v, sE_v, sE_v, sE_v, sE_v, sE_v]
      by_cases n1 : a = 0 ∧ j = 1
      · rw [if_pos n1, if_pos n1]
      · rw [if_neg n1, if_neg n1]
        by_cases hj : j = P
        · by_cases b4 : a = 4
          · rw [if_neg (by omega), if_neg (by omega), if_neg (by omega), if_neg (by omega), if_pos ⟨b4, hj⟩, if_pos ⟨b4, hj⟩]
          · by_cases b5 : a = 5
            · rw [if_neg (by omega), if_neg (by omega), if_neg (by omega), if_pos ⟨b5, hj⟩, if_neg (by omega), if_pos ⟨b5, hj⟩]
            · by_cases b6 : a = 6
              · rw [if_neg (by omega), if_neg (by omega), if_pos ⟨b6, hj⟩, if_neg (by omega), if_neg (by omega), if_pos ⟨b6, hj⟩]
              · by_cases b7 : a = 7
                · rw [if_neg (by omega), if_pos ⟨b7, hj⟩, if_neg (by omega), if_neg (by omega), if_neg (by omega), if_pos ⟨b7, hj⟩]
                · by_cases b8 : a = 8
                  · rw [if_pos ⟨b8, hj⟩, if_neg (by omega), if_neg (by omega), if_neg (by omega), if_neg (by omega), if_pos ⟨b8, hj⟩]
                  · rw [if_neg (by omega), if_neg (by omega), if_neg (by omega), if_neg (by omega), if_neg (by omega), if_neg (by omega), if_neg (by omega), if_neg (by omega), if_neg (by omega), if_neg (by omega)]
        · rw [if_neg (by omega), if_neg (by omega), if_neg (by omega), if_neg (by omega), if_neg (by omega), if_neg (by omega), if_neg (by omega), if_neg (by omega), if_neg (by omega), if_neg (by omega)]
    · rw [sE_v, if_neg (by omega), sE_v, if_neg (by omega), sE_v]
      by_cases b4 : b = 24 + 5 * P + 4
      · rw [if_pos ⟨rfl, b4⟩, if_neg (by omega), if_neg (by omega), if_neg (by omega), if_neg (by omega), if_pos b4, q4]
      · rw [if_neg (fun hh => b4 hh.2), mD 4 b (by omega), sE_v]
        by_cases b3 : b = 24 + 5 * P + 3
        · rw [if_pos ⟨rfl, b3⟩, if_neg (by omega), if_neg (by omega), if_neg (by omega), if_pos b3, q3]
        · rw [if_neg (fun hh => b3 hh.2), mC 4 b (by omega), sE_v]
          by_cases b2 : b = 24 + 5 * P + 2
          · rw [if_pos ⟨rfl, b2⟩, if_neg (by omega), if_neg (by omega), if_pos b2, q2]
          · rw [if_neg (fun hh => b2 hh.2), mB 4 b (by omega), sE_v]
            by_cases b1 : b = 24 + 5 * P + 1
            · rw [if_pos ⟨rfl, b1⟩, if_neg (by omega), if_pos b1, q1]
            · rw [if_neg (fun hh => b1 hh.2), mA 4 b (by omega), sE_v]
              by_cases b0 : b = 24 + 5 * P
              · rw [if_pos ⟨rfl, b0⟩, if_pos b0]
              · rw [if_neg (fun hh => b0 hh.2), if_neg b0, if_neg b1, if_neg b2, if_neg b3, if_neg b4]
    · rw [sE_v, if_neg (by omega), sE_v, if_neg (by omega), sE_v, if_neg (by omega), mD 0 b (by omega), sE_v, if_neg (by omega), mC 0 b (by omega), sE_v, if_neg (by omega), mB 0 b (by omega), sE_v, if_neg (by omega), mA 0 b (by omega), sE_v, if_neg (by omega)]
  · obtain ⟨v1, w1⟩ := uA (by rw [sE_v, if_neg (by omega)]; exact hz)
    have z1 : ¬ sE moA 4 (24 + 5 * P + 1) y1 0 12 = 0 := by rw [sE_v, if_neg (by omega), v1, sE_v, if_neg (by omega)]; exact hz
    obtain ⟨v2, w2⟩ := uB z1
    have z2 : ¬ sE moB 4 (24 + 5 * P + 2) y2 0 12 = 0 := by rw [sE_v, if_neg (by omega), v2]; exact z1
    obtain ⟨v3, w3⟩ := uC z2
    have z3 : ¬ sE moC 4 (24 + 5 * P + 3) y3 0 12 = 0 := by rw [sE_v, if_neg (by omega), v3]; exact z2
    obtain ⟨v4, w4⟩ := uD z3
    refine ⟨fun b h1 h2 => ?_, w4⟩
    rw [sE_v, if_neg (by omega), sE_v, if_neg (by omega), sE_v, if_neg (by omega), v4, sE_v, if_neg (by omega), v3, sE_v, if_neg (by omega), v2, sE_v, if_neg (by omega), v1, sE_v, if_neg (by omega)]
