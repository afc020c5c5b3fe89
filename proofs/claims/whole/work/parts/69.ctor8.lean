def XO (U : State) : Prop := va_AO "CoachCourt$Image" U ∧ va_AO "CoachCourt$Sheet" U
theorem XO_M : XM XO := fun _ _ h q => ⟨q.1.moved h, q.2.moved h⟩
theorem hdX8_init : yX8_init.cls ≠ "java/lang/invoke/MethodHandle" ∧ yX8_init.cls ≠ "java/lang/invoke/VarHandle" ∧ (parseMethodDescriptor yX8_init.desc).map (fun d => d.parameters.length) = some 0 := by decide +kernel
theorem lkX8_init_oi : Cond.methodLink RX8 1 objectInit ∈ wsX8_init := by decide +kernel
theorem lkX8_init_om : Cond.instanceMethod objectInit ∈ wsX8_init := by decide +kernel
theorem lkX8_init_oc : Cond.code objectInit ⟨#[0xb1]⟩ 1 none ∈ wsX8_init := List.mem_of_getElem? (i := 3) rfl
theorem lkX8_init_cl7 : Cond.classLink RX8 7 RX6 ∈ wsX8_init := by decide +kernel
theorem lkX8_init_inX6 : Cond.instantiable RX6 7 ∈ wsX8_init := by decide +kernel
theorem lkX8_init_iiX6 : Cond.initialized RX6 ∈ wsX8_init := by decide +kernel
theorem iwX8_init_X6 : ∀ w ∈ wsX60, w ∈ wsX8_init := by decide +kernel
theorem lkX8_init_imX6 : Cond.instanceMethod yX6_init ∈ wsX8_init := by decide +kernel
theorem lkX8_init_f10 : Cond.fieldLink RX8 10 "CoachCourt" "tape" "LCoachCourt$Tape;" ∈ wsX8_init := by decide +kernel
theorem iwX8_init_X8 : ∀ w ∈ wsX80, w ∈ wsX8_init := by decide +kernel
theorem lkX8_init_cl16 : Cond.classLink RX8 16 RX7 ∈ wsX8_init := by decide +kernel
theorem lkX8_init_inX7 : Cond.instantiable RX7 3 ∈ wsX8_init := by decide +kernel
theorem lkX8_init_iiX7 : Cond.initialized RX7 ∈ wsX8_init := by decide +kernel
theorem iwX8_init_X7 : ∀ w ∈ wsX70, w ∈ wsX8_init := by decide +kernel
theorem lkX8_init_imX7 : Cond.instanceMethod yX7_init ∈ wsX8_init := by decide +kernel
theorem lkX8_init_ml18 : Cond.methodLink RX8 18 yX7_init ∈ wsX8_init := by decide +kernel
theorem lkX8_init_f21 : Cond.fieldLink RX8 21 "CoachCourt" "teller" "LCoachCourt$Teller;" ∈ wsX8_init := by decide +kernel
theorem lkX8_init_cl25 : Cond.classLink RX8 25 RX2 ∈ wsX8_init := by decide +kernel
theorem lkX8_init_inX2 : Cond.instantiable RX2 12 ∈ wsX8_init := by decide +kernel
theorem lkX8_init_iiX2 : Cond.initialized RX2 ∈ wsX8_init := by decide +kernel
theorem iwX8_init_X2 : ∀ w ∈ wsX20, w ∈ wsX8_init := by decide +kernel
theorem lkX8_init_imX2 : Cond.instanceMethod yX2_init ∈ wsX8_init := by decide +kernel
theorem lkX8_init_f28 : Cond.fieldLink RX8 28 "CoachCourt" "road" "LCoachCourt$Road;" ∈ wsX8_init := by decide +kernel
theorem lkX8_init_f32 : Cond.fieldLink RX8 32 "CoachCourt" "trial" "LCoachCourt$Road;" ∈ wsX8_init := by decide +kernel
theorem lkX8_init_cl35 : Cond.classLink RX8 35 RX0 ∈ wsX8_init := by decide +kernel
theorem lkX8_init_inX0 : Cond.instantiable RX0 7 ∈ wsX8_init := by decide +kernel
theorem lkX8_init_iiX0 : Cond.initialized RX0 ∈ wsX8_init := by decide +kernel
theorem iwX8_init_X0 : ∀ w ∈ wsX00, w ∈ wsX8_init := by decide +kernel
theorem lkX8_init_imX0 : Cond.instanceMethod yX0_init ∈ wsX8_init := by decide +kernel
theorem lkX8_init_f38 : Cond.fieldLink RX8 38 "CoachCourt" "drive" "LCoachCourt$Drive;" ∈ wsX8_init := by decide +kernel
theorem lkX8_init_cl42 : Cond.classLink RX8 42 RX3 ∈ wsX8_init := by decide +kernel
theorem lkX8_init_inX3 : Cond.instantiable RX3 5 ∈ wsX8_init := by decide +kernel
theorem lkX8_init_iiX3 : Cond.initialized RX3 ∈ wsX8_init := by decide +kernel
theorem iwX8_init_X3 : ∀ w ∈ wsX30, w ∈ wsX8_init := by decide +kernel
theorem lkX8_init_imX3 : Cond.instanceMethod yX3_init ∈ wsX8_init := by decide +kernel
theorem lkX8_init_ml44 : Cond.methodLink RX8 44 yX3_init ∈ wsX8_init := by decide +kernel
theorem lkX8_init_f47 : Cond.fieldLink RX8 47 "CoachCourt" "seeker" "LCoachCourt$Seeker;" ∈ wsX8_init := by decide +kernel
theorem lkX8_init_cl51 : Cond.classLink RX8 51 RX5 ∈ wsX8_init := by decide +kernel
theorem lkX8_init_inX5 : Cond.instantiable RX5 3 ∈ wsX8_init := by decide +kernel
theorem lkX8_init_iiX5 : Cond.initialized RX5 ∈ wsX8_init := by decide +kernel
theorem iwX8_init_X5 : ∀ w ∈ wsX50, w ∈ wsX8_init := by decide +kernel
theorem lkX8_init_imX5 : Cond.instanceMethod yX5_init ∈ wsX8_init := by decide +kernel
theorem lkX8_init_f54 : Cond.fieldLink RX8 54 "CoachCourt" "seen" "LCoachCourt$Sightings;" ∈ wsX8_init := by decide +kernel
theorem lkX8_init_cl58 : Cond.classLink RX8 58 RX1 ∈ wsX8_init := by decide +kernel
theorem lkX8_init_f60 : Cond.fieldLink RX8 60 "CoachCourt" "images" "[LCoachCourt$Image;" ∈ wsX8_init := by decide +kernel
theorem lkX8_init_inX1 : Cond.instantiable RX1 3 ∈ wsX8_init := by decide +kernel
theorem lkX8_init_iiX1 : Cond.initialized RX1 ∈ wsX8_init := by decide +kernel
theorem iwX8_init_X1 : ∀ w ∈ wsX10, w ∈ wsX8_init := by decide +kernel
theorem lkX8_init_imX1 : Cond.instanceMethod yX1_init ∈ wsX8_init := by decide +kernel
theorem lkX8_init_cl65 : Cond.classLink RX8 65 RX4 ∈ wsX8_init := by decide +kernel
theorem lkX8_init_f67 : Cond.fieldLink RX8 67 "CoachCourt" "sheets" "[LCoachCourt$Sheet;" ∈ wsX8_init := by decide +kernel
theorem lkX8_init_inX4 : Cond.instantiable RX4 4 ∈ wsX8_init := by decide +kernel
theorem lkX8_init_iiX4 : Cond.initialized RX4 ∈ wsX8_init := by decide +kernel
theorem iwX8_init_X4 : ∀ w ∈ wsX40, w ∈ wsX8_init := by decide +kernel
theorem lkX8_init_imX4 : Cond.instanceMethod yX4_init ∈ wsX8_init := by decide +kernel
theorem lkX8_init_ac_int : Cond.arrayClass .int ∈ wsX8_init := by decide +kernel
theorem lkX8_init_f72 : Cond.fieldLink RX8 72 "CoachCourt" "tally" "[I" ∈ wsX8_init := by decide +kernel
set_option maxHeartbeats 16000000 in
set_option maxRecDepth 100000 in
theorem cX8_init_ok {l : Launch} {D : va_G} {t : Nat → ClassId} {κ : Nat → Nat} {h0 : Nat} : CtN l D t κ XO yX8_init wsX8_init (rmN 3 70 681) [.ref h0] [(h0, .inr (8, [.null, .null, .null, .null, .null, .null, .null, .null, .null, .null, .int 0]))] (fun w1 => ∃ (acc atp atl ard atr adr ask asn : Nat → Nat) (aia : Nat → Nat) (fia : Nat → Option Nat) (aim0 ar0 as0 aim1 ar1 as1 : Nat → Nat) (aha : Nat → Nat) (fha : Nat → Option Nat) (ash0 ash1 ash2 ash3 : Nat → Nat), acc 0 = h0 ∧ (fia 0 = some (aim0 0) ∧ fia 1 = some (aim1 0)) ∧ (fha 0 = some (ash0 0) ∧ fha 1 = some (ash1 0) ∧ fha 2 = some (ash2 0) ∧ fha 3 = some (ash3 0)) ∧ w1 = (wCC t acc (atp 0) (atl 0) (ard 0) (atr 0) (adr 0) (ask 0) (asn 0) (aia 0) (aha 0) z0 ++ (wHA t aha fha ++ (wSheet t ash3 z0 ++ (wSheet t ash2 z0 ++ (wSheet t ash1 z0 ++ (wSheet t ash0 z0 ++ (wIA t aia fia ++ ((wImage t aim1 (ar1 0) (as1 0) z0 ++ wRoad t ar1 zR ++ wSight t as1 z0) ++ ((wImage t aim0 (ar0 0) (as0 0) z0 ++ wRoad t ar0 zR ++ wSight t as0 z0) ++ (wSight t asn z0 ++ (wSeeker t ask (atr 0) (adr 0) z0 ++ (wDrive t adr z0 ++ (wRoad t atr zR ++ (wRoad t ard zR ++ (wTeller t atl (atp 0) z0 ++ (wTape t atp z0 ++ ([] : va_W)))))))))))))))))) 70 681 := by
  refine CtN.ofW (own := RX8) (cc := cX8_init) (maxL := 2) (by decide) rfl rfl rfl (Nat.le_of_ble_eq_true rfl) ?_
  intro p e s m below meth c A C hin hX hP hD ls hl
  have hS : va_S A s.heap s.heap [] := va_S.rf
  obtain ⟨hx, hb, hr, hml, hown, hts, hC0, hlk, hA⟩ := id C
  have hK := hC0.1
  have hl : lv_has ls 2 [(0, .ref h0)] := hl
  refine lv_aload_n hx hb dX8_init_0 rfl (lv_at hl 0 rfl) ?_
  refine W.objInit hx hb hown (hts _ lkX8_init_oi) (hts _ lkX8_init_om) (hts _ lkX8_init_oc) rfl (by rw [hml]; exact hl.1) rfl dX8_init_1 (Nat.le_of_ble_eq_true rfl) (Nat.le_of_ble_eq_true rfl) ?_
  refine W.eq (g2 := F0 m 4 ls []) rfl ?_
  refine lv_aload_n hx hb dX8_init_4 rfl (lv_at hl 0 rfl) ?_
  refine va_new (ci := 6) (fs := [.null, .int 0, .int 0, .int 0, .int 0, .int 0, .int 0]) (C := RX6) (T := TX6) (N := 7) hx hb hts iwX8_init_X6 tyX6 tyX6_ok hown (hts _ lkX8_init_cl7) (hts _ lkX8_init_inX6) (hts _ lkX8_init_iiX6) hK hP hD hS hA rfl (fun j hj => by rcases (show j = 0 ∨ j = 1 ∨ j = 2 ∨ j = 3 ∨ j = 4 ∨ j = 5 ∨ j = 6 by omega) with rfl | rfl | rfl | rfl | rfl | rfl | rfl <;> rfl) (Nat.le_of_ble_eq_true rfl) (Nat.le_of_ble_eq_true rfl) dX8_init_5 (fun q1 H hP hD hS => ?_)
  refine W.cs (cells' := 1) (slots' := 7) rfl rfl ?_
  have hP : va_P D vwCl (((h0, .inr (8, [.null, .null, .null, .null, .null, .null, .null, .null, .null, .null, .int 0])) : Nat × va_E) :: (([] : va_W) ++ ([(q1, .inr (6, [.null, .int 0, .int 0, .int 0, .int 0, .int 0, .int 0]))] : va_W))) H := hP
  have hD : va_D A (((h0, .inr (8, [.null, .null, .null, .null, .null, .null, .null, .null, .null, .null, .int 0])) : Nat × va_E) :: (([] : va_W) ++ ([(q1, .inr (6, [.null, .int 0, .int 0, .int 0, .int 0, .int 0, .int 0]))] : va_W))) := hD
  refine lv_dup hx hb dX8_init_8 rfl ?_
  refine gk_IN C (As := []) (rest := [.ref q1, .ref h0]) (ws := (((h0, .inr (8, [.null, .null, .null, .null, .null, .null, .null, .null, .null, .null, .int 0])) : Nat × va_E) :: (([] : va_W)))) (x := (q1, .inr (6, [.null, .int 0, .int 0, .int 0, .int 0, .int 0, .int 0]))) (cX6_init_ok (l := l) (D := D) (t := t) (κ := κ)) trivial (fun _ _ _ h => h) ggX8_init_X6_init rfl ⟨rfl, rfl⟩ (hts _ lkX8_init_iiX6) (hC0.2.1.m 0 rfl) (hts _ lkX8_init_imX6) rfl hdX6_init ⟨Nat.le_of_ble_eq_true rfl, Nat.le_of_ble_eq_true rfl⟩ hP hD hS rfl hl.1 (Nat.le_of_ble_eq_true rfl) dX8_init_9 (Nat.le_of_ble_eq_true rfl) (Nat.le_of_ble_eq_true rfl) (fun H locs w1 po hPn1 hDn1 hSn1 => ?_)
  refine W.cs (cells' := 2) (slots' := 167) rfl rfl ?_
  obtain ⟨a2, ha2, rfl⟩ := po
  subst ha2
  have hP : va_P D vwCl (((h0, .inr (8, [.null, .null, .null, .null, .null, .null, .null, .null, .null, .null, .int 0])) : Nat × va_E) :: (([] : va_W) ++ (wTape t a2 z0))) H := hPn1
  have hD : va_D A (((h0, .inr (8, [.null, .null, .null, .null, .null, .null, .null, .null, .null, .null, .int 0])) : Nat × va_E) :: (([] : va_W) ++ (wTape t a2 z0))) := hDn1
  have hP := wp_perm (List.Perm.cons _ List.perm_append_comm) hP
  have hD := wd_perm (List.Perm.cons _ List.perm_append_comm) hD
  have hP : va_P D vwCl (((h0, .inr (8, [.null, .null, .null, .null, .null, .null, .null, .null, .null, .null, .int 0])) : Nat × va_E) :: ((wTape t a2 z0) ++ ([] : va_W))) H := hP
  have hD : va_D A (((h0, .inr (8, [.null, .null, .null, .null, .null, .null, .null, .null, .null, .null, .int 0])) : Nat × va_E) :: ((wTape t a2 z0) ++ ([] : va_W))) := hD
  have hS := hSn1
  generalize hW1 : (wTape t a2 z0) ++ ([] : va_W) = WS1 at hP hD
  refine W.eq (g2 := F0 m 12 ls [.ref (a2 0), .ref h0]) rfl ?_
  refine va_putF (D := D) (ci := 8) (v := .ref (a2 0)) (ty := .object "CoachCourt$Tape") (C := RX8) (T := TX8) (N := 11) hx hb hts iwX8_init_X8 tyX8 tyX8_ok nmX8 hown hK hP hD hS 0 rfl rfl 0 (by decide) (hts _ lkX8_init_f10) (fun _ h9 => h9) rfl hin rfl (by decide +kernel) rfl rfl (Nat.le_of_ble_eq_true rfl) dX8_init_12 (fun H locs hP hD hS => ?_)
  have hP : va_P D vwCl (((h0, .inr (8, [.ref (a2 0), .null, .null, .null, .null, .null, .null, .null, .null, .null, .int 0])) : Nat × va_E) :: (WS1)) H := hP
  have hD : va_D A (((h0, .inr (8, [.ref (a2 0), .null, .null, .null, .null, .null, .null, .null, .null, .null, .int 0])) : Nat × va_E) :: (WS1)) := hD
  refine lv_aload_n hx hb dX8_init_15 rfl (lv_at hl 0 rfl) ?_
  refine va_new (ci := 7) (fs := [.null, .int 0, .int 0]) (C := RX7) (T := TX7) (N := 3) hx hb hts iwX8_init_X7 tyX7 tyX7_ok hown (hts _ lkX8_init_cl16) (hts _ lkX8_init_inX7) (hts _ lkX8_init_iiX7) hK hP hD hS hA rfl (fun j hj => by rcases (show j = 0 ∨ j = 1 ∨ j = 2 by omega) with rfl | rfl | rfl <;> rfl) (Nat.le_of_ble_eq_true rfl) (Nat.le_of_ble_eq_true rfl) dX8_init_16 (fun q3 H hP hD hS => ?_)
  refine W.cs (cells' := 3) (slots' := 170) rfl rfl ?_
  have hP : va_P D vwCl (((h0, .inr (8, [.ref (a2 0), .null, .null, .null, .null, .null, .null, .null, .null, .null, .int 0])) : Nat × va_E) :: (WS1 ++ ([(q3, .inr (7, [.null, .int 0, .int 0]))] : va_W))) H := hP
  have hD : va_D A (((h0, .inr (8, [.ref (a2 0), .null, .null, .null, .null, .null, .null, .null, .null, .null, .int 0])) : Nat × va_E) :: (WS1 ++ ([(q3, .inr (7, [.null, .int 0, .int 0]))] : va_W))) := hD
  refine lv_dup hx hb dX8_init_19 rfl ?_
  refine lv_aload_n hx hb dX8_init_20 rfl (lv_at hl 0 rfl) ?_
  refine va_get (D := D) (ci := 8) (v := .ref (a2 0)) (C := RX8) (T := TX8) (N := 11) hx hb hts iwX8_init_X8 hown hK hP 0 rfl rfl 0 (by decide) (hts _ lkX8_init_f10) (fun _ h9 => h9) rfl dX8_init_21 ?_
  refine gk_I C (As := [.ref (a2 0)]) (rest := [.ref q3, .ref h0]) (ws := (((h0, .inr (8, [.ref (a2 0), .null, .null, .null, .null, .null, .null, .null, .null, .null, .int 0])) : Nat × va_E) :: (WS1))) (x := (q3, .inr (7, [.null, .int 0, .int 0]))) (cX7_init_ok (l := l) (D := D) (t := t) (κ := κ)) trivial (fun _ _ _ h => h) ggX8_init_X7_init rfl ⟨rfl, rfl⟩ (hts _ lkX8_init_iiX7) (hts _ lkX8_init_ml18) (hts _ lkX8_init_imX7) rfl hdX7_init ⟨Nat.le_of_ble_eq_true rfl, Nat.le_of_ble_eq_true rfl⟩ hP hD hS rfl hl.1 (Nat.le_of_ble_eq_true rfl) dX8_init_24 (Nat.le_of_ble_eq_true rfl) (Nat.le_of_ble_eq_true rfl) (fun H locs w1 po hPn3 hDn3 hSn3 => ?_)
  refine W.cs (cells' := 3) (slots' := 170) rfl rfl ?_
  obtain ⟨a4, ha4, rfl⟩ := po
  subst ha4
  have hP : va_P D vwCl (((h0, .inr (8, [.ref (a2 0), .null, .null, .null, .null, .null, .null, .null, .null, .null, .int 0])) : Nat × va_E) :: (WS1 ++ (wTeller t a4 (a2 0) z0))) H := hPn3
  have hD : va_D A (((h0, .inr (8, [.ref (a2 0), .null, .null, .null, .null, .null, .null, .null, .null, .null, .int 0])) : Nat × va_E) :: (WS1 ++ (wTeller t a4 (a2 0) z0))) := hDn3
  have hP := wp_perm (List.Perm.cons _ List.perm_append_comm) hP
  have hD := wd_perm (List.Perm.cons _ List.perm_append_comm) hD
  have hP : va_P D vwCl (((h0, .inr (8, [.ref (a2 0), .null, .null, .null, .null, .null, .null, .null, .null, .null, .int 0])) : Nat × va_E) :: ((wTeller t a4 (a2 0) z0) ++ WS1)) H := hP
  have hD : va_D A (((h0, .inr (8, [.ref (a2 0), .null, .null, .null, .null, .null, .null, .null, .null, .null, .int 0])) : Nat × va_E) :: ((wTeller t a4 (a2 0) z0) ++ WS1)) := hD
  have hS := hSn3
  generalize hW2 : (wTeller t a4 (a2 0) z0) ++ WS1 = WS2 at hP hD
  refine W.eq (g2 := F0 m 27 ls [.ref (a4 0), .ref h0]) rfl ?_
  refine va_putF (D := D) (ci := 8) (v := .ref (a4 0)) (ty := .object "CoachCourt$Teller") (C := RX8) (T := TX8) (N := 11) hx hb hts iwX8_init_X8 tyX8 tyX8_ok nmX8 hown hK hP hD hS 0 rfl rfl 1 (by decide) (hts _ lkX8_init_f21) (fun _ h9 => h9) rfl hin rfl (by decide +kernel) rfl rfl (Nat.le_of_ble_eq_true rfl) dX8_init_27 (fun H locs hP hD hS => ?_)
  have hP : va_P D vwCl (((h0, .inr (8, [.ref (a2 0), .ref (a4 0), .null, .null, .null, .null, .null, .null, .null, .null, .int 0])) : Nat × va_E) :: (WS2)) H := hP
  have hD : va_D A (((h0, .inr (8, [.ref (a2 0), .ref (a4 0), .null, .null, .null, .null, .null, .null, .null, .null, .int 0])) : Nat × va_E) :: (WS2)) := hD
  refine lv_aload_n hx hb dX8_init_30 rfl (lv_at hl 0 rfl) ?_
  refine va_new (ci := 2) (fs := [.null, .null, .null, .null, .null, .null, .null, .null, .int 0, .int 0, .int 0, .int 0]) (C := RX2) (T := TX2) (N := 12) hx hb hts iwX8_init_X2 tyX2 tyX2_ok hown (hts _ lkX8_init_cl25) (hts _ lkX8_init_inX2) (hts _ lkX8_init_iiX2) hK hP hD hS hA rfl (fun j hj => by rcases (show j = 0 ∨ j = 1 ∨ j = 2 ∨ j = 3 ∨ j = 4 ∨ j = 5 ∨ j = 6 ∨ j = 7 ∨ j = 8 ∨ j = 9 ∨ j = 10 ∨ j = 11 by omega) with rfl | rfl | rfl | rfl | rfl | rfl | rfl | rfl | rfl | rfl | rfl | rfl <;> rfl) (Nat.le_of_ble_eq_true rfl) (Nat.le_of_ble_eq_true rfl) dX8_init_31 (fun q5 H hP hD hS => ?_)
  refine W.cs (cells' := 4) (slots' := 182) rfl rfl ?_
  have hP : va_P D vwCl (((h0, .inr (8, [.ref (a2 0), .ref (a4 0), .null, .null, .null, .null, .null, .null, .null, .null, .int 0])) : Nat × va_E) :: (WS2 ++ ([(q5, .inr (2, [.null, .null, .null, .null, .null, .null, .null, .null, .int 0, .int 0, .int 0, .int 0]))] : va_W))) H := hP
  have hD : va_D A (((h0, .inr (8, [.ref (a2 0), .ref (a4 0), .null, .null, .null, .null, .null, .null, .null, .null, .int 0])) : Nat × va_E) :: (WS2 ++ ([(q5, .inr (2, [.null, .null, .null, .null, .null, .null, .null, .null, .int 0, .int 0, .int 0, .int 0]))] : va_W))) := hD
  refine lv_dup hx hb dX8_init_34 rfl ?_
  refine gk_IN C (As := []) (rest := [.ref q5, .ref h0]) (ws := (((h0, .inr (8, [.ref (a2 0), .ref (a4 0), .null, .null, .null, .null, .null, .null, .null, .null, .int 0])) : Nat × va_E) :: (WS2))) (x := (q5, .inr (2, [.null, .null, .null, .null, .null, .null, .null, .null, .int 0, .int 0, .int 0, .int 0]))) (cX2_init_ok (l := l) (D := D) (t := t) (κ := κ)) trivial (fun _ _ _ h => h) ggX8_init_X2_init rfl ⟨rfl, rfl⟩ (hts _ lkX8_init_iiX2) (hC0.2.1.m 1 rfl) (hts _ lkX8_init_imX2) rfl hdX2_init ⟨Nat.le_of_ble_eq_true rfl, Nat.le_of_ble_eq_true rfl⟩ hP hD hS rfl hl.1 (Nat.le_of_ble_eq_true rfl) dX8_init_35 (Nat.le_of_ble_eq_true rfl) (Nat.le_of_ble_eq_true rfl) (fun H locs w1 po hPn5 hDn5 hSn5 => ?_)
  refine W.cs (cells' := 12) (slots' := 226) rfl rfl ?_
  obtain ⟨a6, ha6, rfl⟩ := po
  subst ha6
  have hP : va_P D vwCl (((h0, .inr (8, [.ref (a2 0), .ref (a4 0), .null, .null, .null, .null, .null, .null, .null, .null, .int 0])) : Nat × va_E) :: (WS2 ++ (wRoad t a6 zR))) H := hPn5
  have hD : va_D A (((h0, .inr (8, [.ref (a2 0), .ref (a4 0), .null, .null, .null, .null, .null, .null, .null, .null, .int 0])) : Nat × va_E) :: (WS2 ++ (wRoad t a6 zR))) := hDn5
  have hP := wp_perm (List.Perm.cons _ List.perm_append_comm) hP
  have hD := wd_perm (List.Perm.cons _ List.perm_append_comm) hD
  have hP : va_P D vwCl (((h0, .inr (8, [.ref (a2 0), .ref (a4 0), .null, .null, .null, .null, .null, .null, .null, .null, .int 0])) : Nat × va_E) :: ((wRoad t a6 zR) ++ WS2)) H := hP
  have hD : va_D A (((h0, .inr (8, [.ref (a2 0), .ref (a4 0), .null, .null, .null, .null, .null, .null, .null, .null, .int 0])) : Nat × va_E) :: ((wRoad t a6 zR) ++ WS2)) := hD
  have hS := hSn5
  generalize hW3 : (wRoad t a6 zR) ++ WS2 = WS3 at hP hD
  refine W.eq (g2 := F0 m 38 ls [.ref (a6 0), .ref h0]) rfl ?_
  refine va_putF (D := D) (ci := 8) (v := .ref (a6 0)) (ty := .object "CoachCourt$Road") (C := RX8) (T := TX8) (N := 11) hx hb hts iwX8_init_X8 tyX8 tyX8_ok nmX8 hown hK hP hD hS 0 rfl rfl 2 (by decide) (hts _ lkX8_init_f28) (fun _ h9 => h9) rfl hin rfl (by decide +kernel) rfl rfl (Nat.le_of_ble_eq_true rfl) dX8_init_38 (fun H locs hP hD hS => ?_)
  have hP : va_P D vwCl (((h0, .inr (8, [.ref (a2 0), .ref (a4 0), .ref (a6 0), .null, .null, .null, .null, .null, .null, .null, .int 0])) : Nat × va_E) :: (WS3)) H := hP
  have hD : va_D A (((h0, .inr (8, [.ref (a2 0), .ref (a4 0), .ref (a6 0), .null, .null, .null, .null, .null, .null, .null, .int 0])) : Nat × va_E) :: (WS3)) := hD
  refine lv_aload_n hx hb dX8_init_41 rfl (lv_at hl 0 rfl) ?_
  refine va_new (ci := 2) (fs := [.null, .null, .null, .null, .null, .null, .null, .null, .int 0, .int 0, .int 0, .int 0]) (C := RX2) (T := TX2) (N := 12) hx hb hts iwX8_init_X2 tyX2 tyX2_ok hown (hts _ lkX8_init_cl25) (hts _ lkX8_init_inX2) (hts _ lkX8_init_iiX2) hK hP hD hS hA rfl (fun j hj => by rcases (show j = 0 ∨ j = 1 ∨ j = 2 ∨ j = 3 ∨ j = 4 ∨ j = 5 ∨ j = 6 ∨ j = 7 ∨ j = 8 ∨ j = 9 ∨ j = 10 ∨ j = 11 by omega) with rfl | rfl | rfl | rfl | rfl | rfl | rfl | rfl | rfl | rfl | rfl | rfl <;> rfl) (Nat.le_of_ble_eq_true rfl) (Nat.le_of_ble_eq_true rfl) dX8_init_42 (fun q7 H hP hD hS => ?_)
  refine W.cs (cells' := 13) (slots' := 238) rfl rfl ?_
  have hP : va_P D vwCl (((h0, .inr (8, [.ref (a2 0), .ref (a4 0), .ref (a6 0), .null, .null, .null, .null, .null, .null, .null, .int 0])) : Nat × va_E) :: (WS3 ++ ([(q7, .inr (2, [.null, .null, .null, .null, .null, .null, .null, .null, .int 0, .int 0, .int 0, .int 0]))] : va_W))) H := hP
  have hD : va_D A (((h0, .inr (8, [.ref (a2 0), .ref (a4 0), .ref (a6 0), .null, .null, .null, .null, .null, .null, .null, .int 0])) : Nat × va_E) :: (WS3 ++ ([(q7, .inr (2, [.null, .null, .null, .null, .null, .null, .null, .null, .int 0, .int 0, .int 0, .int 0]))] : va_W))) := hD
  refine lv_dup hx hb dX8_init_45 rfl ?_
  refine gk_IN C (As := []) (rest := [.ref q7, .ref h0]) (ws := (((h0, .inr (8, [.ref (a2 0), .ref (a4 0), .ref (a6 0), .null, .null, .null, .null, .null, .null, .null, .int 0])) : Nat × va_E) :: (WS3))) (x := (q7, .inr (2, [.null, .null, .null, .null, .null, .null, .null, .null, .int 0, .int 0, .int 0, .int 0]))) (cX2_init_ok (l := l) (D := D) (t := t) (κ := κ)) trivial (fun _ _ _ h => h) ggX8_init_X2_init rfl ⟨rfl, rfl⟩ (hts _ lkX8_init_iiX2) (hC0.2.1.m 1 rfl) (hts _ lkX8_init_imX2) rfl hdX2_init ⟨Nat.le_of_ble_eq_true rfl, Nat.le_of_ble_eq_true rfl⟩ hP hD hS rfl hl.1 (Nat.le_of_ble_eq_true rfl) dX8_init_46 (Nat.le_of_ble_eq_true rfl) (Nat.le_of_ble_eq_true rfl) (fun H locs w1 po hPn7 hDn7 hSn7 => ?_)
  refine W.cs (cells' := 21) (slots' := 282) rfl rfl ?_
  obtain ⟨a8, ha8, rfl⟩ := po
  subst ha8
  have hP : va_P D vwCl (((h0, .inr (8, [.ref (a2 0), .ref (a4 0), .ref (a6 0), .null, .null, .null, .null, .null, .null, .null, .int 0])) : Nat × va_E) :: (WS3 ++ (wRoad t a8 zR))) H := hPn7
  have hD : va_D A (((h0, .inr (8, [.ref (a2 0), .ref (a4 0), .ref (a6 0), .null, .null, .null, .null, .null, .null, .null, .int 0])) : Nat × va_E) :: (WS3 ++ (wRoad t a8 zR))) := hDn7
  have hP := wp_perm (List.Perm.cons _ List.perm_append_comm) hP
  have hD := wd_perm (List.Perm.cons _ List.perm_append_comm) hD
  have hP : va_P D vwCl (((h0, .inr (8, [.ref (a2 0), .ref (a4 0), .ref (a6 0), .null, .null, .null, .null, .null, .null, .null, .int 0])) : Nat × va_E) :: ((wRoad t a8 zR) ++ WS3)) H := hP
  have hD : va_D A (((h0, .inr (8, [.ref (a2 0), .ref (a4 0), .ref (a6 0), .null, .null, .null, .null, .null, .null, .null, .int 0])) : Nat × va_E) :: ((wRoad t a8 zR) ++ WS3)) := hD
  have hS := hSn7
  generalize hW4 : (wRoad t a8 zR) ++ WS3 = WS4 at hP hD
  refine W.eq (g2 := F0 m 49 ls [.ref (a8 0), .ref h0]) rfl ?_
  refine va_putF (D := D) (ci := 8) (v := .ref (a8 0)) (ty := .object "CoachCourt$Road") (C := RX8) (T := TX8) (N := 11) hx hb hts iwX8_init_X8 tyX8 tyX8_ok nmX8 hown hK hP hD hS 0 rfl rfl 3 (by decide) (hts _ lkX8_init_f32) (fun _ h9 => h9) rfl hin rfl (by decide +kernel) rfl rfl (Nat.le_of_ble_eq_true rfl) dX8_init_49 (fun H locs hP hD hS => ?_)
  have hP : va_P D vwCl (((h0, .inr (8, [.ref (a2 0), .ref (a4 0), .ref (a6 0), .ref (a8 0), .null, .null, .null, .null, .null, .null, .int 0])) : Nat × va_E) :: (WS4)) H := hP
  have hD : va_D A (((h0, .inr (8, [.ref (a2 0), .ref (a4 0), .ref (a6 0), .ref (a8 0), .null, .null, .null, .null, .null, .null, .int 0])) : Nat × va_E) :: (WS4)) := hD
  refine lv_aload_n hx hb dX8_init_52 rfl (lv_at hl 0 rfl) ?_
  refine va_new (ci := 0) (fs := [.null, .null, .null, .null, .null, .int 0, .int 0]) (C := RX0) (T := TX0) (N := 7) hx hb hts iwX8_init_X0 tyX0 tyX0_ok hown (hts _ lkX8_init_cl35) (hts _ lkX8_init_inX0) (hts _ lkX8_init_iiX0) hK hP hD hS hA rfl (fun j hj => by rcases (show j = 0 ∨ j = 1 ∨ j = 2 ∨ j = 3 ∨ j = 4 ∨ j = 5 ∨ j = 6 by omega) with rfl | rfl | rfl | rfl | rfl | rfl | rfl <;> rfl) (Nat.le_of_ble_eq_true rfl) (Nat.le_of_ble_eq_true rfl) dX8_init_53 (fun q9 H hP hD hS => ?_)
  refine W.cs (cells' := 22) (slots' := 289) rfl rfl ?_
  have hP : va_P D vwCl (((h0, .inr (8, [.ref (a2 0), .ref (a4 0), .ref (a6 0), .ref (a8 0), .null, .null, .null, .null, .null, .null, .int 0])) : Nat × va_E) :: (WS4 ++ ([(q9, .inr (0, [.null, .null, .null, .null, .null, .int 0, .int 0]))] : va_W))) H := hP
  have hD : va_D A (((h0, .inr (8, [.ref (a2 0), .ref (a4 0), .ref (a6 0), .ref (a8 0), .null, .null, .null, .null, .null, .null, .int 0])) : Nat × va_E) :: (WS4 ++ ([(q9, .inr (0, [.null, .null, .null, .null, .null, .int 0, .int 0]))] : va_W))) := hD
  refine lv_dup hx hb dX8_init_56 rfl ?_
  refine gk_IN C (As := []) (rest := [.ref q9, .ref h0]) (ws := (((h0, .inr (8, [.ref (a2 0), .ref (a4 0), .ref (a6 0), .ref (a8 0), .null, .null, .null, .null, .null, .null, .int 0])) : Nat × va_E) :: (WS4))) (x := (q9, .inr (0, [.null, .null, .null, .null, .null, .int 0, .int 0]))) (cX0_init_ok (l := l) (D := D) (t := t) (κ := κ)) trivial (fun _ _ _ h => h) ggX8_init_X0_init rfl ⟨rfl, rfl⟩ (hts _ lkX8_init_iiX0) (hC0.2.1.m 2 rfl) (hts _ lkX8_init_imX0) rfl hdX0_init ⟨Nat.le_of_ble_eq_true rfl, Nat.le_of_ble_eq_true rfl⟩ hP hD hS rfl hl.1 (Nat.le_of_ble_eq_true rfl) dX8_init_57 (Nat.le_of_ble_eq_true rfl) (Nat.le_of_ble_eq_true rfl) (fun H locs w1 po hPn9 hDn9 hSn9 => ?_)
  refine W.cs (cells' := 27) (slots' := 313) rfl rfl ?_
  obtain ⟨a10, ha10, rfl⟩ := po
  subst ha10
  have hP : va_P D vwCl (((h0, .inr (8, [.ref (a2 0), .ref (a4 0), .ref (a6 0), .ref (a8 0), .null, .null, .null, .null, .null, .null, .int 0])) : Nat × va_E) :: (WS4 ++ (wDrive t a10 z0))) H := hPn9
  have hD : va_D A (((h0, .inr (8, [.ref (a2 0), .ref (a4 0), .ref (a6 0), .ref (a8 0), .null, .null, .null, .null, .null, .null, .int 0])) : Nat × va_E) :: (WS4 ++ (wDrive t a10 z0))) := hDn9
  have hP := wp_perm (List.Perm.cons _ List.perm_append_comm) hP
  have hD := wd_perm (List.Perm.cons _ List.perm_append_comm) hD
  have hP : va_P D vwCl (((h0, .inr (8, [.ref (a2 0), .ref (a4 0), .ref (a6 0), .ref (a8 0), .null, .null, .null, .null, .null, .null, .int 0])) : Nat × va_E) :: ((wDrive t a10 z0) ++ WS4)) H := hP
  have hD : va_D A (((h0, .inr (8, [.ref (a2 0), .ref (a4 0), .ref (a6 0), .ref (a8 0), .null, .null, .null, .null, .null, .null, .int 0])) : Nat × va_E) :: ((wDrive t a10 z0) ++ WS4)) := hD
  have hS := hSn9
  generalize hW5 : (wDrive t a10 z0) ++ WS4 = WS5 at hP hD
  refine W.eq (g2 := F0 m 60 ls [.ref (a10 0), .ref h0]) rfl ?_
  refine va_putF (D := D) (ci := 8) (v := .ref (a10 0)) (ty := .object "CoachCourt$Drive") (C := RX8) (T := TX8) (N := 11) hx hb hts iwX8_init_X8 tyX8 tyX8_ok nmX8 hown hK hP hD hS 0 rfl rfl 4 (by decide) (hts _ lkX8_init_f38) (fun _ h9 => h9) rfl hin rfl (by decide +kernel) rfl rfl (Nat.le_of_ble_eq_true rfl) dX8_init_60 (fun H locs hP hD hS => ?_)
  have hP : va_P D vwCl (((h0, .inr (8, [.ref (a2 0), .ref (a4 0), .ref (a6 0), .ref (a8 0), .ref (a10 0), .null, .null, .null, .null, .null, .int 0])) : Nat × va_E) :: (WS5)) H := hP
  have hD : va_D A (((h0, .inr (8, [.ref (a2 0), .ref (a4 0), .ref (a6 0), .ref (a8 0), .ref (a10 0), .null, .null, .null, .null, .null, .int 0])) : Nat × va_E) :: (WS5)) := hD
  refine lv_aload_n hx hb dX8_init_63 rfl (lv_at hl 0 rfl) ?_
  refine va_new (ci := 3) (fs := [.null, .null, .null, .null, .int 0]) (C := RX3) (T := TX3) (N := 5) hx hb hts iwX8_init_X3 tyX3 tyX3_ok hown (hts _ lkX8_init_cl42) (hts _ lkX8_init_inX3) (hts _ lkX8_init_iiX3) hK hP hD hS hA rfl (fun j hj => by rcases (show j = 0 ∨ j = 1 ∨ j = 2 ∨ j = 3 ∨ j = 4 by omega) with rfl | rfl | rfl | rfl | rfl <;> rfl) (Nat.le_of_ble_eq_true rfl) (Nat.le_of_ble_eq_true rfl) dX8_init_64 (fun q11 H hP hD hS => ?_)
  refine W.cs (cells' := 28) (slots' := 318) rfl rfl ?_
  have hP : va_P D vwCl (((h0, .inr (8, [.ref (a2 0), .ref (a4 0), .ref (a6 0), .ref (a8 0), .ref (a10 0), .null, .null, .null, .null, .null, .int 0])) : Nat × va_E) :: (WS5 ++ ([(q11, .inr (3, [.null, .null, .null, .null, .int 0]))] : va_W))) H := hP
  have hD : va_D A (((h0, .inr (8, [.ref (a2 0), .ref (a4 0), .ref (a6 0), .ref (a8 0), .ref (a10 0), .null, .null, .null, .null, .null, .int 0])) : Nat × va_E) :: (WS5 ++ ([(q11, .inr (3, [.null, .null, .null, .null, .int 0]))] : va_W))) := hD
  refine lv_dup hx hb dX8_init_67 rfl ?_
  refine lv_aload_n hx hb dX8_init_68 rfl (lv_at hl 0 rfl) ?_
  refine va_get (D := D) (ci := 8) (v := .ref (a8 0)) (C := RX8) (T := TX8) (N := 11) hx hb hts iwX8_init_X8 hown hK hP 0 rfl rfl 3 (by decide) (hts _ lkX8_init_f32) (fun _ h9 => h9) rfl dX8_init_69 ?_
  refine lv_aload_n hx hb dX8_init_72 rfl (lv_at hl 0 rfl) ?_
  refine va_get (D := D) (ci := 8) (v := .ref (a10 0)) (C := RX8) (T := TX8) (N := 11) hx hb hts iwX8_init_X8 hown hK hP 0 rfl rfl 4 (by decide) (hts _ lkX8_init_f38) (fun _ h9 => h9) rfl dX8_init_73 ?_
  refine gk_I C (As := [.ref (a8 0), .ref (a10 0)]) (rest := [.ref q11, .ref h0]) (ws := (((h0, .inr (8, [.ref (a2 0), .ref (a4 0), .ref (a6 0), .ref (a8 0), .ref (a10 0), .null, .null, .null, .null, .null, .int 0])) : Nat × va_E) :: (WS5))) (x := (q11, .inr (3, [.null, .null, .null, .null, .int 0]))) (cX3_init_ok (l := l) (D := D) (t := t) (κ := κ)) trivial (fun _ _ _ h => h) ggX8_init_X3_init rfl ⟨rfl, rfl⟩ (hts _ lkX8_init_iiX3) (hts _ lkX8_init_ml44) (hts _ lkX8_init_imX3) rfl hdX3_init ⟨Nat.le_of_ble_eq_true rfl, Nat.le_of_ble_eq_true rfl⟩ hP hD hS rfl hl.1 (Nat.le_of_ble_eq_true rfl) dX8_init_76 (Nat.le_of_ble_eq_true rfl) (Nat.le_of_ble_eq_true rfl) (fun H locs w1 po hPn11 hDn11 hSn11 => ?_)
  refine W.cs (cells' := 30) (slots' := 327) rfl rfl ?_
  obtain ⟨a12, ha12, rfl⟩ := po
  subst ha12
  have hP : va_P D vwCl (((h0, .inr (8, [.ref (a2 0), .ref (a4 0), .ref (a6 0), .ref (a8 0), .ref (a10 0), .null, .null, .null, .null, .null, .int 0])) : Nat × va_E) :: (WS5 ++ (wSeeker t a12 (a8 0) (a10 0) z0))) H := hPn11
  have hD : va_D A (((h0, .inr (8, [.ref (a2 0), .ref (a4 0), .ref (a6 0), .ref (a8 0), .ref (a10 0), .null, .null, .null, .null, .null, .int 0])) : Nat × va_E) :: (WS5 ++ (wSeeker t a12 (a8 0) (a10 0) z0))) := hDn11
  have hP := wp_perm (List.Perm.cons _ List.perm_append_comm) hP
  have hD := wd_perm (List.Perm.cons _ List.perm_append_comm) hD
  have hP : va_P D vwCl (((h0, .inr (8, [.ref (a2 0), .ref (a4 0), .ref (a6 0), .ref (a8 0), .ref (a10 0), .null, .null, .null, .null, .null, .int 0])) : Nat × va_E) :: ((wSeeker t a12 (a8 0) (a10 0) z0) ++ WS5)) H := hP
  have hD : va_D A (((h0, .inr (8, [.ref (a2 0), .ref (a4 0), .ref (a6 0), .ref (a8 0), .ref (a10 0), .null, .null, .null, .null, .null, .int 0])) : Nat × va_E) :: ((wSeeker t a12 (a8 0) (a10 0) z0) ++ WS5)) := hD
  have hS := hSn11
  generalize hW6 : (wSeeker t a12 (a8 0) (a10 0) z0) ++ WS5 = WS6 at hP hD
  refine W.eq (g2 := F0 m 79 ls [.ref (a12 0), .ref h0]) rfl ?_
  refine va_putF (D := D) (ci := 8) (v := .ref (a12 0)) (ty := .object "CoachCourt$Seeker") (C := RX8) (T := TX8) (N := 11) hx hb hts iwX8_init_X8 tyX8 tyX8_ok nmX8 hown hK hP hD hS 0 rfl rfl 5 (by decide) (hts _ lkX8_init_f47) (fun _ h9 => h9) rfl hin rfl (by decide +kernel) rfl rfl (Nat.le_of_ble_eq_true rfl) dX8_init_79 (fun H locs hP hD hS => ?_)
  have hP : va_P D vwCl (((h0, .inr (8, [.ref (a2 0), .ref (a4 0), .ref (a6 0), .ref (a8 0), .ref (a10 0), .ref (a12 0), .null, .null, .null, .null, .int 0])) : Nat × va_E) :: (WS6)) H := hP
  have hD : va_D A (((h0, .inr (8, [.ref (a2 0), .ref (a4 0), .ref (a6 0), .ref (a8 0), .ref (a10 0), .ref (a12 0), .null, .null, .null, .null, .int 0])) : Nat × va_E) :: (WS6)) := hD
  refine lv_aload_n hx hb dX8_init_82 rfl (lv_at hl 0 rfl) ?_
  refine va_new (ci := 5) (fs := [.null, .null, .int 0]) (C := RX5) (T := TX5) (N := 3) hx hb hts iwX8_init_X5 tyX5 tyX5_ok hown (hts _ lkX8_init_cl51) (hts _ lkX8_init_inX5) (hts _ lkX8_init_iiX5) hK hP hD hS hA rfl (fun j hj => by rcases (show j = 0 ∨ j = 1 ∨ j = 2 by omega) with rfl | rfl | rfl <;> rfl) (Nat.le_of_ble_eq_true rfl) (Nat.le_of_ble_eq_true rfl) dX8_init_83 (fun q13 H hP hD hS => ?_)
  refine W.cs (cells' := 31) (slots' := 330) rfl rfl ?_
  have hP : va_P D vwCl (((h0, .inr (8, [.ref (a2 0), .ref (a4 0), .ref (a6 0), .ref (a8 0), .ref (a10 0), .ref (a12 0), .null, .null, .null, .null, .int 0])) : Nat × va_E) :: (WS6 ++ ([(q13, .inr (5, [.null, .null, .int 0]))] : va_W))) H := hP
  have hD : va_D A (((h0, .inr (8, [.ref (a2 0), .ref (a4 0), .ref (a6 0), .ref (a8 0), .ref (a10 0), .ref (a12 0), .null, .null, .null, .null, .int 0])) : Nat × va_E) :: (WS6 ++ ([(q13, .inr (5, [.null, .null, .int 0]))] : va_W))) := hD
  refine lv_dup hx hb dX8_init_86 rfl ?_
  refine gk_IN C (As := []) (rest := [.ref q13, .ref h0]) (ws := (((h0, .inr (8, [.ref (a2 0), .ref (a4 0), .ref (a6 0), .ref (a8 0), .ref (a10 0), .ref (a12 0), .null, .null, .null, .null, .int 0])) : Nat × va_E) :: (WS6))) (x := (q13, .inr (5, [.null, .null, .int 0]))) (cX5_init_ok (l := l) (D := D) (t := t) (κ := κ)) trivial (fun _ _ _ h => h) ggX8_init_X5_init rfl ⟨rfl, rfl⟩ (hts _ lkX8_init_iiX5) (hC0.2.1.m 3 rfl) (hts _ lkX8_init_imX5) rfl hdX5_init ⟨Nat.le_of_ble_eq_true rfl, Nat.le_of_ble_eq_true rfl⟩ hP hD hS rfl hl.1 (Nat.le_of_ble_eq_true rfl) dX8_init_87 (Nat.le_of_ble_eq_true rfl) (Nat.le_of_ble_eq_true rfl) (fun H locs w1 po hPn13 hDn13 hSn13 => ?_)
  refine W.cs (cells' := 33) (slots' := 342) rfl rfl ?_
  obtain ⟨a14, ha14, rfl⟩ := po
  subst ha14
  have hP : va_P D vwCl (((h0, .inr (8, [.ref (a2 0), .ref (a4 0), .ref (a6 0), .ref (a8 0), .ref (a10 0), .ref (a12 0), .null, .null, .null, .null, .int 0])) : Nat × va_E) :: (WS6 ++ (wSight t a14 z0))) H := hPn13
  have hD : va_D A (((h0, .inr (8, [.ref (a2 0), .ref (a4 0), .ref (a6 0), .ref (a8 0), .ref (a10 0), .ref (a12 0), .null, .null, .null, .null, .int 0])) : Nat × va_E) :: (WS6 ++ (wSight t a14 z0))) := hDn13
  have hP := wp_perm (List.Perm.cons _ List.perm_append_comm) hP
  have hD := wd_perm (List.Perm.cons _ List.perm_append_comm) hD
  have hP : va_P D vwCl (((h0, .inr (8, [.ref (a2 0), .ref (a4 0), .ref (a6 0), .ref (a8 0), .ref (a10 0), .ref (a12 0), .null, .null, .null, .null, .int 0])) : Nat × va_E) :: ((wSight t a14 z0) ++ WS6)) H := hP
  have hD : va_D A (((h0, .inr (8, [.ref (a2 0), .ref (a4 0), .ref (a6 0), .ref (a8 0), .ref (a10 0), .ref (a12 0), .null, .null, .null, .null, .int 0])) : Nat × va_E) :: ((wSight t a14 z0) ++ WS6)) := hD
  have hS := hSn13
  generalize hW7 : (wSight t a14 z0) ++ WS6 = WS7 at hP hD
  refine W.eq (g2 := F0 m 90 ls [.ref (a14 0), .ref h0]) rfl ?_
  refine va_putF (D := D) (ci := 8) (v := .ref (a14 0)) (ty := .object "CoachCourt$Sightings") (C := RX8) (T := TX8) (N := 11) hx hb hts iwX8_init_X8 tyX8 tyX8_ok nmX8 hown hK hP hD hS 0 rfl rfl 6 (by decide) (hts _ lkX8_init_f54) (fun _ h9 => h9) rfl hin rfl (by decide +kernel) rfl rfl (Nat.le_of_ble_eq_true rfl) dX8_init_90 (fun H locs hP hD hS => ?_)
  have hP : va_P D vwCl (((h0, .inr (8, [.ref (a2 0), .ref (a4 0), .ref (a6 0), .ref (a8 0), .ref (a10 0), .ref (a12 0), .ref (a14 0), .null, .null, .null, .int 0])) : Nat × va_E) :: (WS7)) H := hP
  have hD : va_D A (((h0, .inr (8, [.ref (a2 0), .ref (a4 0), .ref (a6 0), .ref (a8 0), .ref (a10 0), .ref (a12 0), .ref (a14 0), .null, .null, .null, .int 0])) : Nat × va_E) :: (WS7)) := hD
  refine lv_aload_n hx hb dX8_init_93 rfl (lv_at hl 0 rfl) ?_
  refine lv_iconst (v := 2) hx hb dX8_init_94 (by decide) ?_
  refine g_newq (C0 := "CoachCourt$Image") (k := 3) (N := 2) C lkX8_init_cl58 hX.1 rfl hP hD hS (by decide) (by decide) (by decide) (Nat.le_of_ble_eq_true rfl) (Nat.le_of_ble_eq_true rfl) dX8_init_95 (fun q15 H hP hD hS => ?_)
  refine W.cs (cells' := 34) (slots' := 344) rfl rfl ?_
  have hP : va_P D vwCl (((h0, .inr (8, [.ref (a2 0), .ref (a4 0), .ref (a6 0), .ref (a8 0), .ref (a10 0), .ref (a12 0), .ref (a14 0), .null, .null, .null, .int 0])) : Nat × va_E) :: (WS7 ++ ([(q15, .inl (t 3, 2, .inr (.inr (.inr (.inr (fun _ => none))))))] : va_W))) H := hP
  have hD : va_D A (((h0, .inr (8, [.ref (a2 0), .ref (a4 0), .ref (a6 0), .ref (a8 0), .ref (a10 0), .ref (a12 0), .ref (a14 0), .null, .null, .null, .int 0])) : Nat × va_E) :: (WS7 ++ ([(q15, .inl (t 3, 2, .inr (.inr (.inr (.inr (fun _ => none))))))] : va_W))) := hD
  have hP := wp_perm (List.Perm.cons _ List.perm_append_comm) hP
  have hD := wd_perm (List.Perm.cons _ List.perm_append_comm) hD
  have hP : va_P D vwCl (((h0, .inr (8, [.ref (a2 0), .ref (a4 0), .ref (a6 0), .ref (a8 0), .ref (a10 0), .ref (a12 0), .ref (a14 0), .null, .null, .null, .int 0])) : Nat × va_E) :: ((q15, .inl (t 3, 2, .inr (.inr (.inr (.inr (fun _ => none)))))) : Nat × va_E) :: (WS7)) H := hP
  have hD : va_D A (((h0, .inr (8, [.ref (a2 0), .ref (a4 0), .ref (a6 0), .ref (a8 0), .ref (a10 0), .ref (a12 0), .ref (a14 0), .null, .null, .null, .int 0])) : Nat × va_E) :: ((q15, .inl (t 3, 2, .inr (.inr (.inr (.inr (fun _ => none)))))) : Nat × va_E) :: (WS7)) := hD
  refine va_putF (D := D) (ci := 8) (v := .ref q15) (ty := .array (.object "CoachCourt$Image")) (C := RX8) (T := TX8) (N := 11) hx hb hts iwX8_init_X8 tyX8 tyX8_ok nmX8 hown hK hP hD hS 0 rfl rfl 7 (by decide) (hts _ lkX8_init_f60) (fun _ h9 => h9) rfl hin rfl (by decide +kernel) rfl rfl (Nat.le_of_ble_eq_true rfl) dX8_init_98 (fun H locs hP hD hS => ?_)
  have hP : va_P D vwCl (((h0, .inr (8, [.ref (a2 0), .ref (a4 0), .ref (a6 0), .ref (a8 0), .ref (a10 0), .ref (a12 0), .ref (a14 0), .ref q15, .null, .null, .int 0])) : Nat × va_E) :: ((q15, .inl (t 3, 2, .inr (.inr (.inr (.inr (fun _ => none)))))) : Nat × va_E) :: (WS7)) H := hP
  have hD : va_D A (((h0, .inr (8, [.ref (a2 0), .ref (a4 0), .ref (a6 0), .ref (a8 0), .ref (a10 0), .ref (a12 0), .ref (a14 0), .ref q15, .null, .null, .int 0])) : Nat × va_E) :: ((q15, .inl (t 3, 2, .inr (.inr (.inr (.inr (fun _ => none)))))) : Nat × va_E) :: (WS7)) := hD
  refine lv_iconst (v := 0) hx hb dX8_init_101 (by decide) ?_
  refine lv_istore_n (lv' := [(1, .int 0), (0, .ref h0)]) hx hb dX8_init_102 rfl hl (by decide) rfl (fun ls hl => ?_)
  refine lv_iload_n hx hb dX8_init_103 rfl (lv_at hl 0 rfl) ?_
  refine lv_iconst (v := 2) hx hb dX8_init_104 (by decide) ?_
  refine lv_icmp_ge (tgt := 127) hx hb dX8_init_105 (by decide) (fun c1 => absurd c1 (by decide)) (fun c1 => ?_)
  refine lv_aload_n hx hb dX8_init_108 rfl (lv_at hl 1 rfl) ?_
  refine va_get (D := D) (ci := 8) (v := .ref q15) (C := RX8) (T := TX8) (N := 11) hx hb hts iwX8_init_X8 hown hK hP 0 rfl rfl 7 (by decide) (hts _ lkX8_init_f60) (fun _ h9 => h9) rfl dX8_init_109 ?_
  refine lv_iload_n hx hb dX8_init_112 rfl (lv_at hl 0 rfl) ?_
  refine va_new (ci := 1) (fs := [.null, .null, .int 0]) (C := RX1) (T := TX1) (N := 3) hx hb hts iwX8_init_X1 tyX1 tyX1_ok hown (hts _ lkX8_init_cl58) (hts _ lkX8_init_inX1) (hts _ lkX8_init_iiX1) hK hP hD hS hA rfl (fun j hj => by rcases (show j = 0 ∨ j = 1 ∨ j = 2 by omega) with rfl | rfl | rfl <;> rfl) (Nat.le_of_ble_eq_true rfl) (Nat.le_of_ble_eq_true rfl) dX8_init_113 (fun q16 H hP hD hS => ?_)
  refine W.cs (cells' := 35) (slots' := 347) rfl rfl ?_
  have hP : va_P D vwCl (((h0, .inr (8, [.ref (a2 0), .ref (a4 0), .ref (a6 0), .ref (a8 0), .ref (a10 0), .ref (a12 0), .ref (a14 0), .ref q15, .null, .null, .int 0])) : Nat × va_E) :: ((q15, .inl (t 3, 2, .inr (.inr (.inr (.inr (fun _ => none)))))) : Nat × va_E) :: (WS7 ++ ([(q16, .inr (1, [.null, .null, .int 0]))] : va_W))) H := hP
  have hD : va_D A (((h0, .inr (8, [.ref (a2 0), .ref (a4 0), .ref (a6 0), .ref (a8 0), .ref (a10 0), .ref (a12 0), .ref (a14 0), .ref q15, .null, .null, .int 0])) : Nat × va_E) :: ((q15, .inl (t 3, 2, .inr (.inr (.inr (.inr (fun _ => none)))))) : Nat × va_E) :: (WS7 ++ ([(q16, .inr (1, [.null, .null, .int 0]))] : va_W))) := hD
  refine lv_dup hx hb dX8_init_116 rfl ?_
  refine gk_IN C (As := []) (rest := [.ref q16, .int 0, .ref q15]) (ws := (((h0, .inr (8, [.ref (a2 0), .ref (a4 0), .ref (a6 0), .ref (a8 0), .ref (a10 0), .ref (a12 0), .ref (a14 0), .ref q15, .null, .null, .int 0])) : Nat × va_E) :: ((q15, .inl (t 3, 2, .inr (.inr (.inr (.inr (fun _ => none)))))) : Nat × va_E) :: (WS7))) (x := (q16, .inr (1, [.null, .null, .int 0]))) (cX1_init_ok (l := l) (D := D) (t := t) (κ := κ)) trivial (fun _ _ _ h => h) ggX8_init_X1_init rfl ⟨rfl, rfl⟩ (hts _ lkX8_init_iiX1) (hC0.2.1.m 4 rfl) (hts _ lkX8_init_imX1) rfl hdX1_init ⟨Nat.le_of_ble_eq_true rfl, Nat.le_of_ble_eq_true rfl⟩ hP hD hS rfl hl.1 (Nat.le_of_ble_eq_true rfl) dX8_init_117 (Nat.le_of_ble_eq_true rfl) (Nat.le_of_ble_eq_true rfl) (fun H locs w1 po hPn16 hDn16 hSn16 => ?_)
  refine W.cs (cells' := 47) (slots' := 418) rfl rfl ?_
  obtain ⟨a17, a18, a19, ha17, rfl⟩ := po
  subst ha17
  have hP : va_P D vwCl (((h0, .inr (8, [.ref (a2 0), .ref (a4 0), .ref (a6 0), .ref (a8 0), .ref (a10 0), .ref (a12 0), .ref (a14 0), .ref q15, .null, .null, .int 0])) : Nat × va_E) :: ((q15, .inl (t 3, 2, .inr (.inr (.inr (.inr (fun _ => none)))))) : Nat × va_E) :: (WS7 ++ (wImage t a17 (a18 0) (a19 0) z0 ++ wRoad t a18 zR ++ wSight t a19 z0))) H := hPn16
  have hD : va_D A (((h0, .inr (8, [.ref (a2 0), .ref (a4 0), .ref (a6 0), .ref (a8 0), .ref (a10 0), .ref (a12 0), .ref (a14 0), .ref q15, .null, .null, .int 0])) : Nat × va_E) :: ((q15, .inl (t 3, 2, .inr (.inr (.inr (.inr (fun _ => none)))))) : Nat × va_E) :: (WS7 ++ (wImage t a17 (a18 0) (a19 0) z0 ++ wRoad t a18 zR ++ wSight t a19 z0))) := hDn16
  have hP := wp_perm (List.Perm.cons _ (List.Perm.cons _ List.perm_append_comm)) hP
  have hD := wd_perm (List.Perm.cons _ (List.Perm.cons _ List.perm_append_comm)) hD
  have hP : va_P D vwCl (((h0, .inr (8, [.ref (a2 0), .ref (a4 0), .ref (a6 0), .ref (a8 0), .ref (a10 0), .ref (a12 0), .ref (a14 0), .ref q15, .null, .null, .int 0])) : Nat × va_E) :: ((q15, .inl (t 3, 2, .inr (.inr (.inr (.inr (fun _ => none)))))) : Nat × va_E) :: ((wImage t a17 (a18 0) (a19 0) z0 ++ wRoad t a18 zR ++ wSight t a19 z0) ++ WS7)) H := hP
  have hD : va_D A (((h0, .inr (8, [.ref (a2 0), .ref (a4 0), .ref (a6 0), .ref (a8 0), .ref (a10 0), .ref (a12 0), .ref (a14 0), .ref q15, .null, .null, .int 0])) : Nat × va_E) :: ((q15, .inl (t 3, 2, .inr (.inr (.inr (.inr (fun _ => none)))))) : Nat × va_E) :: ((wImage t a17 (a18 0) (a19 0) z0 ++ wRoad t a18 zR ++ wSight t a19 z0) ++ WS7)) := hD
  have hS := hSn16
  refine W.eq (g2 := F0 m 120 ls [.ref (a17 0), .int 0, .ref q15]) rfl ?_
  refine va_astq hx hb hK hP hD hS 1 3 2 1 rfl rfl rfl rfl (ixb_in (by decide)) dX8_init_120 (fun H locs hP hD hS => ?_)
  have hP : va_P D vwCl (((h0, .inr (8, [.ref (a2 0), .ref (a4 0), .ref (a6 0), .ref (a8 0), .ref (a10 0), .ref (a12 0), .ref (a14 0), .ref q15, .null, .null, .int 0])) : Nat × va_E) :: ((q15, .inl (t 3, 2, .inr (.inr (.inr (.inr (va_up (fun _ => none) (Int32.toNatClampNeg 0) (some (a17 0)))))))) : Nat × va_E) :: ((wImage t a17 (a18 0) (a19 0) z0 ++ wRoad t a18 zR ++ wSight t a19 z0) ++ WS7)) H := hP
  have hD : va_D A (((h0, .inr (8, [.ref (a2 0), .ref (a4 0), .ref (a6 0), .ref (a8 0), .ref (a10 0), .ref (a12 0), .ref (a14 0), .ref q15, .null, .null, .int 0])) : Nat × va_E) :: ((q15, .inl (t 3, 2, .inr (.inr (.inr (.inr (va_up (fun _ => none) (Int32.toNatClampNeg 0) (some (a17 0)))))))) : Nat × va_E) :: ((wImage t a17 (a18 0) (a19 0) z0 ++ wRoad t a18 zR ++ wSight t a19 z0) ++ WS7)) := hD
  generalize hW8 : (wImage t a17 (a18 0) (a19 0) z0 ++ wRoad t a18 zR ++ wSight t a19 z0) ++ WS7 = WS8 at hP hD
  refine lv_iinc (v := 1) (lv' := [(1, .int 1), (0, .ref h0)]) hx hb dX8_init_121 hl (k := 0) rfl (by decide) (by decide) rfl (fun ls hl => ?_)
  refine lv_goto (tgt := 103) hx hb dX8_init_124 (by decide) ?_
  refine lv_iload_n hx hb dX8_init_103 rfl (lv_at hl 0 rfl) ?_
  refine lv_iconst (v := 2) hx hb dX8_init_104 (by decide) ?_
  refine lv_icmp_ge (tgt := 127) hx hb dX8_init_105 (by decide) (fun c1 => absurd c1 (by decide)) (fun c1 => ?_)
  refine lv_aload_n hx hb dX8_init_108 rfl (lv_at hl 1 rfl) ?_
  refine va_get (D := D) (ci := 8) (v := .ref q15) (C := RX8) (T := TX8) (N := 11) hx hb hts iwX8_init_X8 hown hK hP 0 rfl rfl 7 (by decide) (hts _ lkX8_init_f60) (fun _ h9 => h9) rfl dX8_init_109 ?_
  refine lv_iload_n hx hb dX8_init_112 rfl (lv_at hl 0 rfl) ?_
  refine va_new (ci := 1) (fs := [.null, .null, .int 0]) (C := RX1) (T := TX1) (N := 3) hx hb hts iwX8_init_X1 tyX1 tyX1_ok hown (hts _ lkX8_init_cl58) (hts _ lkX8_init_inX1) (hts _ lkX8_init_iiX1) hK hP hD hS hA rfl (fun j hj => by rcases (show j = 0 ∨ j = 1 ∨ j = 2 by omega) with rfl | rfl | rfl <;> rfl) (Nat.le_of_ble_eq_true rfl) (Nat.le_of_ble_eq_true rfl) dX8_init_113 (fun q20 H hP hD hS => ?_)
  refine W.cs (cells' := 48) (slots' := 421) rfl rfl ?_
  have hP : va_P D vwCl (((h0, .inr (8, [.ref (a2 0), .ref (a4 0), .ref (a6 0), .ref (a8 0), .ref (a10 0), .ref (a12 0), .ref (a14 0), .ref q15, .null, .null, .int 0])) : Nat × va_E) :: ((q15, .inl (t 3, 2, .inr (.inr (.inr (.inr (va_up (fun _ => none) (Int32.toNatClampNeg 0) (some (a17 0)))))))) : Nat × va_E) :: (WS8 ++ ([(q20, .inr (1, [.null, .null, .int 0]))] : va_W))) H := hP
  have hD : va_D A (((h0, .inr (8, [.ref (a2 0), .ref (a4 0), .ref (a6 0), .ref (a8 0), .ref (a10 0), .ref (a12 0), .ref (a14 0), .ref q15, .null, .null, .int 0])) : Nat × va_E) :: ((q15, .inl (t 3, 2, .inr (.inr (.inr (.inr (va_up (fun _ => none) (Int32.toNatClampNeg 0) (some (a17 0)))))))) : Nat × va_E) :: (WS8 ++ ([(q20, .inr (1, [.null, .null, .int 0]))] : va_W))) := hD
  refine lv_dup hx hb dX8_init_116 rfl ?_
  refine gk_IN C (As := []) (rest := [.ref q20, .int 1, .ref q15]) (ws := (((h0, .inr (8, [.ref (a2 0), .ref (a4 0), .ref (a6 0), .ref (a8 0), .ref (a10 0), .ref (a12 0), .ref (a14 0), .ref q15, .null, .null, .int 0])) : Nat × va_E) :: ((q15, .inl (t 3, 2, .inr (.inr (.inr (.inr (va_up (fun _ => none) (Int32.toNatClampNeg 0) (some (a17 0)))))))) : Nat × va_E) :: (WS8))) (x := (q20, .inr (1, [.null, .null, .int 0]))) (cX1_init_ok (l := l) (D := D) (t := t) (κ := κ)) trivial (fun _ _ _ h => h) ggX8_init_X1_init rfl ⟨rfl, rfl⟩ (hts _ lkX8_init_iiX1) (hC0.2.1.m 4 rfl) (hts _ lkX8_init_imX1) rfl hdX1_init ⟨Nat.le_of_ble_eq_true rfl, Nat.le_of_ble_eq_true rfl⟩ hP hD hS rfl hl.1 (Nat.le_of_ble_eq_true rfl) dX8_init_117 (Nat.le_of_ble_eq_true rfl) (Nat.le_of_ble_eq_true rfl) (fun H locs w1 po hPn20 hDn20 hSn20 => ?_)
  refine W.cs (cells' := 60) (slots' := 492) rfl rfl ?_
  obtain ⟨a21, a22, a23, ha21, rfl⟩ := po
  subst ha21
  have hP : va_P D vwCl (((h0, .inr (8, [.ref (a2 0), .ref (a4 0), .ref (a6 0), .ref (a8 0), .ref (a10 0), .ref (a12 0), .ref (a14 0), .ref q15, .null, .null, .int 0])) : Nat × va_E) :: ((q15, .inl (t 3, 2, .inr (.inr (.inr (.inr (va_up (fun _ => none) (Int32.toNatClampNeg 0) (some (a17 0)))))))) : Nat × va_E) :: (WS8 ++ (wImage t a21 (a22 0) (a23 0) z0 ++ wRoad t a22 zR ++ wSight t a23 z0))) H := hPn20
  have hD : va_D A (((h0, .inr (8, [.ref (a2 0), .ref (a4 0), .ref (a6 0), .ref (a8 0), .ref (a10 0), .ref (a12 0), .ref (a14 0), .ref q15, .null, .null, .int 0])) : Nat × va_E) :: ((q15, .inl (t 3, 2, .inr (.inr (.inr (.inr (va_up (fun _ => none) (Int32.toNatClampNeg 0) (some (a17 0)))))))) : Nat × va_E) :: (WS8 ++ (wImage t a21 (a22 0) (a23 0) z0 ++ wRoad t a22 zR ++ wSight t a23 z0))) := hDn20
  have hP := wp_perm (List.Perm.cons _ (List.Perm.cons _ List.perm_append_comm)) hP
  have hD := wd_perm (List.Perm.cons _ (List.Perm.cons _ List.perm_append_comm)) hD
  have hP : va_P D vwCl (((h0, .inr (8, [.ref (a2 0), .ref (a4 0), .ref (a6 0), .ref (a8 0), .ref (a10 0), .ref (a12 0), .ref (a14 0), .ref q15, .null, .null, .int 0])) : Nat × va_E) :: ((q15, .inl (t 3, 2, .inr (.inr (.inr (.inr (va_up (fun _ => none) (Int32.toNatClampNeg 0) (some (a17 0)))))))) : Nat × va_E) :: ((wImage t a21 (a22 0) (a23 0) z0 ++ wRoad t a22 zR ++ wSight t a23 z0) ++ WS8)) H := hP
  have hD : va_D A (((h0, .inr (8, [.ref (a2 0), .ref (a4 0), .ref (a6 0), .ref (a8 0), .ref (a10 0), .ref (a12 0), .ref (a14 0), .ref q15, .null, .null, .int 0])) : Nat × va_E) :: ((q15, .inl (t 3, 2, .inr (.inr (.inr (.inr (va_up (fun _ => none) (Int32.toNatClampNeg 0) (some (a17 0)))))))) : Nat × va_E) :: ((wImage t a21 (a22 0) (a23 0) z0 ++ wRoad t a22 zR ++ wSight t a23 z0) ++ WS8)) := hD
  have hS := hSn20
  refine W.eq (g2 := F0 m 120 ls [.ref (a21 0), .int 1, .ref q15]) rfl ?_
  refine va_astq hx hb hK hP hD hS 1 3 2 1 rfl rfl rfl rfl (ixb_in (by decide)) dX8_init_120 (fun H locs hP hD hS => ?_)
  have hP : va_P D vwCl (((h0, .inr (8, [.ref (a2 0), .ref (a4 0), .ref (a6 0), .ref (a8 0), .ref (a10 0), .ref (a12 0), .ref (a14 0), .ref q15, .null, .null, .int 0])) : Nat × va_E) :: ((q15, .inl (t 3, 2, .inr (.inr (.inr (.inr (va_up (va_up (fun _ => none) (Int32.toNatClampNeg 0) (some (a17 0))) (Int32.toNatClampNeg 1) (some (a21 0)))))))) : Nat × va_E) :: ((wImage t a21 (a22 0) (a23 0) z0 ++ wRoad t a22 zR ++ wSight t a23 z0) ++ WS8)) H := hP
  have hD : va_D A (((h0, .inr (8, [.ref (a2 0), .ref (a4 0), .ref (a6 0), .ref (a8 0), .ref (a10 0), .ref (a12 0), .ref (a14 0), .ref q15, .null, .null, .int 0])) : Nat × va_E) :: ((q15, .inl (t 3, 2, .inr (.inr (.inr (.inr (va_up (va_up (fun _ => none) (Int32.toNatClampNeg 0) (some (a17 0))) (Int32.toNatClampNeg 1) (some (a21 0)))))))) : Nat × va_E) :: ((wImage t a21 (a22 0) (a23 0) z0 ++ wRoad t a22 zR ++ wSight t a23 z0) ++ WS8)) := hD
  generalize hW9 : (wImage t a21 (a22 0) (a23 0) z0 ++ wRoad t a22 zR ++ wSight t a23 z0) ++ WS8 = WS9 at hP hD
  generalize hW10 : ((q15, .inl (t 3, 2, .inr (.inr (.inr (.inr (va_up (va_up (fun _ => none) (Int32.toNatClampNeg 0) (some (a17 0))) (Int32.toNatClampNeg 1) (some (a21 0)))))))) : Nat × va_E) :: WS9 = WS10 at hP hD
  refine lv_iinc (v := 2) (lv' := [(1, .int 2), (0, .ref h0)]) hx hb dX8_init_121 hl (k := 0) rfl (by decide) (by decide) rfl (fun ls hl => ?_)
  refine lv_goto (tgt := 103) hx hb dX8_init_124 (by decide) ?_
  refine lv_iload_n hx hb dX8_init_103 rfl (lv_at hl 0 rfl) ?_
  refine lv_iconst (v := 2) hx hb dX8_init_104 (by decide) ?_
  refine lv_icmp_ge (tgt := 127) hx hb dX8_init_105 (by decide) (fun c1 => ?_) (fun c1 => absurd (by decide) c1)
  refine lv_aload_n hx hb dX8_init_127 rfl (lv_at hl 1 rfl) ?_
  refine lv_iconst (v := 4) hx hb dX8_init_128 (by decide) ?_
  refine g_newq (C0 := "CoachCourt$Sheet") (k := 4) (N := 4) C lkX8_init_cl65 hX.2 rfl hP hD hS (by decide) (by decide) (by decide) (Nat.le_of_ble_eq_true rfl) (Nat.le_of_ble_eq_true rfl) dX8_init_129 (fun q24 H hP hD hS => ?_)
  refine W.cs (cells' := 61) (slots' := 496) rfl rfl ?_
  have hP : va_P D vwCl (((h0, .inr (8, [.ref (a2 0), .ref (a4 0), .ref (a6 0), .ref (a8 0), .ref (a10 0), .ref (a12 0), .ref (a14 0), .ref q15, .null, .null, .int 0])) : Nat × va_E) :: (WS10 ++ ([(q24, .inl (t 4, 4, .inr (.inr (.inr (.inr (fun _ => none))))))] : va_W))) H := hP
  have hD : va_D A (((h0, .inr (8, [.ref (a2 0), .ref (a4 0), .ref (a6 0), .ref (a8 0), .ref (a10 0), .ref (a12 0), .ref (a14 0), .ref q15, .null, .null, .int 0])) : Nat × va_E) :: (WS10 ++ ([(q24, .inl (t 4, 4, .inr (.inr (.inr (.inr (fun _ => none))))))] : va_W))) := hD
  have hP := wp_perm (List.Perm.cons _ List.perm_append_comm) hP
  have hD := wd_perm (List.Perm.cons _ List.perm_append_comm) hD
  have hP : va_P D vwCl (((h0, .inr (8, [.ref (a2 0), .ref (a4 0), .ref (a6 0), .ref (a8 0), .ref (a10 0), .ref (a12 0), .ref (a14 0), .ref q15, .null, .null, .int 0])) : Nat × va_E) :: ((q24, .inl (t 4, 4, .inr (.inr (.inr (.inr (fun _ => none)))))) : Nat × va_E) :: (WS10)) H := hP
  have hD : va_D A (((h0, .inr (8, [.ref (a2 0), .ref (a4 0), .ref (a6 0), .ref (a8 0), .ref (a10 0), .ref (a12 0), .ref (a14 0), .ref q15, .null, .null, .int 0])) : Nat × va_E) :: ((q24, .inl (t 4, 4, .inr (.inr (.inr (.inr (fun _ => none)))))) : Nat × va_E) :: (WS10)) := hD
  refine va_putF (D := D) (ci := 8) (v := .ref q24) (ty := .array (.object "CoachCourt$Sheet")) (C := RX8) (T := TX8) (N := 11) hx hb hts iwX8_init_X8 tyX8 tyX8_ok nmX8 hown hK hP hD hS 0 rfl rfl 8 (by decide) (hts _ lkX8_init_f67) (fun _ h9 => h9) rfl hin rfl (by decide +kernel) rfl rfl (Nat.le_of_ble_eq_true rfl) dX8_init_132 (fun H locs hP hD hS => ?_)
  have hP : va_P D vwCl (((h0, .inr (8, [.ref (a2 0), .ref (a4 0), .ref (a6 0), .ref (a8 0), .ref (a10 0), .ref (a12 0), .ref (a14 0), .ref q15, .ref q24, .null, .int 0])) : Nat × va_E) :: ((q24, .inl (t 4, 4, .inr (.inr (.inr (.inr (fun _ => none)))))) : Nat × va_E) :: (WS10)) H := hP
  have hD : va_D A (((h0, .inr (8, [.ref (a2 0), .ref (a4 0), .ref (a6 0), .ref (a8 0), .ref (a10 0), .ref (a12 0), .ref (a14 0), .ref q15, .ref q24, .null, .int 0])) : Nat × va_E) :: ((q24, .inl (t 4, 4, .inr (.inr (.inr (.inr (fun _ => none)))))) : Nat × va_E) :: (WS10)) := hD
  refine lv_iconst (v := 0) hx hb dX8_init_135 (by decide) ?_
  refine lv_istore_n (lv' := [(1, .int 0), (0, .ref h0)]) hx hb dX8_init_136 rfl hl (by decide) rfl (fun ls hl => ?_)
  refine lv_iload_n hx hb dX8_init_137 rfl (lv_at hl 0 rfl) ?_
  refine lv_iconst (v := 4) hx hb dX8_init_138 (by decide) ?_
  refine lv_icmp_ge (tgt := 161) hx hb dX8_init_139 (by decide) (fun c1 => absurd c1 (by decide)) (fun c1 => ?_)
  refine lv_aload_n hx hb dX8_init_142 rfl (lv_at hl 1 rfl) ?_
  refine va_get (D := D) (ci := 8) (v := .ref q24) (C := RX8) (T := TX8) (N := 11) hx hb hts iwX8_init_X8 hown hK hP 0 rfl rfl 8 (by decide) (hts _ lkX8_init_f67) (fun _ h9 => h9) rfl dX8_init_143 ?_
  refine lv_iload_n hx hb dX8_init_146 rfl (lv_at hl 0 rfl) ?_
  refine va_new (ci := 4) (fs := [.null, .int 0, .int 0, .int 0]) (C := RX4) (T := TX4) (N := 4) hx hb hts iwX8_init_X4 tyX4 tyX4_ok hown (hts _ lkX8_init_cl65) (hts _ lkX8_init_inX4) (hts _ lkX8_init_iiX4) hK hP hD hS hA rfl (fun j hj => by rcases (show j = 0 ∨ j = 1 ∨ j = 2 ∨ j = 3 by omega) with rfl | rfl | rfl | rfl <;> rfl) (Nat.le_of_ble_eq_true rfl) (Nat.le_of_ble_eq_true rfl) dX8_init_147 (fun q25 H hP hD hS => ?_)
  refine W.cs (cells' := 62) (slots' := 500) rfl rfl ?_
  have hP : va_P D vwCl (((h0, .inr (8, [.ref (a2 0), .ref (a4 0), .ref (a6 0), .ref (a8 0), .ref (a10 0), .ref (a12 0), .ref (a14 0), .ref q15, .ref q24, .null, .int 0])) : Nat × va_E) :: ((q24, .inl (t 4, 4, .inr (.inr (.inr (.inr (fun _ => none)))))) : Nat × va_E) :: (WS10 ++ ([(q25, .inr (4, [.null, .int 0, .int 0, .int 0]))] : va_W))) H := hP
  have hD : va_D A (((h0, .inr (8, [.ref (a2 0), .ref (a4 0), .ref (a6 0), .ref (a8 0), .ref (a10 0), .ref (a12 0), .ref (a14 0), .ref q15, .ref q24, .null, .int 0])) : Nat × va_E) :: ((q24, .inl (t 4, 4, .inr (.inr (.inr (.inr (fun _ => none)))))) : Nat × va_E) :: (WS10 ++ ([(q25, .inr (4, [.null, .int 0, .int 0, .int 0]))] : va_W))) := hD
  refine lv_dup hx hb dX8_init_150 rfl ?_
  refine gk_IN C (As := []) (rest := [.ref q25, .int 0, .ref q24]) (ws := (((h0, .inr (8, [.ref (a2 0), .ref (a4 0), .ref (a6 0), .ref (a8 0), .ref (a10 0), .ref (a12 0), .ref (a14 0), .ref q15, .ref q24, .null, .int 0])) : Nat × va_E) :: ((q24, .inl (t 4, 4, .inr (.inr (.inr (.inr (fun _ => none)))))) : Nat × va_E) :: (WS10))) (x := (q25, .inr (4, [.null, .int 0, .int 0, .int 0]))) (cX4_init_ok (l := l) (D := D) (t := t) (κ := κ)) trivial (fun _ _ _ h => h) ggX8_init_X4_init rfl ⟨rfl, rfl⟩ (hts _ lkX8_init_iiX4) (hC0.2.1.m 7 rfl) (hts _ lkX8_init_imX4) rfl hdX4_init ⟨Nat.le_of_ble_eq_true rfl, Nat.le_of_ble_eq_true rfl⟩ hP hD hS rfl hl.1 (Nat.le_of_ble_eq_true rfl) dX8_init_151 (Nat.le_of_ble_eq_true rfl) (Nat.le_of_ble_eq_true rfl) (fun H locs w1 po hPn25 hDn25 hSn25 => ?_)
  refine W.cs (cells' := 63) (slots' := 540) rfl rfl ?_
  obtain ⟨a26, ha26, rfl⟩ := po
  subst ha26
  have hP : va_P D vwCl (((h0, .inr (8, [.ref (a2 0), .ref (a4 0), .ref (a6 0), .ref (a8 0), .ref (a10 0), .ref (a12 0), .ref (a14 0), .ref q15, .ref q24, .null, .int 0])) : Nat × va_E) :: ((q24, .inl (t 4, 4, .inr (.inr (.inr (.inr (fun _ => none)))))) : Nat × va_E) :: (WS10 ++ (wSheet t a26 z0))) H := hPn25
  have hD : va_D A (((h0, .inr (8, [.ref (a2 0), .ref (a4 0), .ref (a6 0), .ref (a8 0), .ref (a10 0), .ref (a12 0), .ref (a14 0), .ref q15, .ref q24, .null, .int 0])) : Nat × va_E) :: ((q24, .inl (t 4, 4, .inr (.inr (.inr (.inr (fun _ => none)))))) : Nat × va_E) :: (WS10 ++ (wSheet t a26 z0))) := hDn25
  have hP := wp_perm (List.Perm.cons _ (List.Perm.cons _ List.perm_append_comm)) hP
  have hD := wd_perm (List.Perm.cons _ (List.Perm.cons _ List.perm_append_comm)) hD
  have hP : va_P D vwCl (((h0, .inr (8, [.ref (a2 0), .ref (a4 0), .ref (a6 0), .ref (a8 0), .ref (a10 0), .ref (a12 0), .ref (a14 0), .ref q15, .ref q24, .null, .int 0])) : Nat × va_E) :: ((q24, .inl (t 4, 4, .inr (.inr (.inr (.inr (fun _ => none)))))) : Nat × va_E) :: ((wSheet t a26 z0) ++ WS10)) H := hP
  have hD : va_D A (((h0, .inr (8, [.ref (a2 0), .ref (a4 0), .ref (a6 0), .ref (a8 0), .ref (a10 0), .ref (a12 0), .ref (a14 0), .ref q15, .ref q24, .null, .int 0])) : Nat × va_E) :: ((q24, .inl (t 4, 4, .inr (.inr (.inr (.inr (fun _ => none)))))) : Nat × va_E) :: ((wSheet t a26 z0) ++ WS10)) := hD
  have hS := hSn25
  refine W.eq (g2 := F0 m 154 ls [.ref (a26 0), .int 0, .ref q24]) rfl ?_
  refine va_astq hx hb hK hP hD hS 1 4 2 4 rfl rfl rfl rfl (ixb_in (by decide)) dX8_init_154 (fun H locs hP hD hS => ?_)
  have hP : va_P D vwCl (((h0, .inr (8, [.ref (a2 0), .ref (a4 0), .ref (a6 0), .ref (a8 0), .ref (a10 0), .ref (a12 0), .ref (a14 0), .ref q15, .ref q24, .null, .int 0])) : Nat × va_E) :: ((q24, .inl (t 4, 4, .inr (.inr (.inr (.inr (va_up (fun _ => none) (Int32.toNatClampNeg 0) (some (a26 0)))))))) : Nat × va_E) :: ((wSheet t a26 z0) ++ WS10)) H := hP
  have hD : va_D A (((h0, .inr (8, [.ref (a2 0), .ref (a4 0), .ref (a6 0), .ref (a8 0), .ref (a10 0), .ref (a12 0), .ref (a14 0), .ref q15, .ref q24, .null, .int 0])) : Nat × va_E) :: ((q24, .inl (t 4, 4, .inr (.inr (.inr (.inr (va_up (fun _ => none) (Int32.toNatClampNeg 0) (some (a26 0)))))))) : Nat × va_E) :: ((wSheet t a26 z0) ++ WS10)) := hD
  generalize hW11 : (wSheet t a26 z0) ++ WS10 = WS11 at hP hD
  refine lv_iinc (v := 1) (lv' := [(1, .int 1), (0, .ref h0)]) hx hb dX8_init_155 hl (k := 0) rfl (by decide) (by decide) rfl (fun ls hl => ?_)
  refine lv_goto (tgt := 137) hx hb dX8_init_158 (by decide) ?_
  refine lv_iload_n hx hb dX8_init_137 rfl (lv_at hl 0 rfl) ?_
  refine lv_iconst (v := 4) hx hb dX8_init_138 (by decide) ?_
  refine lv_icmp_ge (tgt := 161) hx hb dX8_init_139 (by decide) (fun c1 => absurd c1 (by decide)) (fun c1 => ?_)
  refine lv_aload_n hx hb dX8_init_142 rfl (lv_at hl 1 rfl) ?_
  refine va_get (D := D) (ci := 8) (v := .ref q24) (C := RX8) (T := TX8) (N := 11) hx hb hts iwX8_init_X8 hown hK hP 0 rfl rfl 8 (by decide) (hts _ lkX8_init_f67) (fun _ h9 => h9) rfl dX8_init_143 ?_
  refine lv_iload_n hx hb dX8_init_146 rfl (lv_at hl 0 rfl) ?_
  refine va_new (ci := 4) (fs := [.null, .int 0, .int 0, .int 0]) (C := RX4) (T := TX4) (N := 4) hx hb hts iwX8_init_X4 tyX4 tyX4_ok hown (hts _ lkX8_init_cl65) (hts _ lkX8_init_inX4) (hts _ lkX8_init_iiX4) hK hP hD hS hA rfl (fun j hj => by rcases (show j = 0 ∨ j = 1 ∨ j = 2 ∨ j = 3 by omega) with rfl | rfl | rfl | rfl <;> rfl) (Nat.le_of_ble_eq_true rfl) (Nat.le_of_ble_eq_true rfl) dX8_init_147 (fun q27 H hP hD hS => ?_)
  refine W.cs (cells' := 64) (slots' := 544) rfl rfl ?_
  have hP : va_P D vwCl (((h0, .inr (8, [.ref (a2 0), .ref (a4 0), .ref (a6 0), .ref (a8 0), .ref (a10 0), .ref (a12 0), .ref (a14 0), .ref q15, .ref q24, .null, .int 0])) : Nat × va_E) :: ((q24, .inl (t 4, 4, .inr (.inr (.inr (.inr (va_up (fun _ => none) (Int32.toNatClampNeg 0) (some (a26 0)))))))) : Nat × va_E) :: (WS11 ++ ([(q27, .inr (4, [.null, .int 0, .int 0, .int 0]))] : va_W))) H := hP
  have hD : va_D A (((h0, .inr (8, [.ref (a2 0), .ref (a4 0), .ref (a6 0), .ref (a8 0), .ref (a10 0), .ref (a12 0), .ref (a14 0), .ref q15, .ref q24, .null, .int 0])) : Nat × va_E) :: ((q24, .inl (t 4, 4, .inr (.inr (.inr (.inr (va_up (fun _ => none) (Int32.toNatClampNeg 0) (some (a26 0)))))))) : Nat × va_E) :: (WS11 ++ ([(q27, .inr (4, [.null, .int 0, .int 0, .int 0]))] : va_W))) := hD
  refine lv_dup hx hb dX8_init_150 rfl ?_
  refine gk_IN C (As := []) (rest := [.ref q27, .int 1, .ref q24]) (ws := (((h0, .inr (8, [.ref (a2 0), .ref (a4 0), .ref (a6 0), .ref (a8 0), .ref (a10 0), .ref (a12 0), .ref (a14 0), .ref q15, .ref q24, .null, .int 0])) : Nat × va_E) :: ((q24, .inl (t 4, 4, .inr (.inr (.inr (.inr (va_up (fun _ => none) (Int32.toNatClampNeg 0) (some (a26 0)))))))) : Nat × va_E) :: (WS11))) (x := (q27, .inr (4, [.null, .int 0, .int 0, .int 0]))) (cX4_init_ok (l := l) (D := D) (t := t) (κ := κ)) trivial (fun _ _ _ h => h) ggX8_init_X4_init rfl ⟨rfl, rfl⟩ (hts _ lkX8_init_iiX4) (hC0.2.1.m 7 rfl) (hts _ lkX8_init_imX4) rfl hdX4_init ⟨Nat.le_of_ble_eq_true rfl, Nat.le_of_ble_eq_true rfl⟩ hP hD hS rfl hl.1 (Nat.le_of_ble_eq_true rfl) dX8_init_151 (Nat.le_of_ble_eq_true rfl) (Nat.le_of_ble_eq_true rfl) (fun H locs w1 po hPn27 hDn27 hSn27 => ?_)
  refine W.cs (cells' := 65) (slots' := 584) rfl rfl ?_
  obtain ⟨a28, ha28, rfl⟩ := po
  subst ha28
  have hP : va_P D vwCl (((h0, .inr (8, [.ref (a2 0), .ref (a4 0), .ref (a6 0), .ref (a8 0), .ref (a10 0), .ref (a12 0), .ref (a14 0), .ref q15, .ref q24, .null, .int 0])) : Nat × va_E) :: ((q24, .inl (t 4, 4, .inr (.inr (.inr (.inr (va_up (fun _ => none) (Int32.toNatClampNeg 0) (some (a26 0)))))))) : Nat × va_E) :: (WS11 ++ (wSheet t a28 z0))) H := hPn27
  have hD : va_D A (((h0, .inr (8, [.ref (a2 0), .ref (a4 0), .ref (a6 0), .ref (a8 0), .ref (a10 0), .ref (a12 0), .ref (a14 0), .ref q15, .ref q24, .null, .int 0])) : Nat × va_E) :: ((q24, .inl (t 4, 4, .inr (.inr (.inr (.inr (va_up (fun _ => none) (Int32.toNatClampNeg 0) (some (a26 0)))))))) : Nat × va_E) :: (WS11 ++ (wSheet t a28 z0))) := hDn27
  have hP := wp_perm (List.Perm.cons _ (List.Perm.cons _ List.perm_append_comm)) hP
  have hD := wd_perm (List.Perm.cons _ (List.Perm.cons _ List.perm_append_comm)) hD
  have hP : va_P D vwCl (((h0, .inr (8, [.ref (a2 0), .ref (a4 0), .ref (a6 0), .ref (a8 0), .ref (a10 0), .ref (a12 0), .ref (a14 0), .ref q15, .ref q24, .null, .int 0])) : Nat × va_E) :: ((q24, .inl (t 4, 4, .inr (.inr (.inr (.inr (va_up (fun _ => none) (Int32.toNatClampNeg 0) (some (a26 0)))))))) : Nat × va_E) :: ((wSheet t a28 z0) ++ WS11)) H := hP
  have hD : va_D A (((h0, .inr (8, [.ref (a2 0), .ref (a4 0), .ref (a6 0), .ref (a8 0), .ref (a10 0), .ref (a12 0), .ref (a14 0), .ref q15, .ref q24, .null, .int 0])) : Nat × va_E) :: ((q24, .inl (t 4, 4, .inr (.inr (.inr (.inr (va_up (fun _ => none) (Int32.toNatClampNeg 0) (some (a26 0)))))))) : Nat × va_E) :: ((wSheet t a28 z0) ++ WS11)) := hD
  have hS := hSn27
  refine W.eq (g2 := F0 m 154 ls [.ref (a28 0), .int 1, .ref q24]) rfl ?_
  refine va_astq hx hb hK hP hD hS 1 4 2 4 rfl rfl rfl rfl (ixb_in (by decide)) dX8_init_154 (fun H locs hP hD hS => ?_)
  have hP : va_P D vwCl (((h0, .inr (8, [.ref (a2 0), .ref (a4 0), .ref (a6 0), .ref (a8 0), .ref (a10 0), .ref (a12 0), .ref (a14 0), .ref q15, .ref q24, .null, .int 0])) : Nat × va_E) :: ((q24, .inl (t 4, 4, .inr (.inr (.inr (.inr (va_up (va_up (fun _ => none) (Int32.toNatClampNeg 0) (some (a26 0))) (Int32.toNatClampNeg 1) (some (a28 0)))))))) : Nat × va_E) :: ((wSheet t a28 z0) ++ WS11)) H := hP
  have hD : va_D A (((h0, .inr (8, [.ref (a2 0), .ref (a4 0), .ref (a6 0), .ref (a8 0), .ref (a10 0), .ref (a12 0), .ref (a14 0), .ref q15, .ref q24, .null, .int 0])) : Nat × va_E) :: ((q24, .inl (t 4, 4, .inr (.inr (.inr (.inr (va_up (va_up (fun _ => none) (Int32.toNatClampNeg 0) (some (a26 0))) (Int32.toNatClampNeg 1) (some (a28 0)))))))) : Nat × va_E) :: ((wSheet t a28 z0) ++ WS11)) := hD
  generalize hW12 : (wSheet t a28 z0) ++ WS11 = WS12 at hP hD
  refine lv_iinc (v := 2) (lv' := [(1, .int 2), (0, .ref h0)]) hx hb dX8_init_155 hl (k := 0) rfl (by decide) (by decide) rfl (fun ls hl => ?_)
  refine lv_goto (tgt := 137) hx hb dX8_init_158 (by decide) ?_
  refine lv_iload_n hx hb dX8_init_137 rfl (lv_at hl 0 rfl) ?_
  refine lv_iconst (v := 4) hx hb dX8_init_138 (by decide) ?_
  refine lv_icmp_ge (tgt := 161) hx hb dX8_init_139 (by decide) (fun c1 => absurd c1 (by decide)) (fun c1 => ?_)
  refine lv_aload_n hx hb dX8_init_142 rfl (lv_at hl 1 rfl) ?_
  refine va_get (D := D) (ci := 8) (v := .ref q24) (C := RX8) (T := TX8) (N := 11) hx hb hts iwX8_init_X8 hown hK hP 0 rfl rfl 8 (by decide) (hts _ lkX8_init_f67) (fun _ h9 => h9) rfl dX8_init_143 ?_
  refine lv_iload_n hx hb dX8_init_146 rfl (lv_at hl 0 rfl) ?_
  refine va_new (ci := 4) (fs := [.null, .int 0, .int 0, .int 0]) (C := RX4) (T := TX4) (N := 4) hx hb hts iwX8_init_X4 tyX4 tyX4_ok hown (hts _ lkX8_init_cl65) (hts _ lkX8_init_inX4) (hts _ lkX8_init_iiX4) hK hP hD hS hA rfl (fun j hj => by rcases (show j = 0 ∨ j = 1 ∨ j = 2 ∨ j = 3 by omega) with rfl | rfl | rfl | rfl <;> rfl) (Nat.le_of_ble_eq_true rfl) (Nat.le_of_ble_eq_true rfl) dX8_init_147 (fun q29 H hP hD hS => ?_)
  refine W.cs (cells' := 66) (slots' := 588) rfl rfl ?_
  have hP : va_P D vwCl (((h0, .inr (8, [.ref (a2 0), .ref (a4 0), .ref (a6 0), .ref (a8 0), .ref (a10 0), .ref (a12 0), .ref (a14 0), .ref q15, .ref q24, .null, .int 0])) : Nat × va_E) :: ((q24, .inl (t 4, 4, .inr (.inr (.inr (.inr (va_up (va_up (fun _ => none) (Int32.toNatClampNeg 0) (some (a26 0))) (Int32.toNatClampNeg 1) (some (a28 0)))))))) : Nat × va_E) :: (WS12 ++ ([(q29, .inr (4, [.null, .int 0, .int 0, .int 0]))] : va_W))) H := hP
  have hD : va_D A (((h0, .inr (8, [.ref (a2 0), .ref (a4 0), .ref (a6 0), .ref (a8 0), .ref (a10 0), .ref (a12 0), .ref (a14 0), .ref q15, .ref q24, .null, .int 0])) : Nat × va_E) :: ((q24, .inl (t 4, 4, .inr (.inr (.inr (.inr (va_up (va_up (fun _ => none) (Int32.toNatClampNeg 0) (some (a26 0))) (Int32.toNatClampNeg 1) (some (a28 0)))))))) : Nat × va_E) :: (WS12 ++ ([(q29, .inr (4, [.null, .int 0, .int 0, .int 0]))] : va_W))) := hD
  refine lv_dup hx hb dX8_init_150 rfl ?_
  refine gk_IN C (As := []) (rest := [.ref q29, .int 2, .ref q24]) (ws := (((h0, .inr (8, [.ref (a2 0), .ref (a4 0), .ref (a6 0), .ref (a8 0), .ref (a10 0), .ref (a12 0), .ref (a14 0), .ref q15, .ref q24, .null, .int 0])) : Nat × va_E) :: ((q24, .inl (t 4, 4, .inr (.inr (.inr (.inr (va_up (va_up (fun _ => none) (Int32.toNatClampNeg 0) (some (a26 0))) (Int32.toNatClampNeg 1) (some (a28 0)))))))) : Nat × va_E) :: (WS12))) (x := (q29, .inr (4, [.null, .int 0, .int 0, .int 0]))) (cX4_init_ok (l := l) (D := D) (t := t) (κ := κ)) trivial (fun _ _ _ h => h) ggX8_init_X4_init rfl ⟨rfl, rfl⟩ (hts _ lkX8_init_iiX4) (hC0.2.1.m 7 rfl) (hts _ lkX8_init_imX4) rfl hdX4_init ⟨Nat.le_of_ble_eq_true rfl, Nat.le_of_ble_eq_true rfl⟩ hP hD hS rfl hl.1 (Nat.le_of_ble_eq_true rfl) dX8_init_151 (Nat.le_of_ble_eq_true rfl) (Nat.le_of_ble_eq_true rfl) (fun H locs w1 po hPn29 hDn29 hSn29 => ?_)
  refine W.cs (cells' := 67) (slots' := 628) rfl rfl ?_
  obtain ⟨a30, ha30, rfl⟩ := po
  subst ha30
  have hP : va_P D vwCl (((h0, .inr (8, [.ref (a2 0), .ref (a4 0), .ref (a6 0), .ref (a8 0), .ref (a10 0), .ref (a12 0), .ref (a14 0), .ref q15, .ref q24, .null, .int 0])) : Nat × va_E) :: ((q24, .inl (t 4, 4, .inr (.inr (.inr (.inr (va_up (va_up (fun _ => none) (Int32.toNatClampNeg 0) (some (a26 0))) (Int32.toNatClampNeg 1) (some (a28 0)))))))) : Nat × va_E) :: (WS12 ++ (wSheet t a30 z0))) H := hPn29
  have hD : va_D A (((h0, .inr (8, [.ref (a2 0), .ref (a4 0), .ref (a6 0), .ref (a8 0), .ref (a10 0), .ref (a12 0), .ref (a14 0), .ref q15, .ref q24, .null, .int 0])) : Nat × va_E) :: ((q24, .inl (t 4, 4, .inr (.inr (.inr (.inr (va_up (va_up (fun _ => none) (Int32.toNatClampNeg 0) (some (a26 0))) (Int32.toNatClampNeg 1) (some (a28 0)))))))) : Nat × va_E) :: (WS12 ++ (wSheet t a30 z0))) := hDn29
  have hP := wp_perm (List.Perm.cons _ (List.Perm.cons _ List.perm_append_comm)) hP
  have hD := wd_perm (List.Perm.cons _ (List.Perm.cons _ List.perm_append_comm)) hD
  have hP : va_P D vwCl (((h0, .inr (8, [.ref (a2 0), .ref (a4 0), .ref (a6 0), .ref (a8 0), .ref (a10 0), .ref (a12 0), .ref (a14 0), .ref q15, .ref q24, .null, .int 0])) : Nat × va_E) :: ((q24, .inl (t 4, 4, .inr (.inr (.inr (.inr (va_up (va_up (fun _ => none) (Int32.toNatClampNeg 0) (some (a26 0))) (Int32.toNatClampNeg 1) (some (a28 0)))))))) : Nat × va_E) :: ((wSheet t a30 z0) ++ WS12)) H := hP
  have hD : va_D A (((h0, .inr (8, [.ref (a2 0), .ref (a4 0), .ref (a6 0), .ref (a8 0), .ref (a10 0), .ref (a12 0), .ref (a14 0), .ref q15, .ref q24, .null, .int 0])) : Nat × va_E) :: ((q24, .inl (t 4, 4, .inr (.inr (.inr (.inr (va_up (va_up (fun _ => none) (Int32.toNatClampNeg 0) (some (a26 0))) (Int32.toNatClampNeg 1) (some (a28 0)))))))) : Nat × va_E) :: ((wSheet t a30 z0) ++ WS12)) := hD
  have hS := hSn29
  refine W.eq (g2 := F0 m 154 ls [.ref (a30 0), .int 2, .ref q24]) rfl ?_
  refine va_astq hx hb hK hP hD hS 1 4 2 4 rfl rfl rfl rfl (ixb_in (by decide)) dX8_init_154 (fun H locs hP hD hS => ?_)
  have hP : va_P D vwCl (((h0, .inr (8, [.ref (a2 0), .ref (a4 0), .ref (a6 0), .ref (a8 0), .ref (a10 0), .ref (a12 0), .ref (a14 0), .ref q15, .ref q24, .null, .int 0])) : Nat × va_E) :: ((q24, .inl (t 4, 4, .inr (.inr (.inr (.inr (va_up (va_up (va_up (fun _ => none) (Int32.toNatClampNeg 0) (some (a26 0))) (Int32.toNatClampNeg 1) (some (a28 0))) (Int32.toNatClampNeg 2) (some (a30 0)))))))) : Nat × va_E) :: ((wSheet t a30 z0) ++ WS12)) H := hP
  have hD : va_D A (((h0, .inr (8, [.ref (a2 0), .ref (a4 0), .ref (a6 0), .ref (a8 0), .ref (a10 0), .ref (a12 0), .ref (a14 0), .ref q15, .ref q24, .null, .int 0])) : Nat × va_E) :: ((q24, .inl (t 4, 4, .inr (.inr (.inr (.inr (va_up (va_up (va_up (fun _ => none) (Int32.toNatClampNeg 0) (some (a26 0))) (Int32.toNatClampNeg 1) (some (a28 0))) (Int32.toNatClampNeg 2) (some (a30 0)))))))) : Nat × va_E) :: ((wSheet t a30 z0) ++ WS12)) := hD
  generalize hW13 : (wSheet t a30 z0) ++ WS12 = WS13 at hP hD
  refine lv_iinc (v := 3) (lv' := [(1, .int 3), (0, .ref h0)]) hx hb dX8_init_155 hl (k := 0) rfl (by decide) (by decide) rfl (fun ls hl => ?_)
  refine lv_goto (tgt := 137) hx hb dX8_init_158 (by decide) ?_
  refine lv_iload_n hx hb dX8_init_137 rfl (lv_at hl 0 rfl) ?_
  refine lv_iconst (v := 4) hx hb dX8_init_138 (by decide) ?_
  refine lv_icmp_ge (tgt := 161) hx hb dX8_init_139 (by decide) (fun c1 => absurd c1 (by decide)) (fun c1 => ?_)
  refine lv_aload_n hx hb dX8_init_142 rfl (lv_at hl 1 rfl) ?_
  refine va_get (D := D) (ci := 8) (v := .ref q24) (C := RX8) (T := TX8) (N := 11) hx hb hts iwX8_init_X8 hown hK hP 0 rfl rfl 8 (by decide) (hts _ lkX8_init_f67) (fun _ h9 => h9) rfl dX8_init_143 ?_
  refine lv_iload_n hx hb dX8_init_146 rfl (lv_at hl 0 rfl) ?_
  refine va_new (ci := 4) (fs := [.null, .int 0, .int 0, .int 0]) (C := RX4) (T := TX4) (N := 4) hx hb hts iwX8_init_X4 tyX4 tyX4_ok hown (hts _ lkX8_init_cl65) (hts _ lkX8_init_inX4) (hts _ lkX8_init_iiX4) hK hP hD hS hA rfl (fun j hj => by rcases (show j = 0 ∨ j = 1 ∨ j = 2 ∨ j = 3 by omega) with rfl | rfl | rfl | rfl <;> rfl) (Nat.le_of_ble_eq_true rfl) (Nat.le_of_ble_eq_true rfl) dX8_init_147 (fun q31 H hP hD hS => ?_)
  refine W.cs (cells' := 68) (slots' := 632) rfl rfl ?_
  have hP : va_P D vwCl (((h0, .inr (8, [.ref (a2 0), .ref (a4 0), .ref (a6 0), .ref (a8 0), .ref (a10 0), .ref (a12 0), .ref (a14 0), .ref q15, .ref q24, .null, .int 0])) : Nat × va_E) :: ((q24, .inl (t 4, 4, .inr (.inr (.inr (.inr (va_up (va_up (va_up (fun _ => none) (Int32.toNatClampNeg 0) (some (a26 0))) (Int32.toNatClampNeg 1) (some (a28 0))) (Int32.toNatClampNeg 2) (some (a30 0)))))))) : Nat × va_E) :: (WS13 ++ ([(q31, .inr (4, [.null, .int 0, .int 0, .int 0]))] : va_W))) H := hP
  have hD : va_D A (((h0, .inr (8, [.ref (a2 0), .ref (a4 0), .ref (a6 0), .ref (a8 0), .ref (a10 0), .ref (a12 0), .ref (a14 0), .ref q15, .ref q24, .null, .int 0])) : Nat × va_E) :: ((q24, .inl (t 4, 4, .inr (.inr (.inr (.inr (va_up (va_up (va_up (fun _ => none) (Int32.toNatClampNeg 0) (some (a26 0))) (Int32.toNatClampNeg 1) (some (a28 0))) (Int32.toNatClampNeg 2) (some (a30 0)))))))) : Nat × va_E) :: (WS13 ++ ([(q31, .inr (4, [.null, .int 0, .int 0, .int 0]))] : va_W))) := hD
  refine lv_dup hx hb dX8_init_150 rfl ?_
  refine gk_IN C (As := []) (rest := [.ref q31, .int 3, .ref q24]) (ws := (((h0, .inr (8, [.ref (a2 0), .ref (a4 0), .ref (a6 0), .ref (a8 0), .ref (a10 0), .ref (a12 0), .ref (a14 0), .ref q15, .ref q24, .null, .int 0])) : Nat × va_E) :: ((q24, .inl (t 4, 4, .inr (.inr (.inr (.inr (va_up (va_up (va_up (fun _ => none) (Int32.toNatClampNeg 0) (some (a26 0))) (Int32.toNatClampNeg 1) (some (a28 0))) (Int32.toNatClampNeg 2) (some (a30 0)))))))) : Nat × va_E) :: (WS13))) (x := (q31, .inr (4, [.null, .int 0, .int 0, .int 0]))) (cX4_init_ok (l := l) (D := D) (t := t) (κ := κ)) trivial (fun _ _ _ h => h) ggX8_init_X4_init rfl ⟨rfl, rfl⟩ (hts _ lkX8_init_iiX4) (hC0.2.1.m 7 rfl) (hts _ lkX8_init_imX4) rfl hdX4_init ⟨Nat.le_of_ble_eq_true rfl, Nat.le_of_ble_eq_true rfl⟩ hP hD hS rfl hl.1 (Nat.le_of_ble_eq_true rfl) dX8_init_151 (Nat.le_of_ble_eq_true rfl) (Nat.le_of_ble_eq_true rfl) (fun H locs w1 po hPn31 hDn31 hSn31 => ?_)
  refine W.cs (cells' := 69) (slots' := 672) rfl rfl ?_
  obtain ⟨a32, ha32, rfl⟩ := po
  subst ha32
  have hP : va_P D vwCl (((h0, .inr (8, [.ref (a2 0), .ref (a4 0), .ref (a6 0), .ref (a8 0), .ref (a10 0), .ref (a12 0), .ref (a14 0), .ref q15, .ref q24, .null, .int 0])) : Nat × va_E) :: ((q24, .inl (t 4, 4, .inr (.inr (.inr (.inr (va_up (va_up (va_up (fun _ => none) (Int32.toNatClampNeg 0) (some (a26 0))) (Int32.toNatClampNeg 1) (some (a28 0))) (Int32.toNatClampNeg 2) (some (a30 0)))))))) : Nat × va_E) :: (WS13 ++ (wSheet t a32 z0))) H := hPn31
  have hD : va_D A (((h0, .inr (8, [.ref (a2 0), .ref (a4 0), .ref (a6 0), .ref (a8 0), .ref (a10 0), .ref (a12 0), .ref (a14 0), .ref q15, .ref q24, .null, .int 0])) : Nat × va_E) :: ((q24, .inl (t 4, 4, .inr (.inr (.inr (.inr (va_up (va_up (va_up (fun _ => none) (Int32.toNatClampNeg 0) (some (a26 0))) (Int32.toNatClampNeg 1) (some (a28 0))) (Int32.toNatClampNeg 2) (some (a30 0)))))))) : Nat × va_E) :: (WS13 ++ (wSheet t a32 z0))) := hDn31
  have hP := wp_perm (List.Perm.cons _ (List.Perm.cons _ List.perm_append_comm)) hP
  have hD := wd_perm (List.Perm.cons _ (List.Perm.cons _ List.perm_append_comm)) hD
  have hP : va_P D vwCl (((h0, .inr (8, [.ref (a2 0), .ref (a4 0), .ref (a6 0), .ref (a8 0), .ref (a10 0), .ref (a12 0), .ref (a14 0), .ref q15, .ref q24, .null, .int 0])) : Nat × va_E) :: ((q24, .inl (t 4, 4, .inr (.inr (.inr (.inr (va_up (va_up (va_up (fun _ => none) (Int32.toNatClampNeg 0) (some (a26 0))) (Int32.toNatClampNeg 1) (some (a28 0))) (Int32.toNatClampNeg 2) (some (a30 0)))))))) : Nat × va_E) :: ((wSheet t a32 z0) ++ WS13)) H := hP
  have hD : va_D A (((h0, .inr (8, [.ref (a2 0), .ref (a4 0), .ref (a6 0), .ref (a8 0), .ref (a10 0), .ref (a12 0), .ref (a14 0), .ref q15, .ref q24, .null, .int 0])) : Nat × va_E) :: ((q24, .inl (t 4, 4, .inr (.inr (.inr (.inr (va_up (va_up (va_up (fun _ => none) (Int32.toNatClampNeg 0) (some (a26 0))) (Int32.toNatClampNeg 1) (some (a28 0))) (Int32.toNatClampNeg 2) (some (a30 0)))))))) : Nat × va_E) :: ((wSheet t a32 z0) ++ WS13)) := hD
  have hS := hSn31
  refine W.eq (g2 := F0 m 154 ls [.ref (a32 0), .int 3, .ref q24]) rfl ?_
  refine va_astq hx hb hK hP hD hS 1 4 2 4 rfl rfl rfl rfl (ixb_in (by decide)) dX8_init_154 (fun H locs hP hD hS => ?_)
  have hP : va_P D vwCl (((h0, .inr (8, [.ref (a2 0), .ref (a4 0), .ref (a6 0), .ref (a8 0), .ref (a10 0), .ref (a12 0), .ref (a14 0), .ref q15, .ref q24, .null, .int 0])) : Nat × va_E) :: ((q24, .inl (t 4, 4, .inr (.inr (.inr (.inr (va_up (va_up (va_up (va_up (fun _ => none) (Int32.toNatClampNeg 0) (some (a26 0))) (Int32.toNatClampNeg 1) (some (a28 0))) (Int32.toNatClampNeg 2) (some (a30 0))) (Int32.toNatClampNeg 3) (some (a32 0)))))))) : Nat × va_E) :: ((wSheet t a32 z0) ++ WS13)) H := hP
  have hD : va_D A (((h0, .inr (8, [.ref (a2 0), .ref (a4 0), .ref (a6 0), .ref (a8 0), .ref (a10 0), .ref (a12 0), .ref (a14 0), .ref q15, .ref q24, .null, .int 0])) : Nat × va_E) :: ((q24, .inl (t 4, 4, .inr (.inr (.inr (.inr (va_up (va_up (va_up (va_up (fun _ => none) (Int32.toNatClampNeg 0) (some (a26 0))) (Int32.toNatClampNeg 1) (some (a28 0))) (Int32.toNatClampNeg 2) (some (a30 0))) (Int32.toNatClampNeg 3) (some (a32 0)))))))) : Nat × va_E) :: ((wSheet t a32 z0) ++ WS13)) := hD
  generalize hW14 : (wSheet t a32 z0) ++ WS13 = WS14 at hP hD
  generalize hW15 : ((q24, .inl (t 4, 4, .inr (.inr (.inr (.inr (va_up (va_up (va_up (va_up (fun _ => none) (Int32.toNatClampNeg 0) (some (a26 0))) (Int32.toNatClampNeg 1) (some (a28 0))) (Int32.toNatClampNeg 2) (some (a30 0))) (Int32.toNatClampNeg 3) (some (a32 0)))))))) : Nat × va_E) :: WS14 = WS15 at hP hD
  refine lv_iinc (v := 4) (lv' := [(1, .int 4), (0, .ref h0)]) hx hb dX8_init_155 hl (k := 0) rfl (by decide) (by decide) rfl (fun ls hl => ?_)
  refine lv_goto (tgt := 137) hx hb dX8_init_158 (by decide) ?_
  refine lv_iload_n hx hb dX8_init_137 rfl (lv_at hl 0 rfl) ?_
  refine lv_iconst (v := 4) hx hb dX8_init_138 (by decide) ?_
  refine lv_icmp_ge (tgt := 161) hx hb dX8_init_139 (by decide) (fun c1 => ?_) (fun c1 => absurd (by decide) c1)
  refine lv_aload_n hx hb dX8_init_161 rfl (lv_at hl 1 rfl) ?_
  refine lv_bipush (v := 9) hx hb dX8_init_162 (by decide) ?_
  refine g_newa (atype := .int) (ty := .int) (k := 0) (N := 9) (a0 := (9, .inl (fun _ => 0))) C lkX8_init_ac_int rfl rfl (fun _ h9 => h9) hP hD hS (fun _ => rfl) (by decide) (by decide) (by decide) (Nat.le_of_ble_eq_true rfl) (Nat.le_of_ble_eq_true rfl) dX8_init_164 (fun q33 H hP hD hS => ?_)
  refine W.cs (cells' := 70) (slots' := 681) rfl rfl ?_
  have hP : va_P D vwCl (((h0, .inr (8, [.ref (a2 0), .ref (a4 0), .ref (a6 0), .ref (a8 0), .ref (a10 0), .ref (a12 0), .ref (a14 0), .ref q15, .ref q24, .null, .int 0])) : Nat × va_E) :: (WS15 ++ ([(q33, .inl (t 0, 9, .inl (fun _ => 0)))] : va_W))) H := hP
  have hD : va_D A (((h0, .inr (8, [.ref (a2 0), .ref (a4 0), .ref (a6 0), .ref (a8 0), .ref (a10 0), .ref (a12 0), .ref (a14 0), .ref q15, .ref q24, .null, .int 0])) : Nat × va_E) :: (WS15 ++ ([(q33, .inl (t 0, 9, .inl (fun _ => 0)))] : va_W))) := hD
  have hP := wp_perm (List.Perm.cons _ List.perm_append_comm) hP
  have hD := wd_perm (List.Perm.cons _ List.perm_append_comm) hD
  have hP : va_P D vwCl (((h0, .inr (8, [.ref (a2 0), .ref (a4 0), .ref (a6 0), .ref (a8 0), .ref (a10 0), .ref (a12 0), .ref (a14 0), .ref q15, .ref q24, .null, .int 0])) : Nat × va_E) :: (((q33, .inl (t 0, 9, .inl (fun _ => 0))) : Nat × va_E) :: WS15)) H := hP
  have hD : va_D A (((h0, .inr (8, [.ref (a2 0), .ref (a4 0), .ref (a6 0), .ref (a8 0), .ref (a10 0), .ref (a12 0), .ref (a14 0), .ref q15, .ref q24, .null, .int 0])) : Nat × va_E) :: (((q33, .inl (t 0, 9, .inl (fun _ => 0))) : Nat × va_E) :: WS15)) := hD
  refine va_putF (D := D) (ci := 8) (v := .ref q33) (ty := .array .int) (C := RX8) (T := TX8) (N := 11) hx hb hts iwX8_init_X8 tyX8 tyX8_ok nmX8 hown hK hP hD hS 0 rfl rfl 9 (by decide) (hts _ lkX8_init_f72) (fun _ h9 => h9) rfl hin rfl (by decide +kernel) rfl rfl (Nat.le_of_ble_eq_true rfl) dX8_init_166 (fun H locs hP hD hS => ?_)
  have hP : va_P D vwCl (((h0, .inr (8, [.ref (a2 0), .ref (a4 0), .ref (a6 0), .ref (a8 0), .ref (a10 0), .ref (a12 0), .ref (a14 0), .ref q15, .ref q24, .ref q33, .int 0])) : Nat × va_E) :: (((q33, .inl (t 0, 9, .inl (fun _ => 0))) : Nat × va_E) :: WS15)) H := hP
  have hD : va_D A (((h0, .inr (8, [.ref (a2 0), .ref (a4 0), .ref (a6 0), .ref (a8 0), .ref (a10 0), .ref (a12 0), .ref (a14 0), .ref q15, .ref q24, .ref q33, .int 0])) : Nat × va_E) :: (((q33, .inl (t 0, 9, .inl (fun _ => 0))) : Nat × va_E) :: WS15)) := hD
  exact g_vretN C ⟨(fun k => [h0, q33].getD k 0), a2, a4, a6, a8, a10, a12, a14, (fun _ => q15), (va_up (va_up (fun _ => none) (Int32.toNatClampNeg 0) (some (a17 0))) (Int32.toNatClampNeg 1) (some (a21 0))), a17, a18, a19, a21, a22, a23, (fun _ => q24), (va_up (va_up (va_up (va_up (fun _ => none) (Int32.toNatClampNeg 0) (some (a26 0))) (Int32.toNatClampNeg 1) (some (a28 0))) (Int32.toNatClampNeg 2) (some (a30 0))) (Int32.toNatClampNeg 3) (some (a32 0))), a26, a28, a30, a32, rfl, ⟨rfl, rfl⟩, ⟨rfl, rfl, rfl, rfl⟩, by subst hW15; subst hW14; subst hW13; subst hW12; subst hW11; subst hW10; subst hW9; subst hW8; subst hW7; subst hW6; subst hW5; subst hW4; subst hW3; subst hW2; subst hW1; rfl⟩ hP hD hS dX8_init_169
