theorem hdX6_init : yX6_init.cls ≠ "java/lang/invoke/MethodHandle" ∧ yX6_init.cls ≠ "java/lang/invoke/VarHandle" ∧ (parseMethodDescriptor yX6_init.desc).map (fun d => d.parameters.length) = some 0 := by decide +kernel
theorem lkX6_init_oi : Cond.methodLink RX6 3 objectInit ∈ wsX6_init := by decide +kernel
theorem lkX6_init_om : Cond.instanceMethod objectInit ∈ wsX6_init := by decide +kernel
theorem lkX6_init_oc : Cond.code objectInit ⟨#[0xb1]⟩ 1 none ∈ wsX6_init := List.mem_of_getElem? (i := 3) rfl
theorem lkX6_init_ac_byte : Cond.arrayClass .byte ∈ wsX6_init := by decide +kernel
theorem lkX6_init_f9 : Cond.fieldLink RX6 9 "CoachCourt$Tape" "bytes" "[B" ∈ wsX6_init := by decide +kernel
theorem iwX6_init_X6 : ∀ w ∈ wsX60, w ∈ wsX6_init := by decide +kernel
set_option maxHeartbeats 1000000 in
set_option maxRecDepth 100000 in
theorem cX6_init_ok {l : Launch} {D : va_G} {t : Nat → ClassId} {κ : Nat → Nat} {h0 : Nat} : CtN l D t κ (fun _ => True) yX6_init wsX6_init (rmN 1 1 160) [.ref h0] [(h0, .inr (6, [.null, .int 0, .int 0, .int 0, .int 0, .int 0, .int 0]))] (fun w1 => ∃ a : Nat → Nat, a 0 = h0 ∧ w1 = wTape t a z0) 1 160 := by
  refine CtN.ofW (own := RX6) (cc := cX6_init) (maxL := 1) (by decide) rfl rfl rfl (Nat.le_of_ble_eq_true rfl) ?_
  intro p e s m below meth c A C hin hX hP hD ls hl
  have hS : va_S A s.heap s.heap [] := va_S.rf
  obtain ⟨hx, hb, hr, hml, hown, hts, hC0, hlk, hA⟩ := id C
  have hK := hC0.1
  have hl : lv_has ls 1 [(0, .ref h0)] := hl
  refine lv_aload_n hx hb dX6_init_0 rfl (lv_at hl 0 rfl) ?_
  refine W.objInit hx hb hown (hts _ lkX6_init_oi) (hts _ lkX6_init_om) (hts _ lkX6_init_oc) rfl (by rw [hml]; exact hl.1) rfl dX6_init_1 (Nat.le_of_ble_eq_true rfl) (Nat.le_of_ble_eq_true rfl) ?_
  refine W.eq (g2 := F0 m 4 ls []) rfl ?_
  refine lv_aload_n hx hb dX6_init_4 rfl (lv_at hl 0 rfl) ?_
  refine lv_sipush (v := 160) hx hb dX6_init_5 (by decide) ?_
  refine g_newa (atype := .byte) (ty := .byte) (k := 1) (N := 160) (a0 := (160, .inl (fun _ => 0))) C lkX6_init_ac_byte rfl rfl (fun _ h9 => h9) hP hD hS (fun _ => rfl) (by decide) (by decide) (by decide) (Nat.le_of_ble_eq_true rfl) (Nat.le_of_ble_eq_true rfl) dX6_init_8 (fun q1 H hP hD hS => ?_)
  refine W.cs (cells' := 1) (slots' := 160) rfl rfl ?_
  have hP : va_P D vwCl (((h0, .inr (6, [.null, .int 0, .int 0, .int 0, .int 0, .int 0, .int 0])) : Nat × va_E) :: (([] : va_W) ++ ([(q1, .inl (t 1, 160, .inl (fun _ => 0)))] : va_W))) H := hP
  have hD : va_D A (((h0, .inr (6, [.null, .int 0, .int 0, .int 0, .int 0, .int 0, .int 0])) : Nat × va_E) :: (([] : va_W) ++ ([(q1, .inl (t 1, 160, .inl (fun _ => 0)))] : va_W))) := hD
  refine va_putF (D := D) (ci := 6) (v := .ref q1) (ty := .array .byte) (C := RX6) (T := TX6) (N := 7) hx hb hts iwX6_init_X6 tyX6 tyX6_ok nmX6 hown hK hP hD hS 0 rfl rfl 0 (by decide) (hts _ lkX6_init_f9) (fun _ h9 => h9) rfl hin rfl (by decide +kernel) rfl rfl (Nat.le_of_ble_eq_true rfl) dX6_init_10 (fun H locs hP hD hS => ?_)
  have hP : va_P D vwCl (((h0, .inr (6, [.ref q1, .int 0, .int 0, .int 0, .int 0, .int 0, .int 0])) : Nat × va_E) :: (([] : va_W) ++ ([(q1, .inl (t 1, 160, .inl (fun _ => 0)))] : va_W))) H := hP
  have hD : va_D A (((h0, .inr (6, [.ref q1, .int 0, .int 0, .int 0, .int 0, .int 0, .int 0])) : Nat × va_E) :: (([] : va_W) ++ ([(q1, .inl (t 1, 160, .inl (fun _ => 0)))] : va_W))) := hD
  exact g_vretN C ⟨(fun k => [h0, q1].getD k 0), rfl, rfl⟩ hP hD hS dX6_init_13
theorem hdX7_init : yX7_init.cls ≠ "java/lang/invoke/MethodHandle" ∧ yX7_init.cls ≠ "java/lang/invoke/VarHandle" ∧ (parseMethodDescriptor yX7_init.desc).map (fun d => d.parameters.length) = some 1 := by decide +kernel
theorem lkX7_init_oi : Cond.methodLink RX7 3 objectInit ∈ wsX7_init := by decide +kernel
theorem lkX7_init_om : Cond.instanceMethod objectInit ∈ wsX7_init := by decide +kernel
theorem lkX7_init_oc : Cond.code objectInit ⟨#[0xb1]⟩ 1 none ∈ wsX7_init := List.mem_of_getElem? (i := 3) rfl
theorem lkX7_init_f9 : Cond.fieldLink RX7 9 "CoachCourt$Teller" "tape" "LCoachCourt$Tape;" ∈ wsX7_init := by decide +kernel
theorem iwX7_init_X7 : ∀ w ∈ wsX70, w ∈ wsX7_init := by decide +kernel
set_option maxHeartbeats 1000000 in
set_option maxRecDepth 100000 in
theorem cX7_init_ok {l : Launch} {D : va_G} {t : Nat → ClassId} {κ : Nat → Nat} {h0 : Nat} {x1 : Nat} : CtN l D t κ (fun _ => True) yX7_init wsX7_init (rmN 1 0 0) [.ref h0, .ref x1] [(h0, .inr (7, [.null, .int 0, .int 0]))] (fun w1 => ∃ a : Nat → Nat, a 0 = h0 ∧ w1 = wTeller t a x1 z0) 0 0 := by
  refine CtN.ofW (own := RX7) (cc := cX7_init) (maxL := 2) (by decide) rfl rfl rfl (Nat.le_of_ble_eq_true rfl) ?_
  intro p e s m below meth c A C hin hX hP hD ls hl
  have hS : va_S A s.heap s.heap [] := va_S.rf
  obtain ⟨hx, hb, hr, hml, hown, hts, hC0, hlk, hA⟩ := id C
  have hK := hC0.1
  have hl : lv_has ls 2 [(0, .ref h0), (1, .ref x1)] := hl
  refine lv_aload_n hx hb dX7_init_0 rfl (lv_at hl 0 rfl) ?_
  refine W.objInit hx hb hown (hts _ lkX7_init_oi) (hts _ lkX7_init_om) (hts _ lkX7_init_oc) rfl (by rw [hml]; exact hl.1) rfl dX7_init_1 (Nat.le_of_ble_eq_true rfl) (Nat.le_of_ble_eq_true rfl) ?_
  refine W.eq (g2 := F0 m 4 ls []) rfl ?_
  refine lv_aload_n hx hb dX7_init_4 rfl (lv_at hl 0 rfl) ?_
  refine lv_aload_n hx hb dX7_init_5 rfl (lv_at hl 1 rfl) ?_
  refine va_putF (D := D) (ci := 7) (v := .ref x1) (ty := .object "CoachCourt$Tape") (C := RX7) (T := TX7) (N := 3) hx hb hts iwX7_init_X7 tyX7 tyX7_ok nmX7 hown hK hP hD hS 0 rfl rfl 0 (by decide) (hts _ lkX7_init_f9) (fun _ h9 => h9) rfl hin rfl (by decide +kernel) rfl rfl (Nat.le_of_ble_eq_true rfl) dX7_init_6 (fun H locs hP hD hS => ?_)
  have hP : va_P D vwCl (((h0, .inr (7, [.ref x1, .int 0, .int 0])) : Nat × va_E) :: ([] : va_W)) H := hP
  have hD : va_D A (((h0, .inr (7, [.ref x1, .int 0, .int 0])) : Nat × va_E) :: ([] : va_W)) := hD
  exact g_vretN C ⟨(fun k => [h0].getD k 0), rfl, rfl⟩ hP hD hS dX7_init_9
theorem hdX2_init : yX2_init.cls ≠ "java/lang/invoke/MethodHandle" ∧ yX2_init.cls ≠ "java/lang/invoke/VarHandle" ∧ (parseMethodDescriptor yX2_init.desc).map (fun d => d.parameters.length) = some 0 := by decide +kernel
theorem lkX2_init_oi : Cond.methodLink RX2 3 objectInit ∈ wsX2_init := by decide +kernel
theorem lkX2_init_om : Cond.instanceMethod objectInit ∈ wsX2_init := by decide +kernel
theorem lkX2_init_oc : Cond.code objectInit ⟨#[0xb1]⟩ 1 none ∈ wsX2_init := List.mem_of_getElem? (i := 3) rfl
theorem lkX2_init_ac_int : Cond.arrayClass .int ∈ wsX2_init := by decide +kernel
theorem lkX2_init_f9 : Cond.fieldLink RX2 9 "CoachCourt$Road" "land" "[I" ∈ wsX2_init := by decide +kernel
theorem iwX2_init_X2 : ∀ w ∈ wsX20, w ∈ wsX2_init := by decide +kernel
theorem lkX2_init_f15 : Cond.fieldLink RX2 15 "CoachCourt$Road" "hill" "[I" ∈ wsX2_init := by decide +kernel
theorem lkX2_init_f18 : Cond.fieldLink RX2 18 "CoachCourt$Road" "mud" "[I" ∈ wsX2_init := by decide +kernel
theorem lkX2_init_f21 : Cond.fieldLink RX2 21 "CoachCourt$Road" "kind" "[I" ∈ wsX2_init := by decide +kernel
theorem lkX2_init_f24 : Cond.fieldLink RX2 24 "CoachCourt$Road" "wind" "[I" ∈ wsX2_init := by decide +kernel
theorem lkX2_init_f27 : Cond.fieldLink RX2 27 "CoachCourt$Road" "need" "[I" ∈ wsX2_init := by decide +kernel
theorem lkX2_init_f30 : Cond.fieldLink RX2 30 "CoachCourt$Road" "law" "[I" ∈ wsX2_init := by decide +kernel
theorem lkX2_init_f33 : Cond.fieldLink RX2 33 "CoachCourt$Road" "stone" "[I" ∈ wsX2_init := by decide +kernel
theorem lkX2_init_f36 : Cond.fieldLink RX2 36 "CoachCourt$Road" "places" "I" ∈ wsX2_init := by decide +kernel
theorem lkX2_init_f40 : Cond.fieldLink RX2 40 "CoachCourt$Road" "snowfall" "I" ∈ wsX2_init := by decide +kernel
set_option maxHeartbeats 1000000 in
set_option maxRecDepth 100000 in
theorem cX2_init_ok {l : Launch} {D : va_G} {t : Nat → ClassId} {κ : Nat → Nat} {h0 : Nat} : CtN l D t κ (fun _ => True) yX2_init wsX2_init (rmN 1 8 44) [.ref h0] [(h0, .inr (2, [.null, .null, .null, .null, .null, .null, .null, .null, .int 0, .int 0, .int 0, .int 0]))] (fun w1 => ∃ a : Nat → Nat, a 0 = h0 ∧ w1 = wRoad t a zR) 8 44 := by
  refine CtN.ofW (own := RX2) (cc := cX2_init) (maxL := 1) (by decide) rfl rfl rfl (Nat.le_of_ble_eq_true rfl) ?_
  intro p e s m below meth c A C hin hX hP hD ls hl
  have hS : va_S A s.heap s.heap [] := va_S.rf
  obtain ⟨hx, hb, hr, hml, hown, hts, hC0, hlk, hA⟩ := id C
  have hK := hC0.1
  have hl : lv_has ls 1 [(0, .ref h0)] := hl
  refine lv_aload_n hx hb dX2_init_0 rfl (lv_at hl 0 rfl) ?_
  refine W.objInit hx hb hown (hts _ lkX2_init_oi) (hts _ lkX2_init_om) (hts _ lkX2_init_oc) rfl (by rw [hml]; exact hl.1) rfl dX2_init_1 (Nat.le_of_ble_eq_true rfl) (Nat.le_of_ble_eq_true rfl) ?_
  refine W.eq (g2 := F0 m 4 ls []) rfl ?_
  refine lv_aload_n hx hb dX2_init_4 rfl (lv_at hl 0 rfl) ?_
  refine lv_bipush (v := 8) hx hb dX2_init_5 (by decide) ?_
  refine g_newa (atype := .int) (ty := .int) (k := 0) (N := 8) (a0 := (8, .inl (fun _ => 0))) C lkX2_init_ac_int rfl rfl (fun _ h9 => h9) hP hD hS (fun _ => rfl) (by decide) (by decide) (by decide) (Nat.le_of_ble_eq_true rfl) (Nat.le_of_ble_eq_true rfl) dX2_init_7 (fun q1 H hP hD hS => ?_)
  refine W.cs (cells' := 1) (slots' := 8) rfl rfl ?_
  have hP : va_P D vwCl (((h0, .inr (2, [.null, .null, .null, .null, .null, .null, .null, .null, .int 0, .int 0, .int 0, .int 0])) : Nat × va_E) :: (([] : va_W) ++ ([(q1, .inl (t 0, 8, .inl (fun _ => 0)))] : va_W))) H := hP
  have hD : va_D A (((h0, .inr (2, [.null, .null, .null, .null, .null, .null, .null, .null, .int 0, .int 0, .int 0, .int 0])) : Nat × va_E) :: (([] : va_W) ++ ([(q1, .inl (t 0, 8, .inl (fun _ => 0)))] : va_W))) := hD
  refine va_putF (D := D) (ci := 2) (v := .ref q1) (ty := .array .int) (C := RX2) (T := TX2) (N := 12) hx hb hts iwX2_init_X2 tyX2 tyX2_ok nmX2 hown hK hP hD hS 0 rfl rfl 0 (by decide) (hts _ lkX2_init_f9) (fun _ h9 => h9) rfl hin rfl (by decide +kernel) rfl rfl (Nat.le_of_ble_eq_true rfl) dX2_init_9 (fun H locs hP hD hS => ?_)
  have hP : va_P D vwCl (((h0, .inr (2, [.ref q1, .null, .null, .null, .null, .null, .null, .null, .int 0, .int 0, .int 0, .int 0])) : Nat × va_E) :: (([] : va_W) ++ ([(q1, .inl (t 0, 8, .inl (fun _ => 0)))] : va_W))) H := hP
  have hD : va_D A (((h0, .inr (2, [.ref q1, .null, .null, .null, .null, .null, .null, .null, .int 0, .int 0, .int 0, .int 0])) : Nat × va_E) :: (([] : va_W) ++ ([(q1, .inl (t 0, 8, .inl (fun _ => 0)))] : va_W))) := hD
  refine lv_aload_n hx hb dX2_init_12 rfl (lv_at hl 0 rfl) ?_
  refine lv_bipush (v := 8) hx hb dX2_init_13 (by decide) ?_
  refine g_newa (atype := .int) (ty := .int) (k := 0) (N := 8) (a0 := (8, .inl (fun _ => 0))) C lkX2_init_ac_int rfl rfl (fun _ h9 => h9) hP hD hS (fun _ => rfl) (by decide) (by decide) (by decide) (Nat.le_of_ble_eq_true rfl) (Nat.le_of_ble_eq_true rfl) dX2_init_15 (fun q2 H hP hD hS => ?_)
  refine W.cs (cells' := 2) (slots' := 16) rfl rfl ?_
  have hP : va_P D vwCl (((h0, .inr (2, [.ref q1, .null, .null, .null, .null, .null, .null, .null, .int 0, .int 0, .int 0, .int 0])) : Nat × va_E) :: ((([] : va_W) ++ ([(q1, .inl (t 0, 8, .inl (fun _ => 0)))] : va_W)) ++ ([(q2, .inl (t 0, 8, .inl (fun _ => 0)))] : va_W))) H := hP
  have hD : va_D A (((h0, .inr (2, [.ref q1, .null, .null, .null, .null, .null, .null, .null, .int 0, .int 0, .int 0, .int 0])) : Nat × va_E) :: ((([] : va_W) ++ ([(q1, .inl (t 0, 8, .inl (fun _ => 0)))] : va_W)) ++ ([(q2, .inl (t 0, 8, .inl (fun _ => 0)))] : va_W))) := hD
  refine va_putF (D := D) (ci := 2) (v := .ref q2) (ty := .array .int) (C := RX2) (T := TX2) (N := 12) hx hb hts iwX2_init_X2 tyX2 tyX2_ok nmX2 hown hK hP hD hS 0 rfl rfl 1 (by decide) (hts _ lkX2_init_f15) (fun _ h9 => h9) rfl hin rfl (by decide +kernel) rfl rfl (Nat.le_of_ble_eq_true rfl) dX2_init_17 (fun H locs hP hD hS => ?_)
  have hP : va_P D vwCl (((h0, .inr (2, [.ref q1, .ref q2, .null, .null, .null, .null, .null, .null, .int 0, .int 0, .int 0, .int 0])) : Nat × va_E) :: ((([] : va_W) ++ ([(q1, .inl (t 0, 8, .inl (fun _ => 0)))] : va_W)) ++ ([(q2, .inl (t 0, 8, .inl (fun _ => 0)))] : va_W))) H := hP
  have hD : va_D A (((h0, .inr (2, [.ref q1, .ref q2, .null, .null, .null, .null, .null, .null, .int 0, .int 0, .int 0, .int 0])) : Nat × va_E) :: ((([] : va_W) ++ ([(q1, .inl (t 0, 8, .inl (fun _ => 0)))] : va_W)) ++ ([(q2, .inl (t 0, 8, .inl (fun _ => 0)))] : va_W))) := hD
  refine lv_aload_n hx hb dX2_init_20 rfl (lv_at hl 0 rfl) ?_
  refine lv_bipush (v := 8) hx hb dX2_init_21 (by decide) ?_
  refine g_newa (atype := .int) (ty := .int) (k := 0) (N := 8) (a0 := (8, .inl (fun _ => 0))) C lkX2_init_ac_int rfl rfl (fun _ h9 => h9) hP hD hS (fun _ => rfl) (by decide) (by decide) (by decide) (Nat.le_of_ble_eq_true rfl) (Nat.le_of_ble_eq_true rfl) dX2_init_23 (fun q3 H hP hD hS => ?_)
  refine W.cs (cells' := 3) (slots' := 24) rfl rfl ?_
  have hP : va_P D vwCl (((h0, .inr (2, [.ref q1, .ref q2, .null, .null, .null, .null, .null, .null, .int 0, .int 0, .int 0, .int 0])) : Nat × va_E) :: (((([] : va_W) ++ ([(q1, .inl (t 0, 8, .inl (fun _ => 0)))] : va_W)) ++ ([(q2, .inl (t 0, 8, .inl (fun _ => 0)))] : va_W)) ++ ([(q3, .inl (t 0, 8, .inl (fun _ => 0)))] : va_W))) H := hP
  have hD : va_D A (((h0, .inr (2, [.ref q1, .ref q2, .null, .null, .null, .null, .null, .null, .int 0, .int 0, .int 0, .int 0])) : Nat × va_E) :: (((([] : va_W) ++ ([(q1, .inl (t 0, 8, .inl (fun _ => 0)))] : va_W)) ++ ([(q2, .inl (t 0, 8, .inl (fun _ => 0)))] : va_W)) ++ ([(q3, .inl (t 0, 8, .inl (fun _ => 0)))] : va_W))) := hD
  refine va_putF (D := D) (ci := 2) (v := .ref q3) (ty := .array .int) (C := RX2) (T := TX2) (N := 12) hx hb hts iwX2_init_X2 tyX2 tyX2_ok nmX2 hown hK hP hD hS 0 rfl rfl 2 (by decide) (hts _ lkX2_init_f18) (fun _ h9 => h9) rfl hin rfl (by decide +kernel) rfl rfl (Nat.le_of_ble_eq_true rfl) dX2_init_25 (fun H locs hP hD hS => ?_)
  have hP : va_P D vwCl (((h0, .inr (2, [.ref q1, .ref q2, .ref q3, .null, .null, .null, .null, .null, .int 0, .int 0, .int 0, .int 0])) : Nat × va_E) :: (((([] : va_W) ++ ([(q1, .inl (t 0, 8, .inl (fun _ => 0)))] : va_W)) ++ ([(q2, .inl (t 0, 8, .inl (fun _ => 0)))] : va_W)) ++ ([(q3, .inl (t 0, 8, .inl (fun _ => 0)))] : va_W))) H := hP
  have hD : va_D A (((h0, .inr (2, [.ref q1, .ref q2, .ref q3, .null, .null, .null, .null, .null, .int 0, .int 0, .int 0, .int 0])) : Nat × va_E) :: (((([] : va_W) ++ ([(q1, .inl (t 0, 8, .inl (fun _ => 0)))] : va_W)) ++ ([(q2, .inl (t 0, 8, .inl (fun _ => 0)))] : va_W)) ++ ([(q3, .inl (t 0, 8, .inl (fun _ => 0)))] : va_W))) := hD
  refine lv_aload_n hx hb dX2_init_28 rfl (lv_at hl 0 rfl) ?_
  refine lv_iconst (v := 4) hx hb dX2_init_29 (by decide) ?_
  refine g_newa (atype := .int) (ty := .int) (k := 0) (N := 4) (a0 := (4, .inl (fun _ => 0))) C lkX2_init_ac_int rfl rfl (fun _ h9 => h9) hP hD hS (fun _ => rfl) (by decide) (by decide) (by decide) (Nat.le_of_ble_eq_true rfl) (Nat.le_of_ble_eq_true rfl) dX2_init_30 (fun q4 H hP hD hS => ?_)
  refine W.cs (cells' := 4) (slots' := 28) rfl rfl ?_
  have hP : va_P D vwCl (((h0, .inr (2, [.ref q1, .ref q2, .ref q3, .null, .null, .null, .null, .null, .int 0, .int 0, .int 0, .int 0])) : Nat × va_E) :: ((((([] : va_W) ++ ([(q1, .inl (t 0, 8, .inl (fun _ => 0)))] : va_W)) ++ ([(q2, .inl (t 0, 8, .inl (fun _ => 0)))] : va_W)) ++ ([(q3, .inl (t 0, 8, .inl (fun _ => 0)))] : va_W)) ++ ([(q4, .inl (t 0, 4, .inl (fun _ => 0)))] : va_W))) H := hP
  have hD : va_D A (((h0, .inr (2, [.ref q1, .ref q2, .ref q3, .null, .null, .null, .null, .null, .int 0, .int 0, .int 0, .int 0])) : Nat × va_E) :: ((((([] : va_W) ++ ([(q1, .inl (t 0, 8, .inl (fun _ => 0)))] : va_W)) ++ ([(q2, .inl (t 0, 8, .inl (fun _ => 0)))] : va_W)) ++ ([(q3, .inl (t 0, 8, .inl (fun _ => 0)))] : va_W)) ++ ([(q4, .inl (t 0, 4, .inl (fun _ => 0)))] : va_W))) := hD
  refine va_putF (D := D) (ci := 2) (v := .ref q4) (ty := .array .int) (C := RX2) (T := TX2) (N := 12) hx hb hts iwX2_init_X2 tyX2 tyX2_ok nmX2 hown hK hP hD hS 0 rfl rfl 3 (by decide) (hts _ lkX2_init_f21) (fun _ h9 => h9) rfl hin rfl (by decide +kernel) rfl rfl (Nat.le_of_ble_eq_true rfl) dX2_init_32 (fun H locs hP hD hS => ?_)
  have hP : va_P D vwCl (((h0, .inr (2, [.ref q1, .ref q2, .ref q3, .ref q4, .null, .null, .null, .null, .int 0, .int 0, .int 0, .int 0])) : Nat × va_E) :: ((((([] : va_W) ++ ([(q1, .inl (t 0, 8, .inl (fun _ => 0)))] : va_W)) ++ ([(q2, .inl (t 0, 8, .inl (fun _ => 0)))] : va_W)) ++ ([(q3, .inl (t 0, 8, .inl (fun _ => 0)))] : va_W)) ++ ([(q4, .inl (t 0, 4, .inl (fun _ => 0)))] : va_W))) H := hP
  have hD : va_D A (((h0, .inr (2, [.ref q1, .ref q2, .ref q3, .ref q4, .null, .null, .null, .null, .int 0, .int 0, .int 0, .int 0])) : Nat × va_E) :: ((((([] : va_W) ++ ([(q1, .inl (t 0, 8, .inl (fun _ => 0)))] : va_W)) ++ ([(q2, .inl (t 0, 8, .inl (fun _ => 0)))] : va_W)) ++ ([(q3, .inl (t 0, 8, .inl (fun _ => 0)))] : va_W)) ++ ([(q4, .inl (t 0, 4, .inl (fun _ => 0)))] : va_W))) := hD
  refine lv_aload_n hx hb dX2_init_35 rfl (lv_at hl 0 rfl) ?_
  refine lv_iconst (v := 4) hx hb dX2_init_36 (by decide) ?_
  refine g_newa (atype := .int) (ty := .int) (k := 0) (N := 4) (a0 := (4, .inl (fun _ => 0))) C lkX2_init_ac_int rfl rfl (fun _ h9 => h9) hP hD hS (fun _ => rfl) (by decide) (by decide) (by decide) (Nat.le_of_ble_eq_true rfl) (Nat.le_of_ble_eq_true rfl) dX2_init_37 (fun q5 H hP hD hS => ?_)
  refine W.cs (cells' := 5) (slots' := 32) rfl rfl ?_
  have hP : va_P D vwCl (((h0, .inr (2, [.ref q1, .ref q2, .ref q3, .ref q4, .null, .null, .null, .null, .int 0, .int 0, .int 0, .int 0])) : Nat × va_E) :: (((((([] : va_W) ++ ([(q1, .inl (t 0, 8, .inl (fun _ => 0)))] : va_W)) ++ ([(q2, .inl (t 0, 8, .inl (fun _ => 0)))] : va_W)) ++ ([(q3, .inl (t 0, 8, .inl (fun _ => 0)))] : va_W)) ++ ([(q4, .inl (t 0, 4, .inl (fun _ => 0)))] : va_W)) ++ ([(q5, .inl (t 0, 4, .inl (fun _ => 0)))] : va_W))) H := hP
  have hD : va_D A (((h0, .inr (2, [.ref q1, .ref q2, .ref q3, .ref q4, .null, .null, .null, .null, .int 0, .int 0, .int 0, .int 0])) : Nat × va_E) :: (((((([] : va_W) ++ ([(q1, .inl (t 0, 8, .inl (fun _ => 0)))] : va_W)) ++ ([(q2, .inl (t 0, 8, .inl (fun _ => 0)))] : va_W)) ++ ([(q3, .inl (t 0, 8, .inl (fun _ => 0)))] : va_W)) ++ ([(q4, .inl (t 0, 4, .inl (fun _ => 0)))] : va_W)) ++ ([(q5, .inl (t 0, 4, .inl (fun _ => 0)))] : va_W))) := hD
  refine va_putF (D := D) (ci := 2) (v := .ref q5) (ty := .array .int) (C := RX2) (T := TX2) (N := 12) hx hb hts iwX2_init_X2 tyX2 tyX2_ok nmX2 hown hK hP hD hS 0 rfl rfl 4 (by decide) (hts _ lkX2_init_f24) (fun _ h9 => h9) rfl hin rfl (by decide +kernel) rfl rfl (Nat.le_of_ble_eq_true rfl) dX2_init_39 (fun H locs hP hD hS => ?_)
  have hP : va_P D vwCl (((h0, .inr (2, [.ref q1, .ref q2, .ref q3, .ref q4, .ref q5, .null, .null, .null, .int 0, .int 0, .int 0, .int 0])) : Nat × va_E) :: (((((([] : va_W) ++ ([(q1, .inl (t 0, 8, .inl (fun _ => 0)))] : va_W)) ++ ([(q2, .inl (t 0, 8, .inl (fun _ => 0)))] : va_W)) ++ ([(q3, .inl (t 0, 8, .inl (fun _ => 0)))] : va_W)) ++ ([(q4, .inl (t 0, 4, .inl (fun _ => 0)))] : va_W)) ++ ([(q5, .inl (t 0, 4, .inl (fun _ => 0)))] : va_W))) H := hP
  have hD : va_D A (((h0, .inr (2, [.ref q1, .ref q2, .ref q3, .ref q4, .ref q5, .null, .null, .null, .int 0, .int 0, .int 0, .int 0])) : Nat × va_E) :: (((((([] : va_W) ++ ([(q1, .inl (t 0, 8, .inl (fun _ => 0)))] : va_W)) ++ ([(q2, .inl (t 0, 8, .inl (fun _ => 0)))] : va_W)) ++ ([(q3, .inl (t 0, 8, .inl (fun _ => 0)))] : va_W)) ++ ([(q4, .inl (t 0, 4, .inl (fun _ => 0)))] : va_W)) ++ ([(q5, .inl (t 0, 4, .inl (fun _ => 0)))] : va_W))) := hD
  refine lv_aload_n hx hb dX2_init_42 rfl (lv_at hl 0 rfl) ?_
  refine lv_iconst (v := 4) hx hb dX2_init_43 (by decide) ?_
  refine g_newa (atype := .int) (ty := .int) (k := 0) (N := 4) (a0 := (4, .inl (fun _ => 0))) C lkX2_init_ac_int rfl rfl (fun _ h9 => h9) hP hD hS (fun _ => rfl) (by decide) (by decide) (by decide) (Nat.le_of_ble_eq_true rfl) (Nat.le_of_ble_eq_true rfl) dX2_init_44 (fun q6 H hP hD hS => ?_)
  refine W.cs (cells' := 6) (slots' := 36) rfl rfl ?_
  have hP : va_P D vwCl (((h0, .inr (2, [.ref q1, .ref q2, .ref q3, .ref q4, .ref q5, .null, .null, .null, .int 0, .int 0, .int 0, .int 0])) : Nat × va_E) :: ((((((([] : va_W) ++ ([(q1, .inl (t 0, 8, .inl (fun _ => 0)))] : va_W)) ++ ([(q2, .inl (t 0, 8, .inl (fun _ => 0)))] : va_W)) ++ ([(q3, .inl (t 0, 8, .inl (fun _ => 0)))] : va_W)) ++ ([(q4, .inl (t 0, 4, .inl (fun _ => 0)))] : va_W)) ++ ([(q5, .inl (t 0, 4, .inl (fun _ => 0)))] : va_W)) ++ ([(q6, .inl (t 0, 4, .inl (fun _ => 0)))] : va_W))) H := hP
  have hD : va_D A (((h0, .inr (2, [.ref q1, .ref q2, .ref q3, .ref q4, .ref q5, .null, .null, .null, .int 0, .int 0, .int 0, .int 0])) : Nat × va_E) :: ((((((([] : va_W) ++ ([(q1, .inl (t 0, 8, .inl (fun _ => 0)))] : va_W)) ++ ([(q2, .inl (t 0, 8, .inl (fun _ => 0)))] : va_W)) ++ ([(q3, .inl (t 0, 8, .inl (fun _ => 0)))] : va_W)) ++ ([(q4, .inl (t 0, 4, .inl (fun _ => 0)))] : va_W)) ++ ([(q5, .inl (t 0, 4, .inl (fun _ => 0)))] : va_W)) ++ ([(q6, .inl (t 0, 4, .inl (fun _ => 0)))] : va_W))) := hD
  refine va_putF (D := D) (ci := 2) (v := .ref q6) (ty := .array .int) (C := RX2) (T := TX2) (N := 12) hx hb hts iwX2_init_X2 tyX2 tyX2_ok nmX2 hown hK hP hD hS 0 rfl rfl 5 (by decide) (hts _ lkX2_init_f27) (fun _ h9 => h9) rfl hin rfl (by decide +kernel) rfl rfl (Nat.le_of_ble_eq_true rfl) dX2_init_46 (fun H locs hP hD hS => ?_)
  have hP : va_P D vwCl (((h0, .inr (2, [.ref q1, .ref q2, .ref q3, .ref q4, .ref q5, .ref q6, .null, .null, .int 0, .int 0, .int 0, .int 0])) : Nat × va_E) :: ((((((([] : va_W) ++ ([(q1, .inl (t 0, 8, .inl (fun _ => 0)))] : va_W)) ++ ([(q2, .inl (t 0, 8, .inl (fun _ => 0)))] : va_W)) ++ ([(q3, .inl (t 0, 8, .inl (fun _ => 0)))] : va_W)) ++ ([(q4, .inl (t 0, 4, .inl (fun _ => 0)))] : va_W)) ++ ([(q5, .inl (t 0, 4, .inl (fun _ => 0)))] : va_W)) ++ ([(q6, .inl (t 0, 4, .inl (fun _ => 0)))] : va_W))) H := hP
  have hD : va_D A (((h0, .inr (2, [.ref q1, .ref q2, .ref q3, .ref q4, .ref q5, .ref q6, .null, .null, .int 0, .int 0, .int 0, .int 0])) : Nat × va_E) :: ((((((([] : va_W) ++ ([(q1, .inl (t 0, 8, .inl (fun _ => 0)))] : va_W)) ++ ([(q2, .inl (t 0, 8, .inl (fun _ => 0)))] : va_W)) ++ ([(q3, .inl (t 0, 8, .inl (fun _ => 0)))] : va_W)) ++ ([(q4, .inl (t 0, 4, .inl (fun _ => 0)))] : va_W)) ++ ([(q5, .inl (t 0, 4, .inl (fun _ => 0)))] : va_W)) ++ ([(q6, .inl (t 0, 4, .inl (fun _ => 0)))] : va_W))) := hD
  refine lv_aload_n hx hb dX2_init_49 rfl (lv_at hl 0 rfl) ?_
  refine lv_iconst (v := 4) hx hb dX2_init_50 (by decide) ?_
  refine g_newa (atype := .int) (ty := .int) (k := 0) (N := 4) (a0 := (4, .inl (fun _ => 0))) C lkX2_init_ac_int rfl rfl (fun _ h9 => h9) hP hD hS (fun _ => rfl) (by decide) (by decide) (by decide) (Nat.le_of_ble_eq_true rfl) (Nat.le_of_ble_eq_true rfl) dX2_init_51 (fun q7 H hP hD hS => ?_)
  refine W.cs (cells' := 7) (slots' := 40) rfl rfl ?_
  have hP : va_P D vwCl (((h0, .inr (2, [.ref q1, .ref q2, .ref q3, .ref q4, .ref q5, .ref q6, .null, .null, .int 0, .int 0, .int 0, .int 0])) : Nat × va_E) :: (((((((([] : va_W) ++ ([(q1, .inl (t 0, 8, .inl (fun _ => 0)))] : va_W)) ++ ([(q2, .inl (t 0, 8, .inl (fun _ => 0)))] : va_W)) ++ ([(q3, .inl (t 0, 8, .inl (fun _ => 0)))] : va_W)) ++ ([(q4, .inl (t 0, 4, .inl (fun _ => 0)))] : va_W)) ++ ([(q5, .inl (t 0, 4, .inl (fun _ => 0)))] : va_W)) ++ ([(q6, .inl (t 0, 4, .inl (fun _ => 0)))] : va_W)) ++ ([(q7, .inl (t 0, 4, .inl (fun _ => 0)))] : va_W))) H := hP
  have hD : va_D A (((h0, .inr (2, [.ref q1, .ref q2, .ref q3, .ref q4, .ref q5, .ref q6, .null, .null, .int 0, .int 0, .int 0, .int 0])) : Nat × va_E) :: (((((((([] : va_W) ++ ([(q1, .inl (t 0, 8, .inl (fun _ => 0)))] : va_W)) ++ ([(q2, .inl (t 0, 8, .inl (fun _ => 0)))] : va_W)) ++ ([(q3, .inl (t 0, 8, .inl (fun _ => 0)))] : va_W)) ++ ([(q4, .inl (t 0, 4, .inl (fun _ => 0)))] : va_W)) ++ ([(q5, .inl (t 0, 4, .inl (fun _ => 0)))] : va_W)) ++ ([(q6, .inl (t 0, 4, .inl (fun _ => 0)))] : va_W)) ++ ([(q7, .inl (t 0, 4, .inl (fun _ => 0)))] : va_W))) := hD
  refine va_putF (D := D) (ci := 2) (v := .ref q7) (ty := .array .int) (C := RX2) (T := TX2) (N := 12) hx hb hts iwX2_init_X2 tyX2 tyX2_ok nmX2 hown hK hP hD hS 0 rfl rfl 6 (by decide) (hts _ lkX2_init_f30) (fun _ h9 => h9) rfl hin rfl (by decide +kernel) rfl rfl (Nat.le_of_ble_eq_true rfl) dX2_init_53 (fun H locs hP hD hS => ?_)
  have hP : va_P D vwCl (((h0, .inr (2, [.ref q1, .ref q2, .ref q3, .ref q4, .ref q5, .ref q6, .ref q7, .null, .int 0, .int 0, .int 0, .int 0])) : Nat × va_E) :: (((((((([] : va_W) ++ ([(q1, .inl (t 0, 8, .inl (fun _ => 0)))] : va_W)) ++ ([(q2, .inl (t 0, 8, .inl (fun _ => 0)))] : va_W)) ++ ([(q3, .inl (t 0, 8, .inl (fun _ => 0)))] : va_W)) ++ ([(q4, .inl (t 0, 4, .inl (fun _ => 0)))] : va_W)) ++ ([(q5, .inl (t 0, 4, .inl (fun _ => 0)))] : va_W)) ++ ([(q6, .inl (t 0, 4, .inl (fun _ => 0)))] : va_W)) ++ ([(q7, .inl (t 0, 4, .inl (fun _ => 0)))] : va_W))) H := hP
  have hD : va_D A (((h0, .inr (2, [.ref q1, .ref q2, .ref q3, .ref q4, .ref q5, .ref q6, .ref q7, .null, .int 0, .int 0, .int 0, .int 0])) : Nat × va_E) :: (((((((([] : va_W) ++ ([(q1, .inl (t 0, 8, .inl (fun _ => 0)))] : va_W)) ++ ([(q2, .inl (t 0, 8, .inl (fun _ => 0)))] : va_W)) ++ ([(q3, .inl (t 0, 8, .inl (fun _ => 0)))] : va_W)) ++ ([(q4, .inl (t 0, 4, .inl (fun _ => 0)))] : va_W)) ++ ([(q5, .inl (t 0, 4, .inl (fun _ => 0)))] : va_W)) ++ ([(q6, .inl (t 0, 4, .inl (fun _ => 0)))] : va_W)) ++ ([(q7, .inl (t 0, 4, .inl (fun _ => 0)))] : va_W))) := hD
  refine lv_aload_n hx hb dX2_init_56 rfl (lv_at hl 0 rfl) ?_
  refine lv_iconst (v := 4) hx hb dX2_init_57 (by decide) ?_
  refine g_newa (atype := .int) (ty := .int) (k := 0) (N := 4) (a0 := (4, .inl (fun _ => 0))) C lkX2_init_ac_int rfl rfl (fun _ h9 => h9) hP hD hS (fun _ => rfl) (by decide) (by decide) (by decide) (Nat.le_of_ble_eq_true rfl) (Nat.le_of_ble_eq_true rfl) dX2_init_58 (fun q8 H hP hD hS => ?_)
  refine W.cs (cells' := 8) (slots' := 44) rfl rfl ?_
  have hP : va_P D vwCl (((h0, .inr (2, [.ref q1, .ref q2, .ref q3, .ref q4, .ref q5, .ref q6, .ref q7, .null, .int 0, .int 0, .int 0, .int 0])) : Nat × va_E) :: ((((((((([] : va_W) ++ ([(q1, .inl (t 0, 8, .inl (fun _ => 0)))] : va_W)) ++ ([(q2, .inl (t 0, 8, .inl (fun _ => 0)))] : va_W)) ++ ([(q3, .inl (t 0, 8, .inl (fun _ => 0)))] : va_W)) ++ ([(q4, .inl (t 0, 4, .inl (fun _ => 0)))] : va_W)) ++ ([(q5, .inl (t 0, 4, .inl (fun _ => 0)))] : va_W)) ++ ([(q6, .inl (t 0, 4, .inl (fun _ => 0)))] : va_W)) ++ ([(q7, .inl (t 0, 4, .inl (fun _ => 0)))] : va_W)) ++ ([(q8, .inl (t 0, 4, .inl (fun _ => 0)))] : va_W))) H := hP
  have hD : va_D A (((h0, .inr (2, [.ref q1, .ref q2, .ref q3, .ref q4, .ref q5, .ref q6, .ref q7, .null, .int 0, .int 0, .int 0, .int 0])) : Nat × va_E) :: ((((((((([] : va_W) ++ ([(q1, .inl (t 0, 8, .inl (fun _ => 0)))] : va_W)) ++ ([(q2, .inl (t 0, 8, .inl (fun _ => 0)))] : va_W)) ++ ([(q3, .inl (t 0, 8, .inl (fun _ => 0)))] : va_W)) ++ ([(q4, .inl (t 0, 4, .inl (fun _ => 0)))] : va_W)) ++ ([(q5, .inl (t 0, 4, .inl (fun _ => 0)))] : va_W)) ++ ([(q6, .inl (t 0, 4, .inl (fun _ => 0)))] : va_W)) ++ ([(q7, .inl (t 0, 4, .inl (fun _ => 0)))] : va_W)) ++ ([(q8, .inl (t 0, 4, .inl (fun _ => 0)))] : va_W))) := hD
  refine va_putF (D := D) (ci := 2) (v := .ref q8) (ty := .array .int) (C := RX2) (T := TX2) (N := 12) hx hb hts iwX2_init_X2 tyX2 tyX2_ok nmX2 hown hK hP hD hS 0 rfl rfl 7 (by decide) (hts _ lkX2_init_f33) (fun _ h9 => h9) rfl hin rfl (by decide +kernel) rfl rfl (Nat.le_of_ble_eq_true rfl) dX2_init_60 (fun H locs hP hD hS => ?_)
  have hP : va_P D vwCl (((h0, .inr (2, [.ref q1, .ref q2, .ref q3, .ref q4, .ref q5, .ref q6, .ref q7, .ref q8, .int 0, .int 0, .int 0, .int 0])) : Nat × va_E) :: ((((((((([] : va_W) ++ ([(q1, .inl (t 0, 8, .inl (fun _ => 0)))] : va_W)) ++ ([(q2, .inl (t 0, 8, .inl (fun _ => 0)))] : va_W)) ++ ([(q3, .inl (t 0, 8, .inl (fun _ => 0)))] : va_W)) ++ ([(q4, .inl (t 0, 4, .inl (fun _ => 0)))] : va_W)) ++ ([(q5, .inl (t 0, 4, .inl (fun _ => 0)))] : va_W)) ++ ([(q6, .inl (t 0, 4, .inl (fun _ => 0)))] : va_W)) ++ ([(q7, .inl (t 0, 4, .inl (fun _ => 0)))] : va_W)) ++ ([(q8, .inl (t 0, 4, .inl (fun _ => 0)))] : va_W))) H := hP
  have hD : va_D A (((h0, .inr (2, [.ref q1, .ref q2, .ref q3, .ref q4, .ref q5, .ref q6, .ref q7, .ref q8, .int 0, .int 0, .int 0, .int 0])) : Nat × va_E) :: ((((((((([] : va_W) ++ ([(q1, .inl (t 0, 8, .inl (fun _ => 0)))] : va_W)) ++ ([(q2, .inl (t 0, 8, .inl (fun _ => 0)))] : va_W)) ++ ([(q3, .inl (t 0, 8, .inl (fun _ => 0)))] : va_W)) ++ ([(q4, .inl (t 0, 4, .inl (fun _ => 0)))] : va_W)) ++ ([(q5, .inl (t 0, 4, .inl (fun _ => 0)))] : va_W)) ++ ([(q6, .inl (t 0, 4, .inl (fun _ => 0)))] : va_W)) ++ ([(q7, .inl (t 0, 4, .inl (fun _ => 0)))] : va_W)) ++ ([(q8, .inl (t 0, 4, .inl (fun _ => 0)))] : va_W))) := hD
  refine lv_aload_n hx hb dX2_init_63 rfl (lv_at hl 0 rfl) ?_
  refine lv_iconst (v := 4) hx hb dX2_init_64 (by decide) ?_
  refine va_put (D := D) (ci := 2) (v := .int 4) (ty := .int) (C := RX2) (T := TX2) (N := 12) hx hb hts iwX2_init_X2 tyX2 tyX2_ok nmX2 hown hK hP hD hS 0 rfl rfl 10 (by decide) (hts _ lkX2_init_f36) (fun _ h9 => h9) rfl (by decide +kernel) rfl rfl (Nat.le_of_ble_eq_true rfl) dX2_init_65 (fun H locs hP hD hS => ?_)
  have hP : va_P D vwCl (((h0, .inr (2, [.ref q1, .ref q2, .ref q3, .ref q4, .ref q5, .ref q6, .ref q7, .ref q8, .int 0, .int 0, .int 4, .int 0])) : Nat × va_E) :: ((((((((([] : va_W) ++ ([(q1, .inl (t 0, 8, .inl (fun _ => 0)))] : va_W)) ++ ([(q2, .inl (t 0, 8, .inl (fun _ => 0)))] : va_W)) ++ ([(q3, .inl (t 0, 8, .inl (fun _ => 0)))] : va_W)) ++ ([(q4, .inl (t 0, 4, .inl (fun _ => 0)))] : va_W)) ++ ([(q5, .inl (t 0, 4, .inl (fun _ => 0)))] : va_W)) ++ ([(q6, .inl (t 0, 4, .inl (fun _ => 0)))] : va_W)) ++ ([(q7, .inl (t 0, 4, .inl (fun _ => 0)))] : va_W)) ++ ([(q8, .inl (t 0, 4, .inl (fun _ => 0)))] : va_W))) H := hP
  have hD : va_D A (((h0, .inr (2, [.ref q1, .ref q2, .ref q3, .ref q4, .ref q5, .ref q6, .ref q7, .ref q8, .int 0, .int 0, .int 4, .int 0])) : Nat × va_E) :: ((((((((([] : va_W) ++ ([(q1, .inl (t 0, 8, .inl (fun _ => 0)))] : va_W)) ++ ([(q2, .inl (t 0, 8, .inl (fun _ => 0)))] : va_W)) ++ ([(q3, .inl (t 0, 8, .inl (fun _ => 0)))] : va_W)) ++ ([(q4, .inl (t 0, 4, .inl (fun _ => 0)))] : va_W)) ++ ([(q5, .inl (t 0, 4, .inl (fun _ => 0)))] : va_W)) ++ ([(q6, .inl (t 0, 4, .inl (fun _ => 0)))] : va_W)) ++ ([(q7, .inl (t 0, 4, .inl (fun _ => 0)))] : va_W)) ++ ([(q8, .inl (t 0, 4, .inl (fun _ => 0)))] : va_W))) := hD
  refine lv_aload_n hx hb dX2_init_68 rfl (lv_at hl 0 rfl) ?_
  refine lv_bipush (v := 99) hx hb dX2_init_69 (by decide) ?_
  refine va_put (D := D) (ci := 2) (v := .int 99) (ty := .int) (C := RX2) (T := TX2) (N := 12) hx hb hts iwX2_init_X2 tyX2 tyX2_ok nmX2 hown hK hP hD hS 0 rfl rfl 11 (by decide) (hts _ lkX2_init_f40) (fun _ h9 => h9) rfl (by decide +kernel) rfl rfl (Nat.le_of_ble_eq_true rfl) dX2_init_71 (fun H locs hP hD hS => ?_)
  have hP : va_P D vwCl (((h0, .inr (2, [.ref q1, .ref q2, .ref q3, .ref q4, .ref q5, .ref q6, .ref q7, .ref q8, .int 0, .int 0, .int 4, .int 99])) : Nat × va_E) :: ((((((((([] : va_W) ++ ([(q1, .inl (t 0, 8, .inl (fun _ => 0)))] : va_W)) ++ ([(q2, .inl (t 0, 8, .inl (fun _ => 0)))] : va_W)) ++ ([(q3, .inl (t 0, 8, .inl (fun _ => 0)))] : va_W)) ++ ([(q4, .inl (t 0, 4, .inl (fun _ => 0)))] : va_W)) ++ ([(q5, .inl (t 0, 4, .inl (fun _ => 0)))] : va_W)) ++ ([(q6, .inl (t 0, 4, .inl (fun _ => 0)))] : va_W)) ++ ([(q7, .inl (t 0, 4, .inl (fun _ => 0)))] : va_W)) ++ ([(q8, .inl (t 0, 4, .inl (fun _ => 0)))] : va_W))) H := hP
  have hD : va_D A (((h0, .inr (2, [.ref q1, .ref q2, .ref q3, .ref q4, .ref q5, .ref q6, .ref q7, .ref q8, .int 0, .int 0, .int 4, .int 99])) : Nat × va_E) :: ((((((((([] : va_W) ++ ([(q1, .inl (t 0, 8, .inl (fun _ => 0)))] : va_W)) ++ ([(q2, .inl (t 0, 8, .inl (fun _ => 0)))] : va_W)) ++ ([(q3, .inl (t 0, 8, .inl (fun _ => 0)))] : va_W)) ++ ([(q4, .inl (t 0, 4, .inl (fun _ => 0)))] : va_W)) ++ ([(q5, .inl (t 0, 4, .inl (fun _ => 0)))] : va_W)) ++ ([(q6, .inl (t 0, 4, .inl (fun _ => 0)))] : va_W)) ++ ([(q7, .inl (t 0, 4, .inl (fun _ => 0)))] : va_W)) ++ ([(q8, .inl (t 0, 4, .inl (fun _ => 0)))] : va_W))) := hD
  exact g_vretN C ⟨(fun k => [h0, q1, q2, q3, q4, q5, q6, q7, q8].getD k 0), rfl, rfl⟩ hP hD hS dX2_init_74
theorem hdX0_init : yX0_init.cls ≠ "java/lang/invoke/MethodHandle" ∧ yX0_init.cls ≠ "java/lang/invoke/VarHandle" ∧ (parseMethodDescriptor yX0_init.desc).map (fun d => d.parameters.length) = some 0 := by decide +kernel
theorem lkX0_init_oi : Cond.methodLink RX0 3 objectInit ∈ wsX0_init := by decide +kernel
theorem lkX0_init_om : Cond.instanceMethod objectInit ∈ wsX0_init := by decide +kernel
theorem lkX0_init_oc : Cond.code objectInit ⟨#[0xb1]⟩ 1 none ∈ wsX0_init := List.mem_of_getElem? (i := 3) rfl
theorem lkX0_init_ac_int : Cond.arrayClass .int ∈ wsX0_init := by decide +kernel
theorem lkX0_init_f9 : Cond.fieldLink RX0 9 "CoachCourt$Drive" "verdict" "[I" ∈ wsX0_init := by decide +kernel
theorem iwX0_init_X0 : ∀ w ∈ wsX00, w ∈ wsX0_init := by decide +kernel
theorem lkX0_init_f15 : Cond.fieldLink RX0 15 "CoachCourt$Drive" "fall" "[I" ∈ wsX0_init := by decide +kernel
theorem lkX0_init_f18 : Cond.fieldLink RX0 18 "CoachCourt$Drive" "heard" "[I" ∈ wsX0_init := by decide +kernel
theorem lkX0_init_f21 : Cond.fieldLink RX0 21 "CoachCourt$Drive" "left" "[I" ∈ wsX0_init := by decide +kernel
theorem lkX0_init_f24 : Cond.fieldLink RX0 24 "CoachCourt$Drive" "runners" "[I" ∈ wsX0_init := by decide +kernel
set_option maxHeartbeats 1000000 in
set_option maxRecDepth 100000 in
theorem cX0_init_ok {l : Launch} {D : va_G} {t : Nat → ClassId} {κ : Nat → Nat} {h0 : Nat} : CtN l D t κ (fun _ => True) yX0_init wsX0_init (rmN 1 5 24) [.ref h0] [(h0, .inr (0, [.null, .null, .null, .null, .null, .int 0, .int 0]))] (fun w1 => ∃ a : Nat → Nat, a 0 = h0 ∧ w1 = wDrive t a z0) 5 24 := by
  refine CtN.ofW (own := RX0) (cc := cX0_init) (maxL := 1) (by decide) rfl rfl rfl (Nat.le_of_ble_eq_true rfl) ?_
  intro p e s m below meth c A C hin hX hP hD ls hl
  have hS : va_S A s.heap s.heap [] := va_S.rf
  obtain ⟨hx, hb, hr, hml, hown, hts, hC0, hlk, hA⟩ := id C
  have hK := hC0.1
  have hl : lv_has ls 1 [(0, .ref h0)] := hl
  refine lv_aload_n hx hb dX0_init_0 rfl (lv_at hl 0 rfl) ?_
  refine W.objInit hx hb hown (hts _ lkX0_init_oi) (hts _ lkX0_init_om) (hts _ lkX0_init_oc) rfl (by rw [hml]; exact hl.1) rfl dX0_init_1 (Nat.le_of_ble_eq_true rfl) (Nat.le_of_ble_eq_true rfl) ?_
  refine W.eq (g2 := F0 m 4 ls []) rfl ?_
  refine lv_aload_n hx hb dX0_init_4 rfl (lv_at hl 0 rfl) ?_
  refine lv_iconst (v := 4) hx hb dX0_init_5 (by decide) ?_
  refine g_newa (atype := .int) (ty := .int) (k := 0) (N := 4) (a0 := (4, .inl (fun _ => 0))) C lkX0_init_ac_int rfl rfl (fun _ h9 => h9) hP hD hS (fun _ => rfl) (by decide) (by decide) (by decide) (Nat.le_of_ble_eq_true rfl) (Nat.le_of_ble_eq_true rfl) dX0_init_6 (fun q1 H hP hD hS => ?_)
  refine W.cs (cells' := 1) (slots' := 4) rfl rfl ?_
  have hP : va_P D vwCl (((h0, .inr (0, [.null, .null, .null, .null, .null, .int 0, .int 0])) : Nat × va_E) :: (([] : va_W) ++ ([(q1, .inl (t 0, 4, .inl (fun _ => 0)))] : va_W))) H := hP
  have hD : va_D A (((h0, .inr (0, [.null, .null, .null, .null, .null, .int 0, .int 0])) : Nat × va_E) :: (([] : va_W) ++ ([(q1, .inl (t 0, 4, .inl (fun _ => 0)))] : va_W))) := hD
  refine va_putF (D := D) (ci := 0) (v := .ref q1) (ty := .array .int) (C := RX0) (T := TX0) (N := 7) hx hb hts iwX0_init_X0 tyX0 tyX0_ok nmX0 hown hK hP hD hS 0 rfl rfl 0 (by decide) (hts _ lkX0_init_f9) (fun _ h9 => h9) rfl hin rfl (by decide +kernel) rfl rfl (Nat.le_of_ble_eq_true rfl) dX0_init_8 (fun H locs hP hD hS => ?_)
  have hP : va_P D vwCl (((h0, .inr (0, [.ref q1, .null, .null, .null, .null, .int 0, .int 0])) : Nat × va_E) :: (([] : va_W) ++ ([(q1, .inl (t 0, 4, .inl (fun _ => 0)))] : va_W))) H := hP
  have hD : va_D A (((h0, .inr (0, [.ref q1, .null, .null, .null, .null, .int 0, .int 0])) : Nat × va_E) :: (([] : va_W) ++ ([(q1, .inl (t 0, 4, .inl (fun _ => 0)))] : va_W))) := hD
  refine lv_aload_n hx hb dX0_init_11 rfl (lv_at hl 0 rfl) ?_
  refine lv_iconst (v := 4) hx hb dX0_init_12 (by decide) ?_
  refine g_newa (atype := .int) (ty := .int) (k := 0) (N := 4) (a0 := (4, .inl (fun _ => 0))) C lkX0_init_ac_int rfl rfl (fun _ h9 => h9) hP hD hS (fun _ => rfl) (by decide) (by decide) (by decide) (Nat.le_of_ble_eq_true rfl) (Nat.le_of_ble_eq_true rfl) dX0_init_13 (fun q2 H hP hD hS => ?_)
  refine W.cs (cells' := 2) (slots' := 8) rfl rfl ?_
  have hP : va_P D vwCl (((h0, .inr (0, [.ref q1, .null, .null, .null, .null, .int 0, .int 0])) : Nat × va_E) :: ((([] : va_W) ++ ([(q1, .inl (t 0, 4, .inl (fun _ => 0)))] : va_W)) ++ ([(q2, .inl (t 0, 4, .inl (fun _ => 0)))] : va_W))) H := hP
  have hD : va_D A (((h0, .inr (0, [.ref q1, .null, .null, .null, .null, .int 0, .int 0])) : Nat × va_E) :: ((([] : va_W) ++ ([(q1, .inl (t 0, 4, .inl (fun _ => 0)))] : va_W)) ++ ([(q2, .inl (t 0, 4, .inl (fun _ => 0)))] : va_W))) := hD
  refine va_putF (D := D) (ci := 0) (v := .ref q2) (ty := .array .int) (C := RX0) (T := TX0) (N := 7) hx hb hts iwX0_init_X0 tyX0 tyX0_ok nmX0 hown hK hP hD hS 0 rfl rfl 1 (by decide) (hts _ lkX0_init_f15) (fun _ h9 => h9) rfl hin rfl (by decide +kernel) rfl rfl (Nat.le_of_ble_eq_true rfl) dX0_init_15 (fun H locs hP hD hS => ?_)
  have hP : va_P D vwCl (((h0, .inr (0, [.ref q1, .ref q2, .null, .null, .null, .int 0, .int 0])) : Nat × va_E) :: ((([] : va_W) ++ ([(q1, .inl (t 0, 4, .inl (fun _ => 0)))] : va_W)) ++ ([(q2, .inl (t 0, 4, .inl (fun _ => 0)))] : va_W))) H := hP
  have hD : va_D A (((h0, .inr (0, [.ref q1, .ref q2, .null, .null, .null, .int 0, .int 0])) : Nat × va_E) :: ((([] : va_W) ++ ([(q1, .inl (t 0, 4, .inl (fun _ => 0)))] : va_W)) ++ ([(q2, .inl (t 0, 4, .inl (fun _ => 0)))] : va_W))) := hD
  refine lv_aload_n hx hb dX0_init_18 rfl (lv_at hl 0 rfl) ?_
  refine lv_iconst (v := 4) hx hb dX0_init_19 (by decide) ?_
  refine g_newa (atype := .int) (ty := .int) (k := 0) (N := 4) (a0 := (4, .inl (fun _ => 0))) C lkX0_init_ac_int rfl rfl (fun _ h9 => h9) hP hD hS (fun _ => rfl) (by decide) (by decide) (by decide) (Nat.le_of_ble_eq_true rfl) (Nat.le_of_ble_eq_true rfl) dX0_init_20 (fun q3 H hP hD hS => ?_)
  refine W.cs (cells' := 3) (slots' := 12) rfl rfl ?_
  have hP : va_P D vwCl (((h0, .inr (0, [.ref q1, .ref q2, .null, .null, .null, .int 0, .int 0])) : Nat × va_E) :: (((([] : va_W) ++ ([(q1, .inl (t 0, 4, .inl (fun _ => 0)))] : va_W)) ++ ([(q2, .inl (t 0, 4, .inl (fun _ => 0)))] : va_W)) ++ ([(q3, .inl (t 0, 4, .inl (fun _ => 0)))] : va_W))) H := hP
  have hD : va_D A (((h0, .inr (0, [.ref q1, .ref q2, .null, .null, .null, .int 0, .int 0])) : Nat × va_E) :: (((([] : va_W) ++ ([(q1, .inl (t 0, 4, .inl (fun _ => 0)))] : va_W)) ++ ([(q2, .inl (t 0, 4, .inl (fun _ => 0)))] : va_W)) ++ ([(q3, .inl (t 0, 4, .inl (fun _ => 0)))] : va_W))) := hD
  refine va_putF (D := D) (ci := 0) (v := .ref q3) (ty := .array .int) (C := RX0) (T := TX0) (N := 7) hx hb hts iwX0_init_X0 tyX0 tyX0_ok nmX0 hown hK hP hD hS 0 rfl rfl 2 (by decide) (hts _ lkX0_init_f18) (fun _ h9 => h9) rfl hin rfl (by decide +kernel) rfl rfl (Nat.le_of_ble_eq_true rfl) dX0_init_22 (fun H locs hP hD hS => ?_)
  have hP : va_P D vwCl (((h0, .inr (0, [.ref q1, .ref q2, .ref q3, .null, .null, .int 0, .int 0])) : Nat × va_E) :: (((([] : va_W) ++ ([(q1, .inl (t 0, 4, .inl (fun _ => 0)))] : va_W)) ++ ([(q2, .inl (t 0, 4, .inl (fun _ => 0)))] : va_W)) ++ ([(q3, .inl (t 0, 4, .inl (fun _ => 0)))] : va_W))) H := hP
  have hD : va_D A (((h0, .inr (0, [.ref q1, .ref q2, .ref q3, .null, .null, .int 0, .int 0])) : Nat × va_E) :: (((([] : va_W) ++ ([(q1, .inl (t 0, 4, .inl (fun _ => 0)))] : va_W)) ++ ([(q2, .inl (t 0, 4, .inl (fun _ => 0)))] : va_W)) ++ ([(q3, .inl (t 0, 4, .inl (fun _ => 0)))] : va_W))) := hD
  refine lv_aload_n hx hb dX0_init_25 rfl (lv_at hl 0 rfl) ?_
  refine lv_iconst (v := 4) hx hb dX0_init_26 (by decide) ?_
  refine g_newa (atype := .int) (ty := .int) (k := 0) (N := 4) (a0 := (4, .inl (fun _ => 0))) C lkX0_init_ac_int rfl rfl (fun _ h9 => h9) hP hD hS (fun _ => rfl) (by decide) (by decide) (by decide) (Nat.le_of_ble_eq_true rfl) (Nat.le_of_ble_eq_true rfl) dX0_init_27 (fun q4 H hP hD hS => ?_)
  refine W.cs (cells' := 4) (slots' := 16) rfl rfl ?_
  have hP : va_P D vwCl (((h0, .inr (0, [.ref q1, .ref q2, .ref q3, .null, .null, .int 0, .int 0])) : Nat × va_E) :: ((((([] : va_W) ++ ([(q1, .inl (t 0, 4, .inl (fun _ => 0)))] : va_W)) ++ ([(q2, .inl (t 0, 4, .inl (fun _ => 0)))] : va_W)) ++ ([(q3, .inl (t 0, 4, .inl (fun _ => 0)))] : va_W)) ++ ([(q4, .inl (t 0, 4, .inl (fun _ => 0)))] : va_W))) H := hP
  have hD : va_D A (((h0, .inr (0, [.ref q1, .ref q2, .ref q3, .null, .null, .int 0, .int 0])) : Nat × va_E) :: ((((([] : va_W) ++ ([(q1, .inl (t 0, 4, .inl (fun _ => 0)))] : va_W)) ++ ([(q2, .inl (t 0, 4, .inl (fun _ => 0)))] : va_W)) ++ ([(q3, .inl (t 0, 4, .inl (fun _ => 0)))] : va_W)) ++ ([(q4, .inl (t 0, 4, .inl (fun _ => 0)))] : va_W))) := hD
  refine va_putF (D := D) (ci := 0) (v := .ref q4) (ty := .array .int) (C := RX0) (T := TX0) (N := 7) hx hb hts iwX0_init_X0 tyX0 tyX0_ok nmX0 hown hK hP hD hS 0 rfl rfl 3 (by decide) (hts _ lkX0_init_f21) (fun _ h9 => h9) rfl hin rfl (by decide +kernel) rfl rfl (Nat.le_of_ble_eq_true rfl) dX0_init_29 (fun H locs hP hD hS => ?_)
  have hP : va_P D vwCl (((h0, .inr (0, [.ref q1, .ref q2, .ref q3, .ref q4, .null, .int 0, .int 0])) : Nat × va_E) :: ((((([] : va_W) ++ ([(q1, .inl (t 0, 4, .inl (fun _ => 0)))] : va_W)) ++ ([(q2, .inl (t 0, 4, .inl (fun _ => 0)))] : va_W)) ++ ([(q3, .inl (t 0, 4, .inl (fun _ => 0)))] : va_W)) ++ ([(q4, .inl (t 0, 4, .inl (fun _ => 0)))] : va_W))) H := hP
  have hD : va_D A (((h0, .inr (0, [.ref q1, .ref q2, .ref q3, .ref q4, .null, .int 0, .int 0])) : Nat × va_E) :: ((((([] : va_W) ++ ([(q1, .inl (t 0, 4, .inl (fun _ => 0)))] : va_W)) ++ ([(q2, .inl (t 0, 4, .inl (fun _ => 0)))] : va_W)) ++ ([(q3, .inl (t 0, 4, .inl (fun _ => 0)))] : va_W)) ++ ([(q4, .inl (t 0, 4, .inl (fun _ => 0)))] : va_W))) := hD
  refine lv_aload_n hx hb dX0_init_32 rfl (lv_at hl 0 rfl) ?_
  refine lv_bipush (v := 8) hx hb dX0_init_33 (by decide) ?_
  refine g_newa (atype := .int) (ty := .int) (k := 0) (N := 8) (a0 := (8, .inl (fun _ => 0))) C lkX0_init_ac_int rfl rfl (fun _ h9 => h9) hP hD hS (fun _ => rfl) (by decide) (by decide) (by decide) (Nat.le_of_ble_eq_true rfl) (Nat.le_of_ble_eq_true rfl) dX0_init_35 (fun q5 H hP hD hS => ?_)
  refine W.cs (cells' := 5) (slots' := 24) rfl rfl ?_
  have hP : va_P D vwCl (((h0, .inr (0, [.ref q1, .ref q2, .ref q3, .ref q4, .null, .int 0, .int 0])) : Nat × va_E) :: (((((([] : va_W) ++ ([(q1, .inl (t 0, 4, .inl (fun _ => 0)))] : va_W)) ++ ([(q2, .inl (t 0, 4, .inl (fun _ => 0)))] : va_W)) ++ ([(q3, .inl (t 0, 4, .inl (fun _ => 0)))] : va_W)) ++ ([(q4, .inl (t 0, 4, .inl (fun _ => 0)))] : va_W)) ++ ([(q5, .inl (t 0, 8, .inl (fun _ => 0)))] : va_W))) H := hP
  have hD : va_D A (((h0, .inr (0, [.ref q1, .ref q2, .ref q3, .ref q4, .null, .int 0, .int 0])) : Nat × va_E) :: (((((([] : va_W) ++ ([(q1, .inl (t 0, 4, .inl (fun _ => 0)))] : va_W)) ++ ([(q2, .inl (t 0, 4, .inl (fun _ => 0)))] : va_W)) ++ ([(q3, .inl (t 0, 4, .inl (fun _ => 0)))] : va_W)) ++ ([(q4, .inl (t 0, 4, .inl (fun _ => 0)))] : va_W)) ++ ([(q5, .inl (t 0, 8, .inl (fun _ => 0)))] : va_W))) := hD
  refine va_putF (D := D) (ci := 0) (v := .ref q5) (ty := .array .int) (C := RX0) (T := TX0) (N := 7) hx hb hts iwX0_init_X0 tyX0 tyX0_ok nmX0 hown hK hP hD hS 0 rfl rfl 4 (by decide) (hts _ lkX0_init_f24) (fun _ h9 => h9) rfl hin rfl (by decide +kernel) rfl rfl (Nat.le_of_ble_eq_true rfl) dX0_init_37 (fun H locs hP hD hS => ?_)
  have hP : va_P D vwCl (((h0, .inr (0, [.ref q1, .ref q2, .ref q3, .ref q4, .ref q5, .int 0, .int 0])) : Nat × va_E) :: (((((([] : va_W) ++ ([(q1, .inl (t 0, 4, .inl (fun _ => 0)))] : va_W)) ++ ([(q2, .inl (t 0, 4, .inl (fun _ => 0)))] : va_W)) ++ ([(q3, .inl (t 0, 4, .inl (fun _ => 0)))] : va_W)) ++ ([(q4, .inl (t 0, 4, .inl (fun _ => 0)))] : va_W)) ++ ([(q5, .inl (t 0, 8, .inl (fun _ => 0)))] : va_W))) H := hP
  have hD : va_D A (((h0, .inr (0, [.ref q1, .ref q2, .ref q3, .ref q4, .ref q5, .int 0, .int 0])) : Nat × va_E) :: (((((([] : va_W) ++ ([(q1, .inl (t 0, 4, .inl (fun _ => 0)))] : va_W)) ++ ([(q2, .inl (t 0, 4, .inl (fun _ => 0)))] : va_W)) ++ ([(q3, .inl (t 0, 4, .inl (fun _ => 0)))] : va_W)) ++ ([(q4, .inl (t 0, 4, .inl (fun _ => 0)))] : va_W)) ++ ([(q5, .inl (t 0, 8, .inl (fun _ => 0)))] : va_W))) := hD
  exact g_vretN C ⟨(fun k => [h0, q1, q2, q3, q4, q5].getD k 0), rfl, rfl⟩ hP hD hS dX0_init_40
theorem hdX3_init : yX3_init.cls ≠ "java/lang/invoke/MethodHandle" ∧ yX3_init.cls ≠ "java/lang/invoke/VarHandle" ∧ (parseMethodDescriptor yX3_init.desc).map (fun d => d.parameters.length) = some 2 := by decide +kernel
theorem lkX3_init_oi : Cond.methodLink RX3 3 objectInit ∈ wsX3_init := by decide +kernel
theorem lkX3_init_om : Cond.instanceMethod objectInit ∈ wsX3_init := by decide +kernel
theorem lkX3_init_oc : Cond.code objectInit ⟨#[0xb1]⟩ 1 none ∈ wsX3_init := List.mem_of_getElem? (i := 3) rfl
theorem lkX3_init_ac_int : Cond.arrayClass .int ∈ wsX3_init := by decide +kernel
theorem lkX3_init_f9 : Cond.fieldLink RX3 9 "CoachCourt$Seeker" "stones" "[I" ∈ wsX3_init := by decide +kernel
theorem iwX3_init_X3 : ∀ w ∈ wsX30, w ∈ wsX3_init := by decide +kernel
theorem lkX3_init_f15 : Cond.fieldLink RX3 15 "CoachCourt$Seeker" "hopes" "[I" ∈ wsX3_init := by decide +kernel
theorem lkX3_init_f18 : Cond.fieldLink RX3 18 "CoachCourt$Seeker" "trial" "LCoachCourt$Road;" ∈ wsX3_init := by decide +kernel
theorem lkX3_init_f22 : Cond.fieldLink RX3 22 "CoachCourt$Seeker" "drive" "LCoachCourt$Drive;" ∈ wsX3_init := by decide +kernel
set_option maxHeartbeats 1000000 in
set_option maxRecDepth 100000 in
theorem cX3_init_ok {l : Launch} {D : va_G} {t : Nat → ClassId} {κ : Nat → Nat} {h0 : Nat} {x1 : Nat} {x2 : Nat} : CtN l D t κ (fun _ => True) yX3_init wsX3_init (rmN 1 2 9) [.ref h0, .ref x1, .ref x2] [(h0, .inr (3, [.null, .null, .null, .null, .int 0]))] (fun w1 => ∃ a : Nat → Nat, a 0 = h0 ∧ w1 = wSeeker t a x1 x2 z0) 2 9 := by
  refine CtN.ofW (own := RX3) (cc := cX3_init) (maxL := 3) (by decide) rfl rfl rfl (Nat.le_of_ble_eq_true rfl) ?_
  intro p e s m below meth c A C hin hX hP hD ls hl
  have hS : va_S A s.heap s.heap [] := va_S.rf
  obtain ⟨hx, hb, hr, hml, hown, hts, hC0, hlk, hA⟩ := id C
  have hK := hC0.1
  have hl : lv_has ls 3 [(0, .ref h0), (1, .ref x1), (2, .ref x2)] := hl
  refine lv_aload_n hx hb dX3_init_0 rfl (lv_at hl 0 rfl) ?_
  refine W.objInit hx hb hown (hts _ lkX3_init_oi) (hts _ lkX3_init_om) (hts _ lkX3_init_oc) rfl (by rw [hml]; exact hl.1) rfl dX3_init_1 (Nat.le_of_ble_eq_true rfl) (Nat.le_of_ble_eq_true rfl) ?_
  refine W.eq (g2 := F0 m 4 ls []) rfl ?_
  refine lv_aload_n hx hb dX3_init_4 rfl (lv_at hl 0 rfl) ?_
  refine lv_iconst (v := 4) hx hb dX3_init_5 (by decide) ?_
  refine g_newa (atype := .int) (ty := .int) (k := 0) (N := 4) (a0 := (4, .inl (fun _ => 0))) C lkX3_init_ac_int rfl rfl (fun _ h9 => h9) hP hD hS (fun _ => rfl) (by decide) (by decide) (by decide) (Nat.le_of_ble_eq_true rfl) (Nat.le_of_ble_eq_true rfl) dX3_init_6 (fun q1 H hP hD hS => ?_)
  refine W.cs (cells' := 1) (slots' := 4) rfl rfl ?_
  have hP : va_P D vwCl (((h0, .inr (3, [.null, .null, .null, .null, .int 0])) : Nat × va_E) :: (([] : va_W) ++ ([(q1, .inl (t 0, 4, .inl (fun _ => 0)))] : va_W))) H := hP
  have hD : va_D A (((h0, .inr (3, [.null, .null, .null, .null, .int 0])) : Nat × va_E) :: (([] : va_W) ++ ([(q1, .inl (t 0, 4, .inl (fun _ => 0)))] : va_W))) := hD
  refine va_putF (D := D) (ci := 3) (v := .ref q1) (ty := .array .int) (C := RX3) (T := TX3) (N := 5) hx hb hts iwX3_init_X3 tyX3 tyX3_ok nmX3 hown hK hP hD hS 0 rfl rfl 2 (by decide) (hts _ lkX3_init_f9) (fun _ h9 => h9) rfl hin rfl (by decide +kernel) rfl rfl (Nat.le_of_ble_eq_true rfl) dX3_init_8 (fun H locs hP hD hS => ?_)
  have hP : va_P D vwCl (((h0, .inr (3, [.null, .null, .ref q1, .null, .int 0])) : Nat × va_E) :: (([] : va_W) ++ ([(q1, .inl (t 0, 4, .inl (fun _ => 0)))] : va_W))) H := hP
  have hD : va_D A (((h0, .inr (3, [.null, .null, .ref q1, .null, .int 0])) : Nat × va_E) :: (([] : va_W) ++ ([(q1, .inl (t 0, 4, .inl (fun _ => 0)))] : va_W))) := hD
  refine lv_aload_n hx hb dX3_init_11 rfl (lv_at hl 0 rfl) ?_
  refine lv_iconst (v := 5) hx hb dX3_init_12 (by decide) ?_
  refine g_newa (atype := .int) (ty := .int) (k := 0) (N := 5) (a0 := (5, .inl (fun _ => 0))) C lkX3_init_ac_int rfl rfl (fun _ h9 => h9) hP hD hS (fun _ => rfl) (by decide) (by decide) (by decide) (Nat.le_of_ble_eq_true rfl) (Nat.le_of_ble_eq_true rfl) dX3_init_13 (fun q2 H hP hD hS => ?_)
  refine W.cs (cells' := 2) (slots' := 9) rfl rfl ?_
  have hP : va_P D vwCl (((h0, .inr (3, [.null, .null, .ref q1, .null, .int 0])) : Nat × va_E) :: ((([] : va_W) ++ ([(q1, .inl (t 0, 4, .inl (fun _ => 0)))] : va_W)) ++ ([(q2, .inl (t 0, 5, .inl (fun _ => 0)))] : va_W))) H := hP
  have hD : va_D A (((h0, .inr (3, [.null, .null, .ref q1, .null, .int 0])) : Nat × va_E) :: ((([] : va_W) ++ ([(q1, .inl (t 0, 4, .inl (fun _ => 0)))] : va_W)) ++ ([(q2, .inl (t 0, 5, .inl (fun _ => 0)))] : va_W))) := hD
  refine va_putF (D := D) (ci := 3) (v := .ref q2) (ty := .array .int) (C := RX3) (T := TX3) (N := 5) hx hb hts iwX3_init_X3 tyX3 tyX3_ok nmX3 hown hK hP hD hS 0 rfl rfl 3 (by decide) (hts _ lkX3_init_f15) (fun _ h9 => h9) rfl hin rfl (by decide +kernel) rfl rfl (Nat.le_of_ble_eq_true rfl) dX3_init_15 (fun H locs hP hD hS => ?_)
  have hP : va_P D vwCl (((h0, .inr (3, [.null, .null, .ref q1, .ref q2, .int 0])) : Nat × va_E) :: ((([] : va_W) ++ ([(q1, .inl (t 0, 4, .inl (fun _ => 0)))] : va_W)) ++ ([(q2, .inl (t 0, 5, .inl (fun _ => 0)))] : va_W))) H := hP
  have hD : va_D A (((h0, .inr (3, [.null, .null, .ref q1, .ref q2, .int 0])) : Nat × va_E) :: ((([] : va_W) ++ ([(q1, .inl (t 0, 4, .inl (fun _ => 0)))] : va_W)) ++ ([(q2, .inl (t 0, 5, .inl (fun _ => 0)))] : va_W))) := hD
  refine lv_aload_n hx hb dX3_init_18 rfl (lv_at hl 0 rfl) ?_
  refine lv_aload_n hx hb dX3_init_19 rfl (lv_at hl 1 rfl) ?_
  refine va_putF (D := D) (ci := 3) (v := .ref x1) (ty := .object "CoachCourt$Road") (C := RX3) (T := TX3) (N := 5) hx hb hts iwX3_init_X3 tyX3 tyX3_ok nmX3 hown hK hP hD hS 0 rfl rfl 0 (by decide) (hts _ lkX3_init_f18) (fun _ h9 => h9) rfl hin rfl (by decide +kernel) rfl rfl (Nat.le_of_ble_eq_true rfl) dX3_init_20 (fun H locs hP hD hS => ?_)
  have hP : va_P D vwCl (((h0, .inr (3, [.ref x1, .null, .ref q1, .ref q2, .int 0])) : Nat × va_E) :: ((([] : va_W) ++ ([(q1, .inl (t 0, 4, .inl (fun _ => 0)))] : va_W)) ++ ([(q2, .inl (t 0, 5, .inl (fun _ => 0)))] : va_W))) H := hP
  have hD : va_D A (((h0, .inr (3, [.ref x1, .null, .ref q1, .ref q2, .int 0])) : Nat × va_E) :: ((([] : va_W) ++ ([(q1, .inl (t 0, 4, .inl (fun _ => 0)))] : va_W)) ++ ([(q2, .inl (t 0, 5, .inl (fun _ => 0)))] : va_W))) := hD
  refine lv_aload_n hx hb dX3_init_23 rfl (lv_at hl 0 rfl) ?_
  refine lv_aload_n hx hb dX3_init_24 rfl (lv_at hl 2 rfl) ?_
  refine va_putF (D := D) (ci := 3) (v := .ref x2) (ty := .object "CoachCourt$Drive") (C := RX3) (T := TX3) (N := 5) hx hb hts iwX3_init_X3 tyX3 tyX3_ok nmX3 hown hK hP hD hS 0 rfl rfl 1 (by decide) (hts _ lkX3_init_f22) (fun _ h9 => h9) rfl hin rfl (by decide +kernel) rfl rfl (Nat.le_of_ble_eq_true rfl) dX3_init_25 (fun H locs hP hD hS => ?_)
  have hP : va_P D vwCl (((h0, .inr (3, [.ref x1, .ref x2, .ref q1, .ref q2, .int 0])) : Nat × va_E) :: ((([] : va_W) ++ ([(q1, .inl (t 0, 4, .inl (fun _ => 0)))] : va_W)) ++ ([(q2, .inl (t 0, 5, .inl (fun _ => 0)))] : va_W))) H := hP
  have hD : va_D A (((h0, .inr (3, [.ref x1, .ref x2, .ref q1, .ref q2, .int 0])) : Nat × va_E) :: ((([] : va_W) ++ ([(q1, .inl (t 0, 4, .inl (fun _ => 0)))] : va_W)) ++ ([(q2, .inl (t 0, 5, .inl (fun _ => 0)))] : va_W))) := hD
  exact g_vretN C ⟨(fun k => [h0, q1, q2].getD k 0), rfl, rfl⟩ hP hD hS dX3_init_28
theorem hdX5_init : yX5_init.cls ≠ "java/lang/invoke/MethodHandle" ∧ yX5_init.cls ≠ "java/lang/invoke/VarHandle" ∧ (parseMethodDescriptor yX5_init.desc).map (fun d => d.parameters.length) = some 0 := by decide +kernel
theorem lkX5_init_oi : Cond.methodLink RX5 3 objectInit ∈ wsX5_init := by decide +kernel
theorem lkX5_init_om : Cond.instanceMethod objectInit ∈ wsX5_init := by decide +kernel
theorem lkX5_init_oc : Cond.code objectInit ⟨#[0xb1]⟩ 1 none ∈ wsX5_init := List.mem_of_getElem? (i := 3) rfl
theorem lkX5_init_ac_int : Cond.arrayClass .int ∈ wsX5_init := by decide +kernel
theorem lkX5_init_f9 : Cond.fieldLink RX5 9 "CoachCourt$Sightings" "who" "[I" ∈ wsX5_init := by decide +kernel
theorem iwX5_init_X5 : ∀ w ∈ wsX50, w ∈ wsX5_init := by decide +kernel
theorem lkX5_init_f15 : Cond.fieldLink RX5 15 "CoachCourt$Sightings" "where" "[I" ∈ wsX5_init := by decide +kernel
set_option maxHeartbeats 1000000 in
set_option maxRecDepth 100000 in
theorem cX5_init_ok {l : Launch} {D : va_G} {t : Nat → ClassId} {κ : Nat → Nat} {h0 : Nat} : CtN l D t κ (fun _ => True) yX5_init wsX5_init (rmN 1 2 12) [.ref h0] [(h0, .inr (5, [.null, .null, .int 0]))] (fun w1 => ∃ a : Nat → Nat, a 0 = h0 ∧ w1 = wSight t a z0) 2 12 := by
  refine CtN.ofW (own := RX5) (cc := cX5_init) (maxL := 1) (by decide) rfl rfl rfl (Nat.le_of_ble_eq_true rfl) ?_
  intro p e s m below meth c A C hin hX hP hD ls hl
  have hS : va_S A s.heap s.heap [] := va_S.rf
  obtain ⟨hx, hb, hr, hml, hown, hts, hC0, hlk, hA⟩ := id C
  have hK := hC0.1
  have hl : lv_has ls 1 [(0, .ref h0)] := hl
  refine lv_aload_n hx hb dX5_init_0 rfl (lv_at hl 0 rfl) ?_
  refine W.objInit hx hb hown (hts _ lkX5_init_oi) (hts _ lkX5_init_om) (hts _ lkX5_init_oc) rfl (by rw [hml]; exact hl.1) rfl dX5_init_1 (Nat.le_of_ble_eq_true rfl) (Nat.le_of_ble_eq_true rfl) ?_
  refine W.eq (g2 := F0 m 4 ls []) rfl ?_
  refine lv_aload_n hx hb dX5_init_4 rfl (lv_at hl 0 rfl) ?_
  refine lv_bipush (v := 6) hx hb dX5_init_5 (by decide) ?_
  refine g_newa (atype := .int) (ty := .int) (k := 0) (N := 6) (a0 := (6, .inl (fun _ => 0))) C lkX5_init_ac_int rfl rfl (fun _ h9 => h9) hP hD hS (fun _ => rfl) (by decide) (by decide) (by decide) (Nat.le_of_ble_eq_true rfl) (Nat.le_of_ble_eq_true rfl) dX5_init_7 (fun q1 H hP hD hS => ?_)
  refine W.cs (cells' := 1) (slots' := 6) rfl rfl ?_
  have hP : va_P D vwCl (((h0, .inr (5, [.null, .null, .int 0])) : Nat × va_E) :: (([] : va_W) ++ ([(q1, .inl (t 0, 6, .inl (fun _ => 0)))] : va_W))) H := hP
  have hD : va_D A (((h0, .inr (5, [.null, .null, .int 0])) : Nat × va_E) :: (([] : va_W) ++ ([(q1, .inl (t 0, 6, .inl (fun _ => 0)))] : va_W))) := hD
  refine va_putF (D := D) (ci := 5) (v := .ref q1) (ty := .array .int) (C := RX5) (T := TX5) (N := 3) hx hb hts iwX5_init_X5 tyX5 tyX5_ok nmX5 hown hK hP hD hS 0 rfl rfl 0 (by decide) (hts _ lkX5_init_f9) (fun _ h9 => h9) rfl hin rfl (by decide +kernel) rfl rfl (Nat.le_of_ble_eq_true rfl) dX5_init_9 (fun H locs hP hD hS => ?_)
  have hP : va_P D vwCl (((h0, .inr (5, [.ref q1, .null, .int 0])) : Nat × va_E) :: (([] : va_W) ++ ([(q1, .inl (t 0, 6, .inl (fun _ => 0)))] : va_W))) H := hP
  have hD : va_D A (((h0, .inr (5, [.ref q1, .null, .int 0])) : Nat × va_E) :: (([] : va_W) ++ ([(q1, .inl (t 0, 6, .inl (fun _ => 0)))] : va_W))) := hD
  refine lv_aload_n hx hb dX5_init_12 rfl (lv_at hl 0 rfl) ?_
  refine lv_bipush (v := 6) hx hb dX5_init_13 (by decide) ?_
  refine g_newa (atype := .int) (ty := .int) (k := 0) (N := 6) (a0 := (6, .inl (fun _ => 0))) C lkX5_init_ac_int rfl rfl (fun _ h9 => h9) hP hD hS (fun _ => rfl) (by decide) (by decide) (by decide) (Nat.le_of_ble_eq_true rfl) (Nat.le_of_ble_eq_true rfl) dX5_init_15 (fun q2 H hP hD hS => ?_)
  refine W.cs (cells' := 2) (slots' := 12) rfl rfl ?_
  have hP : va_P D vwCl (((h0, .inr (5, [.ref q1, .null, .int 0])) : Nat × va_E) :: ((([] : va_W) ++ ([(q1, .inl (t 0, 6, .inl (fun _ => 0)))] : va_W)) ++ ([(q2, .inl (t 0, 6, .inl (fun _ => 0)))] : va_W))) H := hP
  have hD : va_D A (((h0, .inr (5, [.ref q1, .null, .int 0])) : Nat × va_E) :: ((([] : va_W) ++ ([(q1, .inl (t 0, 6, .inl (fun _ => 0)))] : va_W)) ++ ([(q2, .inl (t 0, 6, .inl (fun _ => 0)))] : va_W))) := hD
  refine va_putF (D := D) (ci := 5) (v := .ref q2) (ty := .array .int) (C := RX5) (T := TX5) (N := 3) hx hb hts iwX5_init_X5 tyX5 tyX5_ok nmX5 hown hK hP hD hS 0 rfl rfl 1 (by decide) (hts _ lkX5_init_f15) (fun _ h9 => h9) rfl hin rfl (by decide +kernel) rfl rfl (Nat.le_of_ble_eq_true rfl) dX5_init_17 (fun H locs hP hD hS => ?_)
  have hP : va_P D vwCl (((h0, .inr (5, [.ref q1, .ref q2, .int 0])) : Nat × va_E) :: ((([] : va_W) ++ ([(q1, .inl (t 0, 6, .inl (fun _ => 0)))] : va_W)) ++ ([(q2, .inl (t 0, 6, .inl (fun _ => 0)))] : va_W))) H := hP
  have hD : va_D A (((h0, .inr (5, [.ref q1, .ref q2, .int 0])) : Nat × va_E) :: ((([] : va_W) ++ ([(q1, .inl (t 0, 6, .inl (fun _ => 0)))] : va_W)) ++ ([(q2, .inl (t 0, 6, .inl (fun _ => 0)))] : va_W))) := hD
  exact g_vretN C ⟨(fun k => [h0, q1, q2].getD k 0), rfl, rfl⟩ hP hD hS dX5_init_20
theorem hdX4_init : yX4_init.cls ≠ "java/lang/invoke/MethodHandle" ∧ yX4_init.cls ≠ "java/lang/invoke/VarHandle" ∧ (parseMethodDescriptor yX4_init.desc).map (fun d => d.parameters.length) = some 0 := by decide +kernel
theorem lkX4_init_oi : Cond.methodLink RX4 3 objectInit ∈ wsX4_init := by decide +kernel
theorem lkX4_init_om : Cond.instanceMethod objectInit ∈ wsX4_init := by decide +kernel
theorem lkX4_init_oc : Cond.code objectInit ⟨#[0xb1]⟩ 1 none ∈ wsX4_init := List.mem_of_getElem? (i := 3) rfl
theorem lkX4_init_ac_int : Cond.arrayClass .int ∈ wsX4_init := by decide +kernel
theorem lkX4_init_f9 : Cond.fieldLink RX4 9 "CoachCourt$Sheet" "cells" "[I" ∈ wsX4_init := by decide +kernel
theorem iwX4_init_X4 : ∀ w ∈ wsX40, w ∈ wsX4_init := by decide +kernel
set_option maxHeartbeats 1000000 in
set_option maxRecDepth 100000 in
theorem cX4_init_ok {l : Launch} {D : va_G} {t : Nat → ClassId} {κ : Nat → Nat} {h0 : Nat} : CtN l D t κ (fun _ => True) yX4_init wsX4_init (rmN 1 1 40) [.ref h0] [(h0, .inr (4, [.null, .int 0, .int 0, .int 0]))] (fun w1 => ∃ a : Nat → Nat, a 0 = h0 ∧ w1 = wSheet t a z0) 1 40 := by
  refine CtN.ofW (own := RX4) (cc := cX4_init) (maxL := 1) (by decide) rfl rfl rfl (Nat.le_of_ble_eq_true rfl) ?_
  intro p e s m below meth c A C hin hX hP hD ls hl
  have hS : va_S A s.heap s.heap [] := va_S.rf
  obtain ⟨hx, hb, hr, hml, hown, hts, hC0, hlk, hA⟩ := id C
  have hK := hC0.1
  have hl : lv_has ls 1 [(0, .ref h0)] := hl
  refine lv_aload_n hx hb dX4_init_0 rfl (lv_at hl 0 rfl) ?_
  refine W.objInit hx hb hown (hts _ lkX4_init_oi) (hts _ lkX4_init_om) (hts _ lkX4_init_oc) rfl (by rw [hml]; exact hl.1) rfl dX4_init_1 (Nat.le_of_ble_eq_true rfl) (Nat.le_of_ble_eq_true rfl) ?_
  refine W.eq (g2 := F0 m 4 ls []) rfl ?_
  refine lv_aload_n hx hb dX4_init_4 rfl (lv_at hl 0 rfl) ?_
  refine lv_bipush (v := 40) hx hb dX4_init_5 (by decide) ?_
  refine g_newa (atype := .int) (ty := .int) (k := 0) (N := 40) (a0 := (40, .inl (fun _ => 0))) C lkX4_init_ac_int rfl rfl (fun _ h9 => h9) hP hD hS (fun _ => rfl) (by decide) (by decide) (by decide) (Nat.le_of_ble_eq_true rfl) (Nat.le_of_ble_eq_true rfl) dX4_init_7 (fun q1 H hP hD hS => ?_)
  refine W.cs (cells' := 1) (slots' := 40) rfl rfl ?_
  have hP : va_P D vwCl (((h0, .inr (4, [.null, .int 0, .int 0, .int 0])) : Nat × va_E) :: (([] : va_W) ++ ([(q1, .inl (t 0, 40, .inl (fun _ => 0)))] : va_W))) H := hP
  have hD : va_D A (((h0, .inr (4, [.null, .int 0, .int 0, .int 0])) : Nat × va_E) :: (([] : va_W) ++ ([(q1, .inl (t 0, 40, .inl (fun _ => 0)))] : va_W))) := hD
  refine va_putF (D := D) (ci := 4) (v := .ref q1) (ty := .array .int) (C := RX4) (T := TX4) (N := 4) hx hb hts iwX4_init_X4 tyX4 tyX4_ok nmX4 hown hK hP hD hS 0 rfl rfl 0 (by decide) (hts _ lkX4_init_f9) (fun _ h9 => h9) rfl hin rfl (by decide +kernel) rfl rfl (Nat.le_of_ble_eq_true rfl) dX4_init_9 (fun H locs hP hD hS => ?_)
  have hP : va_P D vwCl (((h0, .inr (4, [.ref q1, .int 0, .int 0, .int 0])) : Nat × va_E) :: (([] : va_W) ++ ([(q1, .inl (t 0, 40, .inl (fun _ => 0)))] : va_W))) H := hP
  have hD : va_D A (((h0, .inr (4, [.ref q1, .int 0, .int 0, .int 0])) : Nat × va_E) :: (([] : va_W) ++ ([(q1, .inl (t 0, 40, .inl (fun _ => 0)))] : va_W))) := hD
  exact g_vretN C ⟨(fun k => [h0, q1].getD k 0), rfl, rfl⟩ hP hD hS dX4_init_12
theorem hdX1_init : yX1_init.cls ≠ "java/lang/invoke/MethodHandle" ∧ yX1_init.cls ≠ "java/lang/invoke/VarHandle" ∧ (parseMethodDescriptor yX1_init.desc).map (fun d => d.parameters.length) = some 0 := by decide +kernel
theorem lkX1_init_oi : Cond.methodLink RX1 1 objectInit ∈ wsX1_init := by decide +kernel
theorem lkX1_init_om : Cond.instanceMethod objectInit ∈ wsX1_init := by decide +kernel
theorem lkX1_init_oc : Cond.code objectInit ⟨#[0xb1]⟩ 1 none ∈ wsX1_init := List.mem_of_getElem? (i := 3) rfl
theorem lkX1_init_cl7 : Cond.classLink RX1 7 RX2 ∈ wsX1_init := by decide +kernel
theorem lkX1_init_inX2 : Cond.instantiable RX2 12 ∈ wsX1_init := by decide +kernel
theorem lkX1_init_iiX2 : Cond.initialized RX2 ∈ wsX1_init := by decide +kernel
theorem iwX1_init_X2 : ∀ w ∈ wsX20, w ∈ wsX1_init := by decide +kernel
theorem lkX1_init_imX2 : Cond.instanceMethod yX2_init ∈ wsX1_init := by decide +kernel
theorem lkX1_init_f10 : Cond.fieldLink RX1 10 "CoachCourt$Image" "road" "LCoachCourt$Road;" ∈ wsX1_init := by decide +kernel
theorem iwX1_init_X1 : ∀ w ∈ wsX10, w ∈ wsX1_init := by decide +kernel
theorem lkX1_init_cl16 : Cond.classLink RX1 16 RX5 ∈ wsX1_init := by decide +kernel
theorem lkX1_init_inX5 : Cond.instantiable RX5 3 ∈ wsX1_init := by decide +kernel
theorem lkX1_init_iiX5 : Cond.initialized RX5 ∈ wsX1_init := by decide +kernel
theorem iwX1_init_X5 : ∀ w ∈ wsX50, w ∈ wsX1_init := by decide +kernel
theorem lkX1_init_imX5 : Cond.instanceMethod yX5_init ∈ wsX1_init := by decide +kernel
theorem lkX1_init_f19 : Cond.fieldLink RX1 19 "CoachCourt$Image" "seen" "LCoachCourt$Sightings;" ∈ wsX1_init := by decide +kernel
set_option maxHeartbeats 1000000 in
set_option maxRecDepth 100000 in
theorem cX1_init_ok {l : Launch} {D : va_G} {t : Nat → ClassId} {κ : Nat → Nat} {h0 : Nat} : CtN l D t κ (fun _ => True) yX1_init wsX1_init (rmN 2 12 71) [.ref h0] [(h0, .inr (1, [.null, .null, .int 0]))] (fun w1 => ∃ (a ar as : Nat → Nat), a 0 = h0 ∧ w1 = wImage t a (ar 0) (as 0) z0 ++ wRoad t ar zR ++ wSight t as z0) 12 71 := by
  refine CtN.ofW (own := RX1) (cc := cX1_init) (maxL := 1) (by decide) rfl rfl rfl (Nat.le_of_ble_eq_true rfl) ?_
  intro p e s m below meth c A C hin hX hP hD ls hl
  have hS : va_S A s.heap s.heap [] := va_S.rf
  obtain ⟨hx, hb, hr, hml, hown, hts, hC0, hlk, hA⟩ := id C
  have hK := hC0.1
  have hl : lv_has ls 1 [(0, .ref h0)] := hl
  refine lv_aload_n hx hb dX1_init_0 rfl (lv_at hl 0 rfl) ?_
  refine W.objInit hx hb hown (hts _ lkX1_init_oi) (hts _ lkX1_init_om) (hts _ lkX1_init_oc) rfl (by rw [hml]; exact hl.1) rfl dX1_init_1 (Nat.le_of_ble_eq_true rfl) (Nat.le_of_ble_eq_true rfl) ?_
  refine W.eq (g2 := F0 m 4 ls []) rfl ?_
  refine lv_aload_n hx hb dX1_init_4 rfl (lv_at hl 0 rfl) ?_
  refine va_new (ci := 2) (fs := [.null, .null, .null, .null, .null, .null, .null, .null, .int 0, .int 0, .int 0, .int 0]) (C := RX2) (T := TX2) (N := 12) hx hb hts iwX1_init_X2 tyX2 tyX2_ok hown (hts _ lkX1_init_cl7) (hts _ lkX1_init_inX2) (hts _ lkX1_init_iiX2) hK hP hD hS hA rfl (fun j hj => by rcases (show j = 0 ∨ j = 1 ∨ j = 2 ∨ j = 3 ∨ j = 4 ∨ j = 5 ∨ j = 6 ∨ j = 7 ∨ j = 8 ∨ j = 9 ∨ j = 10 ∨ j = 11 by omega) with rfl | rfl | rfl | rfl | rfl | rfl | rfl | rfl | rfl | rfl | rfl | rfl <;> rfl) (Nat.le_of_ble_eq_true rfl) (Nat.le_of_ble_eq_true rfl) dX1_init_5 (fun q1 H hP hD hS => ?_)
  refine W.cs (cells' := 1) (slots' := 12) rfl rfl ?_
  have hP : va_P D vwCl (((h0, .inr (1, [.null, .null, .int 0])) : Nat × va_E) :: (([] : va_W) ++ ([(q1, .inr (2, [.null, .null, .null, .null, .null, .null, .null, .null, .int 0, .int 0, .int 0, .int 0]))] : va_W))) H := hP
  have hD : va_D A (((h0, .inr (1, [.null, .null, .int 0])) : Nat × va_E) :: (([] : va_W) ++ ([(q1, .inr (2, [.null, .null, .null, .null, .null, .null, .null, .null, .int 0, .int 0, .int 0, .int 0]))] : va_W))) := hD
  refine lv_dup hx hb dX1_init_8 rfl ?_
  refine gk_IN C (As := []) (rest := [.ref q1, .ref h0]) (ws := (((h0, .inr (1, [.null, .null, .int 0])) : Nat × va_E) :: ([] : va_W))) (x := (q1, .inr (2, [.null, .null, .null, .null, .null, .null, .null, .null, .int 0, .int 0, .int 0, .int 0]))) (cX2_init_ok (l := l) (D := D) (t := t) (κ := κ)) trivial (fun _ _ _ h => h) ggX1_init_X2_init rfl ⟨rfl, rfl⟩ (hts _ lkX1_init_iiX2) (hC0.2.1.m 5 rfl) (hts _ lkX1_init_imX2) rfl hdX2_init ⟨Nat.le_of_ble_eq_true rfl, Nat.le_of_ble_eq_true rfl⟩ hP hD hS rfl hl.1 (Nat.le_of_ble_eq_true rfl) dX1_init_9 (Nat.le_of_ble_eq_true rfl) (Nat.le_of_ble_eq_true rfl) (fun H locs w1 po hPn1 hDn1 hSn1 => ?_)
  refine W.cs (cells' := 9) (slots' := 56) rfl rfl ?_
  obtain ⟨a2, ha2, rfl⟩ := po
  subst ha2
  have hP : va_P D vwCl (((h0, .inr (1, [.null, .null, .int 0])) : Nat × va_E) :: (([] : va_W) ++ (wRoad t a2 zR))) H := hPn1
  have hD : va_D A (((h0, .inr (1, [.null, .null, .int 0])) : Nat × va_E) :: (([] : va_W) ++ (wRoad t a2 zR))) := hDn1
  have hS := hSn1
  refine W.eq (g2 := F0 m 12 ls [.ref (a2 0), .ref h0]) rfl ?_
  refine va_putF (D := D) (ci := 1) (v := .ref (a2 0)) (ty := .object "CoachCourt$Road") (C := RX1) (T := TX1) (N := 3) hx hb hts iwX1_init_X1 tyX1 tyX1_ok nmX1 hown hK hP hD hS 0 rfl rfl 0 (by decide) (hts _ lkX1_init_f10) (fun _ h9 => h9) rfl hin rfl (by decide +kernel) rfl rfl (Nat.le_of_ble_eq_true rfl) dX1_init_12 (fun H locs hP hD hS => ?_)
  have hP : va_P D vwCl (((h0, .inr (1, [.ref (a2 0), .null, .int 0])) : Nat × va_E) :: (([] : va_W) ++ (wRoad t a2 zR))) H := hP
  have hD : va_D A (((h0, .inr (1, [.ref (a2 0), .null, .int 0])) : Nat × va_E) :: (([] : va_W) ++ (wRoad t a2 zR))) := hD
  refine lv_aload_n hx hb dX1_init_15 rfl (lv_at hl 0 rfl) ?_
  refine va_new (ci := 5) (fs := [.null, .null, .int 0]) (C := RX5) (T := TX5) (N := 3) hx hb hts iwX1_init_X5 tyX5 tyX5_ok hown (hts _ lkX1_init_cl16) (hts _ lkX1_init_inX5) (hts _ lkX1_init_iiX5) hK hP hD hS hA rfl (fun j hj => by rcases (show j = 0 ∨ j = 1 ∨ j = 2 by omega) with rfl | rfl | rfl <;> rfl) (Nat.le_of_ble_eq_true rfl) (Nat.le_of_ble_eq_true rfl) dX1_init_16 (fun q3 H hP hD hS => ?_)
  refine W.cs (cells' := 10) (slots' := 59) rfl rfl ?_
  have hP : va_P D vwCl (((h0, .inr (1, [.ref (a2 0), .null, .int 0])) : Nat × va_E) :: ((([] : va_W) ++ (wRoad t a2 zR)) ++ ([(q3, .inr (5, [.null, .null, .int 0]))] : va_W))) H := hP
  have hD : va_D A (((h0, .inr (1, [.ref (a2 0), .null, .int 0])) : Nat × va_E) :: ((([] : va_W) ++ (wRoad t a2 zR)) ++ ([(q3, .inr (5, [.null, .null, .int 0]))] : va_W))) := hD
  refine lv_dup hx hb dX1_init_19 rfl ?_
  refine gk_IN C (As := []) (rest := [.ref q3, .ref h0]) (ws := (((h0, .inr (1, [.ref (a2 0), .null, .int 0])) : Nat × va_E) :: (([] : va_W) ++ (wRoad t a2 zR)))) (x := (q3, .inr (5, [.null, .null, .int 0]))) (cX5_init_ok (l := l) (D := D) (t := t) (κ := κ)) trivial (fun _ _ _ h => h) ggX1_init_X5_init rfl ⟨rfl, rfl⟩ (hts _ lkX1_init_iiX5) (hC0.2.1.m 6 rfl) (hts _ lkX1_init_imX5) rfl hdX5_init ⟨Nat.le_of_ble_eq_true rfl, Nat.le_of_ble_eq_true rfl⟩ hP hD hS rfl hl.1 (Nat.le_of_ble_eq_true rfl) dX1_init_20 (Nat.le_of_ble_eq_true rfl) (Nat.le_of_ble_eq_true rfl) (fun H locs w1 po hPn3 hDn3 hSn3 => ?_)
  refine W.cs (cells' := 12) (slots' := 71) rfl rfl ?_
  obtain ⟨a4, ha4, rfl⟩ := po
  subst ha4
  have hP : va_P D vwCl (((h0, .inr (1, [.ref (a2 0), .null, .int 0])) : Nat × va_E) :: ((([] : va_W) ++ (wRoad t a2 zR)) ++ (wSight t a4 z0))) H := hPn3
  have hD : va_D A (((h0, .inr (1, [.ref (a2 0), .null, .int 0])) : Nat × va_E) :: ((([] : va_W) ++ (wRoad t a2 zR)) ++ (wSight t a4 z0))) := hDn3
  have hS := hSn3
  refine W.eq (g2 := F0 m 23 ls [.ref (a4 0), .ref h0]) rfl ?_
  refine va_putF (D := D) (ci := 1) (v := .ref (a4 0)) (ty := .object "CoachCourt$Sightings") (C := RX1) (T := TX1) (N := 3) hx hb hts iwX1_init_X1 tyX1 tyX1_ok nmX1 hown hK hP hD hS 0 rfl rfl 1 (by decide) (hts _ lkX1_init_f19) (fun _ h9 => h9) rfl hin rfl (by decide +kernel) rfl rfl (Nat.le_of_ble_eq_true rfl) dX1_init_23 (fun H locs hP hD hS => ?_)
  have hP : va_P D vwCl (((h0, .inr (1, [.ref (a2 0), .ref (a4 0), .int 0])) : Nat × va_E) :: ((([] : va_W) ++ (wRoad t a2 zR)) ++ (wSight t a4 z0))) H := hP
  have hD : va_D A (((h0, .inr (1, [.ref (a2 0), .ref (a4 0), .int 0])) : Nat × va_E) :: ((([] : va_W) ++ (wRoad t a2 zR)) ++ (wSight t a4 z0))) := hD
  exact g_vretN C ⟨fun _ => h0, a2, a4, rfl, rfl⟩ hP hD hS dX1_init_26
