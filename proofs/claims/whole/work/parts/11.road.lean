/-! java/lang/Integer.bitCount_0f7a4 -/
def fJ6_bitCount_0f7a4 (p1 : Int32) : Option (Int32) :=
  nm (p1 - (((p1.toUInt32 >>> (Int32.toUInt32 (1 : Int32) &&& Int32.toUInt32 31)).toInt32) &&& (1431655765 : Int32))) fun y1 =>
  nm ((y1 &&& (858993459 : Int32)) + (((y1.toUInt32 >>> (Int32.toUInt32 (2 : Int32) &&& Int32.toUInt32 31)).toInt32) &&& (858993459 : Int32))) fun y2 =>
  nm ((y2 + ((y2.toUInt32 >>> (Int32.toUInt32 (4 : Int32) &&& Int32.toUInt32 31)).toInt32)) &&& (252645135 : Int32)) fun y3 =>
  nm (y3 + ((y3.toUInt32 >>> (Int32.toUInt32 (8 : Int32) &&& Int32.toUInt32 31)).toInt32)) fun y4 =>
  nm (y4 + ((y4.toUInt32 >>> (Int32.toUInt32 (16 : Int32) &&& Int32.toUInt32 31)).toInt32)) fun y5 =>
  some (y5 &&& (63 : Int32))
theorem hdJ6_bitCount_0f7a4 : yJ6_bitCount_0f7a4.cls ≠ "java/lang/invoke/MethodHandle" ∧ yJ6_bitCount_0f7a4.cls ≠ "java/lang/invoke/VarHandle" ∧ (parseMethodDescriptor yJ6_bitCount_0f7a4.desc).map (fun d => d.parameters.length) = some 1 := by decide +kernel
theorem lkJ6_bitCount_0f7a4_c265 : Cond.constant RJ6 265 (1431655765) ∈ wsJ6_bitCount_0f7a4 := by decide +kernel
theorem lkJ6_bitCount_0f7a4_c266 : Cond.constant RJ6 266 (858993459) ∈ wsJ6_bitCount_0f7a4 := by decide +kernel
theorem lkJ6_bitCount_0f7a4_c267 : Cond.constant RJ6 267 (252645135) ∈ wsJ6_bitCount_0f7a4 := by decide +kernel
set_option maxHeartbeats 4000000 in
set_option maxRecDepth 100000 in
theorem cJ6_bitCount_0f7a4_ok {l : Launch} {D : va_G} {t : Nat → ClassId} {κ : Nat → Nat} {p1 : Int32} {out : Int32} (hf : fJ6_bitCount_0f7a4 p1 = some out) : Ct l D t κ yJ6_bitCount_0f7a4 wsJ6_bitCount_0f7a4 (rmL 0) [.int p1] ([] : va_W) (some (.int out)) ([] : va_W) := by
  refine Ct.ofW (own := RJ6) (cc := cJ6_bitCount_0f7a4) (maxL := 1) (ret := (some .int)) (by decide) rfl rfl (Nat.le_of_ble_eq_true rfl) ?_
  intro p e s m below meth c A C hP hD ls hl
  have hS : va_S A s.heap s.heap [] := va_S.rf
  obtain ⟨hx, hb, hr, hml, hown, hts, hC0, hlk, hA⟩ := id C
  have hK := hC0.1
  have hl : lv_has ls 1 [(0, .int p1)] := hl
  unfold fJ6_bitCount_0f7a4 at hf
  refine lv_iload_n hx hb dJ6_bitCount_0f7a4_0 rfl (lv_at hl 0 rfl) ?_
  refine lv_iload_n hx hb dJ6_bitCount_0f7a4_1 rfl (lv_at hl 0 rfl) ?_
  refine lv_iconst (v := 1) hx hb dJ6_bitCount_0f7a4_2 (by decide) ?_
  refine lv_iushr hx hb dJ6_bitCount_0f7a4_3 rfl ?_
  refine lv_ldcw hx hb hown (hts _ lkJ6_bitCount_0f7a4_c265) dJ6_bitCount_0f7a4_4 ?_
  refine lv_iand hx hb dJ6_bitCount_0f7a4_7 ?_
  refine lv_isub hx hb dJ6_bitCount_0f7a4_8 ?_
  obtain ⟨y1, hy1, hf⟩ := nm_ex hf
  refine W.eq (g2 := F0 m 9 ls [.int y1]) (by rw [hy1]) ?_
  refine lv_istore_n (lv' := [(0, .int y1)]) hx hb dJ6_bitCount_0f7a4_9 rfl hl (by decide) rfl (fun ls hl => ?_)
  refine lv_iload_n hx hb dJ6_bitCount_0f7a4_10 rfl (lv_at hl 0 rfl) ?_
  refine lv_ldcw hx hb hown (hts _ lkJ6_bitCount_0f7a4_c266) dJ6_bitCount_0f7a4_11 ?_
  refine lv_iand hx hb dJ6_bitCount_0f7a4_14 ?_
  refine lv_iload_n hx hb dJ6_bitCount_0f7a4_15 rfl (lv_at hl 0 rfl) ?_
  refine lv_iconst (v := 2) hx hb dJ6_bitCount_0f7a4_16 (by decide) ?_
  refine lv_iushr hx hb dJ6_bitCount_0f7a4_17 rfl ?_
  refine lv_ldcw hx hb hown (hts _ lkJ6_bitCount_0f7a4_c266) dJ6_bitCount_0f7a4_18 ?_
  refine lv_iand hx hb dJ6_bitCount_0f7a4_21 ?_
  refine lv_iadd hx hb dJ6_bitCount_0f7a4_22 ?_
  obtain ⟨y2, hy2, hf⟩ := nm_ex hf
  refine W.eq (g2 := F0 m 23 ls [.int y2]) (by rw [hy2]) ?_
  refine lv_istore_n (lv' := [(0, .int y2)]) hx hb dJ6_bitCount_0f7a4_23 rfl hl (by decide) rfl (fun ls hl => ?_)
  refine lv_iload_n hx hb dJ6_bitCount_0f7a4_24 rfl (lv_at hl 0 rfl) ?_
  refine lv_iload_n hx hb dJ6_bitCount_0f7a4_25 rfl (lv_at hl 0 rfl) ?_
  refine lv_iconst (v := 4) hx hb dJ6_bitCount_0f7a4_26 (by decide) ?_
  refine lv_iushr hx hb dJ6_bitCount_0f7a4_27 rfl ?_
  refine lv_iadd hx hb dJ6_bitCount_0f7a4_28 ?_
  refine lv_ldcw hx hb hown (hts _ lkJ6_bitCount_0f7a4_c267) dJ6_bitCount_0f7a4_29 ?_
  refine lv_iand hx hb dJ6_bitCount_0f7a4_32 ?_
  obtain ⟨y3, hy3, hf⟩ := nm_ex hf
  refine W.eq (g2 := F0 m 33 ls [.int y3]) (by rw [hy3]) ?_
  refine lv_istore_n (lv' := [(0, .int y3)]) hx hb dJ6_bitCount_0f7a4_33 rfl hl (by decide) rfl (fun ls hl => ?_)
  refine lv_iload_n hx hb dJ6_bitCount_0f7a4_34 rfl (lv_at hl 0 rfl) ?_
  refine lv_iload_n hx hb dJ6_bitCount_0f7a4_35 rfl (lv_at hl 0 rfl) ?_
  refine lv_bipush (v := 8) hx hb dJ6_bitCount_0f7a4_36 (by decide) ?_
  refine lv_iushr hx hb dJ6_bitCount_0f7a4_38 rfl ?_
  refine lv_iadd hx hb dJ6_bitCount_0f7a4_39 ?_
  obtain ⟨y4, hy4, hf⟩ := nm_ex hf
  refine W.eq (g2 := F0 m 40 ls [.int y4]) (by rw [hy4]) ?_
  refine lv_istore_n (lv' := [(0, .int y4)]) hx hb dJ6_bitCount_0f7a4_40 rfl hl (by decide) rfl (fun ls hl => ?_)
  refine lv_iload_n hx hb dJ6_bitCount_0f7a4_41 rfl (lv_at hl 0 rfl) ?_
  refine lv_iload_n hx hb dJ6_bitCount_0f7a4_42 rfl (lv_at hl 0 rfl) ?_
  refine lv_bipush (v := 16) hx hb dJ6_bitCount_0f7a4_43 (by decide) ?_
  refine lv_iushr hx hb dJ6_bitCount_0f7a4_45 rfl ?_
  refine lv_iadd hx hb dJ6_bitCount_0f7a4_46 ?_
  obtain ⟨y5, hy5, hf⟩ := nm_ex hf
  refine W.eq (g2 := F0 m 47 ls [.int y5]) (by rw [hy5]) ?_
  refine lv_istore_n (lv' := [(0, .int y5)]) hx hb dJ6_bitCount_0f7a4_47 rfl hl (by decide) rfl (fun ls hl => ?_)
  refine lv_iload_n hx hb dJ6_bitCount_0f7a4_48 rfl (lv_at hl 0 rfl) ?_
  refine lv_bipush (v := 63) hx hb dJ6_bitCount_0f7a4_49 (by decide) ?_
  refine lv_iand hx hb dJ6_bitCount_0f7a4_51 ?_
  obtain rfl := so_eq hf
  exact g_iret C hP hD hS dJ6_bitCount_0f7a4_52
/-! CoachCourt$Road.minutesOf -/
def fX2_minutesOf (s_rd : S2) (p1 : Int32) : Option (Int32) :=
  gd (ixb p1 8) <|
  some (((2 : Int32) + ((2 : Int32) * (s_rd 2 (Int32.toNatClampNeg p1)))) + ((3 : Int32) * (s_rd 3 (Int32.toNatClampNeg p1))))
theorem hdX2_minutesOf : yX2_minutesOf.cls = RX2 ∧ yX2_minutesOf.cls ≠ "java/lang/invoke/MethodHandle" ∧ yX2_minutesOf.cls ≠ "java/lang/invoke/VarHandle" ∧ (parseMethodDescriptor yX2_minutesOf.desc).map (fun d => d.parameters.length) = some 1 := by decide +kernel
theorem iwX2_minutesOf_X2 : ∀ w ∈ wsX20, w ∈ wsX2_minutesOf := by decide +kernel
theorem lkX2_minutesOf_f15 : Cond.fieldLink RX2 15 "CoachCourt$Road" "hill" "[I" ∈ wsX2_minutesOf := by decide +kernel
theorem lkX2_minutesOf_f18 : Cond.fieldLink RX2 18 "CoachCourt$Road" "mud" "[I" ∈ wsX2_minutesOf := by decide +kernel
set_option maxHeartbeats 4000000 in
set_option maxRecDepth 100000 in
theorem cX2_minutesOf_ok {l : Launch} {D : va_G} {t : Nat → ClassId} {κ : Nat → Nat} {a_rd : Nat → Nat} {s_rd : S2} {p1 : Int32} {out : Int32} (hf : fX2_minutesOf s_rd p1 = some out) : Ct l D t κ yX2_minutesOf wsX2_minutesOf (rmL 0) [.ref (a_rd 0), .int p1] (wRoad t a_rd s_rd) (some (.int out)) (wRoad t a_rd s_rd) := by
  refine Ct.ofW (own := RX2) (cc := cX2_minutesOf) (maxL := 2) (ret := (some .int)) (by decide) rfl rfl (Nat.le_of_ble_eq_true rfl) ?_
  intro p e s m below meth c A C hP hD ls hl
  have hS : va_S A s.heap s.heap [] := va_S.rf
  obtain ⟨hx, hb, hr, hml, hown, hts, hC0, hlk, hA⟩ := id C
  have hK := hC0.1
  have hl : lv_has ls 2 [(0, .ref (a_rd 0)), (1, .int p1)] := hl
  unfold fX2_minutesOf at hf
  refine lv_iconst (v := 2) hx hb dX2_minutesOf_0 (by decide) ?_
  refine lv_iconst (v := 2) hx hb dX2_minutesOf_1 (by decide) ?_
  refine lv_aload_n hx hb dX2_minutesOf_2 rfl (lv_at hl 0 rfl) ?_
  refine va_get (D := D) (ci := 2) (v := .ref (a_rd 2)) (C := RX2) (T := TX2) (N := 12) hx hb hts iwX2_minutesOf_X2 hown hK hP 0 rfl rfl 1 (by decide) (hts _ lkX2_minutesOf_f15) (fun _ h9 => h9) rfl dX2_minutesOf_3 ?_
  refine lv_iload_n hx hb dX2_minutesOf_6 rfl (lv_at hl 1 rfl) ?_
  obtain ⟨b1, hf⟩ := gd_some hf
  refine va_iald hx hb hK hP 2 0 rfl rfl (ixb_in b1) dX2_minutesOf_7 ?_
  refine lv_imul hx hb dX2_minutesOf_8 ?_
  refine lv_iadd hx hb dX2_minutesOf_9 ?_
  refine lv_iconst (v := 3) hx hb dX2_minutesOf_10 (by decide) ?_
  refine lv_aload_n hx hb dX2_minutesOf_11 rfl (lv_at hl 0 rfl) ?_
  refine va_get (D := D) (ci := 2) (v := .ref (a_rd 3)) (C := RX2) (T := TX2) (N := 12) hx hb hts iwX2_minutesOf_X2 hown hK hP 0 rfl rfl 2 (by decide) (hts _ lkX2_minutesOf_f18) (fun _ h9 => h9) rfl dX2_minutesOf_12 ?_
  refine lv_iload_n hx hb dX2_minutesOf_15 rfl (lv_at hl 1 rfl) ?_
  refine va_iald hx hb hK hP 3 0 rfl rfl (ixb_in b1) dX2_minutesOf_16 ?_
  refine lv_imul hx hb dX2_minutesOf_17 ?_
  refine lv_iadd hx hb dX2_minutesOf_18 ?_
  obtain rfl := so_eq hf
  exact g_iret C hP hD hS dX2_minutesOf_19
/-! CoachCourt$Road.hasMile -/
def fX2_hasMile (s_rd : S2) (p1 : Int32) : Option (Int32) :=
  if p1 < (0 : Int32) then
    (some (0 : Int32))
  else
    (if (s_rd 0 0) ≤ p1 then
      (some (0 : Int32))
    else
      (some (1 : Int32)))
theorem hdX2_hasMile : yX2_hasMile.cls = RX2 ∧ yX2_hasMile.cls ≠ "java/lang/invoke/MethodHandle" ∧ yX2_hasMile.cls ≠ "java/lang/invoke/VarHandle" ∧ (parseMethodDescriptor yX2_hasMile.desc).map (fun d => d.parameters.length) = some 1 := by decide +kernel
theorem iwX2_hasMile_X2 : ∀ w ∈ wsX20, w ∈ wsX2_hasMile := by decide +kernel
theorem lkX2_hasMile_f43 : Cond.fieldLink RX2 43 "CoachCourt$Road" "miles" "I" ∈ wsX2_hasMile := by decide +kernel
set_option maxHeartbeats 4000000 in
set_option maxRecDepth 100000 in
theorem cX2_hasMile_ok {l : Launch} {D : va_G} {t : Nat → ClassId} {κ : Nat → Nat} {a_rd : Nat → Nat} {s_rd : S2} {p1 : Int32} {out : Int32} (hf : fX2_hasMile s_rd p1 = some out) : Ct l D t κ yX2_hasMile wsX2_hasMile (rmL 0) [.ref (a_rd 0), .int p1] (wRoad t a_rd s_rd) (some (.int out)) (wRoad t a_rd s_rd) := by
  refine Ct.ofW (own := RX2) (cc := cX2_hasMile) (maxL := 2) (ret := (some .boolean)) (by decide) rfl rfl (Nat.le_of_ble_eq_true rfl) ?_
  intro p e s m below meth c A C hP hD ls hl
  have hS : va_S A s.heap s.heap [] := va_S.rf
  obtain ⟨hx, hb, hr, hml, hown, hts, hC0, hlk, hA⟩ := id C
  have hK := hC0.1
  have hl : lv_has ls 2 [(0, .ref (a_rd 0)), (1, .int p1)] := hl
  unfold fX2_hasMile at hf
  refine lv_iload_n hx hb dX2_hasMile_0 rfl (lv_at hl 1 rfl) ?_
  refine lv_if_lt (tgt := 16) hx hb dX2_hasMile_1 (by decide) (fun c1 => ?_) (fun c1 => ?_)
  · rw [if_pos c1] at hf
    refine lv_iconst (v := 0) hx hb dX2_hasMile_16 (by decide) ?_
    obtain rfl := so_eq hf
    exact g_zret (v := 0) C rfl hP hD hS dX2_hasMile_17
  · rw [if_neg c1] at hf
    refine lv_iload_n hx hb dX2_hasMile_4 rfl (lv_at hl 1 rfl) ?_
    refine lv_aload_n hx hb dX2_hasMile_5 rfl (lv_at hl 0 rfl) ?_
    refine va_get (D := D) (ci := 2) (v := .int (s_rd 0 0)) (C := RX2) (T := TX2) (N := 12) hx hb hts iwX2_hasMile_X2 hown hK hP 0 rfl rfl 8 (by decide) (hts _ lkX2_hasMile_f43) (fun _ h9 => h9) rfl dX2_hasMile_6 ?_
    refine lv_icmp_ge (tgt := 16) hx hb dX2_hasMile_9 (by decide) (fun c2 => ?_) (fun c2 => ?_)
    · rw [if_pos c2] at hf
      refine lv_iconst (v := 0) hx hb dX2_hasMile_16 (by decide) ?_
      obtain rfl := so_eq hf
      exact g_zret (v := 0) C rfl hP hD hS dX2_hasMile_17
    · rw [if_neg c2] at hf
      refine lv_iconst (v := 1) hx hb dX2_hasMile_12 (by decide) ?_
      refine lv_goto (tgt := 17) hx hb dX2_hasMile_13 (by decide) ?_
      obtain rfl := so_eq hf
      exact g_zret (v := 1) C rfl hP hD hS dX2_hasMile_17
/-! CoachCourt$Road.hasParty -/
def fX2_hasParty (s_rd : S2) (p1 : Int32) : Option (Int32) :=
  if p1 < (0 : Int32) then
    (some (0 : Int32))
  else
    (if (s_rd 0 1) ≤ p1 then
      (some (0 : Int32))
    else
      (some (1 : Int32)))
theorem hdX2_hasParty : yX2_hasParty.cls = RX2 ∧ yX2_hasParty.cls ≠ "java/lang/invoke/MethodHandle" ∧ yX2_hasParty.cls ≠ "java/lang/invoke/VarHandle" ∧ (parseMethodDescriptor yX2_hasParty.desc).map (fun d => d.parameters.length) = some 1 := by decide +kernel
theorem iwX2_hasParty_X2 : ∀ w ∈ wsX20, w ∈ wsX2_hasParty := by decide +kernel
theorem lkX2_hasParty_f46 : Cond.fieldLink RX2 46 "CoachCourt$Road" "parties" "I" ∈ wsX2_hasParty := by decide +kernel
set_option maxHeartbeats 4000000 in
set_option maxRecDepth 100000 in
theorem cX2_hasParty_ok {l : Launch} {D : va_G} {t : Nat → ClassId} {κ : Nat → Nat} {a_rd : Nat → Nat} {s_rd : S2} {p1 : Int32} {out : Int32} (hf : fX2_hasParty s_rd p1 = some out) : Ct l D t κ yX2_hasParty wsX2_hasParty (rmL 0) [.ref (a_rd 0), .int p1] (wRoad t a_rd s_rd) (some (.int out)) (wRoad t a_rd s_rd) := by
  refine Ct.ofW (own := RX2) (cc := cX2_hasParty) (maxL := 2) (ret := (some .boolean)) (by decide) rfl rfl (Nat.le_of_ble_eq_true rfl) ?_
  intro p e s m below meth c A C hP hD ls hl
  have hS : va_S A s.heap s.heap [] := va_S.rf
  obtain ⟨hx, hb, hr, hml, hown, hts, hC0, hlk, hA⟩ := id C
  have hK := hC0.1
  have hl : lv_has ls 2 [(0, .ref (a_rd 0)), (1, .int p1)] := hl
  unfold fX2_hasParty at hf
  refine lv_iload_n hx hb dX2_hasParty_0 rfl (lv_at hl 1 rfl) ?_
  refine lv_if_lt (tgt := 16) hx hb dX2_hasParty_1 (by decide) (fun c1 => ?_) (fun c1 => ?_)
  · rw [if_pos c1] at hf
    refine lv_iconst (v := 0) hx hb dX2_hasParty_16 (by decide) ?_
    obtain rfl := so_eq hf
    exact g_zret (v := 0) C rfl hP hD hS dX2_hasParty_17
  · rw [if_neg c1] at hf
    refine lv_iload_n hx hb dX2_hasParty_4 rfl (lv_at hl 1 rfl) ?_
    refine lv_aload_n hx hb dX2_hasParty_5 rfl (lv_at hl 0 rfl) ?_
    refine va_get (D := D) (ci := 2) (v := .int (s_rd 0 1)) (C := RX2) (T := TX2) (N := 12) hx hb hts iwX2_hasParty_X2 hown hK hP 0 rfl rfl 9 (by decide) (hts _ lkX2_hasParty_f46) (fun _ h9 => h9) rfl dX2_hasParty_6 ?_
    refine lv_icmp_ge (tgt := 16) hx hb dX2_hasParty_9 (by decide) (fun c2 => ?_) (fun c2 => ?_)
    · rw [if_pos c2] at hf
      refine lv_iconst (v := 0) hx hb dX2_hasParty_16 (by decide) ?_
      obtain rfl := so_eq hf
      exact g_zret (v := 0) C rfl hP hD hS dX2_hasParty_17
    · rw [if_neg c2] at hf
      refine lv_iconst (v := 1) hx hb dX2_hasParty_12 (by decide) ?_
      refine lv_goto (tgt := 17) hx hb dX2_hasParty_13 (by decide) ?_
      obtain rfl := so_eq hf
      exact g_zret (v := 1) C rfl hP hD hS dX2_hasParty_17
/-! CoachCourt$Road.hasSignpost -/
def fX2_hasSignpost (s_rd : S2) (p1 : Int32) : Option (Int32) :=
  if p1 < (0 : Int32) then
    (some (0 : Int32))
  else
    (if ((s_rd 0 0) - (1 : Int32)) ≤ p1 then
      (some (0 : Int32))
    else
      (some (1 : Int32)))
theorem hdX2_hasSignpost : yX2_hasSignpost.cls = RX2 ∧ yX2_hasSignpost.cls ≠ "java/lang/invoke/MethodHandle" ∧ yX2_hasSignpost.cls ≠ "java/lang/invoke/VarHandle" ∧ (parseMethodDescriptor yX2_hasSignpost.desc).map (fun d => d.parameters.length) = some 1 := by decide +kernel
theorem iwX2_hasSignpost_X2 : ∀ w ∈ wsX20, w ∈ wsX2_hasSignpost := by decide +kernel
theorem lkX2_hasSignpost_f43 : Cond.fieldLink RX2 43 "CoachCourt$Road" "miles" "I" ∈ wsX2_hasSignpost := by decide +kernel
set_option maxHeartbeats 4000000 in
set_option maxRecDepth 100000 in
theorem cX2_hasSignpost_ok {l : Launch} {D : va_G} {t : Nat → ClassId} {κ : Nat → Nat} {a_rd : Nat → Nat} {s_rd : S2} {p1 : Int32} {out : Int32} (hf : fX2_hasSignpost s_rd p1 = some out) : Ct l D t κ yX2_hasSignpost wsX2_hasSignpost (rmL 0) [.ref (a_rd 0), .int p1] (wRoad t a_rd s_rd) (some (.int out)) (wRoad t a_rd s_rd) := by
  refine Ct.ofW (own := RX2) (cc := cX2_hasSignpost) (maxL := 2) (ret := (some .boolean)) (by decide) rfl rfl (Nat.le_of_ble_eq_true rfl) ?_
  intro p e s m below meth c A C hP hD ls hl
  have hS : va_S A s.heap s.heap [] := va_S.rf
  obtain ⟨hx, hb, hr, hml, hown, hts, hC0, hlk, hA⟩ := id C
  have hK := hC0.1
  have hl : lv_has ls 2 [(0, .ref (a_rd 0)), (1, .int p1)] := hl
  unfold fX2_hasSignpost at hf
  refine lv_iload_n hx hb dX2_hasSignpost_0 rfl (lv_at hl 1 rfl) ?_
  refine lv_if_lt (tgt := 18) hx hb dX2_hasSignpost_1 (by decide) (fun c1 => ?_) (fun c1 => ?_)
  · rw [if_pos c1] at hf
    refine lv_iconst (v := 0) hx hb dX2_hasSignpost_18 (by decide) ?_
    obtain rfl := so_eq hf
    exact g_zret (v := 0) C rfl hP hD hS dX2_hasSignpost_19
  · rw [if_neg c1] at hf
    refine lv_iload_n hx hb dX2_hasSignpost_4 rfl (lv_at hl 1 rfl) ?_
    refine lv_aload_n hx hb dX2_hasSignpost_5 rfl (lv_at hl 0 rfl) ?_
    refine va_get (D := D) (ci := 2) (v := .int (s_rd 0 0)) (C := RX2) (T := TX2) (N := 12) hx hb hts iwX2_hasSignpost_X2 hown hK hP 0 rfl rfl 8 (by decide) (hts _ lkX2_hasSignpost_f43) (fun _ h9 => h9) rfl dX2_hasSignpost_6 ?_
    refine lv_iconst (v := 1) hx hb dX2_hasSignpost_9 (by decide) ?_
    refine lv_isub hx hb dX2_hasSignpost_10 ?_
    refine lv_icmp_ge (tgt := 18) hx hb dX2_hasSignpost_11 (by decide) (fun c2 => ?_) (fun c2 => ?_)
    · rw [if_pos c2] at hf
      refine lv_iconst (v := 0) hx hb dX2_hasSignpost_18 (by decide) ?_
      obtain rfl := so_eq hf
      exact g_zret (v := 0) C rfl hP hD hS dX2_hasSignpost_19
    · rw [if_neg c2] at hf
      refine lv_iconst (v := 1) hx hb dX2_hasSignpost_14 (by decide) ?_
      refine lv_goto (tgt := 19) hx hb dX2_hasSignpost_15 (by decide) ?_
      obtain rfl := so_eq hf
      exact g_zret (v := 1) C rfl hP hD hS dX2_hasSignpost_19
/-! CoachCourt$Road.mileRow -/
def selX2_mileRow (x : Int32) : Nat := if x = 0 then 1 else if x = 1 then 2 else 3
theorem selX2_mileRow_d {x : Int32} (h0 : ¬ x = 0) (h1 : ¬ x = 1) : selX2_mileRow x = 3 := by unfold selX2_mileRow; rw [if_neg h0, if_neg h1]
theorem hdX2_mileRow : yX2_mileRow.cls = RX2 ∧ yX2_mileRow.cls ≠ "java/lang/invoke/MethodHandle" ∧ yX2_mileRow.cls ≠ "java/lang/invoke/VarHandle" ∧ (parseMethodDescriptor yX2_mileRow.desc).map (fun d => d.parameters.length) = some 1 := by decide +kernel
theorem iwX2_mileRow_X2 : ∀ w ∈ wsX20, w ∈ wsX2_mileRow := by decide +kernel
theorem lkX2_mileRow_f9 : Cond.fieldLink RX2 9 "CoachCourt$Road" "land" "[I" ∈ wsX2_mileRow := by decide +kernel
theorem lkX2_mileRow_f15 : Cond.fieldLink RX2 15 "CoachCourt$Road" "hill" "[I" ∈ wsX2_mileRow := by decide +kernel
theorem lkX2_mileRow_f18 : Cond.fieldLink RX2 18 "CoachCourt$Road" "mud" "[I" ∈ wsX2_mileRow := by decide +kernel
set_option maxHeartbeats 4000000 in
set_option maxRecDepth 100000 in
theorem cX2_mileRow_ok {l : Launch} {D : va_G} {t : Nat → ClassId} {κ : Nat → Nat} {a_rd : Nat → Nat} {s_rd : S2} {p1 : Int32} : Ct l D t κ yX2_mileRow wsX2_mileRow (rmL 0) [.ref (a_rd 0), .int p1] (wRoad t a_rd s_rd) (some (.ref (a_rd (selX2_mileRow p1)))) (wRoad t a_rd s_rd) := by
  refine Ct.ofW (own := RX2) (cc := cX2_mileRow) (maxL := 2) (ret := (some (.array .int))) (by decide) rfl rfl (Nat.le_of_ble_eq_true rfl) ?_
  intro p e s m below meth c A C hP hD ls hl
  have hS : va_S A s.heap s.heap [] := va_S.rf
  obtain ⟨hx, hb, hr, hml, hown, hts, hC0, hlk, hA⟩ := id C
  have hK := hC0.1
  have hl : lv_has ls 2 [(0, .ref (a_rd 0)), (1, .int p1)] := hl
  refine lv_iload_n hx hb dX2_mileRow_0 rfl (lv_at hl 1 rfl) ?_
  by_cases c0 : p1 = 0
  · subst c0
    refine lv_lookup (off := 27) (tgt := 28) hx hb dX2_mileRow_1 (by decide) rfl (by decide) ?_
    refine lv_aload_n hx hb dX2_mileRow_28 rfl (lv_at hl 0 rfl) ?_
    refine va_get (D := D) (ci := 2) (v := .ref (a_rd 1)) (C := RX2) (T := TX2) (N := 12) hx hb hts iwX2_mileRow_X2 hown hK hP 0 rfl rfl 0 (by decide) (hts _ lkX2_mileRow_f9) (fun _ h9 => h9) rfl dX2_mileRow_29 ?_
    exact g_aret C hP hD hS dX2_mileRow_32
  by_cases c1 : p1 = 1
  · subst c1
    refine lv_lookup (off := 32) (tgt := 33) hx hb dX2_mileRow_1 (by decide) rfl (by decide) ?_
    refine lv_aload_n hx hb dX2_mileRow_33 rfl (lv_at hl 0 rfl) ?_
    refine va_get (D := D) (ci := 2) (v := .ref (a_rd 2)) (C := RX2) (T := TX2) (N := 12) hx hb hts iwX2_mileRow_X2 hown hK hP 0 rfl rfl 1 (by decide) (hts _ lkX2_mileRow_f15) (fun _ h9 => h9) rfl dX2_mileRow_34 ?_
    exact g_aret C hP hD hS dX2_mileRow_37
  refine lv_lookup (off := 37) (tgt := 38) hx hb dX2_mileRow_1 (by decide) (by rw [lv_osw c0 (by decide), lv_osw c1 (by decide)] <;> rfl) (by decide) ?_
  rw [selX2_mileRow_d c0 c1]
  refine lv_aload_n hx hb dX2_mileRow_38 rfl (lv_at hl 0 rfl) ?_
  refine va_get (D := D) (ci := 2) (v := .ref (a_rd 3)) (C := RX2) (T := TX2) (N := 12) hx hb hts iwX2_mileRow_X2 hown hK hP 0 rfl rfl 2 (by decide) (hts _ lkX2_mileRow_f18) (fun _ h9 => h9) rfl dX2_mileRow_39 ?_
  exact g_aret C hP hD hS dX2_mileRow_42
/-! CoachCourt$Road.partyRow -/
def selX2_partyRow (x : Int32) : Nat := if x = 0 then 4 else if x = 1 then 5 else if x = 2 then 6 else if x = 3 then 7 else 8
theorem selX2_partyRow_d {x : Int32} (h0 : ¬ x = 0) (h1 : ¬ x = 1) (h2 : ¬ x = 2) (h3 : ¬ x = 3) : selX2_partyRow x = 8 := by unfold selX2_partyRow; rw [if_neg h0, if_neg h1, if_neg h2, if_neg h3]
theorem hdX2_partyRow : yX2_partyRow.cls = RX2 ∧ yX2_partyRow.cls ≠ "java/lang/invoke/MethodHandle" ∧ yX2_partyRow.cls ≠ "java/lang/invoke/VarHandle" ∧ (parseMethodDescriptor yX2_partyRow.desc).map (fun d => d.parameters.length) = some 1 := by decide +kernel
theorem iwX2_partyRow_X2 : ∀ w ∈ wsX20, w ∈ wsX2_partyRow := by decide +kernel
theorem lkX2_partyRow_f21 : Cond.fieldLink RX2 21 "CoachCourt$Road" "kind" "[I" ∈ wsX2_partyRow := by decide +kernel
theorem lkX2_partyRow_f24 : Cond.fieldLink RX2 24 "CoachCourt$Road" "wind" "[I" ∈ wsX2_partyRow := by decide +kernel
theorem lkX2_partyRow_f27 : Cond.fieldLink RX2 27 "CoachCourt$Road" "need" "[I" ∈ wsX2_partyRow := by decide +kernel
theorem lkX2_partyRow_f30 : Cond.fieldLink RX2 30 "CoachCourt$Road" "law" "[I" ∈ wsX2_partyRow := by decide +kernel
theorem lkX2_partyRow_f33 : Cond.fieldLink RX2 33 "CoachCourt$Road" "stone" "[I" ∈ wsX2_partyRow := by decide +kernel
set_option maxHeartbeats 4000000 in
set_option maxRecDepth 100000 in
theorem cX2_partyRow_ok {l : Launch} {D : va_G} {t : Nat → ClassId} {κ : Nat → Nat} {a_rd : Nat → Nat} {s_rd : S2} {p1 : Int32} : Ct l D t κ yX2_partyRow wsX2_partyRow (rmL 0) [.ref (a_rd 0), .int p1] (wRoad t a_rd s_rd) (some (.ref (a_rd (selX2_partyRow p1)))) (wRoad t a_rd s_rd) := by
  refine Ct.ofW (own := RX2) (cc := cX2_partyRow) (maxL := 2) (ret := (some (.array .int))) (by decide) rfl rfl (Nat.le_of_ble_eq_true rfl) ?_
  intro p e s m below meth c A C hP hD ls hl
  have hS : va_S A s.heap s.heap [] := va_S.rf
  obtain ⟨hx, hb, hr, hml, hown, hts, hC0, hlk, hA⟩ := id C
  have hK := hC0.1
  have hl : lv_has ls 2 [(0, .ref (a_rd 0)), (1, .int p1)] := hl
  refine lv_iload_n hx hb dX2_partyRow_0 rfl (lv_at hl 1 rfl) ?_
  by_cases c0 : p1 = 0
  · subst c0
    refine lv_tableIn (tgt := 32) hx hb dX2_partyRow_1 (by decide) (by decide) rfl (by decide) ?_
    refine lv_aload_n hx hb dX2_partyRow_32 rfl (lv_at hl 0 rfl) ?_
    refine va_get (D := D) (ci := 2) (v := .ref (a_rd 4)) (C := RX2) (T := TX2) (N := 12) hx hb hts iwX2_partyRow_X2 hown hK hP 0 rfl rfl 3 (by decide) (hts _ lkX2_partyRow_f21) (fun _ h9 => h9) rfl dX2_partyRow_33 ?_
    exact g_aret C hP hD hS dX2_partyRow_36
  by_cases c1 : p1 = 1
  · subst c1
    refine lv_tableIn (tgt := 37) hx hb dX2_partyRow_1 (by decide) (by decide) rfl (by decide) ?_
    refine lv_aload_n hx hb dX2_partyRow_37 rfl (lv_at hl 0 rfl) ?_
    refine va_get (D := D) (ci := 2) (v := .ref (a_rd 5)) (C := RX2) (T := TX2) (N := 12) hx hb hts iwX2_partyRow_X2 hown hK hP 0 rfl rfl 4 (by decide) (hts _ lkX2_partyRow_f24) (fun _ h9 => h9) rfl dX2_partyRow_38 ?_
    exact g_aret C hP hD hS dX2_partyRow_41
  by_cases c2 : p1 = 2
  · subst c2
    refine lv_tableIn (tgt := 42) hx hb dX2_partyRow_1 (by decide) (by decide) rfl (by decide) ?_
    refine lv_aload_n hx hb dX2_partyRow_42 rfl (lv_at hl 0 rfl) ?_
    refine va_get (D := D) (ci := 2) (v := .ref (a_rd 6)) (C := RX2) (T := TX2) (N := 12) hx hb hts iwX2_partyRow_X2 hown hK hP 0 rfl rfl 5 (by decide) (hts _ lkX2_partyRow_f27) (fun _ h9 => h9) rfl dX2_partyRow_43 ?_
    exact g_aret C hP hD hS dX2_partyRow_46
  by_cases c3 : p1 = 3
  · subst c3
    refine lv_tableIn (tgt := 47) hx hb dX2_partyRow_1 (by decide) (by decide) rfl (by decide) ?_
    refine lv_aload_n hx hb dX2_partyRow_47 rfl (lv_at hl 0 rfl) ?_
    refine va_get (D := D) (ci := 2) (v := .ref (a_rd 7)) (C := RX2) (T := TX2) (N := 12) hx hb hts iwX2_partyRow_X2 hown hK hP 0 rfl rfl 6 (by decide) (hts _ lkX2_partyRow_f30) (fun _ h9 => h9) rfl dX2_partyRow_48 ?_
    exact g_aret C hP hD hS dX2_partyRow_51
  refine lv_tableOut (tgt := 52) hx hb dX2_partyRow_1 (by have nc0 := lv_neT c0 (a := 0) (by decide); have nc1 := lv_neT c1 (a := 1) (by decide); have nc2 := lv_neT c2 (a := 2) (by decide); have nc3 := lv_neT c3 (a := 3) (by decide); omega) (by decide) ?_
  rw [selX2_partyRow_d c0 c1 c2 c3]
  refine lv_aload_n hx hb dX2_partyRow_52 rfl (lv_at hl 0 rfl) ?_
  refine va_get (D := D) (ci := 2) (v := .ref (a_rd 8)) (C := RX2) (T := TX2) (N := 12) hx hb hts iwX2_partyRow_X2 hown hK hP 0 rfl rfl 7 (by decide) (hts _ lkX2_partyRow_f33) (fun _ h9 => h9) rfl dX2_partyRow_53 ?_
  exact g_aret C hP hD hS dX2_partyRow_56
/-! CoachCourt$Road.hearingOf -/
def fX2_hearingOf_23 (s_rd : S2) (x1 : Int32) (k0 : Int32) : Option (Int32) :=
  if k0 = (0 : Int32) then
    ((fX2_minutesOf s_rd x1).bind fun v4 =>
    some v4)
  else
    ((fX2_minutesOf s_rd x1).bind fun v5 =>
    some (v5 / (2 : Int32)))
def fX2_hearingOf (s_rd : S2) (p1 : Int32) : Option (Int32) :=
  gd (ixb p1 8) <|
  if (s_rd 2 (Int32.toNatClampNeg p1)) = (0 : Int32) then
    (if (s_rd 3 (Int32.toNatClampNeg p1)) = (0 : Int32) then
      (fX2_hearingOf_23 s_rd p1 (1 : Int32))
    else
      (fX2_hearingOf_23 s_rd p1 (0 : Int32)))
  else
    (fX2_hearingOf_23 s_rd p1 (0 : Int32))
theorem hdX2_hearingOf : yX2_hearingOf.cls = RX2 ∧ yX2_hearingOf.cls ≠ "java/lang/invoke/MethodHandle" ∧ yX2_hearingOf.cls ≠ "java/lang/invoke/VarHandle" ∧ (parseMethodDescriptor yX2_hearingOf.desc).map (fun d => d.parameters.length) = some 1 := by decide +kernel
theorem iwX2_hearingOf_X2 : ∀ w ∈ wsX20, w ∈ wsX2_hearingOf := by decide +kernel
theorem lkX2_hearingOf_f15 : Cond.fieldLink RX2 15 "CoachCourt$Road" "hill" "[I" ∈ wsX2_hearingOf := by decide +kernel
theorem lkX2_hearingOf_f18 : Cond.fieldLink RX2 18 "CoachCourt$Road" "mud" "[I" ∈ wsX2_hearingOf := by decide +kernel
set_option maxHeartbeats 4000000 in
set_option maxRecDepth 100000 in
theorem wX2_hearingOf_23 {p : Program} {l : Launch} {e : Env} {s : State} {m : MethodId} {args : Array Value} {below : List Frame} {meth : Method} {c : Code} {D : va_G} {t : Nat → ClassId} {κ : Nat → Nat} {A : Nat → Prop} {a_rd : Nat → Nat} {s_rd : S2} {x1 : Int32} {k0 : Int32} {out : Int32} (C : Cxt p s m args meth c cX2_hearingOf 3 RX2 wsX2_hearingOf (some .int) D t κ A) (hf : fX2_hearingOf_23 s_rd x1 k0 = some out) : ∀ (H : Heap) (locs : List Loc) (ls : Array Slot), va_P D vwCl (wRoad t a_rd s_rd) H → va_D A (wRoad t a_rd s_rd) → va_S A s.heap H locs → lv_has ls 3 [(0, .ref (a_rd 0)), (1, .int x1)] → W p l e (rmL 1) s m args below meth c H locs 0 0 (MQ below (gQ D (some (.int out)) (wRoad t a_rd s_rd) A) args s 0 0 A) (F0 m 23 ls [.int k0]) := by
  obtain ⟨hx, hb, hr, hml, hown, hts, hC0, hlk, hA⟩ := id C
  have hK := hC0.1
  intro H locs ls hP hD hS hl
  unfold fX2_hearingOf_23 at hf
  refine lv_istore_n (lv' := [(2, .int k0), (0, .ref (a_rd 0)), (1, .int x1)]) hx hb dX2_hearingOf_23 rfl hl (by decide) rfl (fun ls hl => ?_)
  refine lv_iload_n hx hb dX2_hearingOf_24 rfl (lv_at hl 0 rfl) ?_
  refine lv_if_eq (tgt := 38) hx hb dX2_hearingOf_25 (by decide) (fun c3 => ?_) (fun c3 => ?_)
  · rw [if_pos c3] at hf
    refine lv_aload_n hx hb dX2_hearingOf_38 rfl (lv_at hl 1 rfl) ?_
    refine lv_iload_n hx hb dX2_hearingOf_39 rfl (lv_at hl 2 rfl) ?_
    obtain ⟨v4, ev4, hf⟩ := bd_some hf
    refine gk_V0 C (As := [.int x1]) (rest := []) (ci := 2) (q := (RX2, TX2, 12)) (q0 := 0) (cX2_minutesOf_ok (l := l) (D := D) (t := t) (κ := κ) (a_rd := a_rd) ev4) gX2_hearingOf_X2_minutesOf rfl ⟨rfl, rfl⟩ hdX2_minutesOf ⟨Nat.le_of_ble_eq_true rfl, Nat.le_of_ble_eq_true rfl⟩ rfl rfl hP hD hS rfl hl.1 (Nat.le_of_ble_eq_true rfl) dX2_hearingOf_40 (Nat.zero_le _) (Nat.zero_le _) (fun H locs hP hD hS => ?_)
    refine W.eq (g2 := F0 m 43 ls [.int v4]) rfl ?_
    obtain rfl := so_eq hf
    exact g_iret C hP hD hS dX2_hearingOf_43
  · rw [if_neg c3] at hf
    refine lv_aload_n hx hb dX2_hearingOf_28 rfl (lv_at hl 1 rfl) ?_
    refine lv_iload_n hx hb dX2_hearingOf_29 rfl (lv_at hl 2 rfl) ?_
    obtain ⟨v5, ev5, hf⟩ := bd_some hf
    refine gk_V0 C (As := [.int x1]) (rest := []) (ci := 2) (q := (RX2, TX2, 12)) (q0 := 0) (cX2_minutesOf_ok (l := l) (D := D) (t := t) (κ := κ) (a_rd := a_rd) ev5) gX2_hearingOf_X2_minutesOf rfl ⟨rfl, rfl⟩ hdX2_minutesOf ⟨Nat.le_of_ble_eq_true rfl, Nat.le_of_ble_eq_true rfl⟩ rfl rfl hP hD hS rfl hl.1 (Nat.le_of_ble_eq_true rfl) dX2_hearingOf_30 (Nat.zero_le _) (Nat.zero_le _) (fun H locs hP hD hS => ?_)
    refine W.eq (g2 := F0 m 33 ls [.int v5]) rfl ?_
    refine lv_iconst (v := 2) hx hb dX2_hearingOf_33 (by decide) ?_
    refine lv_idiv hx hb dX2_hearingOf_34 (by decide) ?_
    refine lv_goto (tgt := 43) hx hb dX2_hearingOf_35 (by decide) ?_
    obtain rfl := so_eq hf
    exact g_iret C hP hD hS dX2_hearingOf_43
set_option maxHeartbeats 4000000 in
set_option maxRecDepth 100000 in
theorem cX2_hearingOf_ok {l : Launch} {D : va_G} {t : Nat → ClassId} {κ : Nat → Nat} {a_rd : Nat → Nat} {s_rd : S2} {p1 : Int32} {out : Int32} (hf : fX2_hearingOf s_rd p1 = some out) : Ct l D t κ yX2_hearingOf wsX2_hearingOf (rmL 1) [.ref (a_rd 0), .int p1] (wRoad t a_rd s_rd) (some (.int out)) (wRoad t a_rd s_rd) := by
  refine Ct.ofW (own := RX2) (cc := cX2_hearingOf) (maxL := 3) (ret := (some .int)) (by decide) rfl rfl (Nat.le_of_ble_eq_true rfl) ?_
  intro p e s m below meth c A C hP hD ls hl
  have hS : va_S A s.heap s.heap [] := va_S.rf
  obtain ⟨hx, hb, hr, hml, hown, hts, hC0, hlk, hA⟩ := id C
  have hK := hC0.1
  have hl : lv_has ls 3 [(0, .ref (a_rd 0)), (1, .int p1)] := hl
  unfold fX2_hearingOf at hf
  refine lv_aload_n hx hb dX2_hearingOf_0 rfl (lv_at hl 0 rfl) ?_
  refine va_get (D := D) (ci := 2) (v := .ref (a_rd 2)) (C := RX2) (T := TX2) (N := 12) hx hb hts iwX2_hearingOf_X2 hown hK hP 0 rfl rfl 1 (by decide) (hts _ lkX2_hearingOf_f15) (fun _ h9 => h9) rfl dX2_hearingOf_1 ?_
  refine lv_iload_n hx hb dX2_hearingOf_4 rfl (lv_at hl 1 rfl) ?_
  obtain ⟨b1, hf⟩ := gd_some hf
  refine va_iald hx hb hK hP 2 0 rfl rfl (ixb_in b1) dX2_hearingOf_5 ?_
  refine lv_if_ne (tgt := 22) hx hb dX2_hearingOf_6 (by decide) (fun c2 => ?_) (fun c2 => ?_)
  · rw [if_neg c2] at hf
    refine lv_iconst (v := 0) hx hb dX2_hearingOf_22 (by decide) ?_
    exact wX2_hearingOf_23 C hf _ _ _ hP hD hS (lv_sub hl [0, 1] rfl)
  · rw [if_pos c2] at hf
    refine lv_aload_n hx hb dX2_hearingOf_9 rfl (lv_at hl 0 rfl) ?_
    refine va_get (D := D) (ci := 2) (v := .ref (a_rd 3)) (C := RX2) (T := TX2) (N := 12) hx hb hts iwX2_hearingOf_X2 hown hK hP 0 rfl rfl 2 (by decide) (hts _ lkX2_hearingOf_f18) (fun _ h9 => h9) rfl dX2_hearingOf_10 ?_
    refine lv_iload_n hx hb dX2_hearingOf_13 rfl (lv_at hl 1 rfl) ?_
    refine va_iald hx hb hK hP 3 0 rfl rfl (ixb_in b1) dX2_hearingOf_14 ?_
    refine lv_if_ne (tgt := 22) hx hb dX2_hearingOf_15 (by decide) (fun c6 => ?_) (fun c6 => ?_)
    · rw [if_neg c6] at hf
      refine lv_iconst (v := 0) hx hb dX2_hearingOf_22 (by decide) ?_
      exact wX2_hearingOf_23 C hf _ _ _ hP hD hS (lv_sub hl [0, 1] rfl)
    · rw [if_pos c6] at hf
      refine lv_iconst (v := 1) hx hb dX2_hearingOf_18 (by decide) ?_
      refine lv_goto (tgt := 23) hx hb dX2_hearingOf_19 (by decide) ?_
      exact wX2_hearingOf_23 C hf _ _ _ hP hD hS (lv_sub hl [0, 1] rfl)
/-! CoachCourt$Road.strainOf -/
def fX2_strainOf (s_rd : S2) (p1 : Int32) (p2 : Int32) : Option (Int32) :=
  (fX2_minutesOf s_rd p2).bind fun v1 =>
  gd (ixb p2 8) <|
  nm (v1 + (s_rd 2 (Int32.toNatClampNeg p2))) fun y3 =>
  gd (ixb p1 4) <|
  nm (s_rd 4 (Int32.toNatClampNeg p1)) fun y5 =>
  if y5 = 1 then
    (some (y3 / (2 : Int32)))
  else
  if y5 = 2 then
    (some ((2 : Int32) * y3))
  else
  (some y3)
theorem hdX2_strainOf : yX2_strainOf.cls = RX2 ∧ yX2_strainOf.cls ≠ "java/lang/invoke/MethodHandle" ∧ yX2_strainOf.cls ≠ "java/lang/invoke/VarHandle" ∧ (parseMethodDescriptor yX2_strainOf.desc).map (fun d => d.parameters.length) = some 2 := by decide +kernel
theorem iwX2_strainOf_X2 : ∀ w ∈ wsX20, w ∈ wsX2_strainOf := by decide +kernel
theorem lkX2_strainOf_f15 : Cond.fieldLink RX2 15 "CoachCourt$Road" "hill" "[I" ∈ wsX2_strainOf := by decide +kernel
theorem lkX2_strainOf_f21 : Cond.fieldLink RX2 21 "CoachCourt$Road" "kind" "[I" ∈ wsX2_strainOf := by decide +kernel
set_option maxHeartbeats 4000000 in
set_option maxRecDepth 100000 in
theorem cX2_strainOf_ok {l : Launch} {D : va_G} {t : Nat → ClassId} {κ : Nat → Nat} {a_rd : Nat → Nat} {s_rd : S2} {p1 : Int32} {p2 : Int32} {out : Int32} (hf : fX2_strainOf s_rd p1 p2 = some out) : Ct l D t κ yX2_strainOf wsX2_strainOf (rmL 1) [.ref (a_rd 0), .int p1, .int p2] (wRoad t a_rd s_rd) (some (.int out)) (wRoad t a_rd s_rd) := by
  refine Ct.ofW (own := RX2) (cc := cX2_strainOf) (maxL := 4) (ret := (some .int)) (by decide) rfl rfl (Nat.le_of_ble_eq_true rfl) ?_
  intro p e s m below meth c A C hP hD ls hl
  have hS : va_S A s.heap s.heap [] := va_S.rf
  obtain ⟨hx, hb, hr, hml, hown, hts, hC0, hlk, hA⟩ := id C
  have hK := hC0.1
  have hl : lv_has ls 4 [(0, .ref (a_rd 0)), (1, .int p1), (2, .int p2)] := hl
  unfold fX2_strainOf at hf
  refine lv_aload_n hx hb dX2_strainOf_0 rfl (lv_at hl 0 rfl) ?_
  refine lv_iload_n hx hb dX2_strainOf_1 rfl (lv_at hl 2 rfl) ?_
  obtain ⟨v1, ev1, hf⟩ := bd_some hf
  refine gk_V0 C (As := [.int p2]) (rest := []) (ci := 2) (q := (RX2, TX2, 12)) (q0 := 0) (cX2_minutesOf_ok (l := l) (D := D) (t := t) (κ := κ) (a_rd := a_rd) ev1) gX2_strainOf_X2_minutesOf rfl ⟨rfl, rfl⟩ hdX2_minutesOf ⟨Nat.le_of_ble_eq_true rfl, Nat.le_of_ble_eq_true rfl⟩ rfl rfl hP hD hS rfl hl.1 (Nat.le_of_ble_eq_true rfl) dX2_strainOf_2 (Nat.zero_le _) (Nat.zero_le _) (fun H locs hP hD hS => ?_)
  refine W.eq (g2 := F0 m 5 ls [.int v1]) rfl ?_
  refine lv_aload_n hx hb dX2_strainOf_5 rfl (lv_at hl 0 rfl) ?_
  refine va_get (D := D) (ci := 2) (v := .ref (a_rd 2)) (C := RX2) (T := TX2) (N := 12) hx hb hts iwX2_strainOf_X2 hown hK hP 0 rfl rfl 1 (by decide) (hts _ lkX2_strainOf_f15) (fun _ h9 => h9) rfl dX2_strainOf_6 ?_
  refine lv_iload_n hx hb dX2_strainOf_9 rfl (lv_at hl 2 rfl) ?_
  obtain ⟨b2, hf⟩ := gd_some hf
  refine va_iald hx hb hK hP 2 0 rfl rfl (ixb_in b2) dX2_strainOf_10 ?_
  refine lv_iadd hx hb dX2_strainOf_11 ?_
  obtain ⟨y3, hy3, hf⟩ := nm_ex hf
  refine W.eq (g2 := F0 m 12 ls [.int y3]) (by rw [hy3]) ?_
  refine lv_istore_n (lv' := [(3, .int y3), (0, .ref (a_rd 0)), (1, .int p1), (2, .int p2)]) hx hb dX2_strainOf_12 rfl hl (by decide) rfl (fun ls hl => ?_)
  refine lv_aload_n hx hb dX2_strainOf_13 rfl (lv_at hl 1 rfl) ?_
  refine va_get (D := D) (ci := 2) (v := .ref (a_rd 4)) (C := RX2) (T := TX2) (N := 12) hx hb hts iwX2_strainOf_X2 hown hK hP 0 rfl rfl 3 (by decide) (hts _ lkX2_strainOf_f21) (fun _ h9 => h9) rfl dX2_strainOf_14 ?_
  refine lv_iload_n hx hb dX2_strainOf_17 rfl (lv_at hl 2 rfl) ?_
  obtain ⟨b4, hf⟩ := gd_some hf
  refine va_iald hx hb hK hP 4 0 rfl rfl (ixb_in b4) dX2_strainOf_18 ?_
  obtain ⟨y5, hy5, hf⟩ := nm_ex hf
  refine W.eq (g2 := F0 m 19 ls [.int y5]) (by rw [hy5]) ?_
  by_cases c6 : y5 = 1
  · rw [if_pos c6] at hf
    refine lv_lookup (off := 25) (tgt := 44) hx hb dX2_strainOf_19 (by decide) (by rw [c6] <;> rfl) (by decide) ?_
    refine lv_iload_n hx hb dX2_strainOf_44 rfl (lv_at hl 0 rfl) ?_
    refine lv_iconst (v := 2) hx hb dX2_strainOf_45 (by decide) ?_
    refine lv_idiv hx hb dX2_strainOf_46 (by decide) ?_
    obtain rfl := so_eq hf
    exact g_iret C hP hD hS dX2_strainOf_47
  rw [if_neg c6] at hf
  by_cases c7 : y5 = 2
  · rw [if_pos c7] at hf
    refine lv_lookup (off := 29) (tgt := 48) hx hb dX2_strainOf_19 (by decide) (by rw [c7] <;> rfl) (by decide) ?_
    refine lv_iconst (v := 2) hx hb dX2_strainOf_48 (by decide) ?_
    refine lv_iload_n hx hb dX2_strainOf_49 rfl (lv_at hl 0 rfl) ?_
    refine lv_imul hx hb dX2_strainOf_50 ?_
    obtain rfl := so_eq hf
    exact g_iret C hP hD hS dX2_strainOf_51
  rw [if_neg c7] at hf
  refine lv_lookup (off := 33) (tgt := 52) hx hb dX2_strainOf_19 (by decide) (by rw [lv_osw c6 (by decide), lv_osw c7 (by decide)] <;> rfl) (by decide) ?_
  refine lv_iload_n hx hb dX2_strainOf_52 rfl (lv_at hl 0 rfl) ?_
  obtain rfl := so_eq hf
  exact g_iret C hP hD hS dX2_strainOf_53
/-! CoachCourt$Road.turnSignpost -/
def fX2_turnSignpost (s_rd : S2) (p1 : Int32) : Option (S2) :=
  gd (ixb p1 8) <|
  nm (s_rd 1 (Int32.toNatClampNeg p1)) fun y2 =>
  gd (ixb (p1 + (1 : Int32)) 8) <|
  nm (sE s_rd 1 (Int32.toNatClampNeg p1) (s_rd 1 (Int32.toNatClampNeg (p1 + (1 : Int32))))) fun s4 =>
  nm (sE s4 1 (Int32.toNatClampNeg (p1 + (1 : Int32))) y2) fun s5 =>
  some s5
theorem hdX2_turnSignpost : yX2_turnSignpost.cls = RX2 ∧ yX2_turnSignpost.cls ≠ "java/lang/invoke/MethodHandle" ∧ yX2_turnSignpost.cls ≠ "java/lang/invoke/VarHandle" ∧ (parseMethodDescriptor yX2_turnSignpost.desc).map (fun d => d.parameters.length) = some 1 := by decide +kernel
theorem iwX2_turnSignpost_X2 : ∀ w ∈ wsX20, w ∈ wsX2_turnSignpost := by decide +kernel
theorem lkX2_turnSignpost_f9 : Cond.fieldLink RX2 9 "CoachCourt$Road" "land" "[I" ∈ wsX2_turnSignpost := by decide +kernel
set_option maxHeartbeats 4000000 in
set_option maxRecDepth 100000 in
theorem cX2_turnSignpost_ok {l : Launch} {D : va_G} {t : Nat → ClassId} {κ : Nat → Nat} {a_rd : Nat → Nat} {s_rd : S2} {p1 : Int32} {out : S2} (hf : fX2_turnSignpost s_rd p1 = some out) : Ct l D t κ yX2_turnSignpost wsX2_turnSignpost (rmL 0) [.ref (a_rd 0), .int p1] (wRoad t a_rd s_rd) none (wRoad t a_rd out) := by
  refine Ct.ofW (own := RX2) (cc := cX2_turnSignpost) (maxL := 3) (ret := none) (by decide) rfl rfl (Nat.le_of_ble_eq_true rfl) ?_
  intro p e s m below meth c A C hP hD ls hl
  have hS : va_S A s.heap s.heap [] := va_S.rf
  obtain ⟨hx, hb, hr, hml, hown, hts, hC0, hlk, hA⟩ := id C
  have hK := hC0.1
  have hl : lv_has ls 3 [(0, .ref (a_rd 0)), (1, .int p1)] := hl
  unfold fX2_turnSignpost at hf
  refine lv_aload_n hx hb dX2_turnSignpost_0 rfl (lv_at hl 0 rfl) ?_
  refine va_get (D := D) (ci := 2) (v := .ref (a_rd 1)) (C := RX2) (T := TX2) (N := 12) hx hb hts iwX2_turnSignpost_X2 hown hK hP 0 rfl rfl 0 (by decide) (hts _ lkX2_turnSignpost_f9) (fun _ h9 => h9) rfl dX2_turnSignpost_1 ?_
  refine lv_iload_n hx hb dX2_turnSignpost_4 rfl (lv_at hl 1 rfl) ?_
  obtain ⟨b1, hf⟩ := gd_some hf
  refine va_iald hx hb hK hP 1 0 rfl rfl (ixb_in b1) dX2_turnSignpost_5 ?_
  obtain ⟨y2, hy2, hf⟩ := nm_ex hf
  refine W.eq (g2 := F0 m 6 ls [.int y2]) (by rw [hy2]) ?_
  refine lv_istore_n (lv' := [(2, .int y2), (0, .ref (a_rd 0)), (1, .int p1)]) hx hb dX2_turnSignpost_6 rfl hl (by decide) rfl (fun ls hl => ?_)
  refine lv_aload_n hx hb dX2_turnSignpost_7 rfl (lv_at hl 1 rfl) ?_
  refine va_get (D := D) (ci := 2) (v := .ref (a_rd 1)) (C := RX2) (T := TX2) (N := 12) hx hb hts iwX2_turnSignpost_X2 hown hK hP 0 rfl rfl 0 (by decide) (hts _ lkX2_turnSignpost_f9) (fun _ h9 => h9) rfl dX2_turnSignpost_8 ?_
  refine lv_iload_n hx hb dX2_turnSignpost_11 rfl (lv_at hl 2 rfl) ?_
  refine lv_aload_n hx hb dX2_turnSignpost_12 rfl (lv_at hl 1 rfl) ?_
  refine va_get (D := D) (ci := 2) (v := .ref (a_rd 1)) (C := RX2) (T := TX2) (N := 12) hx hb hts iwX2_turnSignpost_X2 hown hK hP 0 rfl rfl 0 (by decide) (hts _ lkX2_turnSignpost_f9) (fun _ h9 => h9) rfl dX2_turnSignpost_13 ?_
  refine lv_iload_n hx hb dX2_turnSignpost_16 rfl (lv_at hl 2 rfl) ?_
  refine lv_iconst (v := 1) hx hb dX2_turnSignpost_17 (by decide) ?_
  refine lv_iadd hx hb dX2_turnSignpost_18 ?_
  obtain ⟨b3, hf⟩ := gd_some hf
  refine va_iald hx hb hK hP 1 0 rfl rfl (ixb_in b3) dX2_turnSignpost_19 ?_
  obtain ⟨s4, hs4, hf⟩ := nm_ex hf
  refine va_iast hx hb hK hP hD hS 1 0 rfl rfl (ixb_in b1) dX2_turnSignpost_20 (fun H locs hP hD hS => ?_)
  have hP : va_P D vwCl (wRoad t a_rd s4) H := by rw [hs4]; exact hP
  have hD : va_D A (wRoad t a_rd s4) := by rw [hs4]; exact hD
  refine lv_aload_n hx hb dX2_turnSignpost_21 rfl (lv_at hl 1 rfl) ?_
  refine va_get (D := D) (ci := 2) (v := .ref (a_rd 1)) (C := RX2) (T := TX2) (N := 12) hx hb hts iwX2_turnSignpost_X2 hown hK hP 0 rfl rfl 0 (by decide) (hts _ lkX2_turnSignpost_f9) (fun _ h9 => h9) rfl dX2_turnSignpost_22 ?_
  refine lv_iload_n hx hb dX2_turnSignpost_25 rfl (lv_at hl 2 rfl) ?_
  refine lv_iconst (v := 1) hx hb dX2_turnSignpost_26 (by decide) ?_
  refine lv_iadd hx hb dX2_turnSignpost_27 ?_
  refine lv_iload_n hx hb dX2_turnSignpost_28 rfl (lv_at hl 0 rfl) ?_
  obtain ⟨s5, hs5, hf⟩ := nm_ex hf
  refine va_iast hx hb hK hP hD hS 1 0 rfl rfl (ixb_in b3) dX2_turnSignpost_29 (fun H locs hP hD hS => ?_)
  have hP : va_P D vwCl (wRoad t a_rd s5) H := by rw [hs5]; exact hP
  have hD : va_D A (wRoad t a_rd s5) := by rw [hs5]; exact hD
  obtain rfl := so_eq hf
  exact g_vret C hP hD hS dX2_turnSignpost_30
/-! CoachCourt$Road.putMuds -/
def fX2_putMuds_b2 (s_rd : S2) (x1 : Int32) (x2 : Int32) : Option ((Int32 × S2) ⊕ (Int32 × S2)) :=
  if (s_rd 0 0) ≤ x2 then
    (some (.inr (x2, s_rd)))
  else
    (gd (ixb x2 8) <|
    nm (sE s_rd 3 (Int32.toNatClampNeg x2) ((x1 >>> (x2 &&& 31)) &&& (1 : Int32))) fun s3 =>
    nm (x2 + (1 : Int32)) fun y4 =>
    some (.inl (y4, s3)))
def fX2_putMuds (s_rd : S2) (p1 : Int32) : Option (S2) :=
  (wh (fun (c : Int32 × S2) => fX2_putMuds_b2 c.2 p1 c.1) 5000 ((0 : Int32), s_rd)).bind fun x5 =>
  some x5.2
theorem hdX2_putMuds : yX2_putMuds.cls = RX2 ∧ yX2_putMuds.cls ≠ "java/lang/invoke/MethodHandle" ∧ yX2_putMuds.cls ≠ "java/lang/invoke/VarHandle" ∧ (parseMethodDescriptor yX2_putMuds.desc).map (fun d => d.parameters.length) = some 1 := by decide +kernel
theorem iwX2_putMuds_X2 : ∀ w ∈ wsX20, w ∈ wsX2_putMuds := by decide +kernel
theorem lkX2_putMuds_f43 : Cond.fieldLink RX2 43 "CoachCourt$Road" "miles" "I" ∈ wsX2_putMuds := by decide +kernel
theorem lkX2_putMuds_f18 : Cond.fieldLink RX2 18 "CoachCourt$Road" "mud" "[I" ∈ wsX2_putMuds := by decide +kernel
set_option maxHeartbeats 4000000 in
set_option maxRecDepth 100000 in
theorem wX2_putMuds_l2 {p : Program} {l : Launch} {e : Env} {s : State} {m : MethodId} {args : Array Value} {below : List Frame} {meth : Method} {c : Code} {D : va_G} {t : Nat → ClassId} {κ : Nat → Nat} {A : Nat → Prop} {a_rd : Nat → Nat} {x1 : Int32} {rv : Option Value} {w1 : va_W} (C : Cxt p s m args meth c cX2_putMuds 3 RX2 wsX2_putMuds none D t κ A) : ∀ (n : Nat) (x2 : Int32) (s_rd : S2) (x : Int32 × S2), wh (fun (c : Int32 × S2) => fX2_putMuds_b2 c.2 x1 c.1) n (x2, s_rd) = some x → (∀ (z : Int32 × S2), x = z → ∀ (H : Heap) (locs : List Loc) (ls : Array Slot), va_P D vwCl (wRoad t a_rd z.2) H → va_D A (wRoad t a_rd z.2) → va_S A s.heap H locs → lv_has ls 3 [] → W p l e (rmL 0) s m args below meth c H locs 0 0 (MQ below (gQ D rv w1 A) args s 0 0 A) (F0 m 27 ls [])) → ∀ (H : Heap) (locs : List Loc) (ls : Array Slot), va_P D vwCl (wRoad t a_rd s_rd) H → va_D A (wRoad t a_rd s_rd) → va_S A s.heap H locs → lv_has ls 3 [(0, .ref (a_rd 0)), (1, .int x1), (2, .int x2)] → W p l e (rmL 0) s m args below meth c H locs 0 0 (MQ below (gQ D rv w1 A) args s 0 0 A) (F0 m 2 ls []) := by
  obtain ⟨hx, hb, hr, hml, hown, hts, hC0, hlk, hA⟩ := id C
  have hK := hC0.1
  intro n
  induction n with
  | zero =>
    intro x2 s_rd x h
    exact (wh_0 h).elim
  | succ n ih =>
    intro x2 s_rd x h HX H locs ls hP hD hS hl
    obtain ⟨v, hf, hB, hX⟩ := wh_step h
    have hf : fX2_putMuds_b2 s_rd x1 x2 = some v := hf
    have HB : ∀ (z : Int32 × S2), v = .inl z → ∀ (H : Heap) (locs : List Loc) (ls : Array Slot), va_P D vwCl (wRoad t a_rd z.2) H → va_D A (wRoad t a_rd z.2) → va_S A s.heap H locs → lv_has ls 3 [(0, .ref (a_rd 0)), (1, .int x1), (2, .int z.1)] → W p l e (rmL 0) s m args below meth c H locs 0 0 (MQ below (gQ D rv w1 A) args s 0 0 A) (F0 m 2 ls []) := fun z hz H locs ls hP hD hS hl => ih z.1 z.2 x (hB z hz) HX H locs ls hP hD hS hl
    have HX : ∀ (z : Int32 × S2), v = .inr z → ∀ (H : Heap) (locs : List Loc) (ls : Array Slot), va_P D vwCl (wRoad t a_rd z.2) H → va_D A (wRoad t a_rd z.2) → va_S A s.heap H locs → lv_has ls 3 [] → W p l e (rmL 0) s m args below meth c H locs 0 0 (MQ below (gQ D rv w1 A) args s 0 0 A) (F0 m 27 ls []) := fun z hz => HX z (hX _ hz).symm
    unfold fX2_putMuds_b2 at hf
    refine lv_iload_n hx hb dX2_putMuds_2 rfl (lv_at hl 2 rfl) ?_
    refine lv_aload_n hx hb dX2_putMuds_3 rfl (lv_at hl 0 rfl) ?_
    refine va_get (D := D) (ci := 2) (v := .int (s_rd 0 0)) (C := RX2) (T := TX2) (N := 12) hx hb hts iwX2_putMuds_X2 hown hK hP 0 rfl rfl 8 (by decide) (hts _ lkX2_putMuds_f43) (fun _ h9 => h9) rfl dX2_putMuds_4 ?_
    refine lv_icmp_ge (tgt := 27) hx hb dX2_putMuds_7 (by decide) (fun c1 => ?_) (fun c1 => ?_)
    · rw [if_pos c1] at hf
      obtain rfl := so_eq hf
      exact HX _ rfl _ _ _ hP hD hS (lv_sub hl [] rfl)
    · rw [if_neg c1] at hf
      refine lv_aload_n hx hb dX2_putMuds_10 rfl (lv_at hl 0 rfl) ?_
      refine va_get (D := D) (ci := 2) (v := .ref (a_rd 3)) (C := RX2) (T := TX2) (N := 12) hx hb hts iwX2_putMuds_X2 hown hK hP 0 rfl rfl 2 (by decide) (hts _ lkX2_putMuds_f18) (fun _ h9 => h9) rfl dX2_putMuds_11 ?_
      refine lv_iload_n hx hb dX2_putMuds_14 rfl (lv_at hl 2 rfl) ?_
      refine lv_iload_n hx hb dX2_putMuds_15 rfl (lv_at hl 1 rfl) ?_
      refine lv_iload_n hx hb dX2_putMuds_16 rfl (lv_at hl 2 rfl) ?_
      refine lv_ishr hx hb dX2_putMuds_17 ?_
      refine lv_iconst (v := 1) hx hb dX2_putMuds_18 (by decide) ?_
      refine lv_iand hx hb dX2_putMuds_19 ?_
      obtain ⟨b2, hf⟩ := gd_some hf
      obtain ⟨s3, hs3, hf⟩ := nm_ex hf
      refine va_iast hx hb hK hP hD hS 3 0 rfl rfl (ixb_in b2) dX2_putMuds_20 (fun H locs hP hD hS => ?_)
      have hP : va_P D vwCl (wRoad t a_rd s3) H := by rw [hs3]; exact hP
      have hD : va_D A (wRoad t a_rd s3) := by rw [hs3]; exact hD
      obtain ⟨y4, hy4, hf⟩ := nm_ex hf
      refine lv_iinc (v := y4) (lv' := [(2, .int y4), (0, .ref (a_rd 0)), (1, .int x1)]) hx hb dX2_putMuds_21 hl (k := 2) rfl (by rw [hy4]; rfl) (by decide) rfl (fun ls hl => ?_)
      refine lv_goto (tgt := 2) hx hb dX2_putMuds_24 (by decide) ?_
      obtain rfl := so_eq hf
      exact HB _ rfl _ _ _ hP hD hS (lv_sub hl [1, 2, 0] rfl)
set_option maxHeartbeats 4000000 in
set_option maxRecDepth 100000 in
theorem cX2_putMuds_ok {l : Launch} {D : va_G} {t : Nat → ClassId} {κ : Nat → Nat} {a_rd : Nat → Nat} {s_rd : S2} {p1 : Int32} {out : S2} (hf : fX2_putMuds s_rd p1 = some out) : Ct l D t κ yX2_putMuds wsX2_putMuds (rmL 0) [.ref (a_rd 0), .int p1] (wRoad t a_rd s_rd) none (wRoad t a_rd out) := by
  refine Ct.ofW (own := RX2) (cc := cX2_putMuds) (maxL := 3) (ret := none) (by decide) rfl rfl (Nat.le_of_ble_eq_true rfl) ?_
  intro p e s m below meth c A C hP hD ls hl
  have hS : va_S A s.heap s.heap [] := va_S.rf
  obtain ⟨hx, hb, hr, hml, hown, hts, hC0, hlk, hA⟩ := id C
  have hK := hC0.1
  have hl : lv_has ls 3 [(0, .ref (a_rd 0)), (1, .int p1)] := hl
  unfold fX2_putMuds at hf
  refine lv_iconst (v := 0) hx hb dX2_putMuds_0 (by decide) ?_
  refine lv_istore_n (lv' := [(2, .int (0 : Int32)), (0, .ref (a_rd 0)), (1, .int p1)]) hx hb dX2_putMuds_1 rfl hl (by decide) rfl (fun ls hl => ?_)
  obtain ⟨x5, ex5, hf⟩ := bd_some hf
  refine wX2_putMuds_l2 C 5000 (0 : Int32) s_rd x5 ex5 (fun c9 h9 H locs ls hP hD hS hl => ?_) _ _ _ hP hD hS (lv_sub hl [1, 2, 0] rfl)
  subst h9
  obtain rfl := so_eq hf
  exact g_vret C hP hD hS dX2_putMuds_27
/-! CoachCourt$Road.minutesOfAll -/
def fX2_minutesOfAll_b4 (s_rd : S2) (x1 : Int32) (x2 : Int32) : Option ((Int32 × Int32) ⊕ (Int32 × Int32)) :=
  if (s_rd 0 0) ≤ x2 then
    (some (.inr (x1, x2)))
  else
    ((fX2_minutesOf s_rd x2).bind fun v2 =>
    nm (x1 + v2) fun y3 =>
    nm (x2 + (1 : Int32)) fun y4 =>
    some (.inl (y3, y4)))
def fX2_minutesOfAll (s_rd : S2) : Option (Int32) :=
  (wh (fun (c : Int32 × Int32) => fX2_minutesOfAll_b4 s_rd c.1 c.2) 5000 ((0 : Int32), (0 : Int32))).bind fun x5 =>
  some x5.1
theorem hdX2_minutesOfAll : yX2_minutesOfAll.cls = RX2 ∧ yX2_minutesOfAll.cls ≠ "java/lang/invoke/MethodHandle" ∧ yX2_minutesOfAll.cls ≠ "java/lang/invoke/VarHandle" ∧ (parseMethodDescriptor yX2_minutesOfAll.desc).map (fun d => d.parameters.length) = some 0 := by decide +kernel
theorem iwX2_minutesOfAll_X2 : ∀ w ∈ wsX20, w ∈ wsX2_minutesOfAll := by decide +kernel
theorem lkX2_minutesOfAll_f43 : Cond.fieldLink RX2 43 "CoachCourt$Road" "miles" "I" ∈ wsX2_minutesOfAll := by decide +kernel
set_option maxHeartbeats 4000000 in
set_option maxRecDepth 100000 in
theorem wX2_minutesOfAll_l4 {p : Program} {l : Launch} {e : Env} {s : State} {m : MethodId} {args : Array Value} {below : List Frame} {meth : Method} {c : Code} {D : va_G} {t : Nat → ClassId} {κ : Nat → Nat} {A : Nat → Prop} {a_rd : Nat → Nat} {s_rd : S2} {rv : Option Value} {w1 : va_W} (C : Cxt p s m args meth c cX2_minutesOfAll 3 RX2 wsX2_minutesOfAll (some .int) D t κ A) : ∀ (n : Nat) (x1 : Int32) (x2 : Int32) (x : Int32 × Int32), wh (fun (c : Int32 × Int32) => fX2_minutesOfAll_b4 s_rd c.1 c.2) n (x1, x2) = some x → (∀ (z : Int32 × Int32), x = z → ∀ (H : Heap) (locs : List Loc) (ls : Array Slot), va_P D vwCl (wRoad t a_rd s_rd) H → va_D A (wRoad t a_rd s_rd) → va_S A s.heap H locs → lv_has ls 3 [(1, .int z.1)] → W p l e (rmL 1) s m args below meth c H locs 0 0 (MQ below (gQ D rv w1 A) args s 0 0 A) (F0 m 26 ls [])) → ∀ (H : Heap) (locs : List Loc) (ls : Array Slot), va_P D vwCl (wRoad t a_rd s_rd) H → va_D A (wRoad t a_rd s_rd) → va_S A s.heap H locs → lv_has ls 3 [(0, .ref (a_rd 0)), (1, .int x1), (2, .int x2)] → W p l e (rmL 1) s m args below meth c H locs 0 0 (MQ below (gQ D rv w1 A) args s 0 0 A) (F0 m 4 ls []) := by
  obtain ⟨hx, hb, hr, hml, hown, hts, hC0, hlk, hA⟩ := id C
  have hK := hC0.1
  intro n
  induction n with
  | zero =>
    intro x1 x2 x h
    exact (wh_0 h).elim
  | succ n ih =>
    intro x1 x2 x h HX H locs ls hP hD hS hl
    obtain ⟨v, hf, hB, hX⟩ := wh_step h
    have hf : fX2_minutesOfAll_b4 s_rd x1 x2 = some v := hf
    have HB : ∀ (z : Int32 × Int32), v = .inl z → ∀ (H : Heap) (locs : List Loc) (ls : Array Slot), va_P D vwCl (wRoad t a_rd s_rd) H → va_D A (wRoad t a_rd s_rd) → va_S A s.heap H locs → lv_has ls 3 [(0, .ref (a_rd 0)), (1, .int z.1), (2, .int z.2)] → W p l e (rmL 1) s m args below meth c H locs 0 0 (MQ below (gQ D rv w1 A) args s 0 0 A) (F0 m 4 ls []) := fun z hz H locs ls hP hD hS hl => ih z.1 z.2 x (hB z hz) HX H locs ls hP hD hS hl
    have HX : ∀ (z : Int32 × Int32), v = .inr z → ∀ (H : Heap) (locs : List Loc) (ls : Array Slot), va_P D vwCl (wRoad t a_rd s_rd) H → va_D A (wRoad t a_rd s_rd) → va_S A s.heap H locs → lv_has ls 3 [(1, .int z.1)] → W p l e (rmL 1) s m args below meth c H locs 0 0 (MQ below (gQ D rv w1 A) args s 0 0 A) (F0 m 26 ls []) := fun z hz => HX z (hX _ hz).symm
    unfold fX2_minutesOfAll_b4 at hf
    refine lv_iload_n hx hb dX2_minutesOfAll_4 rfl (lv_at hl 2 rfl) ?_
    refine lv_aload_n hx hb dX2_minutesOfAll_5 rfl (lv_at hl 0 rfl) ?_
    refine va_get (D := D) (ci := 2) (v := .int (s_rd 0 0)) (C := RX2) (T := TX2) (N := 12) hx hb hts iwX2_minutesOfAll_X2 hown hK hP 0 rfl rfl 8 (by decide) (hts _ lkX2_minutesOfAll_f43) (fun _ h9 => h9) rfl dX2_minutesOfAll_6 ?_
    refine lv_icmp_ge (tgt := 26) hx hb dX2_minutesOfAll_9 (by decide) (fun c1 => ?_) (fun c1 => ?_)
    · rw [if_pos c1] at hf
      obtain rfl := so_eq hf
      exact HX _ rfl _ _ _ hP hD hS (lv_sub hl [1] rfl)
    · rw [if_neg c1] at hf
      refine lv_iload_n hx hb dX2_minutesOfAll_12 rfl (lv_at hl 1 rfl) ?_
      refine lv_aload_n hx hb dX2_minutesOfAll_13 rfl (lv_at hl 0 rfl) ?_
      refine lv_iload_n hx hb dX2_minutesOfAll_14 rfl (lv_at hl 2 rfl) ?_
      obtain ⟨v2, ev2, hf⟩ := bd_some hf
      refine gk_V0 C (As := [.int x2]) (rest := [.int x1]) (ci := 2) (q := (RX2, TX2, 12)) (q0 := 0) (cX2_minutesOf_ok (l := l) (D := D) (t := t) (κ := κ) (a_rd := a_rd) ev2) gX2_minutesOfAll_X2_minutesOf rfl ⟨rfl, rfl⟩ hdX2_minutesOf ⟨Nat.le_of_ble_eq_true rfl, Nat.le_of_ble_eq_true rfl⟩ rfl rfl hP hD hS rfl hl.1 (Nat.le_of_ble_eq_true rfl) dX2_minutesOfAll_15 (Nat.zero_le _) (Nat.zero_le _) (fun H locs hP hD hS => ?_)
      refine W.eq (g2 := F0 m 18 ls [.int v2, .int x1]) rfl ?_
      refine lv_iadd hx hb dX2_minutesOfAll_18 ?_
      obtain ⟨y3, hy3, hf⟩ := nm_ex hf
      refine W.eq (g2 := F0 m 19 ls [.int y3]) (by rw [hy3]) ?_
      refine lv_istore_n (lv' := [(1, .int y3), (0, .ref (a_rd 0)), (2, .int x2)]) hx hb dX2_minutesOfAll_19 rfl hl (by decide) rfl (fun ls hl => ?_)
      obtain ⟨y4, hy4, hf⟩ := nm_ex hf
      refine lv_iinc (v := y4) (lv' := [(2, .int y4), (1, .int y3), (0, .ref (a_rd 0))]) hx hb dX2_minutesOfAll_20 hl (k := 2) rfl (by rw [hy4]; rfl) (by decide) rfl (fun ls hl => ?_)
      refine lv_goto (tgt := 4) hx hb dX2_minutesOfAll_23 (by decide) ?_
      obtain rfl := so_eq hf
      exact HB _ rfl _ _ _ hP hD hS (lv_sub hl [2, 1, 0] rfl)
set_option maxHeartbeats 4000000 in
set_option maxRecDepth 100000 in
theorem cX2_minutesOfAll_ok {l : Launch} {D : va_G} {t : Nat → ClassId} {κ : Nat → Nat} {a_rd : Nat → Nat} {s_rd : S2} {out : Int32} (hf : fX2_minutesOfAll s_rd = some out) : Ct l D t κ yX2_minutesOfAll wsX2_minutesOfAll (rmL 1) [.ref (a_rd 0)] (wRoad t a_rd s_rd) (some (.int out)) (wRoad t a_rd s_rd) := by
  refine Ct.ofW (own := RX2) (cc := cX2_minutesOfAll) (maxL := 3) (ret := (some .int)) (by decide) rfl rfl (Nat.le_of_ble_eq_true rfl) ?_
  intro p e s m below meth c A C hP hD ls hl
  have hS : va_S A s.heap s.heap [] := va_S.rf
  obtain ⟨hx, hb, hr, hml, hown, hts, hC0, hlk, hA⟩ := id C
  have hK := hC0.1
  have hl : lv_has ls 3 [(0, .ref (a_rd 0))] := hl
  unfold fX2_minutesOfAll at hf
  refine lv_iconst (v := 0) hx hb dX2_minutesOfAll_0 (by decide) ?_
  refine lv_istore_n (lv' := [(1, .int (0 : Int32)), (0, .ref (a_rd 0))]) hx hb dX2_minutesOfAll_1 rfl hl (by decide) rfl (fun ls hl => ?_)
  refine lv_iconst (v := 0) hx hb dX2_minutesOfAll_2 (by decide) ?_
  refine lv_istore_n (lv' := [(2, .int (0 : Int32)), (1, .int (0 : Int32)), (0, .ref (a_rd 0))]) hx hb dX2_minutesOfAll_3 rfl hl (by decide) rfl (fun ls hl => ?_)
  obtain ⟨x5, ex5, hf⟩ := bd_some hf
  refine wX2_minutesOfAll_l4 C 5000 (0 : Int32) (0 : Int32) x5 ex5 (fun c9 h9 H locs ls hP hD hS hl => ?_) _ _ _ hP hD hS (lv_sub hl [2, 1, 0] rfl)
  subst h9
  refine lv_iload_n hx hb dX2_minutesOfAll_26 rfl (lv_at hl 0 rfl) ?_
  obtain rfl := so_eq hf
  exact g_iret C hP hD hS dX2_minutesOfAll_27
/-! CoachCourt$Road.drivenMiles -/
def fX2_drivenMiles_b4 (s_rd : S2) (x1 : Int32) (x2 : Int32) : Option ((Int32 × Int32) ⊕ (Int32 × Int32)) :=
  if (s_rd 0 0) ≤ x2 then
    (some (.inr (x1, x2)))
  else
    (if (s_rd 0 3) ≤ x1 then
      (some (.inr (x1, x2)))
    else
      ((fX2_minutesOf s_rd x2).bind fun v3 =>
      nm (x1 + v3) fun y4 =>
      nm (x2 + (1 : Int32)) fun y5 =>
      some (.inl (y4, y5))))
def fX2_drivenMiles (s_rd : S2) : Option (Int32) :=
  (wh (fun (c : Int32 × Int32) => fX2_drivenMiles_b4 s_rd c.1 c.2) 5000 ((0 : Int32), (0 : Int32))).bind fun x6 =>
  some x6.2
theorem hdX2_drivenMiles : yX2_drivenMiles.cls = RX2 ∧ yX2_drivenMiles.cls ≠ "java/lang/invoke/MethodHandle" ∧ yX2_drivenMiles.cls ≠ "java/lang/invoke/VarHandle" ∧ (parseMethodDescriptor yX2_drivenMiles.desc).map (fun d => d.parameters.length) = some 0 := by decide +kernel
theorem iwX2_drivenMiles_X2 : ∀ w ∈ wsX20, w ∈ wsX2_drivenMiles := by decide +kernel
theorem lkX2_drivenMiles_f43 : Cond.fieldLink RX2 43 "CoachCourt$Road" "miles" "I" ∈ wsX2_drivenMiles := by decide +kernel
theorem lkX2_drivenMiles_f40 : Cond.fieldLink RX2 40 "CoachCourt$Road" "snowfall" "I" ∈ wsX2_drivenMiles := by decide +kernel
set_option maxHeartbeats 4000000 in
set_option maxRecDepth 100000 in
theorem wX2_drivenMiles_l4 {p : Program} {l : Launch} {e : Env} {s : State} {m : MethodId} {args : Array Value} {below : List Frame} {meth : Method} {c : Code} {D : va_G} {t : Nat → ClassId} {κ : Nat → Nat} {A : Nat → Prop} {a_rd : Nat → Nat} {s_rd : S2} {rv : Option Value} {w1 : va_W} (C : Cxt p s m args meth c cX2_drivenMiles 3 RX2 wsX2_drivenMiles (some .int) D t κ A) : ∀ (n : Nat) (x1 : Int32) (x2 : Int32) (x : Int32 × Int32), wh (fun (c : Int32 × Int32) => fX2_drivenMiles_b4 s_rd c.1 c.2) n (x1, x2) = some x → (∀ (z : Int32 × Int32), x = z → ∀ (H : Heap) (locs : List Loc) (ls : Array Slot), va_P D vwCl (wRoad t a_rd s_rd) H → va_D A (wRoad t a_rd s_rd) → va_S A s.heap H locs → lv_has ls 3 [(2, .int z.2)] → W p l e (rmL 1) s m args below meth c H locs 0 0 (MQ below (gQ D rv w1 A) args s 0 0 A) (F0 m 34 ls [])) → ∀ (H : Heap) (locs : List Loc) (ls : Array Slot), va_P D vwCl (wRoad t a_rd s_rd) H → va_D A (wRoad t a_rd s_rd) → va_S A s.heap H locs → lv_has ls 3 [(0, .ref (a_rd 0)), (1, .int x1), (2, .int x2)] → W p l e (rmL 1) s m args below meth c H locs 0 0 (MQ below (gQ D rv w1 A) args s 0 0 A) (F0 m 4 ls []) := by
  obtain ⟨hx, hb, hr, hml, hown, hts, hC0, hlk, hA⟩ := id C
  have hK := hC0.1
  intro n
  induction n with
  | zero =>
    intro x1 x2 x h
    exact (wh_0 h).elim
  | succ n ih =>
    intro x1 x2 x h HX H locs ls hP hD hS hl
    obtain ⟨v, hf, hB, hX⟩ := wh_step h
    have hf : fX2_drivenMiles_b4 s_rd x1 x2 = some v := hf
    have HB : ∀ (z : Int32 × Int32), v = .inl z → ∀ (H : Heap) (locs : List Loc) (ls : Array Slot), va_P D vwCl (wRoad t a_rd s_rd) H → va_D A (wRoad t a_rd s_rd) → va_S A s.heap H locs → lv_has ls 3 [(0, .ref (a_rd 0)), (1, .int z.1), (2, .int z.2)] → W p l e (rmL 1) s m args below meth c H locs 0 0 (MQ below (gQ D rv w1 A) args s 0 0 A) (F0 m 4 ls []) := fun z hz H locs ls hP hD hS hl => ih z.1 z.2 x (hB z hz) HX H locs ls hP hD hS hl
    have HX : ∀ (z : Int32 × Int32), v = .inr z → ∀ (H : Heap) (locs : List Loc) (ls : Array Slot), va_P D vwCl (wRoad t a_rd s_rd) H → va_D A (wRoad t a_rd s_rd) → va_S A s.heap H locs → lv_has ls 3 [(2, .int z.2)] → W p l e (rmL 1) s m args below meth c H locs 0 0 (MQ below (gQ D rv w1 A) args s 0 0 A) (F0 m 34 ls []) := fun z hz => HX z (hX _ hz).symm
    unfold fX2_drivenMiles_b4 at hf
    refine lv_iload_n hx hb dX2_drivenMiles_4 rfl (lv_at hl 2 rfl) ?_
    refine lv_aload_n hx hb dX2_drivenMiles_5 rfl (lv_at hl 0 rfl) ?_
    refine va_get (D := D) (ci := 2) (v := .int (s_rd 0 0)) (C := RX2) (T := TX2) (N := 12) hx hb hts iwX2_drivenMiles_X2 hown hK hP 0 rfl rfl 8 (by decide) (hts _ lkX2_drivenMiles_f43) (fun _ h9 => h9) rfl dX2_drivenMiles_6 ?_
    refine lv_icmp_ge (tgt := 34) hx hb dX2_drivenMiles_9 (by decide) (fun c1 => ?_) (fun c1 => ?_)
    · rw [if_pos c1] at hf
      obtain rfl := so_eq hf
      exact HX _ rfl _ _ _ hP hD hS (lv_sub hl [2] rfl)
    · rw [if_neg c1] at hf
      refine lv_iload_n hx hb dX2_drivenMiles_12 rfl (lv_at hl 1 rfl) ?_
      refine lv_aload_n hx hb dX2_drivenMiles_13 rfl (lv_at hl 0 rfl) ?_
      refine va_get (D := D) (ci := 2) (v := .int (s_rd 0 3)) (C := RX2) (T := TX2) (N := 12) hx hb hts iwX2_drivenMiles_X2 hown hK hP 0 rfl rfl 11 (by decide) (hts _ lkX2_drivenMiles_f40) (fun _ h9 => h9) rfl dX2_drivenMiles_14 ?_
      refine lv_icmp_ge (tgt := 34) hx hb dX2_drivenMiles_17 (by decide) (fun c2 => ?_) (fun c2 => ?_)
      · rw [if_pos c2] at hf
        obtain rfl := so_eq hf
        exact HX _ rfl _ _ _ hP hD hS (lv_sub hl [2] rfl)
      · rw [if_neg c2] at hf
        refine lv_iload_n hx hb dX2_drivenMiles_20 rfl (lv_at hl 1 rfl) ?_
        refine lv_aload_n hx hb dX2_drivenMiles_21 rfl (lv_at hl 0 rfl) ?_
        refine lv_iload_n hx hb dX2_drivenMiles_22 rfl (lv_at hl 2 rfl) ?_
        obtain ⟨v3, ev3, hf⟩ := bd_some hf
        refine gk_V0 C (As := [.int x2]) (rest := [.int x1]) (ci := 2) (q := (RX2, TX2, 12)) (q0 := 0) (cX2_minutesOf_ok (l := l) (D := D) (t := t) (κ := κ) (a_rd := a_rd) ev3) gX2_drivenMiles_X2_minutesOf rfl ⟨rfl, rfl⟩ hdX2_minutesOf ⟨Nat.le_of_ble_eq_true rfl, Nat.le_of_ble_eq_true rfl⟩ rfl rfl hP hD hS rfl hl.1 (Nat.le_of_ble_eq_true rfl) dX2_drivenMiles_23 (Nat.zero_le _) (Nat.zero_le _) (fun H locs hP hD hS => ?_)
        refine W.eq (g2 := F0 m 26 ls [.int v3, .int x1]) rfl ?_
        refine lv_iadd hx hb dX2_drivenMiles_26 ?_
        obtain ⟨y4, hy4, hf⟩ := nm_ex hf
        refine W.eq (g2 := F0 m 27 ls [.int y4]) (by rw [hy4]) ?_
        refine lv_istore_n (lv' := [(1, .int y4), (0, .ref (a_rd 0)), (2, .int x2)]) hx hb dX2_drivenMiles_27 rfl hl (by decide) rfl (fun ls hl => ?_)
        obtain ⟨y5, hy5, hf⟩ := nm_ex hf
        refine lv_iinc (v := y5) (lv' := [(2, .int y5), (1, .int y4), (0, .ref (a_rd 0))]) hx hb dX2_drivenMiles_28 hl (k := 2) rfl (by rw [hy5]; rfl) (by decide) rfl (fun ls hl => ?_)
        refine lv_goto (tgt := 4) hx hb dX2_drivenMiles_31 (by decide) ?_
        obtain rfl := so_eq hf
        exact HB _ rfl _ _ _ hP hD hS (lv_sub hl [2, 1, 0] rfl)
set_option maxHeartbeats 4000000 in
set_option maxRecDepth 100000 in
theorem cX2_drivenMiles_ok {l : Launch} {D : va_G} {t : Nat → ClassId} {κ : Nat → Nat} {a_rd : Nat → Nat} {s_rd : S2} {out : Int32} (hf : fX2_drivenMiles s_rd = some out) : Ct l D t κ yX2_drivenMiles wsX2_drivenMiles (rmL 1) [.ref (a_rd 0)] (wRoad t a_rd s_rd) (some (.int out)) (wRoad t a_rd s_rd) := by
  refine Ct.ofW (own := RX2) (cc := cX2_drivenMiles) (maxL := 3) (ret := (some .int)) (by decide) rfl rfl (Nat.le_of_ble_eq_true rfl) ?_
  intro p e s m below meth c A C hP hD ls hl
  have hS : va_S A s.heap s.heap [] := va_S.rf
  obtain ⟨hx, hb, hr, hml, hown, hts, hC0, hlk, hA⟩ := id C
  have hK := hC0.1
  have hl : lv_has ls 3 [(0, .ref (a_rd 0))] := hl
  unfold fX2_drivenMiles at hf
  refine lv_iconst (v := 0) hx hb dX2_drivenMiles_0 (by decide) ?_
  refine lv_istore_n (lv' := [(1, .int (0 : Int32)), (0, .ref (a_rd 0))]) hx hb dX2_drivenMiles_1 rfl hl (by decide) rfl (fun ls hl => ?_)
  refine lv_iconst (v := 0) hx hb dX2_drivenMiles_2 (by decide) ?_
  refine lv_istore_n (lv' := [(2, .int (0 : Int32)), (1, .int (0 : Int32)), (0, .ref (a_rd 0))]) hx hb dX2_drivenMiles_3 rfl hl (by decide) rfl (fun ls hl => ?_)
  obtain ⟨x6, ex6, hf⟩ := bd_some hf
  refine wX2_drivenMiles_l4 C 5000 (0 : Int32) (0 : Int32) x6 ex6 (fun c9 h9 H locs ls hP hD hS hl => ?_) _ _ _ hP hD hS (lv_sub hl [2, 1, 0] rfl)
  subst h9
  refine lv_iload_n hx hb dX2_drivenMiles_34 rfl (lv_at hl 0 rfl) ?_
  obtain rfl := so_eq hf
  exact g_iret C hP hD hS dX2_drivenMiles_35
/-! CoachCourt$Road.muddyMiles -/
def fX2_muddyMiles_b4 (s_rd : S2) (x1 : Int32) (x2 : Int32) : Option ((Int32 × Int32) ⊕ (Int32 × Int32)) :=
  if (s_rd 0 0) ≤ x2 then
    (some (.inr (x1, x2)))
  else
    (gd (ixb x2 8) <|
    nm (x1 + (s_rd 3 (Int32.toNatClampNeg x2))) fun y3 =>
    nm (x2 + (1 : Int32)) fun y4 =>
    some (.inl (y3, y4)))
def fX2_muddyMiles (s_rd : S2) : Option (Int32) :=
  (wh (fun (c : Int32 × Int32) => fX2_muddyMiles_b4 s_rd c.1 c.2) 5000 ((0 : Int32), (0 : Int32))).bind fun x5 =>
  some x5.1
theorem hdX2_muddyMiles : yX2_muddyMiles.cls = RX2 ∧ yX2_muddyMiles.cls ≠ "java/lang/invoke/MethodHandle" ∧ yX2_muddyMiles.cls ≠ "java/lang/invoke/VarHandle" ∧ (parseMethodDescriptor yX2_muddyMiles.desc).map (fun d => d.parameters.length) = some 0 := by decide +kernel
theorem iwX2_muddyMiles_X2 : ∀ w ∈ wsX20, w ∈ wsX2_muddyMiles := by decide +kernel
theorem lkX2_muddyMiles_f43 : Cond.fieldLink RX2 43 "CoachCourt$Road" "miles" "I" ∈ wsX2_muddyMiles := by decide +kernel
theorem lkX2_muddyMiles_f18 : Cond.fieldLink RX2 18 "CoachCourt$Road" "mud" "[I" ∈ wsX2_muddyMiles := by decide +kernel
set_option maxHeartbeats 4000000 in
set_option maxRecDepth 100000 in
theorem wX2_muddyMiles_l4 {p : Program} {l : Launch} {e : Env} {s : State} {m : MethodId} {args : Array Value} {below : List Frame} {meth : Method} {c : Code} {D : va_G} {t : Nat → ClassId} {κ : Nat → Nat} {A : Nat → Prop} {a_rd : Nat → Nat} {s_rd : S2} {rv : Option Value} {w1 : va_W} (C : Cxt p s m args meth c cX2_muddyMiles 3 RX2 wsX2_muddyMiles (some .int) D t κ A) : ∀ (n : Nat) (x1 : Int32) (x2 : Int32) (x : Int32 × Int32), wh (fun (c : Int32 × Int32) => fX2_muddyMiles_b4 s_rd c.1 c.2) n (x1, x2) = some x → (∀ (z : Int32 × Int32), x = z → ∀ (H : Heap) (locs : List Loc) (ls : Array Slot), va_P D vwCl (wRoad t a_rd s_rd) H → va_D A (wRoad t a_rd s_rd) → va_S A s.heap H locs → lv_has ls 3 [(1, .int z.1)] → W p l e (rmL 0) s m args below meth c H locs 0 0 (MQ below (gQ D rv w1 A) args s 0 0 A) (F0 m 27 ls [])) → ∀ (H : Heap) (locs : List Loc) (ls : Array Slot), va_P D vwCl (wRoad t a_rd s_rd) H → va_D A (wRoad t a_rd s_rd) → va_S A s.heap H locs → lv_has ls 3 [(0, .ref (a_rd 0)), (1, .int x1), (2, .int x2)] → W p l e (rmL 0) s m args below meth c H locs 0 0 (MQ below (gQ D rv w1 A) args s 0 0 A) (F0 m 4 ls []) := by
  obtain ⟨hx, hb, hr, hml, hown, hts, hC0, hlk, hA⟩ := id C
  have hK := hC0.1
  intro n
  induction n with
  | zero =>
    intro x1 x2 x h
    exact (wh_0 h).elim
  | succ n ih =>
    intro x1 x2 x h HX H locs ls hP hD hS hl
    obtain ⟨v, hf, hB, hX⟩ := wh_step h
    have hf : fX2_muddyMiles_b4 s_rd x1 x2 = some v := hf
    have HB : ∀ (z : Int32 × Int32), v = .inl z → ∀ (H : Heap) (locs : List Loc) (ls : Array Slot), va_P D vwCl (wRoad t a_rd s_rd) H → va_D A (wRoad t a_rd s_rd) → va_S A s.heap H locs → lv_has ls 3 [(0, .ref (a_rd 0)), (1, .int z.1), (2, .int z.2)] → W p l e (rmL 0) s m args below meth c H locs 0 0 (MQ below (gQ D rv w1 A) args s 0 0 A) (F0 m 4 ls []) := fun z hz H locs ls hP hD hS hl => ih z.1 z.2 x (hB z hz) HX H locs ls hP hD hS hl
    have HX : ∀ (z : Int32 × Int32), v = .inr z → ∀ (H : Heap) (locs : List Loc) (ls : Array Slot), va_P D vwCl (wRoad t a_rd s_rd) H → va_D A (wRoad t a_rd s_rd) → va_S A s.heap H locs → lv_has ls 3 [(1, .int z.1)] → W p l e (rmL 0) s m args below meth c H locs 0 0 (MQ below (gQ D rv w1 A) args s 0 0 A) (F0 m 27 ls []) := fun z hz => HX z (hX _ hz).symm
    unfold fX2_muddyMiles_b4 at hf
    refine lv_iload_n hx hb dX2_muddyMiles_4 rfl (lv_at hl 2 rfl) ?_
    refine lv_aload_n hx hb dX2_muddyMiles_5 rfl (lv_at hl 0 rfl) ?_
    refine va_get (D := D) (ci := 2) (v := .int (s_rd 0 0)) (C := RX2) (T := TX2) (N := 12) hx hb hts iwX2_muddyMiles_X2 hown hK hP 0 rfl rfl 8 (by decide) (hts _ lkX2_muddyMiles_f43) (fun _ h9 => h9) rfl dX2_muddyMiles_6 ?_
    refine lv_icmp_ge (tgt := 27) hx hb dX2_muddyMiles_9 (by decide) (fun c1 => ?_) (fun c1 => ?_)
    · rw [if_pos c1] at hf
      obtain rfl := so_eq hf
      exact HX _ rfl _ _ _ hP hD hS (lv_sub hl [1] rfl)
    · rw [if_neg c1] at hf
      refine lv_iload_n hx hb dX2_muddyMiles_12 rfl (lv_at hl 1 rfl) ?_
      refine lv_aload_n hx hb dX2_muddyMiles_13 rfl (lv_at hl 0 rfl) ?_
      refine va_get (D := D) (ci := 2) (v := .ref (a_rd 3)) (C := RX2) (T := TX2) (N := 12) hx hb hts iwX2_muddyMiles_X2 hown hK hP 0 rfl rfl 2 (by decide) (hts _ lkX2_muddyMiles_f18) (fun _ h9 => h9) rfl dX2_muddyMiles_14 ?_
      refine lv_iload_n hx hb dX2_muddyMiles_17 rfl (lv_at hl 2 rfl) ?_
      obtain ⟨b2, hf⟩ := gd_some hf
      refine va_iald hx hb hK hP 3 0 rfl rfl (ixb_in b2) dX2_muddyMiles_18 ?_
      refine lv_iadd hx hb dX2_muddyMiles_19 ?_
      obtain ⟨y3, hy3, hf⟩ := nm_ex hf
      refine W.eq (g2 := F0 m 20 ls [.int y3]) (by rw [hy3]) ?_
      refine lv_istore_n (lv' := [(1, .int y3), (0, .ref (a_rd 0)), (2, .int x2)]) hx hb dX2_muddyMiles_20 rfl hl (by decide) rfl (fun ls hl => ?_)
      obtain ⟨y4, hy4, hf⟩ := nm_ex hf
      refine lv_iinc (v := y4) (lv' := [(2, .int y4), (1, .int y3), (0, .ref (a_rd 0))]) hx hb dX2_muddyMiles_21 hl (k := 2) rfl (by rw [hy4]; rfl) (by decide) rfl (fun ls hl => ?_)
      refine lv_goto (tgt := 4) hx hb dX2_muddyMiles_24 (by decide) ?_
      obtain rfl := so_eq hf
      exact HB _ rfl _ _ _ hP hD hS (lv_sub hl [2, 1, 0] rfl)
set_option maxHeartbeats 4000000 in
set_option maxRecDepth 100000 in
theorem cX2_muddyMiles_ok {l : Launch} {D : va_G} {t : Nat → ClassId} {κ : Nat → Nat} {a_rd : Nat → Nat} {s_rd : S2} {out : Int32} (hf : fX2_muddyMiles s_rd = some out) : Ct l D t κ yX2_muddyMiles wsX2_muddyMiles (rmL 0) [.ref (a_rd 0)] (wRoad t a_rd s_rd) (some (.int out)) (wRoad t a_rd s_rd) := by
  refine Ct.ofW (own := RX2) (cc := cX2_muddyMiles) (maxL := 3) (ret := (some .int)) (by decide) rfl rfl (Nat.le_of_ble_eq_true rfl) ?_
  intro p e s m below meth c A C hP hD ls hl
  have hS : va_S A s.heap s.heap [] := va_S.rf
  obtain ⟨hx, hb, hr, hml, hown, hts, hC0, hlk, hA⟩ := id C
  have hK := hC0.1
  have hl : lv_has ls 3 [(0, .ref (a_rd 0))] := hl
  unfold fX2_muddyMiles at hf
  refine lv_iconst (v := 0) hx hb dX2_muddyMiles_0 (by decide) ?_
  refine lv_istore_n (lv' := [(1, .int (0 : Int32)), (0, .ref (a_rd 0))]) hx hb dX2_muddyMiles_1 rfl hl (by decide) rfl (fun ls hl => ?_)
  refine lv_iconst (v := 0) hx hb dX2_muddyMiles_2 (by decide) ?_
  refine lv_istore_n (lv' := [(2, .int (0 : Int32)), (1, .int (0 : Int32)), (0, .ref (a_rd 0))]) hx hb dX2_muddyMiles_3 rfl hl (by decide) rfl (fun ls hl => ?_)
  obtain ⟨x5, ex5, hf⟩ := bd_some hf
  refine wX2_muddyMiles_l4 C 5000 (0 : Int32) (0 : Int32) x5 ex5 (fun c9 h9 H locs ls hP hD hS hl => ?_) _ _ _ hP hD hS (lv_sub hl [2, 1, 0] rfl)
  subst h9
  refine lv_iload_n hx hb dX2_muddyMiles_27 rfl (lv_at hl 0 rfl) ?_
  obtain rfl := so_eq hf
  exact g_iret C hP hD hS dX2_muddyMiles_28
/-! CoachCourt$Road.windOfAll -/
def fX2_windOfAll_b4 (s_rd : S2) (x1 : Int32) (x2 : Int32) : Option ((Int32 × Int32) ⊕ (Int32 × Int32)) :=
  if (s_rd 0 1) ≤ x2 then
    (some (.inr (x1, x2)))
  else
    (gd (ixb x2 4) <|
    nm (x1 + (s_rd 5 (Int32.toNatClampNeg x2))) fun y3 =>
    nm (x2 + (1 : Int32)) fun y4 =>
    some (.inl (y3, y4)))
def fX2_windOfAll (s_rd : S2) : Option (Int32) :=
  (wh (fun (c : Int32 × Int32) => fX2_windOfAll_b4 s_rd c.1 c.2) 5000 ((0 : Int32), (0 : Int32))).bind fun x5 =>
  some x5.1
theorem hdX2_windOfAll : yX2_windOfAll.cls = RX2 ∧ yX2_windOfAll.cls ≠ "java/lang/invoke/MethodHandle" ∧ yX2_windOfAll.cls ≠ "java/lang/invoke/VarHandle" ∧ (parseMethodDescriptor yX2_windOfAll.desc).map (fun d => d.parameters.length) = some 0 := by decide +kernel
theorem iwX2_windOfAll_X2 : ∀ w ∈ wsX20, w ∈ wsX2_windOfAll := by decide +kernel
theorem lkX2_windOfAll_f46 : Cond.fieldLink RX2 46 "CoachCourt$Road" "parties" "I" ∈ wsX2_windOfAll := by decide +kernel
theorem lkX2_windOfAll_f24 : Cond.fieldLink RX2 24 "CoachCourt$Road" "wind" "[I" ∈ wsX2_windOfAll := by decide +kernel
set_option maxHeartbeats 4000000 in
set_option maxRecDepth 100000 in
theorem wX2_windOfAll_l4 {p : Program} {l : Launch} {e : Env} {s : State} {m : MethodId} {args : Array Value} {below : List Frame} {meth : Method} {c : Code} {D : va_G} {t : Nat → ClassId} {κ : Nat → Nat} {A : Nat → Prop} {a_rd : Nat → Nat} {s_rd : S2} {rv : Option Value} {w1 : va_W} (C : Cxt p s m args meth c cX2_windOfAll 3 RX2 wsX2_windOfAll (some .int) D t κ A) : ∀ (n : Nat) (x1 : Int32) (x2 : Int32) (x : Int32 × Int32), wh (fun (c : Int32 × Int32) => fX2_windOfAll_b4 s_rd c.1 c.2) n (x1, x2) = some x → (∀ (z : Int32 × Int32), x = z → ∀ (H : Heap) (locs : List Loc) (ls : Array Slot), va_P D vwCl (wRoad t a_rd s_rd) H → va_D A (wRoad t a_rd s_rd) → va_S A s.heap H locs → lv_has ls 3 [(1, .int z.1)] → W p l e (rmL 0) s m args below meth c H locs 0 0 (MQ below (gQ D rv w1 A) args s 0 0 A) (F0 m 27 ls [])) → ∀ (H : Heap) (locs : List Loc) (ls : Array Slot), va_P D vwCl (wRoad t a_rd s_rd) H → va_D A (wRoad t a_rd s_rd) → va_S A s.heap H locs → lv_has ls 3 [(0, .ref (a_rd 0)), (1, .int x1), (2, .int x2)] → W p l e (rmL 0) s m args below meth c H locs 0 0 (MQ below (gQ D rv w1 A) args s 0 0 A) (F0 m 4 ls []) := by
  obtain ⟨hx, hb, hr, hml, hown, hts, hC0, hlk, hA⟩ := id C
  have hK := hC0.1
  intro n
  induction n with
  | zero =>
    intro x1 x2 x h
    exact (wh_0 h).elim
  | succ n ih =>
    intro x1 x2 x h HX H locs ls hP hD hS hl
    obtain ⟨v, hf, hB, hX⟩ := wh_step h
    have hf : fX2_windOfAll_b4 s_rd x1 x2 = some v := hf
    have HB : ∀ (z : Int32 × Int32), v = .inl z → ∀ (H : Heap) (locs : List Loc) (ls : Array Slot), va_P D vwCl (wRoad t a_rd s_rd) H → va_D A (wRoad t a_rd s_rd) → va_S A s.heap H locs → lv_has ls 3 [(0, .ref (a_rd 0)), (1, .int z.1), (2, .int z.2)] → W p l e (rmL 0) s m args below meth c H locs 0 0 (MQ below (gQ D rv w1 A) args s 0 0 A) (F0 m 4 ls []) := fun z hz H locs ls hP hD hS hl => ih z.1 z.2 x (hB z hz) HX H locs ls hP hD hS hl
    have HX : ∀ (z : Int32 × Int32), v = .inr z → ∀ (H : Heap) (locs : List Loc) (ls : Array Slot), va_P D vwCl (wRoad t a_rd s_rd) H → va_D A (wRoad t a_rd s_rd) → va_S A s.heap H locs → lv_has ls 3 [(1, .int z.1)] → W p l e (rmL 0) s m args below meth c H locs 0 0 (MQ below (gQ D rv w1 A) args s 0 0 A) (F0 m 27 ls []) := fun z hz => HX z (hX _ hz).symm
    unfold fX2_windOfAll_b4 at hf
    refine lv_iload_n hx hb dX2_windOfAll_4 rfl (lv_at hl 2 rfl) ?_
    refine lv_aload_n hx hb dX2_windOfAll_5 rfl (lv_at hl 0 rfl) ?_
    refine va_get (D := D) (ci := 2) (v := .int (s_rd 0 1)) (C := RX2) (T := TX2) (N := 12) hx hb hts iwX2_windOfAll_X2 hown hK hP 0 rfl rfl 9 (by decide) (hts _ lkX2_windOfAll_f46) (fun _ h9 => h9) rfl dX2_windOfAll_6 ?_
    refine lv_icmp_ge (tgt := 27) hx hb dX2_windOfAll_9 (by decide) (fun c1 => ?_) (fun c1 => ?_)
    · rw [if_pos c1] at hf
      obtain rfl := so_eq hf
      exact HX _ rfl _ _ _ hP hD hS (lv_sub hl [1] rfl)
    · rw [if_neg c1] at hf
      refine lv_iload_n hx hb dX2_windOfAll_12 rfl (lv_at hl 1 rfl) ?_
      refine lv_aload_n hx hb dX2_windOfAll_13 rfl (lv_at hl 0 rfl) ?_
      refine va_get (D := D) (ci := 2) (v := .ref (a_rd 5)) (C := RX2) (T := TX2) (N := 12) hx hb hts iwX2_windOfAll_X2 hown hK hP 0 rfl rfl 4 (by decide) (hts _ lkX2_windOfAll_f24) (fun _ h9 => h9) rfl dX2_windOfAll_14 ?_
      refine lv_iload_n hx hb dX2_windOfAll_17 rfl (lv_at hl 2 rfl) ?_
      obtain ⟨b2, hf⟩ := gd_some hf
      refine va_iald hx hb hK hP 5 0 rfl rfl (ixb_in b2) dX2_windOfAll_18 ?_
      refine lv_iadd hx hb dX2_windOfAll_19 ?_
      obtain ⟨y3, hy3, hf⟩ := nm_ex hf
      refine W.eq (g2 := F0 m 20 ls [.int y3]) (by rw [hy3]) ?_
      refine lv_istore_n (lv' := [(1, .int y3), (0, .ref (a_rd 0)), (2, .int x2)]) hx hb dX2_windOfAll_20 rfl hl (by decide) rfl (fun ls hl => ?_)
      obtain ⟨y4, hy4, hf⟩ := nm_ex hf
      refine lv_iinc (v := y4) (lv' := [(2, .int y4), (1, .int y3), (0, .ref (a_rd 0))]) hx hb dX2_windOfAll_21 hl (k := 2) rfl (by rw [hy4]; rfl) (by decide) rfl (fun ls hl => ?_)
      refine lv_goto (tgt := 4) hx hb dX2_windOfAll_24 (by decide) ?_
      obtain rfl := so_eq hf
      exact HB _ rfl _ _ _ hP hD hS (lv_sub hl [2, 1, 0] rfl)
set_option maxHeartbeats 4000000 in
set_option maxRecDepth 100000 in
theorem cX2_windOfAll_ok {l : Launch} {D : va_G} {t : Nat → ClassId} {κ : Nat → Nat} {a_rd : Nat → Nat} {s_rd : S2} {out : Int32} (hf : fX2_windOfAll s_rd = some out) : Ct l D t κ yX2_windOfAll wsX2_windOfAll (rmL 0) [.ref (a_rd 0)] (wRoad t a_rd s_rd) (some (.int out)) (wRoad t a_rd s_rd) := by
  refine Ct.ofW (own := RX2) (cc := cX2_windOfAll) (maxL := 3) (ret := (some .int)) (by decide) rfl rfl (Nat.le_of_ble_eq_true rfl) ?_
  intro p e s m below meth c A C hP hD ls hl
  have hS : va_S A s.heap s.heap [] := va_S.rf
  obtain ⟨hx, hb, hr, hml, hown, hts, hC0, hlk, hA⟩ := id C
  have hK := hC0.1
  have hl : lv_has ls 3 [(0, .ref (a_rd 0))] := hl
  unfold fX2_windOfAll at hf
  refine lv_iconst (v := 0) hx hb dX2_windOfAll_0 (by decide) ?_
  refine lv_istore_n (lv' := [(1, .int (0 : Int32)), (0, .ref (a_rd 0))]) hx hb dX2_windOfAll_1 rfl hl (by decide) rfl (fun ls hl => ?_)
  refine lv_iconst (v := 0) hx hb dX2_windOfAll_2 (by decide) ?_
  refine lv_istore_n (lv' := [(2, .int (0 : Int32)), (1, .int (0 : Int32)), (0, .ref (a_rd 0))]) hx hb dX2_windOfAll_3 rfl hl (by decide) rfl (fun ls hl => ?_)
  obtain ⟨x5, ex5, hf⟩ := bd_some hf
  refine wX2_windOfAll_l4 C 5000 (0 : Int32) (0 : Int32) x5 ex5 (fun c9 h9 H locs ls hP hD hS hl => ?_) _ _ _ hP hD hS (lv_sub hl [2, 1, 0] rfl)
  subst h9
  refine lv_iload_n hx hb dX2_windOfAll_27 rfl (lv_at hl 0 rfl) ?_
  obtain rfl := so_eq hf
  exact g_iret C hP hD hS dX2_windOfAll_28
/-! CoachCourt$Road.lacksMile -/
def fX2_lacksMile_b2 (s_rd : S2) (x1 : Int32) : Option ((Int32) ⊕ ((Int32) ⊕ (Int32))) :=
  if (8 : Int32) ≤ x1 then
    (some (.inr (.inl x1)))
  else
    (gd (ixb x1 8) <|
    if (s_rd 3 (Int32.toNatClampNeg x1)) = (0 : Int32) then
      (nm (x1 + (1 : Int32)) fun y4 =>
      some (.inl y4))
    else
      ((fX2_hasMile s_rd x1).bind fun v5 =>
      if v5 = (0 : Int32) then
        (some (.inr (.inr (1 : Int32))))
      else
        (nm (x1 + (1 : Int32)) fun y7 =>
        some (.inl y7))))
def fX2_lacksMile_b35 (s_rd : S2) (x1 : Int32) : Option ((Int32) ⊕ ((Int32) ⊕ (Int32))) :=
  if (s_rd 0 1) ≤ x1 then
    (some (.inr (.inl x1)))
  else
    (gd (ixb x1 4) <|
    (fX2_hasMile s_rd (s_rd 8 (Int32.toNatClampNeg x1))).bind fun v12 =>
    if v12 = (0 : Int32) then
      (some (.inr (.inr (1 : Int32))))
    else
      (nm (x1 + (1 : Int32)) fun y14 =>
      some (.inl y14)))
def fX2_lacksMile (s_rd : S2) : Option (Int32) :=
  (wh (fun (c : Int32) => fX2_lacksMile_b2 s_rd c) 5000 (0 : Int32)).bind fun x8 =>
  Sum.elim (fun q9 =>
    (wh (fun (c : Int32) => fX2_lacksMile_b35 s_rd c) 5000 (0 : Int32)).bind fun x15 =>
    Sum.elim (fun q16 =>
      some (0 : Int32)) (fun r17 => some r17) x15) (fun r18 => some r18) x8
theorem hdX2_lacksMile : yX2_lacksMile.cls = RX2 ∧ yX2_lacksMile.cls ≠ "java/lang/invoke/MethodHandle" ∧ yX2_lacksMile.cls ≠ "java/lang/invoke/VarHandle" ∧ (parseMethodDescriptor yX2_lacksMile.desc).map (fun d => d.parameters.length) = some 0 := by decide +kernel
theorem iwX2_lacksMile_X2 : ∀ w ∈ wsX20, w ∈ wsX2_lacksMile := by decide +kernel
theorem lkX2_lacksMile_f18 : Cond.fieldLink RX2 18 "CoachCourt$Road" "mud" "[I" ∈ wsX2_lacksMile := by decide +kernel
theorem lkX2_lacksMile_f46 : Cond.fieldLink RX2 46 "CoachCourt$Road" "parties" "I" ∈ wsX2_lacksMile := by decide +kernel
theorem lkX2_lacksMile_f33 : Cond.fieldLink RX2 33 "CoachCourt$Road" "stone" "[I" ∈ wsX2_lacksMile := by decide +kernel
set_option maxHeartbeats 4000000 in
set_option maxRecDepth 100000 in
theorem wX2_lacksMile_l2 {p : Program} {l : Launch} {e : Env} {s : State} {m : MethodId} {args : Array Value} {below : List Frame} {meth : Method} {c : Code} {D : va_G} {t : Nat → ClassId} {κ : Nat → Nat} {A : Nat → Prop} {a_rd : Nat → Nat} {s_rd : S2} {rv : Option Value} {w1 : va_W} (C : Cxt p s m args meth c cX2_lacksMile 2 RX2 wsX2_lacksMile (some .boolean) D t κ A) : ∀ (n : Nat) (x1 : Int32) (x : (Int32) ⊕ (Int32)), wh (fun (c : Int32) => fX2_lacksMile_b2 s_rd c) n x1 = some x → (∀ (z : Int32), x = .inl z → ∀ (H : Heap) (locs : List Loc) (ls : Array Slot), va_P D vwCl (wRoad t a_rd s_rd) H → va_D A (wRoad t a_rd s_rd) → va_S A s.heap H locs → lv_has ls 2 [(0, .ref (a_rd 0))] → W p l e (rmL 1) s m args below meth c H locs 0 0 (MQ below (gQ D rv w1 A) args s 0 0 A) (F0 m 33 ls [])) → (∀ (r : Int32), x = .inr r → rv = (some (.int r)) ∧ w1 = (wRoad t a_rd s_rd)) → ∀ (H : Heap) (locs : List Loc) (ls : Array Slot), va_P D vwCl (wRoad t a_rd s_rd) H → va_D A (wRoad t a_rd s_rd) → va_S A s.heap H locs → lv_has ls 2 [(0, .ref (a_rd 0)), (1, .int x1)] → W p l e (rmL 1) s m args below meth c H locs 0 0 (MQ below (gQ D rv w1 A) args s 0 0 A) (F0 m 2 ls []) := by
  obtain ⟨hx, hb, hr, hml, hown, hts, hC0, hlk, hA⟩ := id C
  have hK := hC0.1
  intro n
  induction n with
  | zero =>
    intro x1 x h
    exact (wh_0 h).elim
  | succ n ih =>
    intro x1 x h HX HR H locs ls hP hD hS hl
    obtain ⟨v, hf, hB, hX⟩ := wh_step h
    have hf : fX2_lacksMile_b2 s_rd x1 = some v := hf
    have HB : ∀ (z : Int32), v = .inl z → ∀ (H : Heap) (locs : List Loc) (ls : Array Slot), va_P D vwCl (wRoad t a_rd s_rd) H → va_D A (wRoad t a_rd s_rd) → va_S A s.heap H locs → lv_has ls 2 [(0, .ref (a_rd 0)), (1, .int z)] → W p l e (rmL 1) s m args below meth c H locs 0 0 (MQ below (gQ D rv w1 A) args s 0 0 A) (F0 m 2 ls []) := fun z hz H locs ls hP hD hS hl => ih z x (hB z hz) HX HR H locs ls hP hD hS hl
    have HX : ∀ (z : Int32), v = .inr (.inl z) → ∀ (H : Heap) (locs : List Loc) (ls : Array Slot), va_P D vwCl (wRoad t a_rd s_rd) H → va_D A (wRoad t a_rd s_rd) → va_S A s.heap H locs → lv_has ls 2 [(0, .ref (a_rd 0))] → W p l e (rmL 1) s m args below meth c H locs 0 0 (MQ below (gQ D rv w1 A) args s 0 0 A) (F0 m 33 ls []) := fun z hz => HX z (hX _ hz).symm
    have HR : ∀ (r : Int32), v = .inr (.inr r) → rv = (some (.int r)) ∧ w1 = (wRoad t a_rd s_rd) := fun r hz => HR r (hX _ hz).symm
    unfold fX2_lacksMile_b2 at hf
    refine lv_iload_n hx hb dX2_lacksMile_2 rfl (lv_at hl 1 rfl) ?_
    refine lv_bipush (v := 8) hx hb dX2_lacksMile_3 (by decide) ?_
    refine lv_icmp_ge (tgt := 33) hx hb dX2_lacksMile_5 (by decide) (fun c1 => ?_) (fun c1 => ?_)
    · rw [if_pos c1] at hf
      obtain rfl := so_eq hf
      exact HX _ rfl _ _ _ hP hD hS (lv_sub hl [0] rfl)
    · rw [if_neg c1] at hf
      refine lv_aload_n hx hb dX2_lacksMile_8 rfl (lv_at hl 0 rfl) ?_
      refine va_get (D := D) (ci := 2) (v := .ref (a_rd 3)) (C := RX2) (T := TX2) (N := 12) hx hb hts iwX2_lacksMile_X2 hown hK hP 0 rfl rfl 2 (by decide) (hts _ lkX2_lacksMile_f18) (fun _ h9 => h9) rfl dX2_lacksMile_9 ?_
      refine lv_iload_n hx hb dX2_lacksMile_12 rfl (lv_at hl 1 rfl) ?_
      obtain ⟨b2, hf⟩ := gd_some hf
      refine va_iald hx hb hK hP 3 0 rfl rfl (ixb_in b2) dX2_lacksMile_13 ?_
      refine lv_if_eq (tgt := 27) hx hb dX2_lacksMile_14 (by decide) (fun c3 => ?_) (fun c3 => ?_)
      · rw [if_pos c3] at hf
        obtain ⟨y4, hy4, hf⟩ := nm_ex hf
        refine lv_iinc (v := y4) (lv' := [(1, .int y4), (0, .ref (a_rd 0))]) hx hb dX2_lacksMile_27 hl (k := 1) rfl (by rw [hy4]; rfl) (by decide) rfl (fun ls hl => ?_)
        refine lv_goto (tgt := 2) hx hb dX2_lacksMile_30 (by decide) ?_
        obtain rfl := so_eq hf
        exact HB _ rfl _ _ _ hP hD hS (lv_sub hl [1, 0] rfl)
      · rw [if_neg c3] at hf
        refine lv_aload_n hx hb dX2_lacksMile_17 rfl (lv_at hl 0 rfl) ?_
        refine lv_iload_n hx hb dX2_lacksMile_18 rfl (lv_at hl 1 rfl) ?_
        obtain ⟨v5, ev5, hf⟩ := bd_some hf
        refine gk_V0 C (As := [.int x1]) (rest := []) (ci := 2) (q := (RX2, TX2, 12)) (q0 := 0) (cX2_hasMile_ok (l := l) (D := D) (t := t) (κ := κ) (a_rd := a_rd) ev5) gX2_lacksMile_X2_hasMile rfl ⟨rfl, rfl⟩ hdX2_hasMile ⟨Nat.le_of_ble_eq_true rfl, Nat.le_of_ble_eq_true rfl⟩ rfl rfl hP hD hS rfl hl.1 (Nat.le_of_ble_eq_true rfl) dX2_lacksMile_19 (Nat.zero_le _) (Nat.zero_le _) (fun H locs hP hD hS => ?_)
        refine W.eq (g2 := F0 m 22 ls [.int v5]) rfl ?_
        refine lv_if_ne (tgt := 27) hx hb dX2_lacksMile_22 (by decide) (fun c6 => ?_) (fun c6 => ?_)
        · rw [if_neg c6] at hf
          obtain ⟨y7, hy7, hf⟩ := nm_ex hf
          refine lv_iinc (v := y7) (lv' := [(1, .int y7), (0, .ref (a_rd 0))]) hx hb dX2_lacksMile_27 hl (k := 1) rfl (by rw [hy7]; rfl) (by decide) rfl (fun ls hl => ?_)
          refine lv_goto (tgt := 2) hx hb dX2_lacksMile_30 (by decide) ?_
          obtain rfl := so_eq hf
          exact HB _ rfl _ _ _ hP hD hS (lv_sub hl [1, 0] rfl)
        · rw [if_pos c6] at hf
          refine lv_iconst (v := 1) hx hb dX2_lacksMile_25 (by decide) ?_
          obtain rfl := so_eq hf
          obtain ⟨rfl, rfl⟩ := HR _ rfl
          exact g_zret (v := 1) C rfl hP hD hS dX2_lacksMile_26
set_option maxHeartbeats 4000000 in
set_option maxRecDepth 100000 in
theorem wX2_lacksMile_l35 {p : Program} {l : Launch} {e : Env} {s : State} {m : MethodId} {args : Array Value} {below : List Frame} {meth : Method} {c : Code} {D : va_G} {t : Nat → ClassId} {κ : Nat → Nat} {A : Nat → Prop} {a_rd : Nat → Nat} {s_rd : S2} {rv : Option Value} {w1 : va_W} (C : Cxt p s m args meth c cX2_lacksMile 2 RX2 wsX2_lacksMile (some .boolean) D t κ A) : ∀ (n : Nat) (x1 : Int32) (x : (Int32) ⊕ (Int32)), wh (fun (c : Int32) => fX2_lacksMile_b35 s_rd c) n x1 = some x → (∀ (z : Int32), x = .inl z → ∀ (H : Heap) (locs : List Loc) (ls : Array Slot), va_P D vwCl (wRoad t a_rd s_rd) H → va_D A (wRoad t a_rd s_rd) → va_S A s.heap H locs → lv_has ls 2 [] → W p l e (rmL 1) s m args below meth c H locs 0 0 (MQ below (gQ D rv w1 A) args s 0 0 A) (F0 m 64 ls [])) → (∀ (r : Int32), x = .inr r → rv = (some (.int r)) ∧ w1 = (wRoad t a_rd s_rd)) → ∀ (H : Heap) (locs : List Loc) (ls : Array Slot), va_P D vwCl (wRoad t a_rd s_rd) H → va_D A (wRoad t a_rd s_rd) → va_S A s.heap H locs → lv_has ls 2 [(0, .ref (a_rd 0)), (1, .int x1)] → W p l e (rmL 1) s m args below meth c H locs 0 0 (MQ below (gQ D rv w1 A) args s 0 0 A) (F0 m 35 ls []) := by
  obtain ⟨hx, hb, hr, hml, hown, hts, hC0, hlk, hA⟩ := id C
  have hK := hC0.1
  intro n
  induction n with
  | zero =>
    intro x1 x h
    exact (wh_0 h).elim
  | succ n ih =>
    intro x1 x h HX HR H locs ls hP hD hS hl
    obtain ⟨v, hf, hB, hX⟩ := wh_step h
    have hf : fX2_lacksMile_b35 s_rd x1 = some v := hf
    have HB : ∀ (z : Int32), v = .inl z → ∀ (H : Heap) (locs : List Loc) (ls : Array Slot), va_P D vwCl (wRoad t a_rd s_rd) H → va_D A (wRoad t a_rd s_rd) → va_S A s.heap H locs → lv_has ls 2 [(0, .ref (a_rd 0)), (1, .int z)] → W p l e (rmL 1) s m args below meth c H locs 0 0 (MQ below (gQ D rv w1 A) args s 0 0 A) (F0 m 35 ls []) := fun z hz H locs ls hP hD hS hl => ih z x (hB z hz) HX HR H locs ls hP hD hS hl
    have HX : ∀ (z : Int32), v = .inr (.inl z) → ∀ (H : Heap) (locs : List Loc) (ls : Array Slot), va_P D vwCl (wRoad t a_rd s_rd) H → va_D A (wRoad t a_rd s_rd) → va_S A s.heap H locs → lv_has ls 2 [] → W p l e (rmL 1) s m args below meth c H locs 0 0 (MQ below (gQ D rv w1 A) args s 0 0 A) (F0 m 64 ls []) := fun z hz => HX z (hX _ hz).symm
    have HR : ∀ (r : Int32), v = .inr (.inr r) → rv = (some (.int r)) ∧ w1 = (wRoad t a_rd s_rd) := fun r hz => HR r (hX _ hz).symm
    unfold fX2_lacksMile_b35 at hf
    refine lv_iload_n hx hb dX2_lacksMile_35 rfl (lv_at hl 1 rfl) ?_
    refine lv_aload_n hx hb dX2_lacksMile_36 rfl (lv_at hl 0 rfl) ?_
    refine va_get (D := D) (ci := 2) (v := .int (s_rd 0 1)) (C := RX2) (T := TX2) (N := 12) hx hb hts iwX2_lacksMile_X2 hown hK hP 0 rfl rfl 9 (by decide) (hts _ lkX2_lacksMile_f46) (fun _ h9 => h9) rfl dX2_lacksMile_37 ?_
    refine lv_icmp_ge (tgt := 64) hx hb dX2_lacksMile_40 (by decide) (fun c10 => ?_) (fun c10 => ?_)
    · rw [if_pos c10] at hf
      obtain rfl := so_eq hf
      exact HX _ rfl _ _ _ hP hD hS (lv_sub hl [] rfl)
    · rw [if_neg c10] at hf
      refine lv_aload_n hx hb dX2_lacksMile_43 rfl (lv_at hl 0 rfl) ?_
      refine lv_aload_n hx hb dX2_lacksMile_44 rfl (lv_at hl 0 rfl) ?_
      refine va_get (D := D) (ci := 2) (v := .ref (a_rd 8)) (C := RX2) (T := TX2) (N := 12) hx hb hts iwX2_lacksMile_X2 hown hK hP 0 rfl rfl 7 (by decide) (hts _ lkX2_lacksMile_f33) (fun _ h9 => h9) rfl dX2_lacksMile_45 ?_
      refine lv_iload_n hx hb dX2_lacksMile_48 rfl (lv_at hl 1 rfl) ?_
      obtain ⟨b11, hf⟩ := gd_some hf
      refine va_iald hx hb hK hP 8 0 rfl rfl (ixb_in b11) dX2_lacksMile_49 ?_
      obtain ⟨v12, ev12, hf⟩ := bd_some hf
      refine gk_V0 C (As := [.int (s_rd 8 (Int32.toNatClampNeg x1))]) (rest := []) (ci := 2) (q := (RX2, TX2, 12)) (q0 := 0) (cX2_hasMile_ok (l := l) (D := D) (t := t) (κ := κ) (a_rd := a_rd) ev12) gX2_lacksMile_X2_hasMile rfl ⟨rfl, rfl⟩ hdX2_hasMile ⟨Nat.le_of_ble_eq_true rfl, Nat.le_of_ble_eq_true rfl⟩ rfl rfl hP hD hS rfl hl.1 (Nat.le_of_ble_eq_true rfl) dX2_lacksMile_50 (Nat.zero_le _) (Nat.zero_le _) (fun H locs hP hD hS => ?_)
      refine W.eq (g2 := F0 m 53 ls [.int v12]) rfl ?_
      refine lv_if_ne (tgt := 58) hx hb dX2_lacksMile_53 (by decide) (fun c13 => ?_) (fun c13 => ?_)
      · rw [if_neg c13] at hf
        obtain ⟨y14, hy14, hf⟩ := nm_ex hf
        refine lv_iinc (v := y14) (lv' := [(1, .int y14), (0, .ref (a_rd 0))]) hx hb dX2_lacksMile_58 hl (k := 1) rfl (by rw [hy14]; rfl) (by decide) rfl (fun ls hl => ?_)
        refine lv_goto (tgt := 35) hx hb dX2_lacksMile_61 (by decide) ?_
        obtain rfl := so_eq hf
        exact HB _ rfl _ _ _ hP hD hS (lv_sub hl [1, 0] rfl)
      · rw [if_pos c13] at hf
        refine lv_iconst (v := 1) hx hb dX2_lacksMile_56 (by decide) ?_
        obtain rfl := so_eq hf
        obtain ⟨rfl, rfl⟩ := HR _ rfl
        exact g_zret (v := 1) C rfl hP hD hS dX2_lacksMile_57
set_option maxHeartbeats 4000000 in
set_option maxRecDepth 100000 in
theorem cX2_lacksMile_ok {l : Launch} {D : va_G} {t : Nat → ClassId} {κ : Nat → Nat} {a_rd : Nat → Nat} {s_rd : S2} {out : Int32} (hf : fX2_lacksMile s_rd = some out) : Ct l D t κ yX2_lacksMile wsX2_lacksMile (rmL 1) [.ref (a_rd 0)] (wRoad t a_rd s_rd) (some (.int out)) (wRoad t a_rd s_rd) := by
  refine Ct.ofW (own := RX2) (cc := cX2_lacksMile) (maxL := 2) (ret := (some .boolean)) (by decide) rfl rfl (Nat.le_of_ble_eq_true rfl) ?_
  intro p e s m below meth c A C hP hD ls hl
  have hS : va_S A s.heap s.heap [] := va_S.rf
  obtain ⟨hx, hb, hr, hml, hown, hts, hC0, hlk, hA⟩ := id C
  have hK := hC0.1
  have hl : lv_has ls 2 [(0, .ref (a_rd 0))] := hl
  unfold fX2_lacksMile at hf
  refine lv_iconst (v := 0) hx hb dX2_lacksMile_0 (by decide) ?_
  refine lv_istore_n (lv' := [(1, .int (0 : Int32)), (0, .ref (a_rd 0))]) hx hb dX2_lacksMile_1 rfl hl (by decide) rfl (fun ls hl => ?_)
  obtain ⟨x8, ex8, hf⟩ := bd_some hf
  refine wX2_lacksMile_l2 C 5000 (0 : Int32) x8 ex8 (fun q9 h9 H locs ls hP hD hS hl => ?_) (fun r18 h9 => ?_) _ _ _ hP hD hS (lv_sub hl [1, 0] rfl)
  · rw [h9, Sum.elim_inl] at hf
    refine lv_iconst (v := 0) hx hb dX2_lacksMile_33 (by decide) ?_
    refine lv_istore_n (lv' := [(1, .int (0 : Int32)), (0, .ref (a_rd 0))]) hx hb dX2_lacksMile_34 rfl hl (by decide) rfl (fun ls hl => ?_)
    obtain ⟨x15, ex15, hf⟩ := bd_some hf
    refine wX2_lacksMile_l35 C 5000 (0 : Int32) x15 ex15 (fun q16 h9 H locs ls hP hD hS hl => ?_) (fun r17 h9 => ?_) _ _ _ hP hD hS (lv_sub hl [1, 0] rfl)
    · rw [h9, Sum.elim_inl] at hf
      refine lv_iconst (v := 0) hx hb dX2_lacksMile_64 (by decide) ?_
      obtain rfl := so_eq hf
      exact g_zret (v := 0) C rfl hP hD hS dX2_lacksMile_65
    · rw [h9, Sum.elim_inr] at hf
      obtain rfl := so_eq hf
      exact ⟨rfl, rfl⟩
  · rw [h9, Sum.elim_inr] at hf
    obtain rfl := so_eq hf
    exact ⟨rfl, rfl⟩
/-! CoachCourt$Road.wipe -/
def fX2_wipe_b23 (s_rd : S2) (x1 : Int32) : Option ((Int32 × S2) ⊕ (Int32 × S2)) :=
  if (8 : Int32) ≤ x1 then
    (some (.inr (x1, s_rd)))
  else
    (gd (ixb x1 8) <|
    nm (sE s_rd 3 (Int32.toNatClampNeg x1) (0 : Int32)) fun s7 =>
    nm (x1 + (1 : Int32)) fun y8 =>
    some (.inl (y8, s7)))
def fX2_wipe (s_rd : S2) : Option (S2) :=
  nm (sE s_rd 0 0 (0 : Int32)) fun s1 =>
  nm (sE s1 0 1 (0 : Int32)) fun s2 =>
  nm (sE s2 0 2 (4 : Int32)) fun s3 =>
  nm (sE s3 0 3 (99 : Int32)) fun s4 =>
  (wh (fun (c : Int32 × S2) => fX2_wipe_b23 c.2 c.1) 5000 ((0 : Int32), s4)).bind fun x9 =>
  some x9.2
theorem hdX2_wipe : yX2_wipe.cls = RX2 ∧ yX2_wipe.cls ≠ "java/lang/invoke/MethodHandle" ∧ yX2_wipe.cls ≠ "java/lang/invoke/VarHandle" ∧ (parseMethodDescriptor yX2_wipe.desc).map (fun d => d.parameters.length) = some 0 := by decide +kernel
theorem iwX2_wipe_X2 : ∀ w ∈ wsX20, w ∈ wsX2_wipe := by decide +kernel
theorem lkX2_wipe_f43 : Cond.fieldLink RX2 43 "CoachCourt$Road" "miles" "I" ∈ wsX2_wipe := by decide +kernel
theorem lkX2_wipe_f46 : Cond.fieldLink RX2 46 "CoachCourt$Road" "parties" "I" ∈ wsX2_wipe := by decide +kernel
theorem lkX2_wipe_f36 : Cond.fieldLink RX2 36 "CoachCourt$Road" "places" "I" ∈ wsX2_wipe := by decide +kernel
theorem lkX2_wipe_f40 : Cond.fieldLink RX2 40 "CoachCourt$Road" "snowfall" "I" ∈ wsX2_wipe := by decide +kernel
theorem lkX2_wipe_f18 : Cond.fieldLink RX2 18 "CoachCourt$Road" "mud" "[I" ∈ wsX2_wipe := by decide +kernel
set_option maxHeartbeats 4000000 in
set_option maxRecDepth 100000 in
theorem wX2_wipe_l23 {p : Program} {l : Launch} {e : Env} {s : State} {m : MethodId} {args : Array Value} {below : List Frame} {meth : Method} {c : Code} {D : va_G} {t : Nat → ClassId} {κ : Nat → Nat} {A : Nat → Prop} {a_rd : Nat → Nat} {rv : Option Value} {w1 : va_W} (C : Cxt p s m args meth c cX2_wipe 2 RX2 wsX2_wipe none D t κ A) : ∀ (n : Nat) (x1 : Int32) (s_rd : S2) (x : Int32 × S2), wh (fun (c : Int32 × S2) => fX2_wipe_b23 c.2 c.1) n (x1, s_rd) = some x → (∀ (z : Int32 × S2), x = z → ∀ (H : Heap) (locs : List Loc) (ls : Array Slot), va_P D vwCl (wRoad t a_rd z.2) H → va_D A (wRoad t a_rd z.2) → va_S A s.heap H locs → lv_has ls 2 [] → W p l e (rmL 0) s m args below meth c H locs 0 0 (MQ below (gQ D rv w1 A) args s 0 0 A) (F0 m 42 ls [])) → ∀ (H : Heap) (locs : List Loc) (ls : Array Slot), va_P D vwCl (wRoad t a_rd s_rd) H → va_D A (wRoad t a_rd s_rd) → va_S A s.heap H locs → lv_has ls 2 [(0, .ref (a_rd 0)), (1, .int x1)] → W p l e (rmL 0) s m args below meth c H locs 0 0 (MQ below (gQ D rv w1 A) args s 0 0 A) (F0 m 23 ls []) := by
  obtain ⟨hx, hb, hr, hml, hown, hts, hC0, hlk, hA⟩ := id C
  have hK := hC0.1
  intro n
  induction n with
  | zero =>
    intro x1 s_rd x h
    exact (wh_0 h).elim
  | succ n ih =>
    intro x1 s_rd x h HX H locs ls hP hD hS hl
    obtain ⟨v, hf, hB, hX⟩ := wh_step h
    have hf : fX2_wipe_b23 s_rd x1 = some v := hf
    have HB : ∀ (z : Int32 × S2), v = .inl z → ∀ (H : Heap) (locs : List Loc) (ls : Array Slot), va_P D vwCl (wRoad t a_rd z.2) H → va_D A (wRoad t a_rd z.2) → va_S A s.heap H locs → lv_has ls 2 [(0, .ref (a_rd 0)), (1, .int z.1)] → W p l e (rmL 0) s m args below meth c H locs 0 0 (MQ below (gQ D rv w1 A) args s 0 0 A) (F0 m 23 ls []) := fun z hz H locs ls hP hD hS hl => ih z.1 z.2 x (hB z hz) HX H locs ls hP hD hS hl
    have HX : ∀ (z : Int32 × S2), v = .inr z → ∀ (H : Heap) (locs : List Loc) (ls : Array Slot), va_P D vwCl (wRoad t a_rd z.2) H → va_D A (wRoad t a_rd z.2) → va_S A s.heap H locs → lv_has ls 2 [] → W p l e (rmL 0) s m args below meth c H locs 0 0 (MQ below (gQ D rv w1 A) args s 0 0 A) (F0 m 42 ls []) := fun z hz => HX z (hX _ hz).symm
    unfold fX2_wipe_b23 at hf
    refine lv_iload_n hx hb dX2_wipe_23 rfl (lv_at hl 1 rfl) ?_
    refine lv_bipush (v := 8) hx hb dX2_wipe_24 (by decide) ?_
    refine lv_icmp_ge (tgt := 42) hx hb dX2_wipe_26 (by decide) (fun c5 => ?_) (fun c5 => ?_)
    · rw [if_pos c5] at hf
      obtain rfl := so_eq hf
      exact HX _ rfl _ _ _ hP hD hS (lv_sub hl [] rfl)
    · rw [if_neg c5] at hf
      refine lv_aload_n hx hb dX2_wipe_29 rfl (lv_at hl 0 rfl) ?_
      refine va_get (D := D) (ci := 2) (v := .ref (a_rd 3)) (C := RX2) (T := TX2) (N := 12) hx hb hts iwX2_wipe_X2 hown hK hP 0 rfl rfl 2 (by decide) (hts _ lkX2_wipe_f18) (fun _ h9 => h9) rfl dX2_wipe_30 ?_
      refine lv_iload_n hx hb dX2_wipe_33 rfl (lv_at hl 1 rfl) ?_
      refine lv_iconst (v := 0) hx hb dX2_wipe_34 (by decide) ?_
      obtain ⟨b6, hf⟩ := gd_some hf
      obtain ⟨s7, hs7, hf⟩ := nm_ex hf
      refine va_iast hx hb hK hP hD hS 3 0 rfl rfl (ixb_in b6) dX2_wipe_35 (fun H locs hP hD hS => ?_)
      have hP : va_P D vwCl (wRoad t a_rd s7) H := by rw [hs7]; exact hP
      have hD : va_D A (wRoad t a_rd s7) := by rw [hs7]; exact hD
      obtain ⟨y8, hy8, hf⟩ := nm_ex hf
      refine lv_iinc (v := y8) (lv' := [(1, .int y8), (0, .ref (a_rd 0))]) hx hb dX2_wipe_36 hl (k := 1) rfl (by rw [hy8]; rfl) (by decide) rfl (fun ls hl => ?_)
      refine lv_goto (tgt := 23) hx hb dX2_wipe_39 (by decide) ?_
      obtain rfl := so_eq hf
      exact HB _ rfl _ _ _ hP hD hS (lv_sub hl [1, 0] rfl)
set_option maxHeartbeats 4000000 in
set_option maxRecDepth 100000 in
theorem cX2_wipe_ok {l : Launch} {D : va_G} {t : Nat → ClassId} {κ : Nat → Nat} {a_rd : Nat → Nat} {s_rd : S2} {out : S2} (hf : fX2_wipe s_rd = some out) : Ct l D t κ yX2_wipe wsX2_wipe (rmL 0) [.ref (a_rd 0)] (wRoad t a_rd s_rd) none (wRoad t a_rd out) := by
  refine Ct.ofW (own := RX2) (cc := cX2_wipe) (maxL := 2) (ret := none) (by decide) rfl rfl (Nat.le_of_ble_eq_true rfl) ?_
  intro p e s m below meth c A C hP hD ls hl
  have hS : va_S A s.heap s.heap [] := va_S.rf
  obtain ⟨hx, hb, hr, hml, hown, hts, hC0, hlk, hA⟩ := id C
  have hK := hC0.1
  have hl : lv_has ls 2 [(0, .ref (a_rd 0))] := hl
  unfold fX2_wipe at hf
  refine lv_aload_n hx hb dX2_wipe_0 rfl (lv_at hl 0 rfl) ?_
  refine lv_iconst (v := 0) hx hb dX2_wipe_1 (by decide) ?_
  obtain ⟨s1, hs1, hf⟩ := nm_ex hf
  refine va_put (D := D) (ci := 2) (v := .int (0 : Int32)) (ty := .int) (C := RX2) (T := TX2) (N := 12) hx hb hts iwX2_wipe_X2 tyX2 tyX2_ok nmX2 hown hK hP hD hS 0 rfl rfl 8 (by decide) (hts _ lkX2_wipe_f43) (fun _ h9 => h9) rfl (by decide +kernel) rfl rfl (Nat.le_of_ble_eq_true rfl) dX2_wipe_2 (fun H locs hP hD hS => ?_)
  have hP : va_P D vwCl (wRoad t a_rd s1) H := by rw [hs1]; exact hP
  have hD : va_D A (wRoad t a_rd s1) := by rw [hs1]; exact hD
  refine lv_aload_n hx hb dX2_wipe_5 rfl (lv_at hl 0 rfl) ?_
  refine lv_iconst (v := 0) hx hb dX2_wipe_6 (by decide) ?_
  obtain ⟨s2, hs2, hf⟩ := nm_ex hf
  refine va_put (D := D) (ci := 2) (v := .int (0 : Int32)) (ty := .int) (C := RX2) (T := TX2) (N := 12) hx hb hts iwX2_wipe_X2 tyX2 tyX2_ok nmX2 hown hK hP hD hS 0 rfl rfl 9 (by decide) (hts _ lkX2_wipe_f46) (fun _ h9 => h9) rfl (by decide +kernel) rfl rfl (Nat.le_of_ble_eq_true rfl) dX2_wipe_7 (fun H locs hP hD hS => ?_)
  have hP : va_P D vwCl (wRoad t a_rd s2) H := by rw [hs2]; exact hP
  have hD : va_D A (wRoad t a_rd s2) := by rw [hs2]; exact hD
  refine lv_aload_n hx hb dX2_wipe_10 rfl (lv_at hl 0 rfl) ?_
  refine lv_iconst (v := 4) hx hb dX2_wipe_11 (by decide) ?_
  obtain ⟨s3, hs3, hf⟩ := nm_ex hf
  refine va_put (D := D) (ci := 2) (v := .int (4 : Int32)) (ty := .int) (C := RX2) (T := TX2) (N := 12) hx hb hts iwX2_wipe_X2 tyX2 tyX2_ok nmX2 hown hK hP hD hS 0 rfl rfl 10 (by decide) (hts _ lkX2_wipe_f36) (fun _ h9 => h9) rfl (by decide +kernel) rfl rfl (Nat.le_of_ble_eq_true rfl) dX2_wipe_12 (fun H locs hP hD hS => ?_)
  have hP : va_P D vwCl (wRoad t a_rd s3) H := by rw [hs3]; exact hP
  have hD : va_D A (wRoad t a_rd s3) := by rw [hs3]; exact hD
  refine lv_aload_n hx hb dX2_wipe_15 rfl (lv_at hl 0 rfl) ?_
  refine lv_bipush (v := 99) hx hb dX2_wipe_16 (by decide) ?_
  obtain ⟨s4, hs4, hf⟩ := nm_ex hf
  refine va_put (D := D) (ci := 2) (v := .int (99 : Int32)) (ty := .int) (C := RX2) (T := TX2) (N := 12) hx hb hts iwX2_wipe_X2 tyX2 tyX2_ok nmX2 hown hK hP hD hS 0 rfl rfl 11 (by decide) (hts _ lkX2_wipe_f40) (fun _ h9 => h9) rfl (by decide +kernel) rfl rfl (Nat.le_of_ble_eq_true rfl) dX2_wipe_18 (fun H locs hP hD hS => ?_)
  have hP : va_P D vwCl (wRoad t a_rd s4) H := by rw [hs4]; exact hP
  have hD : va_D A (wRoad t a_rd s4) := by rw [hs4]; exact hD
  refine lv_iconst (v := 0) hx hb dX2_wipe_21 (by decide) ?_
  refine lv_istore_n (lv' := [(1, .int (0 : Int32)), (0, .ref (a_rd 0))]) hx hb dX2_wipe_22 rfl hl (by decide) rfl (fun ls hl => ?_)
  obtain ⟨x9, ex9, hf⟩ := bd_some hf
  refine wX2_wipe_l23 C 5000 (0 : Int32) s4 x9 ex9 (fun c9 h9 H locs ls hP hD hS hl => ?_) _ _ _ hP hD hS (lv_sub hl [1, 0] rfl)
  subst h9
  obtain rfl := so_eq hf
  exact g_vret C hP hD hS dX2_wipe_42
/-! CoachCourt$Road.copyFrom -/
def fX2_copyFrom (s_rd : S2) (s_ro : S2) : Option (S2) :=
  nm (sR s_rd 1 (va_cpy (s_ro 1) (s_rd 1) 0 0 8)) fun s1 =>
  nm (sR s1 2 (va_cpy (s_ro 2) (s1 2) 0 0 8)) fun s2 =>
  nm (sR s2 3 (va_cpy (s_ro 3) (s2 3) 0 0 8)) fun s3 =>
  nm (sR s3 4 (va_cpy (s_ro 4) (s3 4) 0 0 4)) fun s4 =>
  nm (sR s4 5 (va_cpy (s_ro 5) (s4 5) 0 0 4)) fun s5 =>
  nm (sR s5 6 (va_cpy (s_ro 6) (s5 6) 0 0 4)) fun s6 =>
  nm (sR s6 7 (va_cpy (s_ro 7) (s6 7) 0 0 4)) fun s7 =>
  nm (sR s7 8 (va_cpy (s_ro 8) (s7 8) 0 0 4)) fun s8 =>
  nm (sE s8 0 0 (s_ro 0 0)) fun s9 =>
  nm (sE s9 0 1 (s_ro 0 1)) fun s10 =>
  nm (sE s10 0 2 (s_ro 0 2)) fun s11 =>
  nm (sE s11 0 3 (s_ro 0 3)) fun s12 =>
  some s12
theorem hdX2_copyFrom : yX2_copyFrom.cls = RX2 ∧ yX2_copyFrom.cls ≠ "java/lang/invoke/MethodHandle" ∧ yX2_copyFrom.cls ≠ "java/lang/invoke/VarHandle" ∧ (parseMethodDescriptor yX2_copyFrom.desc).map (fun d => d.parameters.length) = some 1 := by decide +kernel
theorem iwX2_copyFrom_X2 : ∀ w ∈ wsX20, w ∈ wsX2_copyFrom := by decide +kernel
theorem lkX2_copyFrom_f9 : Cond.fieldLink RX2 9 "CoachCourt$Road" "land" "[I" ∈ wsX2_copyFrom := by decide +kernel
theorem lkX2_copyFrom_mac49 : Cond.methodLink RX2 49 arraycopyName ∈ wsX2_copyFrom := by decide +kernel
theorem lkX2_copyFrom_nac : Cond.native arraycopyName ∈ wsX2_copyFrom := by decide +kernel
theorem lkX2_copyFrom_sac : Cond.static arraycopyName ∈ wsX2_copyFrom := by decide +kernel
theorem lkX2_copyFrom_iac : Cond.initialized "java/lang/System" ∈ wsX2_copyFrom := by decide +kernel
theorem lkX2_copyFrom_f15 : Cond.fieldLink RX2 15 "CoachCourt$Road" "hill" "[I" ∈ wsX2_copyFrom := by decide +kernel
theorem lkX2_copyFrom_f18 : Cond.fieldLink RX2 18 "CoachCourt$Road" "mud" "[I" ∈ wsX2_copyFrom := by decide +kernel
theorem lkX2_copyFrom_f21 : Cond.fieldLink RX2 21 "CoachCourt$Road" "kind" "[I" ∈ wsX2_copyFrom := by decide +kernel
theorem lkX2_copyFrom_f24 : Cond.fieldLink RX2 24 "CoachCourt$Road" "wind" "[I" ∈ wsX2_copyFrom := by decide +kernel
theorem lkX2_copyFrom_f27 : Cond.fieldLink RX2 27 "CoachCourt$Road" "need" "[I" ∈ wsX2_copyFrom := by decide +kernel
theorem lkX2_copyFrom_f30 : Cond.fieldLink RX2 30 "CoachCourt$Road" "law" "[I" ∈ wsX2_copyFrom := by decide +kernel
theorem lkX2_copyFrom_f33 : Cond.fieldLink RX2 33 "CoachCourt$Road" "stone" "[I" ∈ wsX2_copyFrom := by decide +kernel
theorem lkX2_copyFrom_f43 : Cond.fieldLink RX2 43 "CoachCourt$Road" "miles" "I" ∈ wsX2_copyFrom := by decide +kernel
theorem lkX2_copyFrom_f46 : Cond.fieldLink RX2 46 "CoachCourt$Road" "parties" "I" ∈ wsX2_copyFrom := by decide +kernel
theorem lkX2_copyFrom_f36 : Cond.fieldLink RX2 36 "CoachCourt$Road" "places" "I" ∈ wsX2_copyFrom := by decide +kernel
theorem lkX2_copyFrom_f40 : Cond.fieldLink RX2 40 "CoachCourt$Road" "snowfall" "I" ∈ wsX2_copyFrom := by decide +kernel
set_option maxHeartbeats 4000000 in
set_option maxRecDepth 100000 in
theorem cX2_copyFrom_ok {l : Launch} {D : va_G} {t : Nat → ClassId} {κ : Nat → Nat} {a_rd : Nat → Nat} {a_ro : Nat → Nat} {s_rd : S2} {s_ro : S2} {out : S2} (hf : fX2_copyFrom s_rd s_ro = some out) : Ct l D t κ yX2_copyFrom wsX2_copyFrom (rmL 0) [.ref (a_rd 0), .ref (a_ro 0)] ((wRoad t a_rd s_rd) ++ (wRoad t a_ro s_ro)) none ((wRoad t a_rd out) ++ (wRoad t a_ro s_ro)) := by
  refine Ct.ofW (own := RX2) (cc := cX2_copyFrom) (maxL := 2) (ret := none) (by decide) rfl rfl (Nat.le_of_ble_eq_true rfl) ?_
  intro p e s m below meth c A C hP hD ls hl
  have hS : va_S A s.heap s.heap [] := va_S.rf
  obtain ⟨hx, hb, hr, hml, hown, hts, hC0, hlk, hA⟩ := id C
  have hK := hC0.1
  have hl : lv_has ls 2 [(0, .ref (a_rd 0)), (1, .ref (a_ro 0))] := hl
  unfold fX2_copyFrom at hf
  refine lv_aload_n hx hb dX2_copyFrom_0 rfl (lv_at hl 1 rfl) ?_
  refine va_get (D := D) (ci := 2) (v := .ref (a_ro 1)) (C := RX2) (T := TX2) (N := 12) hx hb hts iwX2_copyFrom_X2 hown hK hP 9 rfl rfl 0 (by decide) (hts _ lkX2_copyFrom_f9) (fun _ h9 => h9) rfl dX2_copyFrom_1 ?_
  refine lv_iconst (v := 0) hx hb dX2_copyFrom_4 (by decide) ?_
  refine lv_aload_n hx hb dX2_copyFrom_5 rfl (lv_at hl 0 rfl) ?_
  refine va_get (D := D) (ci := 2) (v := .ref (a_rd 1)) (C := RX2) (T := TX2) (N := 12) hx hb hts iwX2_copyFrom_X2 hown hK hP 0 rfl rfl 0 (by decide) (hts _ lkX2_copyFrom_f9) (fun _ h9 => h9) rfl dX2_copyFrom_6 ?_
  refine lv_iconst (v := 0) hx hb dX2_copyFrom_9 (by decide) ?_
  refine lv_bipush (v := 8) hx hb dX2_copyFrom_10 (by decide) ?_
  obtain ⟨s1, hs1, hf⟩ := nm_ex hf
  refine va_copyi hx hb (hml.trans hl.1.symm) hown (hts _ lkX2_copyFrom_mac49) (hts _ lkX2_copyFrom_nac) (hts _ lkX2_copyFrom_sac) (hts _ lkX2_copyFrom_iac) hK hP hD hS 10 1 0 0 rfl rfl rfl rfl rfl (by decide) (by decide) (by decide) (by decide) (by decide) (fun _ _ => rfl) (Nat.le_of_ble_eq_true rfl) (Nat.le_of_ble_eq_true rfl) dX2_copyFrom_12 (fun H locs hP hD hS => ?_)
  have hP : va_P D vwCl ((wRoad t a_rd s1) ++ (wRoad t a_ro s_ro)) H := by rw [hs1]; exact hP
  have hD : va_D A ((wRoad t a_rd s1) ++ (wRoad t a_ro s_ro)) := by rw [hs1]; exact hD
  refine lv_aload_n hx hb dX2_copyFrom_15 rfl (lv_at hl 1 rfl) ?_
  refine va_get (D := D) (ci := 2) (v := .ref (a_ro 2)) (C := RX2) (T := TX2) (N := 12) hx hb hts iwX2_copyFrom_X2 hown hK hP 9 rfl rfl 1 (by decide) (hts _ lkX2_copyFrom_f15) (fun _ h9 => h9) rfl dX2_copyFrom_16 ?_
  refine lv_iconst (v := 0) hx hb dX2_copyFrom_19 (by decide) ?_
  refine lv_aload_n hx hb dX2_copyFrom_20 rfl (lv_at hl 0 rfl) ?_
  refine va_get (D := D) (ci := 2) (v := .ref (a_rd 2)) (C := RX2) (T := TX2) (N := 12) hx hb hts iwX2_copyFrom_X2 hown hK hP 0 rfl rfl 1 (by decide) (hts _ lkX2_copyFrom_f15) (fun _ h9 => h9) rfl dX2_copyFrom_21 ?_
  refine lv_iconst (v := 0) hx hb dX2_copyFrom_24 (by decide) ?_
  refine lv_bipush (v := 8) hx hb dX2_copyFrom_25 (by decide) ?_
  obtain ⟨s2, hs2, hf⟩ := nm_ex hf
  refine va_copyi hx hb (hml.trans hl.1.symm) hown (hts _ lkX2_copyFrom_mac49) (hts _ lkX2_copyFrom_nac) (hts _ lkX2_copyFrom_sac) (hts _ lkX2_copyFrom_iac) hK hP hD hS 11 2 0 0 rfl rfl rfl rfl rfl (by decide) (by decide) (by decide) (by decide) (by decide) (fun _ _ => rfl) (Nat.le_of_ble_eq_true rfl) (Nat.le_of_ble_eq_true rfl) dX2_copyFrom_27 (fun H locs hP hD hS => ?_)
  have hP : va_P D vwCl ((wRoad t a_rd s2) ++ (wRoad t a_ro s_ro)) H := by rw [hs2]; exact hP
  have hD : va_D A ((wRoad t a_rd s2) ++ (wRoad t a_ro s_ro)) := by rw [hs2]; exact hD
  refine lv_aload_n hx hb dX2_copyFrom_30 rfl (lv_at hl 1 rfl) ?_
  refine va_get (D := D) (ci := 2) (v := .ref (a_ro 3)) (C := RX2) (T := TX2) (N := 12) hx hb hts iwX2_copyFrom_X2 hown hK hP 9 rfl rfl 2 (by decide) (hts _ lkX2_copyFrom_f18) (fun _ h9 => h9) rfl dX2_copyFrom_31 ?_
  refine lv_iconst (v := 0) hx hb dX2_copyFrom_34 (by decide) ?_
  refine lv_aload_n hx hb dX2_copyFrom_35 rfl (lv_at hl 0 rfl) ?_
  refine va_get (D := D) (ci := 2) (v := .ref (a_rd 3)) (C := RX2) (T := TX2) (N := 12) hx hb hts iwX2_copyFrom_X2 hown hK hP 0 rfl rfl 2 (by decide) (hts _ lkX2_copyFrom_f18) (fun _ h9 => h9) rfl dX2_copyFrom_36 ?_
  refine lv_iconst (v := 0) hx hb dX2_copyFrom_39 (by decide) ?_
  refine lv_bipush (v := 8) hx hb dX2_copyFrom_40 (by decide) ?_
  obtain ⟨s3, hs3, hf⟩ := nm_ex hf
  refine va_copyi hx hb (hml.trans hl.1.symm) hown (hts _ lkX2_copyFrom_mac49) (hts _ lkX2_copyFrom_nac) (hts _ lkX2_copyFrom_sac) (hts _ lkX2_copyFrom_iac) hK hP hD hS 12 3 0 0 rfl rfl rfl rfl rfl (by decide) (by decide) (by decide) (by decide) (by decide) (fun _ _ => rfl) (Nat.le_of_ble_eq_true rfl) (Nat.le_of_ble_eq_true rfl) dX2_copyFrom_42 (fun H locs hP hD hS => ?_)
  have hP : va_P D vwCl ((wRoad t a_rd s3) ++ (wRoad t a_ro s_ro)) H := by rw [hs3]; exact hP
  have hD : va_D A ((wRoad t a_rd s3) ++ (wRoad t a_ro s_ro)) := by rw [hs3]; exact hD
  refine lv_aload_n hx hb dX2_copyFrom_45 rfl (lv_at hl 1 rfl) ?_
  refine va_get (D := D) (ci := 2) (v := .ref (a_ro 4)) (C := RX2) (T := TX2) (N := 12) hx hb hts iwX2_copyFrom_X2 hown hK hP 9 rfl rfl 3 (by decide) (hts _ lkX2_copyFrom_f21) (fun _ h9 => h9) rfl dX2_copyFrom_46 ?_
  refine lv_iconst (v := 0) hx hb dX2_copyFrom_49 (by decide) ?_
  refine lv_aload_n hx hb dX2_copyFrom_50 rfl (lv_at hl 0 rfl) ?_
  refine va_get (D := D) (ci := 2) (v := .ref (a_rd 4)) (C := RX2) (T := TX2) (N := 12) hx hb hts iwX2_copyFrom_X2 hown hK hP 0 rfl rfl 3 (by decide) (hts _ lkX2_copyFrom_f21) (fun _ h9 => h9) rfl dX2_copyFrom_51 ?_
  refine lv_iconst (v := 0) hx hb dX2_copyFrom_54 (by decide) ?_
  refine lv_iconst (v := 4) hx hb dX2_copyFrom_55 (by decide) ?_
  obtain ⟨s4, hs4, hf⟩ := nm_ex hf
  refine va_copyi hx hb (hml.trans hl.1.symm) hown (hts _ lkX2_copyFrom_mac49) (hts _ lkX2_copyFrom_nac) (hts _ lkX2_copyFrom_sac) (hts _ lkX2_copyFrom_iac) hK hP hD hS 13 4 0 0 rfl rfl rfl rfl rfl (by decide) (by decide) (by decide) (by decide) (by decide) (fun _ _ => rfl) (Nat.le_of_ble_eq_true rfl) (Nat.le_of_ble_eq_true rfl) dX2_copyFrom_56 (fun H locs hP hD hS => ?_)
  have hP : va_P D vwCl ((wRoad t a_rd s4) ++ (wRoad t a_ro s_ro)) H := by rw [hs4]; exact hP
  have hD : va_D A ((wRoad t a_rd s4) ++ (wRoad t a_ro s_ro)) := by rw [hs4]; exact hD
  refine lv_aload_n hx hb dX2_copyFrom_59 rfl (lv_at hl 1 rfl) ?_
  refine va_get (D := D) (ci := 2) (v := .ref (a_ro 5)) (C := RX2) (T := TX2) (N := 12) hx hb hts iwX2_copyFrom_X2 hown hK hP 9 rfl rfl 4 (by decide) (hts _ lkX2_copyFrom_f24) (fun _ h9 => h9) rfl dX2_copyFrom_60 ?_
  refine lv_iconst (v := 0) hx hb dX2_copyFrom_63 (by decide) ?_
  refine lv_aload_n hx hb dX2_copyFrom_64 rfl (lv_at hl 0 rfl) ?_
  refine va_get (D := D) (ci := 2) (v := .ref (a_rd 5)) (C := RX2) (T := TX2) (N := 12) hx hb hts iwX2_copyFrom_X2 hown hK hP 0 rfl rfl 4 (by decide) (hts _ lkX2_copyFrom_f24) (fun _ h9 => h9) rfl dX2_copyFrom_65 ?_
  refine lv_iconst (v := 0) hx hb dX2_copyFrom_68 (by decide) ?_
  refine lv_iconst (v := 4) hx hb dX2_copyFrom_69 (by decide) ?_
  obtain ⟨s5, hs5, hf⟩ := nm_ex hf
  refine va_copyi hx hb (hml.trans hl.1.symm) hown (hts _ lkX2_copyFrom_mac49) (hts _ lkX2_copyFrom_nac) (hts _ lkX2_copyFrom_sac) (hts _ lkX2_copyFrom_iac) hK hP hD hS 14 5 0 0 rfl rfl rfl rfl rfl (by decide) (by decide) (by decide) (by decide) (by decide) (fun _ _ => rfl) (Nat.le_of_ble_eq_true rfl) (Nat.le_of_ble_eq_true rfl) dX2_copyFrom_70 (fun H locs hP hD hS => ?_)
  have hP : va_P D vwCl ((wRoad t a_rd s5) ++ (wRoad t a_ro s_ro)) H := by rw [hs5]; exact hP
  have hD : va_D A ((wRoad t a_rd s5) ++ (wRoad t a_ro s_ro)) := by rw [hs5]; exact hD
  refine lv_aload_n hx hb dX2_copyFrom_73 rfl (lv_at hl 1 rfl) ?_
  refine va_get (D := D) (ci := 2) (v := .ref (a_ro 6)) (C := RX2) (T := TX2) (N := 12) hx hb hts iwX2_copyFrom_X2 hown hK hP 9 rfl rfl 5 (by decide) (hts _ lkX2_copyFrom_f27) (fun _ h9 => h9) rfl dX2_copyFrom_74 ?_
  refine lv_iconst (v := 0) hx hb dX2_copyFrom_77 (by decide) ?_
  refine lv_aload_n hx hb dX2_copyFrom_78 rfl (lv_at hl 0 rfl) ?_
  refine va_get (D := D) (ci := 2) (v := .ref (a_rd 6)) (C := RX2) (T := TX2) (N := 12) hx hb hts iwX2_copyFrom_X2 hown hK hP 0 rfl rfl 5 (by decide) (hts _ lkX2_copyFrom_f27) (fun _ h9 => h9) rfl dX2_copyFrom_79 ?_
  refine lv_iconst (v := 0) hx hb dX2_copyFrom_82 (by decide) ?_
  refine lv_iconst (v := 4) hx hb dX2_copyFrom_83 (by decide) ?_
  obtain ⟨s6, hs6, hf⟩ := nm_ex hf
  refine va_copyi hx hb (hml.trans hl.1.symm) hown (hts _ lkX2_copyFrom_mac49) (hts _ lkX2_copyFrom_nac) (hts _ lkX2_copyFrom_sac) (hts _ lkX2_copyFrom_iac) hK hP hD hS 15 6 0 0 rfl rfl rfl rfl rfl (by decide) (by decide) (by decide) (by decide) (by decide) (fun _ _ => rfl) (Nat.le_of_ble_eq_true rfl) (Nat.le_of_ble_eq_true rfl) dX2_copyFrom_84 (fun H locs hP hD hS => ?_)
  have hP : va_P D vwCl ((wRoad t a_rd s6) ++ (wRoad t a_ro s_ro)) H := by rw [hs6]; exact hP
  have hD : va_D A ((wRoad t a_rd s6) ++ (wRoad t a_ro s_ro)) := by rw [hs6]; exact hD
  refine lv_aload_n hx hb dX2_copyFrom_87 rfl (lv_at hl 1 rfl) ?_
  refine va_get (D := D) (ci := 2) (v := .ref (a_ro 7)) (C := RX2) (T := TX2) (N := 12) hx hb hts iwX2_copyFrom_X2 hown hK hP 9 rfl rfl 6 (by decide) (hts _ lkX2_copyFrom_f30) (fun _ h9 => h9) rfl dX2_copyFrom_88 ?_
  refine lv_iconst (v := 0) hx hb dX2_copyFrom_91 (by decide) ?_
  refine lv_aload_n hx hb dX2_copyFrom_92 rfl (lv_at hl 0 rfl) ?_
  refine va_get (D := D) (ci := 2) (v := .ref (a_rd 7)) (C := RX2) (T := TX2) (N := 12) hx hb hts iwX2_copyFrom_X2 hown hK hP 0 rfl rfl 6 (by decide) (hts _ lkX2_copyFrom_f30) (fun _ h9 => h9) rfl dX2_copyFrom_93 ?_
  refine lv_iconst (v := 0) hx hb dX2_copyFrom_96 (by decide) ?_
  refine lv_iconst (v := 4) hx hb dX2_copyFrom_97 (by decide) ?_
  obtain ⟨s7, hs7, hf⟩ := nm_ex hf
  refine va_copyi hx hb (hml.trans hl.1.symm) hown (hts _ lkX2_copyFrom_mac49) (hts _ lkX2_copyFrom_nac) (hts _ lkX2_copyFrom_sac) (hts _ lkX2_copyFrom_iac) hK hP hD hS 16 7 0 0 rfl rfl rfl rfl rfl (by decide) (by decide) (by decide) (by decide) (by decide) (fun _ _ => rfl) (Nat.le_of_ble_eq_true rfl) (Nat.le_of_ble_eq_true rfl) dX2_copyFrom_98 (fun H locs hP hD hS => ?_)
  have hP : va_P D vwCl ((wRoad t a_rd s7) ++ (wRoad t a_ro s_ro)) H := by rw [hs7]; exact hP
  have hD : va_D A ((wRoad t a_rd s7) ++ (wRoad t a_ro s_ro)) := by rw [hs7]; exact hD
  refine lv_aload_n hx hb dX2_copyFrom_101 rfl (lv_at hl 1 rfl) ?_
  refine va_get (D := D) (ci := 2) (v := .ref (a_ro 8)) (C := RX2) (T := TX2) (N := 12) hx hb hts iwX2_copyFrom_X2 hown hK hP 9 rfl rfl 7 (by decide) (hts _ lkX2_copyFrom_f33) (fun _ h9 => h9) rfl dX2_copyFrom_102 ?_
  refine lv_iconst (v := 0) hx hb dX2_copyFrom_105 (by decide) ?_
  refine lv_aload_n hx hb dX2_copyFrom_106 rfl (lv_at hl 0 rfl) ?_
  refine va_get (D := D) (ci := 2) (v := .ref (a_rd 8)) (C := RX2) (T := TX2) (N := 12) hx hb hts iwX2_copyFrom_X2 hown hK hP 0 rfl rfl 7 (by decide) (hts _ lkX2_copyFrom_f33) (fun _ h9 => h9) rfl dX2_copyFrom_107 ?_
  refine lv_iconst (v := 0) hx hb dX2_copyFrom_110 (by decide) ?_
  refine lv_iconst (v := 4) hx hb dX2_copyFrom_111 (by decide) ?_
  obtain ⟨s8, hs8, hf⟩ := nm_ex hf
  refine va_copyi hx hb (hml.trans hl.1.symm) hown (hts _ lkX2_copyFrom_mac49) (hts _ lkX2_copyFrom_nac) (hts _ lkX2_copyFrom_sac) (hts _ lkX2_copyFrom_iac) hK hP hD hS 17 8 0 0 rfl rfl rfl rfl rfl (by decide) (by decide) (by decide) (by decide) (by decide) (fun _ _ => rfl) (Nat.le_of_ble_eq_true rfl) (Nat.le_of_ble_eq_true rfl) dX2_copyFrom_112 (fun H locs hP hD hS => ?_)
  have hP : va_P D vwCl ((wRoad t a_rd s8) ++ (wRoad t a_ro s_ro)) H := by rw [hs8]; exact hP
  have hD : va_D A ((wRoad t a_rd s8) ++ (wRoad t a_ro s_ro)) := by rw [hs8]; exact hD
  refine lv_aload_n hx hb dX2_copyFrom_115 rfl (lv_at hl 0 rfl) ?_
  refine lv_aload_n hx hb dX2_copyFrom_116 rfl (lv_at hl 1 rfl) ?_
  refine va_get (D := D) (ci := 2) (v := .int (s_ro 0 0)) (C := RX2) (T := TX2) (N := 12) hx hb hts iwX2_copyFrom_X2 hown hK hP 9 rfl rfl 8 (by decide) (hts _ lkX2_copyFrom_f43) (fun _ h9 => h9) rfl dX2_copyFrom_117 ?_
  obtain ⟨s9, hs9, hf⟩ := nm_ex hf
  refine va_put (D := D) (ci := 2) (v := .int (s_ro 0 0)) (ty := .int) (C := RX2) (T := TX2) (N := 12) hx hb hts iwX2_copyFrom_X2 tyX2 tyX2_ok nmX2 hown hK hP hD hS 0 rfl rfl 8 (by decide) (hts _ lkX2_copyFrom_f43) (fun _ h9 => h9) rfl (by decide +kernel) rfl rfl (Nat.le_of_ble_eq_true rfl) dX2_copyFrom_120 (fun H locs hP hD hS => ?_)
  have hP : va_P D vwCl ((wRoad t a_rd s9) ++ (wRoad t a_ro s_ro)) H := by rw [hs9]; exact hP
  have hD : va_D A ((wRoad t a_rd s9) ++ (wRoad t a_ro s_ro)) := by rw [hs9]; exact hD
  refine lv_aload_n hx hb dX2_copyFrom_123 rfl (lv_at hl 0 rfl) ?_
  refine lv_aload_n hx hb dX2_copyFrom_124 rfl (lv_at hl 1 rfl) ?_
  refine va_get (D := D) (ci := 2) (v := .int (s_ro 0 1)) (C := RX2) (T := TX2) (N := 12) hx hb hts iwX2_copyFrom_X2 hown hK hP 9 rfl rfl 9 (by decide) (hts _ lkX2_copyFrom_f46) (fun _ h9 => h9) rfl dX2_copyFrom_125 ?_
  obtain ⟨s10, hs10, hf⟩ := nm_ex hf
  refine va_put (D := D) (ci := 2) (v := .int (s_ro 0 1)) (ty := .int) (C := RX2) (T := TX2) (N := 12) hx hb hts iwX2_copyFrom_X2 tyX2 tyX2_ok nmX2 hown hK hP hD hS 0 rfl rfl 9 (by decide) (hts _ lkX2_copyFrom_f46) (fun _ h9 => h9) rfl (by decide +kernel) rfl rfl (Nat.le_of_ble_eq_true rfl) dX2_copyFrom_128 (fun H locs hP hD hS => ?_)
  have hP : va_P D vwCl ((wRoad t a_rd s10) ++ (wRoad t a_ro s_ro)) H := by rw [hs10]; exact hP
  have hD : va_D A ((wRoad t a_rd s10) ++ (wRoad t a_ro s_ro)) := by rw [hs10]; exact hD
  refine lv_aload_n hx hb dX2_copyFrom_131 rfl (lv_at hl 0 rfl) ?_
  refine lv_aload_n hx hb dX2_copyFrom_132 rfl (lv_at hl 1 rfl) ?_
  refine va_get (D := D) (ci := 2) (v := .int (s_ro 0 2)) (C := RX2) (T := TX2) (N := 12) hx hb hts iwX2_copyFrom_X2 hown hK hP 9 rfl rfl 10 (by decide) (hts _ lkX2_copyFrom_f36) (fun _ h9 => h9) rfl dX2_copyFrom_133 ?_
  obtain ⟨s11, hs11, hf⟩ := nm_ex hf
  refine va_put (D := D) (ci := 2) (v := .int (s_ro 0 2)) (ty := .int) (C := RX2) (T := TX2) (N := 12) hx hb hts iwX2_copyFrom_X2 tyX2 tyX2_ok nmX2 hown hK hP hD hS 0 rfl rfl 10 (by decide) (hts _ lkX2_copyFrom_f36) (fun _ h9 => h9) rfl (by decide +kernel) rfl rfl (Nat.le_of_ble_eq_true rfl) dX2_copyFrom_136 (fun H locs hP hD hS => ?_)
  have hP : va_P D vwCl ((wRoad t a_rd s11) ++ (wRoad t a_ro s_ro)) H := by rw [hs11]; exact hP
  have hD : va_D A ((wRoad t a_rd s11) ++ (wRoad t a_ro s_ro)) := by rw [hs11]; exact hD
  refine lv_aload_n hx hb dX2_copyFrom_139 rfl (lv_at hl 0 rfl) ?_
  refine lv_aload_n hx hb dX2_copyFrom_140 rfl (lv_at hl 1 rfl) ?_
  refine va_get (D := D) (ci := 2) (v := .int (s_ro 0 3)) (C := RX2) (T := TX2) (N := 12) hx hb hts iwX2_copyFrom_X2 hown hK hP 9 rfl rfl 11 (by decide) (hts _ lkX2_copyFrom_f40) (fun _ h9 => h9) rfl dX2_copyFrom_141 ?_
  obtain ⟨s12, hs12, hf⟩ := nm_ex hf
  refine va_put (D := D) (ci := 2) (v := .int (s_ro 0 3)) (ty := .int) (C := RX2) (T := TX2) (N := 12) hx hb hts iwX2_copyFrom_X2 tyX2 tyX2_ok nmX2 hown hK hP hD hS 0 rfl rfl 11 (by decide) (hts _ lkX2_copyFrom_f40) (fun _ h9 => h9) rfl (by decide +kernel) rfl rfl (Nat.le_of_ble_eq_true rfl) dX2_copyFrom_144 (fun H locs hP hD hS => ?_)
  have hP : va_P D vwCl ((wRoad t a_rd s12) ++ (wRoad t a_ro s_ro)) H := by rw [hs12]; exact hP
  have hD : va_D A ((wRoad t a_rd s12) ++ (wRoad t a_ro s_ro)) := by rw [hs12]; exact hD
  obtain rfl := so_eq hf
  exact g_vret C hP hD hS dX2_copyFrom_147
