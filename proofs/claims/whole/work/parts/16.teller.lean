/-! CoachCourt.within -/
def fX8_within (p1 : Int32) (p2 : Int32) (p3 : Int32) : Option (Int32) :=
  if p1 < p2 then
    (some (0 : Int32))
  else
    (if p3 < p1 then
      (some (0 : Int32))
    else
      (some (1 : Int32)))
theorem hdX8_within : yX8_within.cls ≠ "java/lang/invoke/MethodHandle" ∧ yX8_within.cls ≠ "java/lang/invoke/VarHandle" ∧ (parseMethodDescriptor yX8_within.desc).map (fun d => d.parameters.length) = some 3 := by decide +kernel
set_option maxHeartbeats 4000000 in
set_option maxRecDepth 100000 in
theorem cX8_within_ok {l : Launch} {D : va_G} {t : Nat → ClassId} {κ : Nat → Nat} {p1 : Int32} {p2 : Int32} {p3 : Int32} {out : Int32} (hf : fX8_within p1 p2 p3 = some out) : Ct l D t κ yX8_within wsX8_within (rmL 0) [.int p1, .int p2, .int p3] ([] : va_W) (some (.int out)) ([] : va_W) := by
  refine Ct.ofW (own := RX8) (cc := cX8_within) (maxL := 3) (ret := (some .boolean)) (by decide) rfl rfl (Nat.le_of_ble_eq_true rfl) ?_
  intro p e s m below meth c A C hP hD ls hl
  have hS : va_S A s.heap s.heap [] := va_S.rf
  obtain ⟨hx, hb, hr, hml, hown, hts, hC0, hlk, hA⟩ := id C
  have hK := hC0.1
  have hl : lv_has ls 3 [(0, .int p1), (1, .int p2), (2, .int p3)] := hl
  unfold fX8_within at hf
  refine lv_iload_n hx hb dX8_within_0 rfl (lv_at hl 0 rfl) ?_
  refine lv_iload_n hx hb dX8_within_1 rfl (lv_at hl 1 rfl) ?_
  refine lv_icmp_lt (tgt := 14) hx hb dX8_within_2 (by decide) (fun c1 => ?_) (fun c1 => ?_)
  · rw [if_pos c1] at hf
    refine lv_iconst (v := 0) hx hb dX8_within_14 (by decide) ?_
    obtain rfl := so_eq hf
    exact g_zret (v := 0) C rfl hP hD hS dX8_within_15
  · rw [if_neg c1] at hf
    refine lv_iload_n hx hb dX8_within_5 rfl (lv_at hl 0 rfl) ?_
    refine lv_iload_n hx hb dX8_within_6 rfl (lv_at hl 2 rfl) ?_
    refine lv_icmp_gt (tgt := 14) hx hb dX8_within_7 (by decide) (fun c2 => ?_) (fun c2 => ?_)
    · rw [if_pos c2] at hf
      refine lv_iconst (v := 0) hx hb dX8_within_14 (by decide) ?_
      obtain rfl := so_eq hf
      exact g_zret (v := 0) C rfl hP hD hS dX8_within_15
    · rw [if_neg c2] at hf
      refine lv_iconst (v := 1) hx hb dX8_within_10 (by decide) ?_
      refine lv_goto (tgt := 15) hx hb dX8_within_11 (by decide) ?_
      obtain rfl := so_eq hf
      exact g_zret (v := 1) C rfl hP hD hS dX8_within_15
/-! CoachCourt$Teller.takeSemicolon -/
def fX7_takeSemicolon (s_tl : S2) (s_tp : S2) : Option (S2) :=
  (fX6_readToken s_tp).bind fun v1 =>
  if (v1 0 3) = (3 : Int32) then
    (some v1)
  else
    ((fX6_blame v1 (2 : Int32) (v1 0 2)).bind fun v3 =>
    some v3)
theorem hdX7_takeSemicolon : yX7_takeSemicolon.cls = RX7 ∧ yX7_takeSemicolon.cls ≠ "java/lang/invoke/MethodHandle" ∧ yX7_takeSemicolon.cls ≠ "java/lang/invoke/VarHandle" ∧ (parseMethodDescriptor yX7_takeSemicolon.desc).map (fun d => d.parameters.length) = some 0 := by decide +kernel
theorem iwX7_takeSemicolon_X7 : ∀ w ∈ wsX70, w ∈ wsX7_takeSemicolon := by decide +kernel
theorem lkX7_takeSemicolon_f9 : Cond.fieldLink RX7 9 "CoachCourt$Teller" "tape" "LCoachCourt$Tape;" ∈ wsX7_takeSemicolon := by decide +kernel
theorem iwX7_takeSemicolon_X6 : ∀ w ∈ wsX60, w ∈ wsX7_takeSemicolon := by decide +kernel
set_option maxHeartbeats 4000000 in
set_option maxRecDepth 100000 in
theorem cX7_takeSemicolon_ok {l : Launch} {D : va_G} {t : Nat → ClassId} {κ : Nat → Nat} {a_tl : Nat → Nat} {a_tp : Nat → Nat} {s_tl : S2} {s_tp : S2} {out : S2} (hf : fX7_takeSemicolon s_tl s_tp = some out) : Ct l D t κ yX7_takeSemicolon wsX7_takeSemicolon (rmL 2) [.ref (a_tl 0)] ((wTeller t a_tl (a_tp 0) s_tl) ++ (wTape t a_tp s_tp)) none ((wTeller t a_tl (a_tp 0) s_tl) ++ (wTape t a_tp out)) := by
  refine Ct.ofW (own := RX7) (cc := cX7_takeSemicolon) (maxL := 1) (ret := none) (by decide) rfl rfl (Nat.le_of_ble_eq_true rfl) ?_
  intro p e s m below meth c A C hP hD ls hl
  have hS : va_S A s.heap s.heap [] := va_S.rf
  obtain ⟨hx, hb, hr, hml, hown, hts, hC0, hlk, hA⟩ := id C
  have hK := hC0.1
  have hl : lv_has ls 1 [(0, .ref (a_tl 0))] := hl
  unfold fX7_takeSemicolon at hf
  refine lv_aload_n hx hb dX7_takeSemicolon_0 rfl (lv_at hl 0 rfl) ?_
  refine va_get (D := D) (ci := 7) (v := .ref (a_tp 0)) (C := RX7) (T := TX7) (N := 3) hx hb hts iwX7_takeSemicolon_X7 hown hK hP 0 rfl rfl 0 (by decide) (hts _ lkX7_takeSemicolon_f9) (fun _ h9 => h9) rfl dX7_takeSemicolon_1 ?_
  obtain ⟨v1, ev1, hf⟩ := bd_some hf
  refine gk_V C (As := []) (rest := []) (ci := 6) (q := (RX6, TX6, 7)) (q0 := 0) (wr := (wTeller t a_tl (a_tp 0) s_tl)) (wf := ((wTeller t a_tl (a_tp 0) s_tl) ++ (wTape t a_tp v1))) (cX6_readToken_ok (l := l) (D := D) (t := t) (κ := κ) (a_tp := a_tp) ev1) gX7_takeSemicolon_X6_readToken rfl ⟨rfl, rfl⟩ hdX6_readToken ⟨Nat.le_of_ble_eq_true rfl, Nat.le_of_ble_eq_true rfl⟩ rfl rfl hP hD hS [1, 2] [0] [0, 1, 2] rfl rfl rfl rfl (by decide) rfl rfl rfl hl.1 (Nat.le_of_ble_eq_true rfl) dX7_takeSemicolon_4 (Nat.zero_le _) (Nat.zero_le _) (fun H locs hP hD hS => ?_)
  refine W.eq (g2 := F0 m 7 ls []) rfl ?_
  refine lv_aload_n hx hb dX7_takeSemicolon_7 rfl (lv_at hl 0 rfl) ?_
  refine va_get (D := D) (ci := 7) (v := .ref (a_tp 0)) (C := RX7) (T := TX7) (N := 3) hx hb hts iwX7_takeSemicolon_X7 hown hK hP 0 rfl rfl 0 (by decide) (hts _ lkX7_takeSemicolon_f9) (fun _ h9 => h9) rfl dX7_takeSemicolon_8 ?_
  refine va_getN (D := D) (ci := 6) (v := .int (v1 0 3)) (C := RX6) (T := TX6) (N := 7) hx hb hts iwX7_takeSemicolon_X6 hown hK hP 1 rfl rfl 4 (by decide) (hC0.2.1.f 3 rfl) (fun _ h9 => h9) rfl dX7_takeSemicolon_11 ?_
  refine lv_iconst (v := 3) hx hb dX7_takeSemicolon_14 (by decide) ?_
  refine lv_icmp_eq (tgt := 33) hx hb dX7_takeSemicolon_15 (by decide) (fun c2 => ?_) (fun c2 => ?_)
  · rw [if_pos c2] at hf
    obtain rfl := so_eq hf
    exact g_vret C hP hD hS dX7_takeSemicolon_33
  · rw [if_neg c2] at hf
    refine lv_aload_n hx hb dX7_takeSemicolon_18 rfl (lv_at hl 0 rfl) ?_
    refine va_get (D := D) (ci := 7) (v := .ref (a_tp 0)) (C := RX7) (T := TX7) (N := 3) hx hb hts iwX7_takeSemicolon_X7 hown hK hP 0 rfl rfl 0 (by decide) (hts _ lkX7_takeSemicolon_f9) (fun _ h9 => h9) rfl dX7_takeSemicolon_19 ?_
    refine lv_iconst (v := 2) hx hb dX7_takeSemicolon_22 (by decide) ?_
    refine lv_aload_n hx hb dX7_takeSemicolon_23 rfl (lv_at hl 0 rfl) ?_
    refine va_get (D := D) (ci := 7) (v := .ref (a_tp 0)) (C := RX7) (T := TX7) (N := 3) hx hb hts iwX7_takeSemicolon_X7 hown hK hP 0 rfl rfl 0 (by decide) (hts _ lkX7_takeSemicolon_f9) (fun _ h9 => h9) rfl dX7_takeSemicolon_24 ?_
    refine va_getN (D := D) (ci := 6) (v := .int (v1 0 2)) (C := RX6) (T := TX6) (N := 7) hx hb hts iwX7_takeSemicolon_X6 hown hK hP 1 rfl rfl 3 (by decide) (hC0.2.1.f 2 rfl) (fun _ h9 => h9) rfl dX7_takeSemicolon_27 ?_
    obtain ⟨v3, ev3, hf⟩ := bd_some hf
    refine gk_V C (As := [.int (2 : Int32), .int (v1 0 2)]) (rest := []) (ci := 6) (q := (RX6, TX6, 7)) (q0 := 0) (wr := (wTeller t a_tl (a_tp 0) s_tl)) (wf := ((wTeller t a_tl (a_tp 0) s_tl) ++ (wTape t a_tp v3))) (cX6_blame_ok (l := l) (D := D) (t := t) (κ := κ) (a_tp := a_tp) ev3) gX7_takeSemicolon_X6_blame rfl ⟨rfl, rfl⟩ hdX6_blame ⟨Nat.le_of_ble_eq_true rfl, Nat.le_of_ble_eq_true rfl⟩ rfl rfl hP hD hS [1, 2] [0] [0, 1, 2] rfl rfl rfl rfl (by decide) rfl rfl rfl hl.1 (Nat.le_of_ble_eq_true rfl) dX7_takeSemicolon_30 (Nat.zero_le _) (Nat.zero_le _) (fun H locs hP hD hS => ?_)
    refine W.eq (g2 := F0 m 33 ls []) rfl ?_
    obtain rfl := so_eq hf
    exact g_vret C hP hD hS dX7_takeSemicolon_33
/-! CoachCourt$Teller.takeNumber -/
def fX7_takeNumber_66 (s_tl : S2) (s_tp : S2) (x1 : Int32) : Option (Int32 × S2) :=
  if (s_tp 0 4) = (0 : Int32) then
    ((fX6_tokenValue s_tp).bind fun v7 =>
    some (v7, s_tp))
  else
    (some (x1, s_tp))
def fX7_takeNumber (s_tl : S2) (s_tp : S2) (p1 : Int32) (p2 : Int32) : Option (Int32 × S2) :=
  (fX6_readToken s_tp).bind fun v1 =>
  if (v1 0 3) = (2 : Int32) then
    ((fX6_tokenValue v1).bind fun v3 =>
    (fX8_within v3 p1 p2).bind fun v4 =>
    if v4 = (0 : Int32) then
      ((fX6_blame v1 (3 : Int32) (v1 0 2)).bind fun v8 =>
      fX7_takeNumber_66 s_tl v8 p1)
    else
      (fX7_takeNumber_66 s_tl v1 p1))
  else
    ((fX6_blame v1 (2 : Int32) (v1 0 2)).bind fun v9 =>
    fX7_takeNumber_66 s_tl v9 p1)
theorem hdX7_takeNumber : yX7_takeNumber.cls = RX7 ∧ yX7_takeNumber.cls ≠ "java/lang/invoke/MethodHandle" ∧ yX7_takeNumber.cls ≠ "java/lang/invoke/VarHandle" ∧ (parseMethodDescriptor yX7_takeNumber.desc).map (fun d => d.parameters.length) = some 2 := by decide +kernel
theorem iwX7_takeNumber_X7 : ∀ w ∈ wsX70, w ∈ wsX7_takeNumber := by decide +kernel
theorem lkX7_takeNumber_f9 : Cond.fieldLink RX7 9 "CoachCourt$Teller" "tape" "LCoachCourt$Tape;" ∈ wsX7_takeNumber := by decide +kernel
theorem iwX7_takeNumber_X6 : ∀ w ∈ wsX60, w ∈ wsX7_takeNumber := by decide +kernel
theorem lkX7_takeNumber_i_X8 : Cond.initialized RX8 ∈ wsX7_takeNumber := by decide +kernel
theorem lkX7_takeNumber_s_within : Cond.static yX8_within ∈ wsX7_takeNumber := by decide +kernel
set_option maxHeartbeats 4000000 in
set_option maxRecDepth 100000 in
theorem wX7_takeNumber_66 {p : Program} {l : Launch} {e : Env} {s : State} {m : MethodId} {args : Array Value} {below : List Frame} {meth : Method} {c : Code} {D : va_G} {t : Nat → ClassId} {κ : Nat → Nat} {A : Nat → Prop} {a_tl : Nat → Nat} {a_tp : Nat → Nat} {s_tl : S2} {s_tp : S2} {x1 : Int32} {out : Int32 × S2} (C : Cxt p s m args meth c cX7_takeNumber 3 RX7 wsX7_takeNumber (some .int) D t κ A) (hf : fX7_takeNumber_66 s_tl s_tp x1 = some out) : ∀ (H : Heap) (locs : List Loc) (ls : Array Slot), va_P D vwCl ((wTeller t a_tl (a_tp 0) s_tl) ++ (wTape t a_tp s_tp)) H → va_D A ((wTeller t a_tl (a_tp 0) s_tl) ++ (wTape t a_tp s_tp)) → va_S A s.heap H locs → lv_has ls 3 [(0, .ref (a_tl 0)), (1, .int x1)] → W p l e (rmL 2) s m args below meth c H locs 0 0 (MQ below (gQ D (some (.int out.1)) ((wTeller t a_tl (a_tp 0) s_tl) ++ (wTape t a_tp out.2)) A) args s 0 0 A) (F0 m 66 ls []) := by
  obtain ⟨hx, hb, hr, hml, hown, hts, hC0, hlk, hA⟩ := id C
  have hK := hC0.1
  intro H locs ls hP hD hS hl
  unfold fX7_takeNumber_66 at hf
  refine lv_aload_n hx hb dX7_takeNumber_66 rfl (lv_at hl 0 rfl) ?_
  refine va_get (D := D) (ci := 7) (v := .ref (a_tp 0)) (C := RX7) (T := TX7) (N := 3) hx hb hts iwX7_takeNumber_X7 hown hK hP 0 rfl rfl 0 (by decide) (hts _ lkX7_takeNumber_f9) (fun _ h9 => h9) rfl dX7_takeNumber_67 ?_
  refine va_getN (D := D) (ci := 6) (v := .int (s_tp 0 4)) (C := RX6) (T := TX6) (N := 7) hx hb hts iwX7_takeNumber_X6 hown hK hP 1 rfl rfl 5 (by decide) (hC0.2.1.f 4 rfl) (fun _ h9 => h9) rfl dX7_takeNumber_70 ?_
  refine lv_if_ne (tgt := 86) hx hb dX7_takeNumber_73 (by decide) (fun c6 => ?_) (fun c6 => ?_)
  · rw [if_neg c6] at hf
    refine lv_iload_n hx hb dX7_takeNumber_86 rfl (lv_at hl 1 rfl) ?_
    obtain rfl := so_eq hf
    exact g_iret C hP hD hS dX7_takeNumber_87
  · rw [if_pos c6] at hf
    refine lv_aload_n hx hb dX7_takeNumber_76 rfl (lv_at hl 0 rfl) ?_
    refine va_get (D := D) (ci := 7) (v := .ref (a_tp 0)) (C := RX7) (T := TX7) (N := 3) hx hb hts iwX7_takeNumber_X7 hown hK hP 0 rfl rfl 0 (by decide) (hts _ lkX7_takeNumber_f9) (fun _ h9 => h9) rfl dX7_takeNumber_77 ?_
    obtain ⟨v7, ev7, hf⟩ := bd_some hf
    refine gk_V C (As := []) (rest := []) (ci := 6) (q := (RX6, TX6, 7)) (q0 := 0) (wr := (wTeller t a_tl (a_tp 0) s_tl)) (wf := ((wTeller t a_tl (a_tp 0) s_tl) ++ (wTape t a_tp s_tp))) (cX6_tokenValue_ok (l := l) (D := D) (t := t) (κ := κ) (a_tp := a_tp) ev7) gX7_takeNumber_X6_tokenValue rfl ⟨rfl, rfl⟩ hdX6_tokenValue ⟨Nat.le_of_ble_eq_true rfl, Nat.le_of_ble_eq_true rfl⟩ rfl rfl hP hD hS [1, 2] [0] [0, 1, 2] rfl rfl rfl rfl (by decide) rfl rfl rfl hl.1 (Nat.le_of_ble_eq_true rfl) dX7_takeNumber_80 (Nat.zero_le _) (Nat.zero_le _) (fun H locs hP hD hS => ?_)
    refine W.eq (g2 := F0 m 83 ls [.int v7]) rfl ?_
    refine lv_goto (tgt := 87) hx hb dX7_takeNumber_83 (by decide) ?_
    obtain rfl := so_eq hf
    exact g_iret C hP hD hS dX7_takeNumber_87
set_option maxHeartbeats 4000000 in
set_option maxRecDepth 100000 in
theorem cX7_takeNumber_ok {l : Launch} {D : va_G} {t : Nat → ClassId} {κ : Nat → Nat} {a_tl : Nat → Nat} {a_tp : Nat → Nat} {s_tl : S2} {s_tp : S2} {p1 : Int32} {p2 : Int32} {out : Int32 × S2} (hf : fX7_takeNumber s_tl s_tp p1 p2 = some out) : Ct l D t κ yX7_takeNumber wsX7_takeNumber (rmL 2) [.ref (a_tl 0), .int p1, .int p2] ((wTeller t a_tl (a_tp 0) s_tl) ++ (wTape t a_tp s_tp)) (some (.int out.1)) ((wTeller t a_tl (a_tp 0) s_tl) ++ (wTape t a_tp out.2)) := by
  refine Ct.ofW (own := RX7) (cc := cX7_takeNumber) (maxL := 3) (ret := (some .int)) (by decide) rfl rfl (Nat.le_of_ble_eq_true rfl) ?_
  intro p e s m below meth c A C hP hD ls hl
  have hS : va_S A s.heap s.heap [] := va_S.rf
  obtain ⟨hx, hb, hr, hml, hown, hts, hC0, hlk, hA⟩ := id C
  have hK := hC0.1
  have hl : lv_has ls 3 [(0, .ref (a_tl 0)), (1, .int p1), (2, .int p2)] := hl
  unfold fX7_takeNumber at hf
  refine lv_aload_n hx hb dX7_takeNumber_0 rfl (lv_at hl 0 rfl) ?_
  refine va_get (D := D) (ci := 7) (v := .ref (a_tp 0)) (C := RX7) (T := TX7) (N := 3) hx hb hts iwX7_takeNumber_X7 hown hK hP 0 rfl rfl 0 (by decide) (hts _ lkX7_takeNumber_f9) (fun _ h9 => h9) rfl dX7_takeNumber_1 ?_
  obtain ⟨v1, ev1, hf⟩ := bd_some hf
  refine gk_V C (As := []) (rest := []) (ci := 6) (q := (RX6, TX6, 7)) (q0 := 0) (wr := (wTeller t a_tl (a_tp 0) s_tl)) (wf := ((wTeller t a_tl (a_tp 0) s_tl) ++ (wTape t a_tp v1))) (cX6_readToken_ok (l := l) (D := D) (t := t) (κ := κ) (a_tp := a_tp) ev1) gX7_takeNumber_X6_readToken rfl ⟨rfl, rfl⟩ hdX6_readToken ⟨Nat.le_of_ble_eq_true rfl, Nat.le_of_ble_eq_true rfl⟩ rfl rfl hP hD hS [1, 2] [0] [0, 1, 2] rfl rfl rfl rfl (by decide) rfl rfl rfl hl.1 (Nat.le_of_ble_eq_true rfl) dX7_takeNumber_4 (Nat.zero_le _) (Nat.zero_le _) (fun H locs hP hD hS => ?_)
  refine W.eq (g2 := F0 m 7 ls []) rfl ?_
  refine lv_aload_n hx hb dX7_takeNumber_7 rfl (lv_at hl 0 rfl) ?_
  refine va_get (D := D) (ci := 7) (v := .ref (a_tp 0)) (C := RX7) (T := TX7) (N := 3) hx hb hts iwX7_takeNumber_X7 hown hK hP 0 rfl rfl 0 (by decide) (hts _ lkX7_takeNumber_f9) (fun _ h9 => h9) rfl dX7_takeNumber_8 ?_
  refine va_getN (D := D) (ci := 6) (v := .int (v1 0 3)) (C := RX6) (T := TX6) (N := 7) hx hb hts iwX7_takeNumber_X6 hown hK hP 1 rfl rfl 4 (by decide) (hC0.2.1.f 3 rfl) (fun _ h9 => h9) rfl dX7_takeNumber_11 ?_
  refine lv_iconst (v := 2) hx hb dX7_takeNumber_14 (by decide) ?_
  refine lv_icmp_eq (tgt := 36) hx hb dX7_takeNumber_15 (by decide) (fun c2 => ?_) (fun c2 => ?_)
  · rw [if_pos c2] at hf
    refine lv_aload_n hx hb dX7_takeNumber_36 rfl (lv_at hl 0 rfl) ?_
    refine va_get (D := D) (ci := 7) (v := .ref (a_tp 0)) (C := RX7) (T := TX7) (N := 3) hx hb hts iwX7_takeNumber_X7 hown hK hP 0 rfl rfl 0 (by decide) (hts _ lkX7_takeNumber_f9) (fun _ h9 => h9) rfl dX7_takeNumber_37 ?_
    obtain ⟨v3, ev3, hf⟩ := bd_some hf
    refine gk_V C (As := []) (rest := []) (ci := 6) (q := (RX6, TX6, 7)) (q0 := 0) (wr := (wTeller t a_tl (a_tp 0) s_tl)) (wf := ((wTeller t a_tl (a_tp 0) s_tl) ++ (wTape t a_tp v1))) (cX6_tokenValue_ok (l := l) (D := D) (t := t) (κ := κ) (a_tp := a_tp) ev3) gX7_takeNumber_X6_tokenValue rfl ⟨rfl, rfl⟩ hdX6_tokenValue ⟨Nat.le_of_ble_eq_true rfl, Nat.le_of_ble_eq_true rfl⟩ rfl rfl hP hD hS [1, 2] [0] [0, 1, 2] rfl rfl rfl rfl (by decide) rfl rfl rfl hl.1 (Nat.le_of_ble_eq_true rfl) dX7_takeNumber_40 (Nat.zero_le _) (Nat.zero_le _) (fun H locs hP hD hS => ?_)
    refine W.eq (g2 := F0 m 43 ls [.int v3]) rfl ?_
    refine lv_iload_n hx hb dX7_takeNumber_43 rfl (lv_at hl 1 rfl) ?_
    refine lv_iload_n hx hb dX7_takeNumber_44 rfl (lv_at hl 2 rfl) ?_
    obtain ⟨v4, ev4, hf⟩ := bd_some hf
    refine gk_SN C (As := [.int v3, .int p1, .int p2]) (rest := []) (cX8_within_ok (l := l) (D := D) (t := t) (κ := κ) ev4) ggX7_takeNumber_X8_within rfl ⟨rfl, rfl⟩ (hC0.2.1.m 8 rfl) (hts _ lkX7_takeNumber_i_X8) (hts _ lkX7_takeNumber_s_within) hdX8_within ⟨Nat.le_of_ble_eq_true rfl, Nat.le_of_ble_eq_true rfl⟩ hP hD hS rfl hl.1 (Nat.le_of_ble_eq_true rfl) dX7_takeNumber_45 (Nat.zero_le _) (Nat.zero_le _) (fun H locs hP hD hS => ?_)
    refine W.eq (g2 := F0 m 48 ls [.int v4]) rfl ?_
    refine lv_if_ne (tgt := 66) hx hb dX7_takeNumber_48 (by decide) (fun c5 => ?_) (fun c5 => ?_)
    · rw [if_neg c5] at hf
      exact wX7_takeNumber_66 C hf _ _ _ hP hD hS (lv_sub hl [0, 1] rfl)
    · rw [if_pos c5] at hf
      refine lv_aload_n hx hb dX7_takeNumber_51 rfl (lv_at hl 0 rfl) ?_
      refine va_get (D := D) (ci := 7) (v := .ref (a_tp 0)) (C := RX7) (T := TX7) (N := 3) hx hb hts iwX7_takeNumber_X7 hown hK hP 0 rfl rfl 0 (by decide) (hts _ lkX7_takeNumber_f9) (fun _ h9 => h9) rfl dX7_takeNumber_52 ?_
      refine lv_iconst (v := 3) hx hb dX7_takeNumber_55 (by decide) ?_
      refine lv_aload_n hx hb dX7_takeNumber_56 rfl (lv_at hl 0 rfl) ?_
      refine va_get (D := D) (ci := 7) (v := .ref (a_tp 0)) (C := RX7) (T := TX7) (N := 3) hx hb hts iwX7_takeNumber_X7 hown hK hP 0 rfl rfl 0 (by decide) (hts _ lkX7_takeNumber_f9) (fun _ h9 => h9) rfl dX7_takeNumber_57 ?_
      refine va_getN (D := D) (ci := 6) (v := .int (v1 0 2)) (C := RX6) (T := TX6) (N := 7) hx hb hts iwX7_takeNumber_X6 hown hK hP 1 rfl rfl 3 (by decide) (hC0.2.1.f 2 rfl) (fun _ h9 => h9) rfl dX7_takeNumber_60 ?_
      obtain ⟨v8, ev8, hf⟩ := bd_some hf
      refine gk_V C (As := [.int (3 : Int32), .int (v1 0 2)]) (rest := []) (ci := 6) (q := (RX6, TX6, 7)) (q0 := 0) (wr := (wTeller t a_tl (a_tp 0) s_tl)) (wf := ((wTeller t a_tl (a_tp 0) s_tl) ++ (wTape t a_tp v8))) (cX6_blame_ok (l := l) (D := D) (t := t) (κ := κ) (a_tp := a_tp) ev8) gX7_takeNumber_X6_blame rfl ⟨rfl, rfl⟩ hdX6_blame ⟨Nat.le_of_ble_eq_true rfl, Nat.le_of_ble_eq_true rfl⟩ rfl rfl hP hD hS [1, 2] [0] [0, 1, 2] rfl rfl rfl rfl (by decide) rfl rfl rfl hl.1 (Nat.le_of_ble_eq_true rfl) dX7_takeNumber_63 (Nat.zero_le _) (Nat.zero_le _) (fun H locs hP hD hS => ?_)
      refine W.eq (g2 := F0 m 66 ls []) rfl ?_
      exact wX7_takeNumber_66 C hf _ _ _ hP hD hS (lv_sub hl [0, 1] rfl)
  · rw [if_neg c2] at hf
    refine lv_aload_n hx hb dX7_takeNumber_18 rfl (lv_at hl 0 rfl) ?_
    refine va_get (D := D) (ci := 7) (v := .ref (a_tp 0)) (C := RX7) (T := TX7) (N := 3) hx hb hts iwX7_takeNumber_X7 hown hK hP 0 rfl rfl 0 (by decide) (hts _ lkX7_takeNumber_f9) (fun _ h9 => h9) rfl dX7_takeNumber_19 ?_
    refine lv_iconst (v := 2) hx hb dX7_takeNumber_22 (by decide) ?_
    refine lv_aload_n hx hb dX7_takeNumber_23 rfl (lv_at hl 0 rfl) ?_
    refine va_get (D := D) (ci := 7) (v := .ref (a_tp 0)) (C := RX7) (T := TX7) (N := 3) hx hb hts iwX7_takeNumber_X7 hown hK hP 0 rfl rfl 0 (by decide) (hts _ lkX7_takeNumber_f9) (fun _ h9 => h9) rfl dX7_takeNumber_24 ?_
    refine va_getN (D := D) (ci := 6) (v := .int (v1 0 2)) (C := RX6) (T := TX6) (N := 7) hx hb hts iwX7_takeNumber_X6 hown hK hP 1 rfl rfl 3 (by decide) (hC0.2.1.f 2 rfl) (fun _ h9 => h9) rfl dX7_takeNumber_27 ?_
    obtain ⟨v9, ev9, hf⟩ := bd_some hf
    refine gk_V C (As := [.int (2 : Int32), .int (v1 0 2)]) (rest := []) (ci := 6) (q := (RX6, TX6, 7)) (q0 := 0) (wr := (wTeller t a_tl (a_tp 0) s_tl)) (wf := ((wTeller t a_tl (a_tp 0) s_tl) ++ (wTape t a_tp v9))) (cX6_blame_ok (l := l) (D := D) (t := t) (κ := κ) (a_tp := a_tp) ev9) gX7_takeNumber_X6_blame rfl ⟨rfl, rfl⟩ hdX6_blame ⟨Nat.le_of_ble_eq_true rfl, Nat.le_of_ble_eq_true rfl⟩ rfl rfl hP hD hS [1, 2] [0] [0, 1, 2] rfl rfl rfl rfl (by decide) rfl rfl rfl hl.1 (Nat.le_of_ble_eq_true rfl) dX7_takeNumber_30 (Nat.zero_le _) (Nat.zero_le _) (fun H locs hP hD hS => ?_)
    refine W.eq (g2 := F0 m 33 ls []) rfl ?_
    refine lv_goto (tgt := 66) hx hb dX7_takeNumber_33 (by decide) ?_
    exact wX7_takeNumber_66 C hf _ _ _ hP hD hS (lv_sub hl [0, 1] rfl)
/-! CoachCourt$Teller.takeMile -/
def fX7_takeMile (s_tl : S2) (s_tp : S2) (s_rd : S2) : Option (S2 × S2) :=
  nm (s_rd 0 0) fun y1 =>
  if y1 < (8 : Int32) then
    ((fX7_takeNumber s_tl s_tp (0 : Int32) (tMH.getD (Int32.toNatClampNeg (0 : Int32)) 0)).bind fun v3 =>
    gd (ixb y1 8) <|
    nm (sE s_rd 1 (Int32.toNatClampNeg y1) v3.1) fun s5 =>
    (fX7_takeNumber s_tl v3.2 (0 : Int32) (tMH.getD (Int32.toNatClampNeg (1 : Int32)) 0)).bind fun v6 =>
    nm (sE s5 2 (Int32.toNatClampNeg y1) v6.1) fun s7 =>
    nm (sE s7 0 0 ((s7 0 0) + (1 : Int32))) fun s8 =>
    some (v6.2, s8))
  else
    ((fX6_blame s_tp (5 : Int32) (s_tp 0 2)).bind fun v9 =>
    some (v9, s_rd))
theorem hdX7_takeMile : yX7_takeMile.cls = RX7 ∧ yX7_takeMile.cls ≠ "java/lang/invoke/MethodHandle" ∧ yX7_takeMile.cls ≠ "java/lang/invoke/VarHandle" ∧ (parseMethodDescriptor yX7_takeMile.desc).map (fun d => d.parameters.length) = some 1 := by decide +kernel
theorem iwX7_takeMile_X2 : ∀ w ∈ wsX20, w ∈ wsX7_takeMile := by decide +kernel
theorem iwX7_takeMile_X7 : ∀ w ∈ wsX70, w ∈ wsX7_takeMile := by decide +kernel
theorem lkX7_takeMile_f9 : Cond.fieldLink RX7 9 "CoachCourt$Teller" "tape" "LCoachCourt$Tape;" ∈ wsX7_takeMile := by decide +kernel
theorem iwX7_takeMile_X6 : ∀ w ∈ wsX60, w ∈ wsX7_takeMile := by decide +kernel
set_option maxHeartbeats 4000000 in
set_option maxRecDepth 100000 in
theorem cX7_takeMile_ok {l : Launch} {D : va_G} {t : Nat → ClassId} {κ : Nat → Nat} {a_tl : Nat → Nat} {a_tp : Nat → Nat} {a_rd : Nat → Nat} {s_tl : S2} {s_tp : S2} {s_rd : S2} {out : S2 × S2} (hf : fX7_takeMile s_tl s_tp s_rd = some out) : Ct l D t κ yX7_takeMile wsX7_takeMile (rmL 3) [.ref (a_tl 0), .ref (a_rd 0)] ((wTeller t a_tl (a_tp 0) s_tl) ++ (wTape t a_tp s_tp) ++ (wRoad t a_rd s_rd)) none ((wTeller t a_tl (a_tp 0) s_tl) ++ (wTape t a_tp out.1) ++ (wRoad t a_rd out.2)) := by
  refine Ct.ofW (own := RX7) (cc := cX7_takeMile) (maxL := 3) (ret := none) (by decide) rfl rfl (Nat.le_of_ble_eq_true rfl) ?_
  intro p e s m below meth c A C hP hD ls hl
  have hS : va_S A s.heap s.heap [] := va_S.rf
  obtain ⟨hx, hb, hr, hml, hown, hts, hC0, hlk, hA⟩ := id C
  have hK := hC0.1
  have hl : lv_has ls 3 [(0, .ref (a_tl 0)), (1, .ref (a_rd 0))] := hl
  unfold fX7_takeMile at hf
  refine lv_aload_n hx hb dX7_takeMile_0 rfl (lv_at hl 1 rfl) ?_
  refine va_getN (D := D) (ci := 2) (v := .int (s_rd 0 0)) (C := RX2) (T := TX2) (N := 12) hx hb hts iwX7_takeMile_X2 hown hK hP 3 rfl rfl 8 (by decide) (hC0.2.1.f 25 rfl) (fun _ h9 => h9) rfl dX7_takeMile_1 ?_
  obtain ⟨y1, hy1, hf⟩ := nm_ex hf
  refine W.eq (g2 := F0 m 4 ls [.int y1]) (by rw [hy1]) ?_
  refine lv_istore_n (lv' := [(2, .int y1), (0, .ref (a_tl 0)), (1, .ref (a_rd 0))]) hx hb dX7_takeMile_4 rfl hl (by decide) rfl (fun ls hl => ?_)
  refine lv_iload_n hx hb dX7_takeMile_5 rfl (lv_at hl 0 rfl) ?_
  refine lv_bipush (v := 8) hx hb dX7_takeMile_6 (by decide) ?_
  refine lv_icmp_lt (tgt := 27) hx hb dX7_takeMile_8 (by decide) (fun c2 => ?_) (fun c2 => ?_)
  · rw [if_pos c2] at hf
    refine lv_aload_n hx hb dX7_takeMile_27 rfl (lv_at hl 2 rfl) ?_
    refine va_getN (D := D) (ci := 2) (v := .ref (a_rd 1)) (C := RX2) (T := TX2) (N := 12) hx hb hts iwX7_takeMile_X2 hown hK hP 3 rfl rfl 0 (by decide) (hC0.2.1.f 8 rfl) (fun _ h9 => h9) rfl dX7_takeMile_28 ?_
    refine lv_iload_n hx hb dX7_takeMile_31 rfl (lv_at hl 0 rfl) ?_
    refine lv_aload_n hx hb dX7_takeMile_32 rfl (lv_at hl 1 rfl) ?_
    refine lv_iconst (v := 0) hx hb dX7_takeMile_33 (by decide) ?_
    refine va_getsN hx hb hC0.2.2.2.1.1 hS hown (hC0.2.1.f 47 rfl) (fun _ h9 => h9) dX7_takeMile_34 ?_
    refine lv_iconst (v := 0) hx hb dX7_takeMile_37 (by decide) ?_
    refine va_ti hx hb hC0.2.2.2.1.2 hS (ixb_in (by decide)) rfl dX7_takeMile_38 ?_
    obtain ⟨v3, ev3, hf⟩ := bd_some hf
    refine gk_V C (As := [.int (0 : Int32), .int (tMH.getD (Int32.toNatClampNeg (0 : Int32)) 0)]) (rest := [.int y1, .ref (a_rd 1)]) (ci := 7) (q := (RX7, TX7, 3)) (q0 := 0) (wr := (wRoad t a_rd s_rd)) (wf := ((wTeller t a_tl (a_tp 0) s_tl) ++ (wTape t a_tp v3.2) ++ (wRoad t a_rd s_rd))) (cX7_takeNumber_ok (l := l) (D := D) (t := t) (κ := κ) (a_tl := a_tl) (a_tp := a_tp) ev3) gX7_takeMile_X7_takeNumber rfl ⟨rfl, rfl⟩ hdX7_takeNumber ⟨Nat.le_of_ble_eq_true rfl, Nat.le_of_ble_eq_true rfl⟩ rfl rfl hP hD hS [0, 1, 2] [3, 4, 5, 6, 7, 8, 9, 10, 11] [9, 10, 11, 0, 1, 2, 3, 4, 5, 6, 7, 8] rfl rfl rfl rfl (by decide) rfl rfl rfl hl.1 (Nat.le_of_ble_eq_true rfl) dX7_takeMile_39 (Nat.zero_le _) (Nat.zero_le _) (fun H locs hP hD hS => ?_)
    refine W.eq (g2 := F0 m 42 ls [.int v3.1, .int y1, .ref (a_rd 1)]) rfl ?_
    obtain ⟨b4, hf⟩ := gd_some hf
    obtain ⟨s5, hs5, hf⟩ := nm_ex hf
    refine va_iast hx hb hK hP hD hS 4 0 rfl rfl (ixb_in b4) dX7_takeMile_42 (fun H locs hP hD hS => ?_)
    have hP : va_P D vwCl ((wTeller t a_tl (a_tp 0) s_tl) ++ (wTape t a_tp v3.2) ++ (wRoad t a_rd s5)) H := by rw [hs5]; exact hP
    have hD : va_D A ((wTeller t a_tl (a_tp 0) s_tl) ++ (wTape t a_tp v3.2) ++ (wRoad t a_rd s5)) := by rw [hs5]; exact hD
    refine lv_aload_n hx hb dX7_takeMile_43 rfl (lv_at hl 2 rfl) ?_
    refine va_getN (D := D) (ci := 2) (v := .ref (a_rd 2)) (C := RX2) (T := TX2) (N := 12) hx hb hts iwX7_takeMile_X2 hown hK hP 3 rfl rfl 1 (by decide) (hC0.2.1.f 10 rfl) (fun _ h9 => h9) rfl dX7_takeMile_44 ?_
    refine lv_iload_n hx hb dX7_takeMile_47 rfl (lv_at hl 0 rfl) ?_
    refine lv_aload_n hx hb dX7_takeMile_48 rfl (lv_at hl 1 rfl) ?_
    refine lv_iconst (v := 0) hx hb dX7_takeMile_49 (by decide) ?_
    refine va_getsN hx hb hC0.2.2.2.1.1 hS hown (hC0.2.1.f 47 rfl) (fun _ h9 => h9) dX7_takeMile_50 ?_
    refine lv_iconst (v := 1) hx hb dX7_takeMile_53 (by decide) ?_
    refine va_ti hx hb hC0.2.2.2.1.2 hS (ixb_in (by decide)) rfl dX7_takeMile_54 ?_
    obtain ⟨v6, ev6, hf⟩ := bd_some hf
    refine gk_V C (As := [.int (0 : Int32), .int (tMH.getD (Int32.toNatClampNeg (1 : Int32)) 0)]) (rest := [.int y1, .ref (a_rd 2)]) (ci := 7) (q := (RX7, TX7, 3)) (q0 := 0) (wr := (wRoad t a_rd s5)) (wf := ((wTeller t a_tl (a_tp 0) s_tl) ++ (wTape t a_tp v6.2) ++ (wRoad t a_rd s5))) (cX7_takeNumber_ok (l := l) (D := D) (t := t) (κ := κ) (a_tl := a_tl) (a_tp := a_tp) ev6) gX7_takeMile_X7_takeNumber rfl ⟨rfl, rfl⟩ hdX7_takeNumber ⟨Nat.le_of_ble_eq_true rfl, Nat.le_of_ble_eq_true rfl⟩ rfl rfl hP hD hS [0, 1, 2] [3, 4, 5, 6, 7, 8, 9, 10, 11] [9, 10, 11, 0, 1, 2, 3, 4, 5, 6, 7, 8] rfl rfl rfl rfl (by decide) rfl rfl rfl hl.1 (Nat.le_of_ble_eq_true rfl) dX7_takeMile_55 (Nat.zero_le _) (Nat.zero_le _) (fun H locs hP hD hS => ?_)
    refine W.eq (g2 := F0 m 58 ls [.int v6.1, .int y1, .ref (a_rd 2)]) rfl ?_
    obtain ⟨s7, hs7, hf⟩ := nm_ex hf
    refine va_iast hx hb hK hP hD hS 5 0 rfl rfl (ixb_in b4) dX7_takeMile_58 (fun H locs hP hD hS => ?_)
    have hP : va_P D vwCl ((wTeller t a_tl (a_tp 0) s_tl) ++ (wTape t a_tp v6.2) ++ (wRoad t a_rd s7)) H := by rw [hs7]; exact hP
    have hD : va_D A ((wTeller t a_tl (a_tp 0) s_tl) ++ (wTape t a_tp v6.2) ++ (wRoad t a_rd s7)) := by rw [hs7]; exact hD
    refine lv_aload_n hx hb dX7_takeMile_59 rfl (lv_at hl 2 rfl) ?_
    refine lv_dup hx hb dX7_takeMile_60 rfl ?_
    refine va_getN (D := D) (ci := 2) (v := .int (s7 0 0)) (C := RX2) (T := TX2) (N := 12) hx hb hts iwX7_takeMile_X2 hown hK hP 3 rfl rfl 8 (by decide) (hC0.2.1.f 25 rfl) (fun _ h9 => h9) rfl dX7_takeMile_61 ?_
    refine lv_iconst (v := 1) hx hb dX7_takeMile_64 (by decide) ?_
    refine lv_iadd hx hb dX7_takeMile_65 ?_
    obtain ⟨s8, hs8, hf⟩ := nm_ex hf
    refine va_putN (D := D) (ci := 2) (v := .int ((s7 0 0) + (1 : Int32))) (ty := .int) (C := RX2) (T := TX2) (N := 12) hx hb hts iwX7_takeMile_X2 tyX2 tyX2_ok nmX2 hown hK hP hD hS 3 rfl rfl 8 (by decide) (hC0.2.1.f 25 rfl) (fun _ h9 => h9) rfl (by decide +kernel) rfl rfl (Nat.le_of_ble_eq_true rfl) dX7_takeMile_66 (fun H locs hP hD hS => ?_)
    have hP : va_P D vwCl ((wTeller t a_tl (a_tp 0) s_tl) ++ (wTape t a_tp v6.2) ++ (wRoad t a_rd s8)) H := by rw [hs8]; exact hP
    have hD : va_D A ((wTeller t a_tl (a_tp 0) s_tl) ++ (wTape t a_tp v6.2) ++ (wRoad t a_rd s8)) := by rw [hs8]; exact hD
    obtain rfl := so_eq hf
    exact g_vret C hP hD hS dX7_takeMile_69
  · rw [if_neg c2] at hf
    refine lv_aload_n hx hb dX7_takeMile_11 rfl (lv_at hl 1 rfl) ?_
    refine va_get (D := D) (ci := 7) (v := .ref (a_tp 0)) (C := RX7) (T := TX7) (N := 3) hx hb hts iwX7_takeMile_X7 hown hK hP 0 rfl rfl 0 (by decide) (hts _ lkX7_takeMile_f9) (fun _ h9 => h9) rfl dX7_takeMile_12 ?_
    refine lv_iconst (v := 5) hx hb dX7_takeMile_15 (by decide) ?_
    refine lv_aload_n hx hb dX7_takeMile_16 rfl (lv_at hl 1 rfl) ?_
    refine va_get (D := D) (ci := 7) (v := .ref (a_tp 0)) (C := RX7) (T := TX7) (N := 3) hx hb hts iwX7_takeMile_X7 hown hK hP 0 rfl rfl 0 (by decide) (hts _ lkX7_takeMile_f9) (fun _ h9 => h9) rfl dX7_takeMile_17 ?_
    refine va_getN (D := D) (ci := 6) (v := .int (s_tp 0 2)) (C := RX6) (T := TX6) (N := 7) hx hb hts iwX7_takeMile_X6 hown hK hP 1 rfl rfl 3 (by decide) (hC0.2.1.f 2 rfl) (fun _ h9 => h9) rfl dX7_takeMile_20 ?_
    obtain ⟨v9, ev9, hf⟩ := bd_some hf
    refine gk_V C (As := [.int (5 : Int32), .int (s_tp 0 2)]) (rest := []) (ci := 6) (q := (RX6, TX6, 7)) (q0 := 0) (wr := ((wTeller t a_tl (a_tp 0) s_tl) ++ (wRoad t a_rd s_rd))) (wf := ((wTeller t a_tl (a_tp 0) s_tl) ++ (wTape t a_tp v9) ++ (wRoad t a_rd s_rd))) (cX6_blame_ok (l := l) (D := D) (t := t) (κ := κ) (a_tp := a_tp) ev9) gX7_takeMile_X6_blame rfl ⟨rfl, rfl⟩ hdX6_blame ⟨Nat.le_of_ble_eq_true rfl, Nat.le_of_ble_eq_true rfl⟩ rfl rfl hP hD hS [1, 2] [0, 3, 4, 5, 6, 7, 8, 9, 10, 11] [0, 10, 11, 1, 2, 3, 4, 5, 6, 7, 8, 9] rfl rfl rfl rfl (by decide) rfl rfl rfl hl.1 (Nat.le_of_ble_eq_true rfl) dX7_takeMile_23 (Nat.zero_le _) (Nat.zero_le _) (fun H locs hP hD hS => ?_)
    refine W.eq (g2 := F0 m 26 ls []) rfl ?_
    obtain rfl := so_eq hf
    exact g_vret C hP hD hS dX7_takeMile_26
/-! CoachCourt$Teller.takeMud -/
def fX7_takeMud_32 (s_tl : S2) (s_tp : S2) (s_rd : S2) (x2 : Int32) : Option (S2 × S2) :=
  gd (ixb x2 8) <|
  nm (sE s_rd 3 (Int32.toNatClampNeg x2) (1 : Int32)) fun s6 =>
  some (s_tp, s6)
def fX7_takeMud (s_tl : S2) (s_tp : S2) (s_rd : S2) : Option (S2 × S2) :=
  (fX7_takeNumber s_tl s_tp (0 : Int32) (7 : Int32)).bind fun v1 =>
  nm v1.1 fun y2 =>
  gd (ixb y2 8) <|
  if (s_rd 3 (Int32.toNatClampNeg y2)) = (0 : Int32) then
    (fX7_takeMud_32 s_tl v1.2 s_rd y2)
  else
    ((fX6_blame v1.2 (4 : Int32) (v1.2 0 2)).bind fun v7 =>
    fX7_takeMud_32 s_tl v7 s_rd y2)
theorem hdX7_takeMud : yX7_takeMud.cls = RX7 ∧ yX7_takeMud.cls ≠ "java/lang/invoke/MethodHandle" ∧ yX7_takeMud.cls ≠ "java/lang/invoke/VarHandle" ∧ (parseMethodDescriptor yX7_takeMud.desc).map (fun d => d.parameters.length) = some 1 := by decide +kernel
theorem iwX7_takeMud_X2 : ∀ w ∈ wsX20, w ∈ wsX7_takeMud := by decide +kernel
theorem iwX7_takeMud_X7 : ∀ w ∈ wsX70, w ∈ wsX7_takeMud := by decide +kernel
theorem lkX7_takeMud_f9 : Cond.fieldLink RX7 9 "CoachCourt$Teller" "tape" "LCoachCourt$Tape;" ∈ wsX7_takeMud := by decide +kernel
theorem iwX7_takeMud_X6 : ∀ w ∈ wsX60, w ∈ wsX7_takeMud := by decide +kernel
set_option maxHeartbeats 4000000 in
set_option maxRecDepth 100000 in
theorem wX7_takeMud_32 {p : Program} {l : Launch} {e : Env} {s : State} {m : MethodId} {args : Array Value} {below : List Frame} {meth : Method} {c : Code} {D : va_G} {t : Nat → ClassId} {κ : Nat → Nat} {A : Nat → Prop} {a_tl : Nat → Nat} {a_tp : Nat → Nat} {a_rd : Nat → Nat} {s_tl : S2} {s_tp : S2} {s_rd : S2} {x2 : Int32} {out : S2 × S2} (C : Cxt p s m args meth c cX7_takeMud 3 RX7 wsX7_takeMud none D t κ A) (hf : fX7_takeMud_32 s_tl s_tp s_rd x2 = some out) : ∀ (H : Heap) (locs : List Loc) (ls : Array Slot), va_P D vwCl ((wTeller t a_tl (a_tp 0) s_tl) ++ (wTape t a_tp s_tp) ++ (wRoad t a_rd s_rd)) H → va_D A ((wTeller t a_tl (a_tp 0) s_tl) ++ (wTape t a_tp s_tp) ++ (wRoad t a_rd s_rd)) → va_S A s.heap H locs → lv_has ls 3 [(1, .ref (a_rd 0)), (2, .int x2)] → W p l e (rmL 3) s m args below meth c H locs 0 0 (MQ below (gQ D none ((wTeller t a_tl (a_tp 0) s_tl) ++ (wTape t a_tp out.1) ++ (wRoad t a_rd out.2)) A) args s 0 0 A) (F0 m 32 ls []) := by
  obtain ⟨hx, hb, hr, hml, hown, hts, hC0, hlk, hA⟩ := id C
  have hK := hC0.1
  intro H locs ls hP hD hS hl
  unfold fX7_takeMud_32 at hf
  refine lv_aload_n hx hb dX7_takeMud_32 rfl (lv_at hl 0 rfl) ?_
  refine va_getN (D := D) (ci := 2) (v := .ref (a_rd 3)) (C := RX2) (T := TX2) (N := 12) hx hb hts iwX7_takeMud_X2 hown hK hP 3 rfl rfl 2 (by decide) (hC0.2.1.f 11 rfl) (fun _ h9 => h9) rfl dX7_takeMud_33 ?_
  refine lv_iload_n hx hb dX7_takeMud_36 rfl (lv_at hl 1 rfl) ?_
  refine lv_iconst (v := 1) hx hb dX7_takeMud_37 (by decide) ?_
  obtain ⟨b5, hf⟩ := gd_some hf
  obtain ⟨s6, hs6, hf⟩ := nm_ex hf
  refine va_iast hx hb hK hP hD hS 6 0 rfl rfl (ixb_in b5) dX7_takeMud_38 (fun H locs hP hD hS => ?_)
  have hP : va_P D vwCl ((wTeller t a_tl (a_tp 0) s_tl) ++ (wTape t a_tp s_tp) ++ (wRoad t a_rd s6)) H := by rw [hs6]; exact hP
  have hD : va_D A ((wTeller t a_tl (a_tp 0) s_tl) ++ (wTape t a_tp s_tp) ++ (wRoad t a_rd s6)) := by rw [hs6]; exact hD
  obtain rfl := so_eq hf
  exact g_vret C hP hD hS dX7_takeMud_39
set_option maxHeartbeats 4000000 in
set_option maxRecDepth 100000 in
theorem cX7_takeMud_ok {l : Launch} {D : va_G} {t : Nat → ClassId} {κ : Nat → Nat} {a_tl : Nat → Nat} {a_tp : Nat → Nat} {a_rd : Nat → Nat} {s_tl : S2} {s_tp : S2} {s_rd : S2} {out : S2 × S2} (hf : fX7_takeMud s_tl s_tp s_rd = some out) : Ct l D t κ yX7_takeMud wsX7_takeMud (rmL 3) [.ref (a_tl 0), .ref (a_rd 0)] ((wTeller t a_tl (a_tp 0) s_tl) ++ (wTape t a_tp s_tp) ++ (wRoad t a_rd s_rd)) none ((wTeller t a_tl (a_tp 0) s_tl) ++ (wTape t a_tp out.1) ++ (wRoad t a_rd out.2)) := by
  refine Ct.ofW (own := RX7) (cc := cX7_takeMud) (maxL := 3) (ret := none) (by decide) rfl rfl (Nat.le_of_ble_eq_true rfl) ?_
  intro p e s m below meth c A C hP hD ls hl
  have hS : va_S A s.heap s.heap [] := va_S.rf
  obtain ⟨hx, hb, hr, hml, hown, hts, hC0, hlk, hA⟩ := id C
  have hK := hC0.1
  have hl : lv_has ls 3 [(0, .ref (a_tl 0)), (1, .ref (a_rd 0))] := hl
  unfold fX7_takeMud at hf
  refine lv_aload_n hx hb dX7_takeMud_0 rfl (lv_at hl 0 rfl) ?_
  refine lv_iconst (v := 0) hx hb dX7_takeMud_1 (by decide) ?_
  refine lv_bipush (v := 7) hx hb dX7_takeMud_2 (by decide) ?_
  obtain ⟨v1, ev1, hf⟩ := bd_some hf
  refine gk_V C (As := [.int (0 : Int32), .int (7 : Int32)]) (rest := []) (ci := 7) (q := (RX7, TX7, 3)) (q0 := 0) (wr := (wRoad t a_rd s_rd)) (wf := ((wTeller t a_tl (a_tp 0) s_tl) ++ (wTape t a_tp v1.2) ++ (wRoad t a_rd s_rd))) (cX7_takeNumber_ok (l := l) (D := D) (t := t) (κ := κ) (a_tl := a_tl) (a_tp := a_tp) ev1) gX7_takeMud_X7_takeNumber rfl ⟨rfl, rfl⟩ hdX7_takeNumber ⟨Nat.le_of_ble_eq_true rfl, Nat.le_of_ble_eq_true rfl⟩ rfl rfl hP hD hS [0, 1, 2] [3, 4, 5, 6, 7, 8, 9, 10, 11] [9, 10, 11, 0, 1, 2, 3, 4, 5, 6, 7, 8] rfl rfl rfl rfl (by decide) rfl rfl rfl hl.1 (Nat.le_of_ble_eq_true rfl) dX7_takeMud_4 (Nat.zero_le _) (Nat.zero_le _) (fun H locs hP hD hS => ?_)
  refine W.eq (g2 := F0 m 7 ls [.int v1.1]) rfl ?_
  obtain ⟨y2, hy2, hf⟩ := nm_ex hf
  refine W.eq (g2 := F0 m 7 ls [.int y2]) (by rw [hy2]) ?_
  refine lv_istore_n (lv' := [(2, .int y2), (0, .ref (a_tl 0)), (1, .ref (a_rd 0))]) hx hb dX7_takeMud_7 rfl hl (by decide) rfl (fun ls hl => ?_)
  refine lv_aload_n hx hb dX7_takeMud_8 rfl (lv_at hl 2 rfl) ?_
  refine va_getN (D := D) (ci := 2) (v := .ref (a_rd 3)) (C := RX2) (T := TX2) (N := 12) hx hb hts iwX7_takeMud_X2 hown hK hP 3 rfl rfl 2 (by decide) (hC0.2.1.f 11 rfl) (fun _ h9 => h9) rfl dX7_takeMud_9 ?_
  refine lv_iload_n hx hb dX7_takeMud_12 rfl (lv_at hl 0 rfl) ?_
  obtain ⟨b3, hf⟩ := gd_some hf
  refine va_iald hx hb hK hP 6 0 rfl rfl (ixb_in b3) dX7_takeMud_13 ?_
  refine lv_if_eq (tgt := 32) hx hb dX7_takeMud_14 (by decide) (fun c4 => ?_) (fun c4 => ?_)
  · rw [if_pos c4] at hf
    exact wX7_takeMud_32 C hf _ _ _ hP hD hS (lv_sub hl [2, 0] rfl)
  · rw [if_neg c4] at hf
    refine lv_aload_n hx hb dX7_takeMud_17 rfl (lv_at hl 1 rfl) ?_
    refine va_get (D := D) (ci := 7) (v := .ref (a_tp 0)) (C := RX7) (T := TX7) (N := 3) hx hb hts iwX7_takeMud_X7 hown hK hP 0 rfl rfl 0 (by decide) (hts _ lkX7_takeMud_f9) (fun _ h9 => h9) rfl dX7_takeMud_18 ?_
    refine lv_iconst (v := 4) hx hb dX7_takeMud_21 (by decide) ?_
    refine lv_aload_n hx hb dX7_takeMud_22 rfl (lv_at hl 1 rfl) ?_
    refine va_get (D := D) (ci := 7) (v := .ref (a_tp 0)) (C := RX7) (T := TX7) (N := 3) hx hb hts iwX7_takeMud_X7 hown hK hP 0 rfl rfl 0 (by decide) (hts _ lkX7_takeMud_f9) (fun _ h9 => h9) rfl dX7_takeMud_23 ?_
    refine va_getN (D := D) (ci := 6) (v := .int (v1.2 0 2)) (C := RX6) (T := TX6) (N := 7) hx hb hts iwX7_takeMud_X6 hown hK hP 1 rfl rfl 3 (by decide) (hC0.2.1.f 2 rfl) (fun _ h9 => h9) rfl dX7_takeMud_26 ?_
    obtain ⟨v7, ev7, hf⟩ := bd_some hf
    refine gk_V C (As := [.int (4 : Int32), .int (v1.2 0 2)]) (rest := []) (ci := 6) (q := (RX6, TX6, 7)) (q0 := 0) (wr := ((wTeller t a_tl (a_tp 0) s_tl) ++ (wRoad t a_rd s_rd))) (wf := ((wTeller t a_tl (a_tp 0) s_tl) ++ (wTape t a_tp v7) ++ (wRoad t a_rd s_rd))) (cX6_blame_ok (l := l) (D := D) (t := t) (κ := κ) (a_tp := a_tp) ev7) gX7_takeMud_X6_blame rfl ⟨rfl, rfl⟩ hdX6_blame ⟨Nat.le_of_ble_eq_true rfl, Nat.le_of_ble_eq_true rfl⟩ rfl rfl hP hD hS [1, 2] [0, 3, 4, 5, 6, 7, 8, 9, 10, 11] [0, 10, 11, 1, 2, 3, 4, 5, 6, 7, 8, 9] rfl rfl rfl rfl (by decide) rfl rfl rfl hl.1 (Nat.le_of_ble_eq_true rfl) dX7_takeMud_29 (Nat.zero_le _) (Nat.zero_le _) (fun H locs hP hD hS => ?_)
    refine W.eq (g2 := F0 m 32 ls []) rfl ?_
    exact wX7_takeMud_32 C hf _ _ _ hP hD hS (lv_sub hl [2, 0] rfl)
/-! CoachCourt$Teller.takeParty -/
def fX7_takeParty_b36 (s_tl : S2) (s_tp : S2) (s_rd : S2) (x3 : Int32) (x4 : Int32) : Option ((Int32 × S2 × S2) ⊕ (Int32 × S2 × S2)) :=
  if (4 : Int32) < x4 then
    (some (.inr (x4, s_tp, s_rd)))
  else
    (if x4 = 0 then
      (gd (ixb x4 5) <|
      (fX7_takeNumber s_tl s_tp (tPL.getD (Int32.toNatClampNeg x4) 0) (tPH.getD (Int32.toNatClampNeg x4) 0)).bind fun v9 =>
      gd (ixb x3 4) <|
      nm (sE s_rd 4 (Int32.toNatClampNeg x3) v9.1) fun s11 =>
      nm (x4 + (1 : Int32)) fun y12 =>
      some (.inl (y12, v9.2, s11)))
    else
    if x4 = 1 then
      (gd (ixb x4 5) <|
      (fX7_takeNumber s_tl s_tp (tPL.getD (Int32.toNatClampNeg x4) 0) (tPH.getD (Int32.toNatClampNeg x4) 0)).bind fun v15 =>
      gd (ixb x3 4) <|
      nm (sE s_rd 5 (Int32.toNatClampNeg x3) v15.1) fun s17 =>
      nm (x4 + (1 : Int32)) fun y18 =>
      some (.inl (y18, v15.2, s17)))
    else
    if x4 = 2 then
      (gd (ixb x4 5) <|
      (fX7_takeNumber s_tl s_tp (tPL.getD (Int32.toNatClampNeg x4) 0) (tPH.getD (Int32.toNatClampNeg x4) 0)).bind fun v21 =>
      gd (ixb x3 4) <|
      nm (sE s_rd 6 (Int32.toNatClampNeg x3) v21.1) fun s23 =>
      nm (x4 + (1 : Int32)) fun y24 =>
      some (.inl (y24, v21.2, s23)))
    else
    if x4 = 3 then
      (gd (ixb x4 5) <|
      (fX7_takeNumber s_tl s_tp (tPL.getD (Int32.toNatClampNeg x4) 0) (tPH.getD (Int32.toNatClampNeg x4) 0)).bind fun v27 =>
      gd (ixb x3 4) <|
      nm (sE s_rd 7 (Int32.toNatClampNeg x3) v27.1) fun s29 =>
      nm (x4 + (1 : Int32)) fun y30 =>
      some (.inl (y30, v27.2, s29)))
    else
    (gd (ixb x4 5) <|
    (fX7_takeNumber s_tl s_tp (tPL.getD (Int32.toNatClampNeg x4) 0) (tPH.getD (Int32.toNatClampNeg x4) 0)).bind fun v32 =>
    gd (ixb x3 4) <|
    nm (sE s_rd 8 (Int32.toNatClampNeg x3) v32.1) fun s34 =>
    nm (x4 + (1 : Int32)) fun y35 =>
    some (.inl (y35, v32.2, s34))))
def fX7_takeParty (s_tl : S2) (s_tp : S2) (s_rd : S2) (p2 : Int32) : Option (S2 × S2) :=
  nm (s_rd 0 1) fun y1 =>
  if y1 < (4 : Int32) then
    (gd (ixb y1 4) <|
    nm (sE s_rd 4 (Int32.toNatClampNeg y1) p2) fun s4 =>
    (wh (fun (c : Int32 × S2 × S2) => fX7_takeParty_b36 s_tl c.2.1 c.2.2 y1 c.1) 5000 ((1 : Int32), s_tp, s4)).bind fun x36 =>
    nm (sE x36.2.2 0 1 ((x36.2.2 0 1) + (1 : Int32))) fun s37 =>
    some (x36.2.1, s37))
  else
    ((fX6_blame s_tp (5 : Int32) (s_tp 0 2)).bind fun v38 =>
    some (v38, s_rd))
theorem hdX7_takeParty : yX7_takeParty.cls = RX7 ∧ yX7_takeParty.cls ≠ "java/lang/invoke/MethodHandle" ∧ yX7_takeParty.cls ≠ "java/lang/invoke/VarHandle" ∧ (parseMethodDescriptor yX7_takeParty.desc).map (fun d => d.parameters.length) = some 2 := by decide +kernel
theorem iwX7_takeParty_X2 : ∀ w ∈ wsX20, w ∈ wsX7_takeParty := by decide +kernel
theorem iwX7_takeParty_X7 : ∀ w ∈ wsX70, w ∈ wsX7_takeParty := by decide +kernel
theorem lkX7_takeParty_f9 : Cond.fieldLink RX7 9 "CoachCourt$Teller" "tape" "LCoachCourt$Tape;" ∈ wsX7_takeParty := by decide +kernel
theorem iwX7_takeParty_X6 : ∀ w ∈ wsX60, w ∈ wsX7_takeParty := by decide +kernel
set_option maxHeartbeats 4000000 in
set_option maxRecDepth 100000 in
theorem wX7_takeParty_l36 {p : Program} {l : Launch} {e : Env} {s : State} {m : MethodId} {args : Array Value} {below : List Frame} {meth : Method} {c : Code} {D : va_G} {t : Nat → ClassId} {κ : Nat → Nat} {A : Nat → Prop} {a_tl : Nat → Nat} {a_tp : Nat → Nat} {a_rd : Nat → Nat} {s_tl : S2} {x3 : Int32} {rv : Option Value} {w1 : va_W} (C : Cxt p s m args meth c cX7_takeParty 5 RX7 wsX7_takeParty none D t κ A) : ∀ (n : Nat) (x4 : Int32) (s_tp : S2) (s_rd : S2) (x : Int32 × S2 × S2), wh (fun (c : Int32 × S2 × S2) => fX7_takeParty_b36 s_tl c.2.1 c.2.2 x3 c.1) n (x4, s_tp, s_rd) = some x → (∀ (z : Int32 × S2 × S2), x = z → ∀ (H : Heap) (locs : List Loc) (ls : Array Slot), va_P D vwCl ((wTeller t a_tl (a_tp 0) s_tl) ++ (wTape t a_tp z.2.1) ++ (wRoad t a_rd z.2.2)) H → va_D A ((wTeller t a_tl (a_tp 0) s_tl) ++ (wTape t a_tp z.2.1) ++ (wRoad t a_rd z.2.2)) → va_S A s.heap H locs → lv_has ls 5 [(1, .ref (a_rd 0))] → W p l e (rmL 3) s m args below meth c H locs 0 0 (MQ below (gQ D rv w1 A) args s 0 0 A) (F0 m 72 ls [])) → ∀ (H : Heap) (locs : List Loc) (ls : Array Slot), va_P D vwCl ((wTeller t a_tl (a_tp 0) s_tl) ++ (wTape t a_tp s_tp) ++ (wRoad t a_rd s_rd)) H → va_D A ((wTeller t a_tl (a_tp 0) s_tl) ++ (wTape t a_tp s_tp) ++ (wRoad t a_rd s_rd)) → va_S A s.heap H locs → lv_has ls 5 [(0, .ref (a_tl 0)), (1, .ref (a_rd 0)), (3, .int x3), (4, .int x4)] → W p l e (rmL 3) s m args below meth c H locs 0 0 (MQ below (gQ D rv w1 A) args s 0 0 A) (F0 m 36 ls []) := by
  obtain ⟨hx, hb, hr, hml, hown, hts, hC0, hlk, hA⟩ := id C
  have hK := hC0.1
  intro n
  induction n with
  | zero =>
    intro x4 s_tp s_rd x h
    exact (wh_0 h).elim
  | succ n ih =>
    intro x4 s_tp s_rd x h HX H locs ls hP hD hS hl
    obtain ⟨v, hf, hB, hX⟩ := wh_step h
    have hf : fX7_takeParty_b36 s_tl s_tp s_rd x3 x4 = some v := hf
    have HB : ∀ (z : Int32 × S2 × S2), v = .inl z → ∀ (H : Heap) (locs : List Loc) (ls : Array Slot), va_P D vwCl ((wTeller t a_tl (a_tp 0) s_tl) ++ (wTape t a_tp z.2.1) ++ (wRoad t a_rd z.2.2)) H → va_D A ((wTeller t a_tl (a_tp 0) s_tl) ++ (wTape t a_tp z.2.1) ++ (wRoad t a_rd z.2.2)) → va_S A s.heap H locs → lv_has ls 5 [(0, .ref (a_tl 0)), (1, .ref (a_rd 0)), (3, .int x3), (4, .int z.1)] → W p l e (rmL 3) s m args below meth c H locs 0 0 (MQ below (gQ D rv w1 A) args s 0 0 A) (F0 m 36 ls []) := fun z hz H locs ls hP hD hS hl => ih z.1 z.2.1 z.2.2 x (hB z hz) HX H locs ls hP hD hS hl
    have HX : ∀ (z : Int32 × S2 × S2), v = .inr z → ∀ (H : Heap) (locs : List Loc) (ls : Array Slot), va_P D vwCl ((wTeller t a_tl (a_tp 0) s_tl) ++ (wTape t a_tp z.2.1) ++ (wRoad t a_rd z.2.2)) H → va_D A ((wTeller t a_tl (a_tp 0) s_tl) ++ (wTape t a_tp z.2.1) ++ (wRoad t a_rd z.2.2)) → va_S A s.heap H locs → lv_has ls 5 [(1, .ref (a_rd 0))] → W p l e (rmL 3) s m args below meth c H locs 0 0 (MQ below (gQ D rv w1 A) args s 0 0 A) (F0 m 72 ls []) := fun z hz => HX z (hX _ hz).symm
    unfold fX7_takeParty_b36 at hf
    refine lv_iload hx hb dX7_takeParty_36 (lv_at hl 3 rfl) ?_
    refine lv_iconst (v := 4) hx hb dX7_takeParty_38 (by decide) ?_
    refine lv_icmp_gt (tgt := 72) hx hb dX7_takeParty_39 (by decide) (fun c5 => ?_) (fun c5 => ?_)
    · rw [if_pos c5] at hf
      obtain rfl := so_eq hf
      exact HX _ rfl _ _ _ hP hD hS (lv_sub hl [1] rfl)
    · rw [if_neg c5] at hf
      refine lv_aload_n hx hb dX7_takeParty_42 rfl (lv_at hl 1 rfl) ?_
      refine lv_iload hx hb dX7_takeParty_43 (lv_at hl 3 rfl) ?_
      refine gk_V C (As := [.int x4]) (rest := []) (ci := 2) (q := (RX2, TX2, 12)) (q0 := 0) (wr := ((wTeller t a_tl (a_tp 0) s_tl) ++ (wTape t a_tp s_tp))) (wf := ((wTeller t a_tl (a_tp 0) s_tl) ++ (wTape t a_tp s_tp) ++ (wRoad t a_rd s_rd))) (cX2_partyRow_ok (l := l) (D := D) (t := t) (κ := κ) (a_rd := a_rd) (s_rd := s_rd) (p1 := x4)) gX7_takeParty_X2_partyRow rfl ⟨rfl, rfl⟩ hdX2_partyRow ⟨Nat.le_of_ble_eq_true rfl, Nat.le_of_ble_eq_true rfl⟩ rfl rfl hP hD hS [3, 4, 5, 6, 7, 8, 9, 10, 11] [0, 1, 2] [0, 1, 2, 3, 4, 5, 6, 7, 8, 9, 10, 11] rfl rfl rfl rfl (by decide) rfl rfl rfl hl.1 (Nat.le_of_ble_eq_true rfl) dX7_takeParty_45 (Nat.zero_le _) (Nat.zero_le _) (fun H locs hP hD hS => ?_)
      by_cases c7 : x4 = 0
      · rw [if_pos c7] at hf
        refine W.eq (g2 := F0 m 48 ls [.ref (a_rd 4)]) (by rw [c7]; rfl) ?_
        refine lv_iload_n hx hb dX7_takeParty_48 rfl (lv_at hl 2 rfl) ?_
        refine lv_aload_n hx hb dX7_takeParty_49 rfl (lv_at hl 0 rfl) ?_
        refine va_getsN hx hb hC0.2.2.2.2.1.1 hS hown (hC0.2.1.f 48 rfl) (fun _ h9 => h9) dX7_takeParty_50 ?_
        refine lv_iload hx hb dX7_takeParty_53 (lv_at hl 3 rfl) ?_
        obtain ⟨b8, hf⟩ := gd_some hf
        refine va_ti hx hb hC0.2.2.2.2.1.2 hS (ixb_in b8) rfl dX7_takeParty_55 ?_
        refine va_getsN hx hb hC0.2.2.2.2.2.1.1 hS hown (hC0.2.1.f 49 rfl) (fun _ h9 => h9) dX7_takeParty_56 ?_
        refine lv_iload hx hb dX7_takeParty_59 (lv_at hl 3 rfl) ?_
        refine va_ti hx hb hC0.2.2.2.2.2.1.2 hS (ixb_in b8) rfl dX7_takeParty_61 ?_
        obtain ⟨v9, ev9, hf⟩ := bd_some hf
        refine gk_V C (As := [.int (tPL.getD (Int32.toNatClampNeg x4) 0), .int (tPH.getD (Int32.toNatClampNeg x4) 0)]) (rest := [.int x3, .ref (a_rd 4)]) (ci := 7) (q := (RX7, TX7, 3)) (q0 := 0) (wr := (wRoad t a_rd s_rd)) (wf := ((wTeller t a_tl (a_tp 0) s_tl) ++ (wTape t a_tp v9.2) ++ (wRoad t a_rd s_rd))) (cX7_takeNumber_ok (l := l) (D := D) (t := t) (κ := κ) (a_tl := a_tl) (a_tp := a_tp) ev9) gX7_takeParty_X7_takeNumber rfl ⟨rfl, rfl⟩ hdX7_takeNumber ⟨Nat.le_of_ble_eq_true rfl, Nat.le_of_ble_eq_true rfl⟩ rfl rfl hP hD hS [0, 1, 2] [3, 4, 5, 6, 7, 8, 9, 10, 11] [9, 10, 11, 0, 1, 2, 3, 4, 5, 6, 7, 8] rfl rfl rfl rfl (by decide) rfl rfl rfl hl.1 (Nat.le_of_ble_eq_true rfl) dX7_takeParty_62 (Nat.zero_le _) (Nat.zero_le _) (fun H locs hP hD hS => ?_)
        refine W.eq (g2 := F0 m 65 ls [.int v9.1, .int x3, .ref (a_rd 4)]) rfl ?_
        obtain ⟨b10, hf⟩ := gd_some hf
        obtain ⟨s11, hs11, hf⟩ := nm_ex hf
        refine va_iast hx hb hK hP hD hS 7 0 rfl rfl (ixb_in b10) dX7_takeParty_65 (fun H locs hP hD hS => ?_)
        have hP : va_P D vwCl ((wTeller t a_tl (a_tp 0) s_tl) ++ (wTape t a_tp v9.2) ++ (wRoad t a_rd s11)) H := by rw [hs11]; exact hP
        have hD : va_D A ((wTeller t a_tl (a_tp 0) s_tl) ++ (wTape t a_tp v9.2) ++ (wRoad t a_rd s11)) := by rw [hs11]; exact hD
        obtain ⟨y12, hy12, hf⟩ := nm_ex hf
        refine lv_iinc (v := y12) (lv' := [(4, .int y12), (0, .ref (a_tl 0)), (1, .ref (a_rd 0)), (3, .int x3)]) hx hb dX7_takeParty_66 hl (k := 3) rfl (by rw [hy12]; rfl) (by decide) rfl (fun ls hl => ?_)
        refine lv_goto (tgt := 36) hx hb dX7_takeParty_69 (by decide) ?_
        obtain rfl := so_eq hf
        exact HB _ rfl _ _ _ hP hD hS (lv_sub hl [1, 2, 3, 0] rfl)
      rw [if_neg c7] at hf
      by_cases c13 : x4 = 1
      · rw [if_pos c13] at hf
        refine W.eq (g2 := F0 m 48 ls [.ref (a_rd 5)]) (by rw [c13]; rfl) ?_
        refine lv_iload_n hx hb dX7_takeParty_48 rfl (lv_at hl 2 rfl) ?_
        refine lv_aload_n hx hb dX7_takeParty_49 rfl (lv_at hl 0 rfl) ?_
        refine va_getsN hx hb hC0.2.2.2.2.1.1 hS hown (hC0.2.1.f 48 rfl) (fun _ h9 => h9) dX7_takeParty_50 ?_
        refine lv_iload hx hb dX7_takeParty_53 (lv_at hl 3 rfl) ?_
        obtain ⟨b14, hf⟩ := gd_some hf
        refine va_ti hx hb hC0.2.2.2.2.1.2 hS (ixb_in b14) rfl dX7_takeParty_55 ?_
        refine va_getsN hx hb hC0.2.2.2.2.2.1.1 hS hown (hC0.2.1.f 49 rfl) (fun _ h9 => h9) dX7_takeParty_56 ?_
        refine lv_iload hx hb dX7_takeParty_59 (lv_at hl 3 rfl) ?_
        refine va_ti hx hb hC0.2.2.2.2.2.1.2 hS (ixb_in b14) rfl dX7_takeParty_61 ?_
        obtain ⟨v15, ev15, hf⟩ := bd_some hf
        refine gk_V C (As := [.int (tPL.getD (Int32.toNatClampNeg x4) 0), .int (tPH.getD (Int32.toNatClampNeg x4) 0)]) (rest := [.int x3, .ref (a_rd 5)]) (ci := 7) (q := (RX7, TX7, 3)) (q0 := 0) (wr := (wRoad t a_rd s_rd)) (wf := ((wTeller t a_tl (a_tp 0) s_tl) ++ (wTape t a_tp v15.2) ++ (wRoad t a_rd s_rd))) (cX7_takeNumber_ok (l := l) (D := D) (t := t) (κ := κ) (a_tl := a_tl) (a_tp := a_tp) ev15) gX7_takeParty_X7_takeNumber rfl ⟨rfl, rfl⟩ hdX7_takeNumber ⟨Nat.le_of_ble_eq_true rfl, Nat.le_of_ble_eq_true rfl⟩ rfl rfl hP hD hS [0, 1, 2] [3, 4, 5, 6, 7, 8, 9, 10, 11] [9, 10, 11, 0, 1, 2, 3, 4, 5, 6, 7, 8] rfl rfl rfl rfl (by decide) rfl rfl rfl hl.1 (Nat.le_of_ble_eq_true rfl) dX7_takeParty_62 (Nat.zero_le _) (Nat.zero_le _) (fun H locs hP hD hS => ?_)
        refine W.eq (g2 := F0 m 65 ls [.int v15.1, .int x3, .ref (a_rd 5)]) rfl ?_
        obtain ⟨b16, hf⟩ := gd_some hf
        obtain ⟨s17, hs17, hf⟩ := nm_ex hf
        refine va_iast hx hb hK hP hD hS 8 0 rfl rfl (ixb_in b16) dX7_takeParty_65 (fun H locs hP hD hS => ?_)
        have hP : va_P D vwCl ((wTeller t a_tl (a_tp 0) s_tl) ++ (wTape t a_tp v15.2) ++ (wRoad t a_rd s17)) H := by rw [hs17]; exact hP
        have hD : va_D A ((wTeller t a_tl (a_tp 0) s_tl) ++ (wTape t a_tp v15.2) ++ (wRoad t a_rd s17)) := by rw [hs17]; exact hD
        obtain ⟨y18, hy18, hf⟩ := nm_ex hf
        refine lv_iinc (v := y18) (lv' := [(4, .int y18), (0, .ref (a_tl 0)), (1, .ref (a_rd 0)), (3, .int x3)]) hx hb dX7_takeParty_66 hl (k := 3) rfl (by rw [hy18]; rfl) (by decide) rfl (fun ls hl => ?_)
        refine lv_goto (tgt := 36) hx hb dX7_takeParty_69 (by decide) ?_
        obtain rfl := so_eq hf
        exact HB _ rfl _ _ _ hP hD hS (lv_sub hl [1, 2, 3, 0] rfl)
      rw [if_neg c13] at hf
      by_cases c19 : x4 = 2
      · rw [if_pos c19] at hf
        refine W.eq (g2 := F0 m 48 ls [.ref (a_rd 6)]) (by rw [c19]; rfl) ?_
        refine lv_iload_n hx hb dX7_takeParty_48 rfl (lv_at hl 2 rfl) ?_
        refine lv_aload_n hx hb dX7_takeParty_49 rfl (lv_at hl 0 rfl) ?_
        refine va_getsN hx hb hC0.2.2.2.2.1.1 hS hown (hC0.2.1.f 48 rfl) (fun _ h9 => h9) dX7_takeParty_50 ?_
        refine lv_iload hx hb dX7_takeParty_53 (lv_at hl 3 rfl) ?_
        obtain ⟨b20, hf⟩ := gd_some hf
        refine va_ti hx hb hC0.2.2.2.2.1.2 hS (ixb_in b20) rfl dX7_takeParty_55 ?_
        refine va_getsN hx hb hC0.2.2.2.2.2.1.1 hS hown (hC0.2.1.f 49 rfl) (fun _ h9 => h9) dX7_takeParty_56 ?_
        refine lv_iload hx hb dX7_takeParty_59 (lv_at hl 3 rfl) ?_
        refine va_ti hx hb hC0.2.2.2.2.2.1.2 hS (ixb_in b20) rfl dX7_takeParty_61 ?_
        obtain ⟨v21, ev21, hf⟩ := bd_some hf
        refine gk_V C (As := [.int (tPL.getD (Int32.toNatClampNeg x4) 0), .int (tPH.getD (Int32.toNatClampNeg x4) 0)]) (rest := [.int x3, .ref (a_rd 6)]) (ci := 7) (q := (RX7, TX7, 3)) (q0 := 0) (wr := (wRoad t a_rd s_rd)) (wf := ((wTeller t a_tl (a_tp 0) s_tl) ++ (wTape t a_tp v21.2) ++ (wRoad t a_rd s_rd))) (cX7_takeNumber_ok (l := l) (D := D) (t := t) (κ := κ) (a_tl := a_tl) (a_tp := a_tp) ev21) gX7_takeParty_X7_takeNumber rfl ⟨rfl, rfl⟩ hdX7_takeNumber ⟨Nat.le_of_ble_eq_true rfl, Nat.le_of_ble_eq_true rfl⟩ rfl rfl hP hD hS [0, 1, 2] [3, 4, 5, 6, 7, 8, 9, 10, 11] [9, 10, 11, 0, 1, 2, 3, 4, 5, 6, 7, 8] rfl rfl rfl rfl (by decide) rfl rfl rfl hl.1 (Nat.le_of_ble_eq_true rfl) dX7_takeParty_62 (Nat.zero_le _) (Nat.zero_le _) (fun H locs hP hD hS => ?_)
        refine W.eq (g2 := F0 m 65 ls [.int v21.1, .int x3, .ref (a_rd 6)]) rfl ?_
        obtain ⟨b22, hf⟩ := gd_some hf
        obtain ⟨s23, hs23, hf⟩ := nm_ex hf
        refine va_iast hx hb hK hP hD hS 9 0 rfl rfl (ixb_in b22) dX7_takeParty_65 (fun H locs hP hD hS => ?_)
        have hP : va_P D vwCl ((wTeller t a_tl (a_tp 0) s_tl) ++ (wTape t a_tp v21.2) ++ (wRoad t a_rd s23)) H := by rw [hs23]; exact hP
        have hD : va_D A ((wTeller t a_tl (a_tp 0) s_tl) ++ (wTape t a_tp v21.2) ++ (wRoad t a_rd s23)) := by rw [hs23]; exact hD
        obtain ⟨y24, hy24, hf⟩ := nm_ex hf
        refine lv_iinc (v := y24) (lv' := [(4, .int y24), (0, .ref (a_tl 0)), (1, .ref (a_rd 0)), (3, .int x3)]) hx hb dX7_takeParty_66 hl (k := 3) rfl (by rw [hy24]; rfl) (by decide) rfl (fun ls hl => ?_)
        refine lv_goto (tgt := 36) hx hb dX7_takeParty_69 (by decide) ?_
        obtain rfl := so_eq hf
        exact HB _ rfl _ _ _ hP hD hS (lv_sub hl [1, 2, 3, 0] rfl)
      rw [if_neg c19] at hf
      by_cases c25 : x4 = 3
      · rw [if_pos c25] at hf
        refine W.eq (g2 := F0 m 48 ls [.ref (a_rd 7)]) (by rw [c25]; rfl) ?_
        refine lv_iload_n hx hb dX7_takeParty_48 rfl (lv_at hl 2 rfl) ?_
        refine lv_aload_n hx hb dX7_takeParty_49 rfl (lv_at hl 0 rfl) ?_
        refine va_getsN hx hb hC0.2.2.2.2.1.1 hS hown (hC0.2.1.f 48 rfl) (fun _ h9 => h9) dX7_takeParty_50 ?_
        refine lv_iload hx hb dX7_takeParty_53 (lv_at hl 3 rfl) ?_
        obtain ⟨b26, hf⟩ := gd_some hf
        refine va_ti hx hb hC0.2.2.2.2.1.2 hS (ixb_in b26) rfl dX7_takeParty_55 ?_
        refine va_getsN hx hb hC0.2.2.2.2.2.1.1 hS hown (hC0.2.1.f 49 rfl) (fun _ h9 => h9) dX7_takeParty_56 ?_
        refine lv_iload hx hb dX7_takeParty_59 (lv_at hl 3 rfl) ?_
        refine va_ti hx hb hC0.2.2.2.2.2.1.2 hS (ixb_in b26) rfl dX7_takeParty_61 ?_
        obtain ⟨v27, ev27, hf⟩ := bd_some hf
        refine gk_V C (As := [.int (tPL.getD (Int32.toNatClampNeg x4) 0), .int (tPH.getD (Int32.toNatClampNeg x4) 0)]) (rest := [.int x3, .ref (a_rd 7)]) (ci := 7) (q := (RX7, TX7, 3)) (q0 := 0) (wr := (wRoad t a_rd s_rd)) (wf := ((wTeller t a_tl (a_tp 0) s_tl) ++ (wTape t a_tp v27.2) ++ (wRoad t a_rd s_rd))) (cX7_takeNumber_ok (l := l) (D := D) (t := t) (κ := κ) (a_tl := a_tl) (a_tp := a_tp) ev27) gX7_takeParty_X7_takeNumber rfl ⟨rfl, rfl⟩ hdX7_takeNumber ⟨Nat.le_of_ble_eq_true rfl, Nat.le_of_ble_eq_true rfl⟩ rfl rfl hP hD hS [0, 1, 2] [3, 4, 5, 6, 7, 8, 9, 10, 11] [9, 10, 11, 0, 1, 2, 3, 4, 5, 6, 7, 8] rfl rfl rfl rfl (by decide) rfl rfl rfl hl.1 (Nat.le_of_ble_eq_true rfl) dX7_takeParty_62 (Nat.zero_le _) (Nat.zero_le _) (fun H locs hP hD hS => ?_)
        refine W.eq (g2 := F0 m 65 ls [.int v27.1, .int x3, .ref (a_rd 7)]) rfl ?_
        obtain ⟨b28, hf⟩ := gd_some hf
        obtain ⟨s29, hs29, hf⟩ := nm_ex hf
        refine va_iast hx hb hK hP hD hS 10 0 rfl rfl (ixb_in b28) dX7_takeParty_65 (fun H locs hP hD hS => ?_)
        have hP : va_P D vwCl ((wTeller t a_tl (a_tp 0) s_tl) ++ (wTape t a_tp v27.2) ++ (wRoad t a_rd s29)) H := by rw [hs29]; exact hP
        have hD : va_D A ((wTeller t a_tl (a_tp 0) s_tl) ++ (wTape t a_tp v27.2) ++ (wRoad t a_rd s29)) := by rw [hs29]; exact hD
        obtain ⟨y30, hy30, hf⟩ := nm_ex hf
        refine lv_iinc (v := y30) (lv' := [(4, .int y30), (0, .ref (a_tl 0)), (1, .ref (a_rd 0)), (3, .int x3)]) hx hb dX7_takeParty_66 hl (k := 3) rfl (by rw [hy30]; rfl) (by decide) rfl (fun ls hl => ?_)
        refine lv_goto (tgt := 36) hx hb dX7_takeParty_69 (by decide) ?_
        obtain rfl := so_eq hf
        exact HB _ rfl _ _ _ hP hD hS (lv_sub hl [1, 2, 3, 0] rfl)
      rw [if_neg c25] at hf
      refine W.eq (g2 := F0 m 48 ls [.ref (a_rd 8)]) (by rw [selX2_partyRow_d c7 c13 c19 c25]; rfl) ?_
      refine lv_iload_n hx hb dX7_takeParty_48 rfl (lv_at hl 2 rfl) ?_
      refine lv_aload_n hx hb dX7_takeParty_49 rfl (lv_at hl 0 rfl) ?_
      refine va_getsN hx hb hC0.2.2.2.2.1.1 hS hown (hC0.2.1.f 48 rfl) (fun _ h9 => h9) dX7_takeParty_50 ?_
      refine lv_iload hx hb dX7_takeParty_53 (lv_at hl 3 rfl) ?_
      obtain ⟨b31, hf⟩ := gd_some hf
      refine va_ti hx hb hC0.2.2.2.2.1.2 hS (ixb_in b31) rfl dX7_takeParty_55 ?_
      refine va_getsN hx hb hC0.2.2.2.2.2.1.1 hS hown (hC0.2.1.f 49 rfl) (fun _ h9 => h9) dX7_takeParty_56 ?_
      refine lv_iload hx hb dX7_takeParty_59 (lv_at hl 3 rfl) ?_
      refine va_ti hx hb hC0.2.2.2.2.2.1.2 hS (ixb_in b31) rfl dX7_takeParty_61 ?_
      obtain ⟨v32, ev32, hf⟩ := bd_some hf
      refine gk_V C (As := [.int (tPL.getD (Int32.toNatClampNeg x4) 0), .int (tPH.getD (Int32.toNatClampNeg x4) 0)]) (rest := [.int x3, .ref (a_rd 8)]) (ci := 7) (q := (RX7, TX7, 3)) (q0 := 0) (wr := (wRoad t a_rd s_rd)) (wf := ((wTeller t a_tl (a_tp 0) s_tl) ++ (wTape t a_tp v32.2) ++ (wRoad t a_rd s_rd))) (cX7_takeNumber_ok (l := l) (D := D) (t := t) (κ := κ) (a_tl := a_tl) (a_tp := a_tp) ev32) gX7_takeParty_X7_takeNumber rfl ⟨rfl, rfl⟩ hdX7_takeNumber ⟨Nat.le_of_ble_eq_true rfl, Nat.le_of_ble_eq_true rfl⟩ rfl rfl hP hD hS [0, 1, 2] [3, 4, 5, 6, 7, 8, 9, 10, 11] [9, 10, 11, 0, 1, 2, 3, 4, 5, 6, 7, 8] rfl rfl rfl rfl (by decide) rfl rfl rfl hl.1 (Nat.le_of_ble_eq_true rfl) dX7_takeParty_62 (Nat.zero_le _) (Nat.zero_le _) (fun H locs hP hD hS => ?_)
      refine W.eq (g2 := F0 m 65 ls [.int v32.1, .int x3, .ref (a_rd 8)]) rfl ?_
      obtain ⟨b33, hf⟩ := gd_some hf
      obtain ⟨s34, hs34, hf⟩ := nm_ex hf
      refine va_iast hx hb hK hP hD hS 11 0 rfl rfl (ixb_in b33) dX7_takeParty_65 (fun H locs hP hD hS => ?_)
      have hP : va_P D vwCl ((wTeller t a_tl (a_tp 0) s_tl) ++ (wTape t a_tp v32.2) ++ (wRoad t a_rd s34)) H := by rw [hs34]; exact hP
      have hD : va_D A ((wTeller t a_tl (a_tp 0) s_tl) ++ (wTape t a_tp v32.2) ++ (wRoad t a_rd s34)) := by rw [hs34]; exact hD
      obtain ⟨y35, hy35, hf⟩ := nm_ex hf
      refine lv_iinc (v := y35) (lv' := [(4, .int y35), (0, .ref (a_tl 0)), (1, .ref (a_rd 0)), (3, .int x3)]) hx hb dX7_takeParty_66 hl (k := 3) rfl (by rw [hy35]; rfl) (by decide) rfl (fun ls hl => ?_)
      refine lv_goto (tgt := 36) hx hb dX7_takeParty_69 (by decide) ?_
      obtain rfl := so_eq hf
      exact HB _ rfl _ _ _ hP hD hS (lv_sub hl [1, 2, 3, 0] rfl)
set_option maxHeartbeats 4000000 in
set_option maxRecDepth 100000 in
theorem cX7_takeParty_ok {l : Launch} {D : va_G} {t : Nat → ClassId} {κ : Nat → Nat} {a_tl : Nat → Nat} {a_tp : Nat → Nat} {a_rd : Nat → Nat} {s_tl : S2} {s_tp : S2} {s_rd : S2} {p2 : Int32} {out : S2 × S2} (hf : fX7_takeParty s_tl s_tp s_rd p2 = some out) : Ct l D t κ yX7_takeParty wsX7_takeParty (rmL 3) [.ref (a_tl 0), .ref (a_rd 0), .int p2] ((wTeller t a_tl (a_tp 0) s_tl) ++ (wTape t a_tp s_tp) ++ (wRoad t a_rd s_rd)) none ((wTeller t a_tl (a_tp 0) s_tl) ++ (wTape t a_tp out.1) ++ (wRoad t a_rd out.2)) := by
  refine Ct.ofW (own := RX7) (cc := cX7_takeParty) (maxL := 5) (ret := none) (by decide) rfl rfl (Nat.le_of_ble_eq_true rfl) ?_
  intro p e s m below meth c A C hP hD ls hl
  have hS : va_S A s.heap s.heap [] := va_S.rf
  obtain ⟨hx, hb, hr, hml, hown, hts, hC0, hlk, hA⟩ := id C
  have hK := hC0.1
  have hl : lv_has ls 5 [(0, .ref (a_tl 0)), (1, .ref (a_rd 0)), (2, .int p2)] := hl
  unfold fX7_takeParty at hf
  refine lv_aload_n hx hb dX7_takeParty_0 rfl (lv_at hl 1 rfl) ?_
  refine va_getN (D := D) (ci := 2) (v := .int (s_rd 0 1)) (C := RX2) (T := TX2) (N := 12) hx hb hts iwX7_takeParty_X2 hown hK hP 3 rfl rfl 9 (by decide) (hC0.2.1.f 28 rfl) (fun _ h9 => h9) rfl dX7_takeParty_1 ?_
  obtain ⟨y1, hy1, hf⟩ := nm_ex hf
  refine W.eq (g2 := F0 m 4 ls [.int y1]) (by rw [hy1]) ?_
  refine lv_istore_n (lv' := [(3, .int y1), (0, .ref (a_tl 0)), (1, .ref (a_rd 0)), (2, .int p2)]) hx hb dX7_takeParty_4 rfl hl (by decide) rfl (fun ls hl => ?_)
  refine lv_iload_n hx hb dX7_takeParty_5 rfl (lv_at hl 0 rfl) ?_
  refine lv_iconst (v := 4) hx hb dX7_takeParty_6 (by decide) ?_
  refine lv_icmp_lt (tgt := 26) hx hb dX7_takeParty_7 (by decide) (fun c2 => ?_) (fun c2 => ?_)
  · rw [if_pos c2] at hf
    refine lv_aload_n hx hb dX7_takeParty_26 rfl (lv_at hl 2 rfl) ?_
    refine va_getN (D := D) (ci := 2) (v := .ref (a_rd 4)) (C := RX2) (T := TX2) (N := 12) hx hb hts iwX7_takeParty_X2 hown hK hP 3 rfl rfl 3 (by decide) (hC0.2.1.f 14 rfl) (fun _ h9 => h9) rfl dX7_takeParty_27 ?_
    refine lv_iload_n hx hb dX7_takeParty_30 rfl (lv_at hl 0 rfl) ?_
    refine lv_iload_n hx hb dX7_takeParty_31 rfl (lv_at hl 3 rfl) ?_
    obtain ⟨b3, hf⟩ := gd_some hf
    obtain ⟨s4, hs4, hf⟩ := nm_ex hf
    refine va_iast hx hb hK hP hD hS 7 0 rfl rfl (ixb_in b3) dX7_takeParty_32 (fun H locs hP hD hS => ?_)
    have hP : va_P D vwCl ((wTeller t a_tl (a_tp 0) s_tl) ++ (wTape t a_tp s_tp) ++ (wRoad t a_rd s4)) H := by rw [hs4]; exact hP
    have hD : va_D A ((wTeller t a_tl (a_tp 0) s_tl) ++ (wTape t a_tp s_tp) ++ (wRoad t a_rd s4)) := by rw [hs4]; exact hD
    refine lv_iconst (v := 1) hx hb dX7_takeParty_33 (by decide) ?_
    refine lv_istore (lv' := [(4, .int (1 : Int32)), (3, .int y1), (0, .ref (a_tl 0)), (1, .ref (a_rd 0)), (2, .int p2)]) hx hb dX7_takeParty_34 hl (by decide) rfl (fun ls hl => ?_)
    obtain ⟨x36, ex36, hf⟩ := bd_some hf
    refine wX7_takeParty_l36 C 5000 (1 : Int32) s_tp s4 x36 ex36 (fun c9 h9 H locs ls hP hD hS hl => ?_) _ _ _ hP hD hS (lv_sub hl [2, 3, 1, 0] rfl)
    subst h9
    refine lv_aload_n hx hb dX7_takeParty_72 rfl (lv_at hl 0 rfl) ?_
    refine lv_dup hx hb dX7_takeParty_73 rfl ?_
    refine va_getN (D := D) (ci := 2) (v := .int (x36.2.2 0 1)) (C := RX2) (T := TX2) (N := 12) hx hb hts iwX7_takeParty_X2 hown hK hP 3 rfl rfl 9 (by decide) (hC0.2.1.f 28 rfl) (fun _ h9 => h9) rfl dX7_takeParty_74 ?_
    refine lv_iconst (v := 1) hx hb dX7_takeParty_77 (by decide) ?_
    refine lv_iadd hx hb dX7_takeParty_78 ?_
    obtain ⟨s37, hs37, hf⟩ := nm_ex hf
    refine va_putN (D := D) (ci := 2) (v := .int ((x36.2.2 0 1) + (1 : Int32))) (ty := .int) (C := RX2) (T := TX2) (N := 12) hx hb hts iwX7_takeParty_X2 tyX2 tyX2_ok nmX2 hown hK hP hD hS 3 rfl rfl 9 (by decide) (hC0.2.1.f 28 rfl) (fun _ h9 => h9) rfl (by decide +kernel) rfl rfl (Nat.le_of_ble_eq_true rfl) dX7_takeParty_79 (fun H locs hP hD hS => ?_)
    have hP : va_P D vwCl ((wTeller t a_tl (a_tp 0) s_tl) ++ (wTape t a_tp x36.2.1) ++ (wRoad t a_rd s37)) H := by rw [hs37]; exact hP
    have hD : va_D A ((wTeller t a_tl (a_tp 0) s_tl) ++ (wTape t a_tp x36.2.1) ++ (wRoad t a_rd s37)) := by rw [hs37]; exact hD
    obtain rfl := so_eq hf
    exact g_vret C hP hD hS dX7_takeParty_82
  · rw [if_neg c2] at hf
    refine lv_aload_n hx hb dX7_takeParty_10 rfl (lv_at hl 1 rfl) ?_
    refine va_get (D := D) (ci := 7) (v := .ref (a_tp 0)) (C := RX7) (T := TX7) (N := 3) hx hb hts iwX7_takeParty_X7 hown hK hP 0 rfl rfl 0 (by decide) (hts _ lkX7_takeParty_f9) (fun _ h9 => h9) rfl dX7_takeParty_11 ?_
    refine lv_iconst (v := 5) hx hb dX7_takeParty_14 (by decide) ?_
    refine lv_aload_n hx hb dX7_takeParty_15 rfl (lv_at hl 1 rfl) ?_
    refine va_get (D := D) (ci := 7) (v := .ref (a_tp 0)) (C := RX7) (T := TX7) (N := 3) hx hb hts iwX7_takeParty_X7 hown hK hP 0 rfl rfl 0 (by decide) (hts _ lkX7_takeParty_f9) (fun _ h9 => h9) rfl dX7_takeParty_16 ?_
    refine va_getN (D := D) (ci := 6) (v := .int (s_tp 0 2)) (C := RX6) (T := TX6) (N := 7) hx hb hts iwX7_takeParty_X6 hown hK hP 1 rfl rfl 3 (by decide) (hC0.2.1.f 2 rfl) (fun _ h9 => h9) rfl dX7_takeParty_19 ?_
    obtain ⟨v38, ev38, hf⟩ := bd_some hf
    refine gk_V C (As := [.int (5 : Int32), .int (s_tp 0 2)]) (rest := []) (ci := 6) (q := (RX6, TX6, 7)) (q0 := 0) (wr := ((wTeller t a_tl (a_tp 0) s_tl) ++ (wRoad t a_rd s_rd))) (wf := ((wTeller t a_tl (a_tp 0) s_tl) ++ (wTape t a_tp v38) ++ (wRoad t a_rd s_rd))) (cX6_blame_ok (l := l) (D := D) (t := t) (κ := κ) (a_tp := a_tp) ev38) gX7_takeParty_X6_blame rfl ⟨rfl, rfl⟩ hdX6_blame ⟨Nat.le_of_ble_eq_true rfl, Nat.le_of_ble_eq_true rfl⟩ rfl rfl hP hD hS [1, 2] [0, 3, 4, 5, 6, 7, 8, 9, 10, 11] [0, 10, 11, 1, 2, 3, 4, 5, 6, 7, 8, 9] rfl rfl rfl rfl (by decide) rfl rfl rfl hl.1 (Nat.le_of_ble_eq_true rfl) dX7_takeParty_22 (Nat.zero_le _) (Nat.zero_le _) (fun H locs hP hD hS => ?_)
    refine W.eq (g2 := F0 m 25 ls []) rfl ?_
    obtain rfl := so_eq hf
    exact g_vret C hP hD hS dX7_takeParty_25
/-! CoachCourt$Teller.takeRoom -/
def fX7_takeRoom_22 (s_tl : S2) (s_tp : S2) (s_rd : S2) : Option (S2 × S2 × S2) :=
  nm (sE s_tl 0 0 (1 : Int32)) fun s2 =>
  (fX7_takeNumber s2 s_tp (1 : Int32) (4 : Int32)).bind fun v3 =>
  nm (sE s_rd 0 2 v3.1) fun s4 =>
  some (s2, v3.2, s4)
def fX7_takeRoom (s_tl : S2) (s_tp : S2) (s_rd : S2) : Option (S2 × S2 × S2) :=
  if (s_tl 0 0) = (0 : Int32) then
    (fX7_takeRoom_22 s_tl s_tp s_rd)
  else
    ((fX6_blame s_tp (4 : Int32) (s_tp 0 2)).bind fun v5 =>
    fX7_takeRoom_22 s_tl v5 s_rd)
theorem hdX7_takeRoom : yX7_takeRoom.cls = RX7 ∧ yX7_takeRoom.cls ≠ "java/lang/invoke/MethodHandle" ∧ yX7_takeRoom.cls ≠ "java/lang/invoke/VarHandle" ∧ (parseMethodDescriptor yX7_takeRoom.desc).map (fun d => d.parameters.length) = some 1 := by decide +kernel
theorem iwX7_takeRoom_X7 : ∀ w ∈ wsX70, w ∈ wsX7_takeRoom := by decide +kernel
theorem lkX7_takeRoom_f25 : Cond.fieldLink RX7 25 "CoachCourt$Teller" "roomTold" "Z" ∈ wsX7_takeRoom := by decide +kernel
theorem iwX7_takeRoom_X2 : ∀ w ∈ wsX20, w ∈ wsX7_takeRoom := by decide +kernel
theorem lkX7_takeRoom_f9 : Cond.fieldLink RX7 9 "CoachCourt$Teller" "tape" "LCoachCourt$Tape;" ∈ wsX7_takeRoom := by decide +kernel
theorem iwX7_takeRoom_X6 : ∀ w ∈ wsX60, w ∈ wsX7_takeRoom := by decide +kernel
set_option maxHeartbeats 4000000 in
set_option maxRecDepth 100000 in
theorem wX7_takeRoom_22 {p : Program} {l : Launch} {e : Env} {s : State} {m : MethodId} {args : Array Value} {below : List Frame} {meth : Method} {c : Code} {D : va_G} {t : Nat → ClassId} {κ : Nat → Nat} {A : Nat → Prop} {a_tl : Nat → Nat} {a_tp : Nat → Nat} {a_rd : Nat → Nat} {s_tl : S2} {s_tp : S2} {s_rd : S2} {out : S2 × S2 × S2} (C : Cxt p s m args meth c cX7_takeRoom 2 RX7 wsX7_takeRoom none D t κ A) (hf : fX7_takeRoom_22 s_tl s_tp s_rd = some out) : ∀ (H : Heap) (locs : List Loc) (ls : Array Slot), va_P D vwCl ((wTeller t a_tl (a_tp 0) s_tl) ++ (wTape t a_tp s_tp) ++ (wRoad t a_rd s_rd)) H → va_D A ((wTeller t a_tl (a_tp 0) s_tl) ++ (wTape t a_tp s_tp) ++ (wRoad t a_rd s_rd)) → va_S A s.heap H locs → lv_has ls 2 [(0, .ref (a_tl 0)), (1, .ref (a_rd 0))] → W p l e (rmL 3) s m args below meth c H locs 0 0 (MQ below (gQ D none ((wTeller t a_tl (a_tp 0) out.1) ++ (wTape t a_tp out.2.1) ++ (wRoad t a_rd out.2.2)) A) args s 0 0 A) (F0 m 22 ls []) := by
  obtain ⟨hx, hb, hr, hml, hown, hts, hC0, hlk, hA⟩ := id C
  have hK := hC0.1
  intro H locs ls hP hD hS hl
  unfold fX7_takeRoom_22 at hf
  refine lv_aload_n hx hb dX7_takeRoom_22 rfl (lv_at hl 0 rfl) ?_
  refine lv_iconst (v := 1) hx hb dX7_takeRoom_23 (by decide) ?_
  obtain ⟨s2, hs2, hf⟩ := nm_ex hf
  refine va_put (D := D) (ci := 7) (v := .int (1 : Int32)) (ty := .boolean) (C := RX7) (T := TX7) (N := 3) hx hb hts iwX7_takeRoom_X7 tyX7 tyX7_ok nmX7 hown hK hP hD hS 0 rfl rfl 1 (by decide) (hts _ lkX7_takeRoom_f25) (fun _ h9 => h9) rfl (by decide +kernel) rfl rfl (Nat.le_of_ble_eq_true rfl) dX7_takeRoom_24 (fun H locs hP hD hS => ?_)
  have hP : va_P D vwCl ((wTeller t a_tl (a_tp 0) s2) ++ (wTape t a_tp s_tp) ++ (wRoad t a_rd s_rd)) H := by rw [hs2]; exact hP
  have hD : va_D A ((wTeller t a_tl (a_tp 0) s2) ++ (wTape t a_tp s_tp) ++ (wRoad t a_rd s_rd)) := by rw [hs2]; exact hD
  refine lv_aload_n hx hb dX7_takeRoom_27 rfl (lv_at hl 1 rfl) ?_
  refine lv_aload_n hx hb dX7_takeRoom_28 rfl (lv_at hl 0 rfl) ?_
  refine lv_iconst (v := 1) hx hb dX7_takeRoom_29 (by decide) ?_
  refine lv_iconst (v := 4) hx hb dX7_takeRoom_30 (by decide) ?_
  obtain ⟨v3, ev3, hf⟩ := bd_some hf
  refine gk_V C (As := [.int (1 : Int32), .int (4 : Int32)]) (rest := [.ref (a_rd 0)]) (ci := 7) (q := (RX7, TX7, 3)) (q0 := 0) (wr := (wRoad t a_rd s_rd)) (wf := ((wTeller t a_tl (a_tp 0) s2) ++ (wTape t a_tp v3.2) ++ (wRoad t a_rd s_rd))) (cX7_takeNumber_ok (l := l) (D := D) (t := t) (κ := κ) (a_tl := a_tl) (a_tp := a_tp) ev3) gX7_takeRoom_X7_takeNumber rfl ⟨rfl, rfl⟩ hdX7_takeNumber ⟨Nat.le_of_ble_eq_true rfl, Nat.le_of_ble_eq_true rfl⟩ rfl rfl hP hD hS [0, 1, 2] [3, 4, 5, 6, 7, 8, 9, 10, 11] [9, 10, 11, 0, 1, 2, 3, 4, 5, 6, 7, 8] rfl rfl rfl rfl (by decide) rfl rfl rfl hl.1 (Nat.le_of_ble_eq_true rfl) dX7_takeRoom_31 (Nat.zero_le _) (Nat.zero_le _) (fun H locs hP hD hS => ?_)
  refine W.eq (g2 := F0 m 34 ls [.int v3.1, .ref (a_rd 0)]) rfl ?_
  obtain ⟨s4, hs4, hf⟩ := nm_ex hf
  refine va_putN (D := D) (ci := 2) (v := .int v3.1) (ty := .int) (C := RX2) (T := TX2) (N := 12) hx hb hts iwX7_takeRoom_X2 tyX2 tyX2_ok nmX2 hown hK hP hD hS 3 rfl rfl 10 (by decide) (hC0.2.1.f 31 rfl) (fun _ h9 => h9) rfl (by decide +kernel) rfl rfl (Nat.le_of_ble_eq_true rfl) dX7_takeRoom_34 (fun H locs hP hD hS => ?_)
  have hP : va_P D vwCl ((wTeller t a_tl (a_tp 0) s2) ++ (wTape t a_tp v3.2) ++ (wRoad t a_rd s4)) H := by rw [hs4]; exact hP
  have hD : va_D A ((wTeller t a_tl (a_tp 0) s2) ++ (wTape t a_tp v3.2) ++ (wRoad t a_rd s4)) := by rw [hs4]; exact hD
  obtain rfl := so_eq hf
  exact g_vret C hP hD hS dX7_takeRoom_37
set_option maxHeartbeats 4000000 in
set_option maxRecDepth 100000 in
theorem cX7_takeRoom_ok {l : Launch} {D : va_G} {t : Nat → ClassId} {κ : Nat → Nat} {a_tl : Nat → Nat} {a_tp : Nat → Nat} {a_rd : Nat → Nat} {s_tl : S2} {s_tp : S2} {s_rd : S2} {out : S2 × S2 × S2} (hf : fX7_takeRoom s_tl s_tp s_rd = some out) : Ct l D t κ yX7_takeRoom wsX7_takeRoom (rmL 3) [.ref (a_tl 0), .ref (a_rd 0)] ((wTeller t a_tl (a_tp 0) s_tl) ++ (wTape t a_tp s_tp) ++ (wRoad t a_rd s_rd)) none ((wTeller t a_tl (a_tp 0) out.1) ++ (wTape t a_tp out.2.1) ++ (wRoad t a_rd out.2.2)) := by
  refine Ct.ofW (own := RX7) (cc := cX7_takeRoom) (maxL := 2) (ret := none) (by decide) rfl rfl (Nat.le_of_ble_eq_true rfl) ?_
  intro p e s m below meth c A C hP hD ls hl
  have hS : va_S A s.heap s.heap [] := va_S.rf
  obtain ⟨hx, hb, hr, hml, hown, hts, hC0, hlk, hA⟩ := id C
  have hK := hC0.1
  have hl : lv_has ls 2 [(0, .ref (a_tl 0)), (1, .ref (a_rd 0))] := hl
  unfold fX7_takeRoom at hf
  refine lv_aload_n hx hb dX7_takeRoom_0 rfl (lv_at hl 0 rfl) ?_
  refine va_get (D := D) (ci := 7) (v := .int (s_tl 0 0)) (C := RX7) (T := TX7) (N := 3) hx hb hts iwX7_takeRoom_X7 hown hK hP 0 rfl rfl 1 (by decide) (hts _ lkX7_takeRoom_f25) (fun _ h9 => h9) rfl dX7_takeRoom_1 ?_
  refine lv_if_eq (tgt := 22) hx hb dX7_takeRoom_4 (by decide) (fun c1 => ?_) (fun c1 => ?_)
  · rw [if_pos c1] at hf
    exact wX7_takeRoom_22 C hf _ _ _ hP hD hS (lv_sub hl [0, 1] rfl)
  · rw [if_neg c1] at hf
    refine lv_aload_n hx hb dX7_takeRoom_7 rfl (lv_at hl 0 rfl) ?_
    refine va_get (D := D) (ci := 7) (v := .ref (a_tp 0)) (C := RX7) (T := TX7) (N := 3) hx hb hts iwX7_takeRoom_X7 hown hK hP 0 rfl rfl 0 (by decide) (hts _ lkX7_takeRoom_f9) (fun _ h9 => h9) rfl dX7_takeRoom_8 ?_
    refine lv_iconst (v := 4) hx hb dX7_takeRoom_11 (by decide) ?_
    refine lv_aload_n hx hb dX7_takeRoom_12 rfl (lv_at hl 0 rfl) ?_
    refine va_get (D := D) (ci := 7) (v := .ref (a_tp 0)) (C := RX7) (T := TX7) (N := 3) hx hb hts iwX7_takeRoom_X7 hown hK hP 0 rfl rfl 0 (by decide) (hts _ lkX7_takeRoom_f9) (fun _ h9 => h9) rfl dX7_takeRoom_13 ?_
    refine va_getN (D := D) (ci := 6) (v := .int (s_tp 0 2)) (C := RX6) (T := TX6) (N := 7) hx hb hts iwX7_takeRoom_X6 hown hK hP 1 rfl rfl 3 (by decide) (hC0.2.1.f 2 rfl) (fun _ h9 => h9) rfl dX7_takeRoom_16 ?_
    obtain ⟨v5, ev5, hf⟩ := bd_some hf
    refine gk_V C (As := [.int (4 : Int32), .int (s_tp 0 2)]) (rest := []) (ci := 6) (q := (RX6, TX6, 7)) (q0 := 0) (wr := ((wTeller t a_tl (a_tp 0) s_tl) ++ (wRoad t a_rd s_rd))) (wf := ((wTeller t a_tl (a_tp 0) s_tl) ++ (wTape t a_tp v5) ++ (wRoad t a_rd s_rd))) (cX6_blame_ok (l := l) (D := D) (t := t) (κ := κ) (a_tp := a_tp) ev5) gX7_takeRoom_X6_blame rfl ⟨rfl, rfl⟩ hdX6_blame ⟨Nat.le_of_ble_eq_true rfl, Nat.le_of_ble_eq_true rfl⟩ rfl rfl hP hD hS [1, 2] [0, 3, 4, 5, 6, 7, 8, 9, 10, 11] [0, 10, 11, 1, 2, 3, 4, 5, 6, 7, 8, 9] rfl rfl rfl rfl (by decide) rfl rfl rfl hl.1 (Nat.le_of_ble_eq_true rfl) dX7_takeRoom_19 (Nat.zero_le _) (Nat.zero_le _) (fun H locs hP hD hS => ?_)
    refine W.eq (g2 := F0 m 22 ls []) rfl ?_
    exact wX7_takeRoom_22 C hf _ _ _ hP hD hS (lv_sub hl [0, 1] rfl)
/-! CoachCourt$Teller.takeSnow -/
def fX7_takeSnow_22 (s_tl : S2) (s_tp : S2) (s_rd : S2) : Option (S2 × S2 × S2) :=
  nm (sE s_tl 0 1 (1 : Int32)) fun s2 =>
  (fX7_takeNumber s2 s_tp (0 : Int32) (99 : Int32)).bind fun v3 =>
  nm (sE s_rd 0 3 v3.1) fun s4 =>
  some (s2, v3.2, s4)
def fX7_takeSnow (s_tl : S2) (s_tp : S2) (s_rd : S2) : Option (S2 × S2 × S2) :=
  if (s_tl 0 1) = (0 : Int32) then
    (fX7_takeSnow_22 s_tl s_tp s_rd)
  else
    ((fX6_blame s_tp (4 : Int32) (s_tp 0 2)).bind fun v5 =>
    fX7_takeSnow_22 s_tl v5 s_rd)
theorem hdX7_takeSnow : yX7_takeSnow.cls = RX7 ∧ yX7_takeSnow.cls ≠ "java/lang/invoke/MethodHandle" ∧ yX7_takeSnow.cls ≠ "java/lang/invoke/VarHandle" ∧ (parseMethodDescriptor yX7_takeSnow.desc).map (fun d => d.parameters.length) = some 1 := by decide +kernel
theorem iwX7_takeSnow_X7 : ∀ w ∈ wsX70, w ∈ wsX7_takeSnow := by decide +kernel
theorem lkX7_takeSnow_f29 : Cond.fieldLink RX7 29 "CoachCourt$Teller" "snowTold" "Z" ∈ wsX7_takeSnow := by decide +kernel
theorem iwX7_takeSnow_X2 : ∀ w ∈ wsX20, w ∈ wsX7_takeSnow := by decide +kernel
theorem lkX7_takeSnow_f9 : Cond.fieldLink RX7 9 "CoachCourt$Teller" "tape" "LCoachCourt$Tape;" ∈ wsX7_takeSnow := by decide +kernel
theorem iwX7_takeSnow_X6 : ∀ w ∈ wsX60, w ∈ wsX7_takeSnow := by decide +kernel
set_option maxHeartbeats 4000000 in
set_option maxRecDepth 100000 in
theorem wX7_takeSnow_22 {p : Program} {l : Launch} {e : Env} {s : State} {m : MethodId} {args : Array Value} {below : List Frame} {meth : Method} {c : Code} {D : va_G} {t : Nat → ClassId} {κ : Nat → Nat} {A : Nat → Prop} {a_tl : Nat → Nat} {a_tp : Nat → Nat} {a_rd : Nat → Nat} {s_tl : S2} {s_tp : S2} {s_rd : S2} {out : S2 × S2 × S2} (C : Cxt p s m args meth c cX7_takeSnow 2 RX7 wsX7_takeSnow none D t κ A) (hf : fX7_takeSnow_22 s_tl s_tp s_rd = some out) : ∀ (H : Heap) (locs : List Loc) (ls : Array Slot), va_P D vwCl ((wTeller t a_tl (a_tp 0) s_tl) ++ (wTape t a_tp s_tp) ++ (wRoad t a_rd s_rd)) H → va_D A ((wTeller t a_tl (a_tp 0) s_tl) ++ (wTape t a_tp s_tp) ++ (wRoad t a_rd s_rd)) → va_S A s.heap H locs → lv_has ls 2 [(0, .ref (a_tl 0)), (1, .ref (a_rd 0))] → W p l e (rmL 3) s m args below meth c H locs 0 0 (MQ below (gQ D none ((wTeller t a_tl (a_tp 0) out.1) ++ (wTape t a_tp out.2.1) ++ (wRoad t a_rd out.2.2)) A) args s 0 0 A) (F0 m 22 ls []) := by
  obtain ⟨hx, hb, hr, hml, hown, hts, hC0, hlk, hA⟩ := id C
  have hK := hC0.1
  intro H locs ls hP hD hS hl
  unfold fX7_takeSnow_22 at hf
  refine lv_aload_n hx hb dX7_takeSnow_22 rfl (lv_at hl 0 rfl) ?_
  refine lv_iconst (v := 1) hx hb dX7_takeSnow_23 (by decide) ?_
  obtain ⟨s2, hs2, hf⟩ := nm_ex hf
  refine va_put (D := D) (ci := 7) (v := .int (1 : Int32)) (ty := .boolean) (C := RX7) (T := TX7) (N := 3) hx hb hts iwX7_takeSnow_X7 tyX7 tyX7_ok nmX7 hown hK hP hD hS 0 rfl rfl 2 (by decide) (hts _ lkX7_takeSnow_f29) (fun _ h9 => h9) rfl (by decide +kernel) rfl rfl (Nat.le_of_ble_eq_true rfl) dX7_takeSnow_24 (fun H locs hP hD hS => ?_)
  have hP : va_P D vwCl ((wTeller t a_tl (a_tp 0) s2) ++ (wTape t a_tp s_tp) ++ (wRoad t a_rd s_rd)) H := by rw [hs2]; exact hP
  have hD : va_D A ((wTeller t a_tl (a_tp 0) s2) ++ (wTape t a_tp s_tp) ++ (wRoad t a_rd s_rd)) := by rw [hs2]; exact hD
  refine lv_aload_n hx hb dX7_takeSnow_27 rfl (lv_at hl 1 rfl) ?_
  refine lv_aload_n hx hb dX7_takeSnow_28 rfl (lv_at hl 0 rfl) ?_
  refine lv_iconst (v := 0) hx hb dX7_takeSnow_29 (by decide) ?_
  refine lv_bipush (v := 99) hx hb dX7_takeSnow_30 (by decide) ?_
  obtain ⟨v3, ev3, hf⟩ := bd_some hf
  refine gk_V C (As := [.int (0 : Int32), .int (99 : Int32)]) (rest := [.ref (a_rd 0)]) (ci := 7) (q := (RX7, TX7, 3)) (q0 := 0) (wr := (wRoad t a_rd s_rd)) (wf := ((wTeller t a_tl (a_tp 0) s2) ++ (wTape t a_tp v3.2) ++ (wRoad t a_rd s_rd))) (cX7_takeNumber_ok (l := l) (D := D) (t := t) (κ := κ) (a_tl := a_tl) (a_tp := a_tp) ev3) gX7_takeSnow_X7_takeNumber rfl ⟨rfl, rfl⟩ hdX7_takeNumber ⟨Nat.le_of_ble_eq_true rfl, Nat.le_of_ble_eq_true rfl⟩ rfl rfl hP hD hS [0, 1, 2] [3, 4, 5, 6, 7, 8, 9, 10, 11] [9, 10, 11, 0, 1, 2, 3, 4, 5, 6, 7, 8] rfl rfl rfl rfl (by decide) rfl rfl rfl hl.1 (Nat.le_of_ble_eq_true rfl) dX7_takeSnow_32 (Nat.zero_le _) (Nat.zero_le _) (fun H locs hP hD hS => ?_)
  refine W.eq (g2 := F0 m 35 ls [.int v3.1, .ref (a_rd 0)]) rfl ?_
  obtain ⟨s4, hs4, hf⟩ := nm_ex hf
  refine va_putN (D := D) (ci := 2) (v := .int v3.1) (ty := .int) (C := RX2) (T := TX2) (N := 12) hx hb hts iwX7_takeSnow_X2 tyX2 tyX2_ok nmX2 hown hK hP hD hS 3 rfl rfl 11 (by decide) (hC0.2.1.f 33 rfl) (fun _ h9 => h9) rfl (by decide +kernel) rfl rfl (Nat.le_of_ble_eq_true rfl) dX7_takeSnow_35 (fun H locs hP hD hS => ?_)
  have hP : va_P D vwCl ((wTeller t a_tl (a_tp 0) s2) ++ (wTape t a_tp v3.2) ++ (wRoad t a_rd s4)) H := by rw [hs4]; exact hP
  have hD : va_D A ((wTeller t a_tl (a_tp 0) s2) ++ (wTape t a_tp v3.2) ++ (wRoad t a_rd s4)) := by rw [hs4]; exact hD
  obtain rfl := so_eq hf
  exact g_vret C hP hD hS dX7_takeSnow_38
set_option maxHeartbeats 4000000 in
set_option maxRecDepth 100000 in
theorem cX7_takeSnow_ok {l : Launch} {D : va_G} {t : Nat → ClassId} {κ : Nat → Nat} {a_tl : Nat → Nat} {a_tp : Nat → Nat} {a_rd : Nat → Nat} {s_tl : S2} {s_tp : S2} {s_rd : S2} {out : S2 × S2 × S2} (hf : fX7_takeSnow s_tl s_tp s_rd = some out) : Ct l D t κ yX7_takeSnow wsX7_takeSnow (rmL 3) [.ref (a_tl 0), .ref (a_rd 0)] ((wTeller t a_tl (a_tp 0) s_tl) ++ (wTape t a_tp s_tp) ++ (wRoad t a_rd s_rd)) none ((wTeller t a_tl (a_tp 0) out.1) ++ (wTape t a_tp out.2.1) ++ (wRoad t a_rd out.2.2)) := by
  refine Ct.ofW (own := RX7) (cc := cX7_takeSnow) (maxL := 2) (ret := none) (by decide) rfl rfl (Nat.le_of_ble_eq_true rfl) ?_
  intro p e s m below meth c A C hP hD ls hl
  have hS : va_S A s.heap s.heap [] := va_S.rf
  obtain ⟨hx, hb, hr, hml, hown, hts, hC0, hlk, hA⟩ := id C
  have hK := hC0.1
  have hl : lv_has ls 2 [(0, .ref (a_tl 0)), (1, .ref (a_rd 0))] := hl
  unfold fX7_takeSnow at hf
  refine lv_aload_n hx hb dX7_takeSnow_0 rfl (lv_at hl 0 rfl) ?_
  refine va_get (D := D) (ci := 7) (v := .int (s_tl 0 1)) (C := RX7) (T := TX7) (N := 3) hx hb hts iwX7_takeSnow_X7 hown hK hP 0 rfl rfl 2 (by decide) (hts _ lkX7_takeSnow_f29) (fun _ h9 => h9) rfl dX7_takeSnow_1 ?_
  refine lv_if_eq (tgt := 22) hx hb dX7_takeSnow_4 (by decide) (fun c1 => ?_) (fun c1 => ?_)
  · rw [if_pos c1] at hf
    exact wX7_takeSnow_22 C hf _ _ _ hP hD hS (lv_sub hl [0, 1] rfl)
  · rw [if_neg c1] at hf
    refine lv_aload_n hx hb dX7_takeSnow_7 rfl (lv_at hl 0 rfl) ?_
    refine va_get (D := D) (ci := 7) (v := .ref (a_tp 0)) (C := RX7) (T := TX7) (N := 3) hx hb hts iwX7_takeSnow_X7 hown hK hP 0 rfl rfl 0 (by decide) (hts _ lkX7_takeSnow_f9) (fun _ h9 => h9) rfl dX7_takeSnow_8 ?_
    refine lv_iconst (v := 4) hx hb dX7_takeSnow_11 (by decide) ?_
    refine lv_aload_n hx hb dX7_takeSnow_12 rfl (lv_at hl 0 rfl) ?_
    refine va_get (D := D) (ci := 7) (v := .ref (a_tp 0)) (C := RX7) (T := TX7) (N := 3) hx hb hts iwX7_takeSnow_X7 hown hK hP 0 rfl rfl 0 (by decide) (hts _ lkX7_takeSnow_f9) (fun _ h9 => h9) rfl dX7_takeSnow_13 ?_
    refine va_getN (D := D) (ci := 6) (v := .int (s_tp 0 2)) (C := RX6) (T := TX6) (N := 7) hx hb hts iwX7_takeSnow_X6 hown hK hP 1 rfl rfl 3 (by decide) (hC0.2.1.f 2 rfl) (fun _ h9 => h9) rfl dX7_takeSnow_16 ?_
    obtain ⟨v5, ev5, hf⟩ := bd_some hf
    refine gk_V C (As := [.int (4 : Int32), .int (s_tp 0 2)]) (rest := []) (ci := 6) (q := (RX6, TX6, 7)) (q0 := 0) (wr := ((wTeller t a_tl (a_tp 0) s_tl) ++ (wRoad t a_rd s_rd))) (wf := ((wTeller t a_tl (a_tp 0) s_tl) ++ (wTape t a_tp v5) ++ (wRoad t a_rd s_rd))) (cX6_blame_ok (l := l) (D := D) (t := t) (κ := κ) (a_tp := a_tp) ev5) gX7_takeSnow_X6_blame rfl ⟨rfl, rfl⟩ hdX6_blame ⟨Nat.le_of_ble_eq_true rfl, Nat.le_of_ble_eq_true rfl⟩ rfl rfl hP hD hS [1, 2] [0, 3, 4, 5, 6, 7, 8, 9, 10, 11] [0, 10, 11, 1, 2, 3, 4, 5, 6, 7, 8, 9] rfl rfl rfl rfl (by decide) rfl rfl rfl hl.1 (Nat.le_of_ble_eq_true rfl) dX7_takeSnow_19 (Nat.zero_le _) (Nat.zero_le _) (fun H locs hP hD hS => ?_)
    refine W.eq (g2 := F0 m 22 ls []) rfl ?_
    exact wX7_takeSnow_22 C hf _ _ _ hP hD hS (lv_sub hl [0, 1] rfl)
/-! CoachCourt$Teller.lineOfName -/
def fX7_lineOfName (s_tl : S2) (s_tp : S2) : Option (Int32) :=
  (fX6_tokenSpells s_tp 0).bind fun v1 =>
  if v1 = (0 : Int32) then
    ((fX6_tokenSpells s_tp 1).bind fun v3 =>
    if v3 = (0 : Int32) then
      ((fX6_tokenSpells s_tp 2).bind fun v5 =>
      if v5 = (0 : Int32) then
        ((fX6_tokenSpells s_tp 3).bind fun v7 =>
        if v7 = (0 : Int32) then
          ((fX6_tokenSpells s_tp 4).bind fun v9 =>
          if v9 = (0 : Int32) then
            ((fX6_tokenSpells s_tp 5).bind fun v11 =>
            if v11 = (0 : Int32) then
              ((fX6_tokenSpells s_tp 6).bind fun v13 =>
              if v13 = (0 : Int32) then
                ((fX6_tokenSpells s_tp 7).bind fun v15 =>
                if v15 = (0 : Int32) then
                  (some (8 : Int32))
                else
                  (some (7 : Int32)))
              else
                (some (6 : Int32)))
            else
              (some (5 : Int32)))
          else
            (some (4 : Int32)))
        else
          (some (3 : Int32)))
      else
        (some (2 : Int32)))
    else
      (some (1 : Int32)))
  else
    (some (0 : Int32))
theorem hdX7_lineOfName : yX7_lineOfName.cls = RX7 ∧ yX7_lineOfName.cls ≠ "java/lang/invoke/MethodHandle" ∧ yX7_lineOfName.cls ≠ "java/lang/invoke/VarHandle" ∧ (parseMethodDescriptor yX7_lineOfName.desc).map (fun d => d.parameters.length) = some 0 := by decide +kernel
theorem iwX7_lineOfName_X7 : ∀ w ∈ wsX70, w ∈ wsX7_lineOfName := by decide +kernel
theorem lkX7_lineOfName_f9 : Cond.fieldLink RX7 9 "CoachCourt$Teller" "tape" "LCoachCourt$Tape;" ∈ wsX7_lineOfName := by decide +kernel
set_option maxHeartbeats 4000000 in
set_option maxRecDepth 100000 in
theorem cX7_lineOfName_ok {l : Launch} {D : va_G} {t : Nat → ClassId} {κ : Nat → Nat} {a_tl : Nat → Nat} {a_tp : Nat → Nat} {s_tl : S2} {s_tp : S2} {out : Int32} (hf : fX7_lineOfName s_tl s_tp = some out) : Ct l D t κ yX7_lineOfName wsX7_lineOfName (rmL 6) [.ref (a_tl 0)] ((wTeller t a_tl (a_tp 0) s_tl) ++ (wTape t a_tp s_tp)) (some (.int out)) ((wTeller t a_tl (a_tp 0) s_tl) ++ (wTape t a_tp s_tp)) := by
  refine Ct.ofW (own := RX7) (cc := cX7_lineOfName) (maxL := 1) (ret := (some .int)) (by decide) rfl rfl (Nat.le_of_ble_eq_true rfl) ?_
  intro p e s m below meth c A C hP hD ls hl
  have hS : va_S A s.heap s.heap [] := va_S.rf
  obtain ⟨hx, hb, hr, hml, hown, hts, hC0, hlk, hA⟩ := id C
  have hK := hC0.1
  have hl : lv_has ls 1 [(0, .ref (a_tl 0))] := hl
  unfold fX7_lineOfName at hf
  refine lv_aload_n hx hb dX7_lineOfName_0 rfl (lv_at hl 0 rfl) ?_
  refine va_get (D := D) (ci := 7) (v := .ref (a_tp 0)) (C := RX7) (T := TX7) (N := 3) hx hb hts iwX7_lineOfName_X7 hown hK hP 0 rfl rfl 0 (by decide) (hts _ lkX7_lineOfName_f9) (fun _ h9 => h9) rfl dX7_lineOfName_1 ?_
  refine va_ldcS hx hb hown (hC0.2.2.1 0 _ rfl) dX7_lineOfName_4 ?_
  obtain ⟨v1, ev1, hf⟩ := bd_some hf
  refine gk_V C (As := [.ref (κ 3)]) (rest := []) (ci := 6) (q := (RX6, TX6, 7)) (q0 := 0) (wr := (wTeller t a_tl (a_tp 0) s_tl)) (wf := ((wTeller t a_tl (a_tp 0) s_tl) ++ (wTape t a_tp s_tp))) (cX6_tokenSpells_ok (l := l) (D := D) (t := t) (κ := κ) (a_tp := a_tp) (by decide) ev1) gX7_lineOfName_X6_tokenSpells rfl ⟨rfl, rfl⟩ hdX6_tokenSpells ⟨Nat.le_of_ble_eq_true rfl, Nat.le_of_ble_eq_true rfl⟩ rfl rfl hP hD hS [1, 2] [0] [0, 1, 2] rfl rfl rfl rfl (by decide) rfl rfl rfl hl.1 (Nat.le_of_ble_eq_true rfl) dX7_lineOfName_6 (Nat.zero_le _) (Nat.zero_le _) (fun H locs hP hD hS => ?_)
  refine W.eq (g2 := F0 m 9 ls [.int v1]) rfl ?_
  refine lv_if_eq (tgt := 14) hx hb dX7_lineOfName_9 (by decide) (fun c2 => ?_) (fun c2 => ?_)
  · rw [if_pos c2] at hf
    refine lv_aload_n hx hb dX7_lineOfName_14 rfl (lv_at hl 0 rfl) ?_
    refine va_get (D := D) (ci := 7) (v := .ref (a_tp 0)) (C := RX7) (T := TX7) (N := 3) hx hb hts iwX7_lineOfName_X7 hown hK hP 0 rfl rfl 0 (by decide) (hts _ lkX7_lineOfName_f9) (fun _ h9 => h9) rfl dX7_lineOfName_15 ?_
    refine va_ldcS hx hb hown (hC0.2.2.1 1 _ rfl) dX7_lineOfName_18 ?_
    obtain ⟨v3, ev3, hf⟩ := bd_some hf
    refine gk_V C (As := [.ref (κ 4)]) (rest := []) (ci := 6) (q := (RX6, TX6, 7)) (q0 := 0) (wr := (wTeller t a_tl (a_tp 0) s_tl)) (wf := ((wTeller t a_tl (a_tp 0) s_tl) ++ (wTape t a_tp s_tp))) (cX6_tokenSpells_ok (l := l) (D := D) (t := t) (κ := κ) (a_tp := a_tp) (by decide) ev3) gX7_lineOfName_X6_tokenSpells rfl ⟨rfl, rfl⟩ hdX6_tokenSpells ⟨Nat.le_of_ble_eq_true rfl, Nat.le_of_ble_eq_true rfl⟩ rfl rfl hP hD hS [1, 2] [0] [0, 1, 2] rfl rfl rfl rfl (by decide) rfl rfl rfl hl.1 (Nat.le_of_ble_eq_true rfl) dX7_lineOfName_20 (Nat.zero_le _) (Nat.zero_le _) (fun H locs hP hD hS => ?_)
    refine W.eq (g2 := F0 m 23 ls [.int v3]) rfl ?_
    refine lv_if_eq (tgt := 28) hx hb dX7_lineOfName_23 (by decide) (fun c4 => ?_) (fun c4 => ?_)
    · rw [if_pos c4] at hf
      refine lv_aload_n hx hb dX7_lineOfName_28 rfl (lv_at hl 0 rfl) ?_
      refine va_get (D := D) (ci := 7) (v := .ref (a_tp 0)) (C := RX7) (T := TX7) (N := 3) hx hb hts iwX7_lineOfName_X7 hown hK hP 0 rfl rfl 0 (by decide) (hts _ lkX7_lineOfName_f9) (fun _ h9 => h9) rfl dX7_lineOfName_29 ?_
      refine va_ldcS hx hb hown (hC0.2.2.1 2 _ rfl) dX7_lineOfName_32 ?_
      obtain ⟨v5, ev5, hf⟩ := bd_some hf
      refine gk_V C (As := [.ref (κ 5)]) (rest := []) (ci := 6) (q := (RX6, TX6, 7)) (q0 := 0) (wr := (wTeller t a_tl (a_tp 0) s_tl)) (wf := ((wTeller t a_tl (a_tp 0) s_tl) ++ (wTape t a_tp s_tp))) (cX6_tokenSpells_ok (l := l) (D := D) (t := t) (κ := κ) (a_tp := a_tp) (by decide) ev5) gX7_lineOfName_X6_tokenSpells rfl ⟨rfl, rfl⟩ hdX6_tokenSpells ⟨Nat.le_of_ble_eq_true rfl, Nat.le_of_ble_eq_true rfl⟩ rfl rfl hP hD hS [1, 2] [0] [0, 1, 2] rfl rfl rfl rfl (by decide) rfl rfl rfl hl.1 (Nat.le_of_ble_eq_true rfl) dX7_lineOfName_34 (Nat.zero_le _) (Nat.zero_le _) (fun H locs hP hD hS => ?_)
      refine W.eq (g2 := F0 m 37 ls [.int v5]) rfl ?_
      refine lv_if_eq (tgt := 42) hx hb dX7_lineOfName_37 (by decide) (fun c6 => ?_) (fun c6 => ?_)
      · rw [if_pos c6] at hf
        refine lv_aload_n hx hb dX7_lineOfName_42 rfl (lv_at hl 0 rfl) ?_
        refine va_get (D := D) (ci := 7) (v := .ref (a_tp 0)) (C := RX7) (T := TX7) (N := 3) hx hb hts iwX7_lineOfName_X7 hown hK hP 0 rfl rfl 0 (by decide) (hts _ lkX7_lineOfName_f9) (fun _ h9 => h9) rfl dX7_lineOfName_43 ?_
        refine va_ldcS hx hb hown (hC0.2.2.1 3 _ rfl) dX7_lineOfName_46 ?_
        obtain ⟨v7, ev7, hf⟩ := bd_some hf
        refine gk_V C (As := [.ref (κ 6)]) (rest := []) (ci := 6) (q := (RX6, TX6, 7)) (q0 := 0) (wr := (wTeller t a_tl (a_tp 0) s_tl)) (wf := ((wTeller t a_tl (a_tp 0) s_tl) ++ (wTape t a_tp s_tp))) (cX6_tokenSpells_ok (l := l) (D := D) (t := t) (κ := κ) (a_tp := a_tp) (by decide) ev7) gX7_lineOfName_X6_tokenSpells rfl ⟨rfl, rfl⟩ hdX6_tokenSpells ⟨Nat.le_of_ble_eq_true rfl, Nat.le_of_ble_eq_true rfl⟩ rfl rfl hP hD hS [1, 2] [0] [0, 1, 2] rfl rfl rfl rfl (by decide) rfl rfl rfl hl.1 (Nat.le_of_ble_eq_true rfl) dX7_lineOfName_48 (Nat.zero_le _) (Nat.zero_le _) (fun H locs hP hD hS => ?_)
        refine W.eq (g2 := F0 m 51 ls [.int v7]) rfl ?_
        refine lv_if_eq (tgt := 56) hx hb dX7_lineOfName_51 (by decide) (fun c8 => ?_) (fun c8 => ?_)
        · rw [if_pos c8] at hf
          refine lv_aload_n hx hb dX7_lineOfName_56 rfl (lv_at hl 0 rfl) ?_
          refine va_get (D := D) (ci := 7) (v := .ref (a_tp 0)) (C := RX7) (T := TX7) (N := 3) hx hb hts iwX7_lineOfName_X7 hown hK hP 0 rfl rfl 0 (by decide) (hts _ lkX7_lineOfName_f9) (fun _ h9 => h9) rfl dX7_lineOfName_57 ?_
          refine va_ldcS hx hb hown (hC0.2.2.1 4 _ rfl) dX7_lineOfName_60 ?_
          obtain ⟨v9, ev9, hf⟩ := bd_some hf
          refine gk_V C (As := [.ref (κ 7)]) (rest := []) (ci := 6) (q := (RX6, TX6, 7)) (q0 := 0) (wr := (wTeller t a_tl (a_tp 0) s_tl)) (wf := ((wTeller t a_tl (a_tp 0) s_tl) ++ (wTape t a_tp s_tp))) (cX6_tokenSpells_ok (l := l) (D := D) (t := t) (κ := κ) (a_tp := a_tp) (by decide) ev9) gX7_lineOfName_X6_tokenSpells rfl ⟨rfl, rfl⟩ hdX6_tokenSpells ⟨Nat.le_of_ble_eq_true rfl, Nat.le_of_ble_eq_true rfl⟩ rfl rfl hP hD hS [1, 2] [0] [0, 1, 2] rfl rfl rfl rfl (by decide) rfl rfl rfl hl.1 (Nat.le_of_ble_eq_true rfl) dX7_lineOfName_62 (Nat.zero_le _) (Nat.zero_le _) (fun H locs hP hD hS => ?_)
          refine W.eq (g2 := F0 m 65 ls [.int v9]) rfl ?_
          refine lv_if_eq (tgt := 70) hx hb dX7_lineOfName_65 (by decide) (fun c10 => ?_) (fun c10 => ?_)
          · rw [if_pos c10] at hf
            refine lv_aload_n hx hb dX7_lineOfName_70 rfl (lv_at hl 0 rfl) ?_
            refine va_get (D := D) (ci := 7) (v := .ref (a_tp 0)) (C := RX7) (T := TX7) (N := 3) hx hb hts iwX7_lineOfName_X7 hown hK hP 0 rfl rfl 0 (by decide) (hts _ lkX7_lineOfName_f9) (fun _ h9 => h9) rfl dX7_lineOfName_71 ?_
            refine va_ldcS hx hb hown (hC0.2.2.1 5 _ rfl) dX7_lineOfName_74 ?_
            obtain ⟨v11, ev11, hf⟩ := bd_some hf
            refine gk_V C (As := [.ref (κ 8)]) (rest := []) (ci := 6) (q := (RX6, TX6, 7)) (q0 := 0) (wr := (wTeller t a_tl (a_tp 0) s_tl)) (wf := ((wTeller t a_tl (a_tp 0) s_tl) ++ (wTape t a_tp s_tp))) (cX6_tokenSpells_ok (l := l) (D := D) (t := t) (κ := κ) (a_tp := a_tp) (by decide) ev11) gX7_lineOfName_X6_tokenSpells rfl ⟨rfl, rfl⟩ hdX6_tokenSpells ⟨Nat.le_of_ble_eq_true rfl, Nat.le_of_ble_eq_true rfl⟩ rfl rfl hP hD hS [1, 2] [0] [0, 1, 2] rfl rfl rfl rfl (by decide) rfl rfl rfl hl.1 (Nat.le_of_ble_eq_true rfl) dX7_lineOfName_76 (Nat.zero_le _) (Nat.zero_le _) (fun H locs hP hD hS => ?_)
            refine W.eq (g2 := F0 m 79 ls [.int v11]) rfl ?_
            refine lv_if_eq (tgt := 84) hx hb dX7_lineOfName_79 (by decide) (fun c12 => ?_) (fun c12 => ?_)
            · rw [if_pos c12] at hf
              refine lv_aload_n hx hb dX7_lineOfName_84 rfl (lv_at hl 0 rfl) ?_
              refine va_get (D := D) (ci := 7) (v := .ref (a_tp 0)) (C := RX7) (T := TX7) (N := 3) hx hb hts iwX7_lineOfName_X7 hown hK hP 0 rfl rfl 0 (by decide) (hts _ lkX7_lineOfName_f9) (fun _ h9 => h9) rfl dX7_lineOfName_85 ?_
              refine va_ldcS hx hb hown (hC0.2.2.1 6 _ rfl) dX7_lineOfName_88 ?_
              obtain ⟨v13, ev13, hf⟩ := bd_some hf
              refine gk_V C (As := [.ref (κ 9)]) (rest := []) (ci := 6) (q := (RX6, TX6, 7)) (q0 := 0) (wr := (wTeller t a_tl (a_tp 0) s_tl)) (wf := ((wTeller t a_tl (a_tp 0) s_tl) ++ (wTape t a_tp s_tp))) (cX6_tokenSpells_ok (l := l) (D := D) (t := t) (κ := κ) (a_tp := a_tp) (by decide) ev13) gX7_lineOfName_X6_tokenSpells rfl ⟨rfl, rfl⟩ hdX6_tokenSpells ⟨Nat.le_of_ble_eq_true rfl, Nat.le_of_ble_eq_true rfl⟩ rfl rfl hP hD hS [1, 2] [0] [0, 1, 2] rfl rfl rfl rfl (by decide) rfl rfl rfl hl.1 (Nat.le_of_ble_eq_true rfl) dX7_lineOfName_90 (Nat.zero_le _) (Nat.zero_le _) (fun H locs hP hD hS => ?_)
              refine W.eq (g2 := F0 m 93 ls [.int v13]) rfl ?_
              refine lv_if_eq (tgt := 99) hx hb dX7_lineOfName_93 (by decide) (fun c14 => ?_) (fun c14 => ?_)
              · rw [if_pos c14] at hf
                refine lv_aload_n hx hb dX7_lineOfName_99 rfl (lv_at hl 0 rfl) ?_
                refine va_get (D := D) (ci := 7) (v := .ref (a_tp 0)) (C := RX7) (T := TX7) (N := 3) hx hb hts iwX7_lineOfName_X7 hown hK hP 0 rfl rfl 0 (by decide) (hts _ lkX7_lineOfName_f9) (fun _ h9 => h9) rfl dX7_lineOfName_100 ?_
                refine va_ldcS hx hb hown (hC0.2.2.1 7 _ rfl) dX7_lineOfName_103 ?_
                obtain ⟨v15, ev15, hf⟩ := bd_some hf
                refine gk_V C (As := [.ref (κ 10)]) (rest := []) (ci := 6) (q := (RX6, TX6, 7)) (q0 := 0) (wr := (wTeller t a_tl (a_tp 0) s_tl)) (wf := ((wTeller t a_tl (a_tp 0) s_tl) ++ (wTape t a_tp s_tp))) (cX6_tokenSpells_ok (l := l) (D := D) (t := t) (κ := κ) (a_tp := a_tp) (by decide) ev15) gX7_lineOfName_X6_tokenSpells rfl ⟨rfl, rfl⟩ hdX6_tokenSpells ⟨Nat.le_of_ble_eq_true rfl, Nat.le_of_ble_eq_true rfl⟩ rfl rfl hP hD hS [1, 2] [0] [0, 1, 2] rfl rfl rfl rfl (by decide) rfl rfl rfl hl.1 (Nat.le_of_ble_eq_true rfl) dX7_lineOfName_105 (Nat.zero_le _) (Nat.zero_le _) (fun H locs hP hD hS => ?_)
                refine W.eq (g2 := F0 m 108 ls [.int v15]) rfl ?_
                refine lv_if_eq (tgt := 116) hx hb dX7_lineOfName_108 (by decide) (fun c16 => ?_) (fun c16 => ?_)
                · rw [if_pos c16] at hf
                  refine lv_bipush (v := 8) hx hb dX7_lineOfName_116 (by decide) ?_
                  obtain rfl := so_eq hf
                  exact g_iret C hP hD hS dX7_lineOfName_118
                · rw [if_neg c16] at hf
                  refine lv_bipush (v := 7) hx hb dX7_lineOfName_111 (by decide) ?_
                  refine lv_goto (tgt := 118) hx hb dX7_lineOfName_113 (by decide) ?_
                  obtain rfl := so_eq hf
                  exact g_iret C hP hD hS dX7_lineOfName_118
              · rw [if_neg c14] at hf
                refine lv_bipush (v := 6) hx hb dX7_lineOfName_96 (by decide) ?_
                obtain rfl := so_eq hf
                exact g_iret C hP hD hS dX7_lineOfName_98
            · rw [if_neg c12] at hf
              refine lv_iconst (v := 5) hx hb dX7_lineOfName_82 (by decide) ?_
              obtain rfl := so_eq hf
              exact g_iret C hP hD hS dX7_lineOfName_83
          · rw [if_neg c10] at hf
            refine lv_iconst (v := 4) hx hb dX7_lineOfName_68 (by decide) ?_
            obtain rfl := so_eq hf
            exact g_iret C hP hD hS dX7_lineOfName_69
        · rw [if_neg c8] at hf
          refine lv_iconst (v := 3) hx hb dX7_lineOfName_54 (by decide) ?_
          obtain rfl := so_eq hf
          exact g_iret C hP hD hS dX7_lineOfName_55
      · rw [if_neg c6] at hf
        refine lv_iconst (v := 2) hx hb dX7_lineOfName_40 (by decide) ?_
        obtain rfl := so_eq hf
        exact g_iret C hP hD hS dX7_lineOfName_41
    · rw [if_neg c4] at hf
      refine lv_iconst (v := 1) hx hb dX7_lineOfName_26 (by decide) ?_
      obtain rfl := so_eq hf
      exact g_iret C hP hD hS dX7_lineOfName_27
  · rw [if_neg c2] at hf
    refine lv_iconst (v := 0) hx hb dX7_lineOfName_12 (by decide) ?_
    obtain rfl := so_eq hf
    exact g_iret C hP hD hS dX7_lineOfName_13
/-! CoachCourt$Teller.takeLine -/
def fX7_takeLine_140 (s_tl : S2) (s_tp : S2) (s_rd : S2) : Option (Int32 × S2 × S2 × S2) :=
  (fX7_takeSemicolon s_tl s_tp).bind fun v7 =>
  if (v7 0 4) = (0 : Int32) then
    (some ((1 : Int32), s_tl, v7, s_rd))
  else
    (some ((0 : Int32), s_tl, v7, s_rd))
def fX7_takeLine_49 (s_tl : S2) (s_tp : S2) (s_rd : S2) (k0 : Int32) : Option (Int32 × S2 × S2 × S2) :=
  if k0 = 4 then
    ((fX7_takeMile s_tl s_tp s_rd).bind fun v6 =>
    fX7_takeLine_140 s_tl v6.1 v6.2)
  else
  if k0 = 5 then
    ((fX7_takeMud s_tl s_tp s_rd).bind fun v10 =>
    fX7_takeLine_140 s_tl v10.1 v10.2)
  else
  if k0 = 6 then
    ((fX7_takeRoom s_tl s_tp s_rd).bind fun v12 =>
    fX7_takeLine_140 v12.1 v12.2.1 v12.2.2)
  else
  if k0 = 7 then
    ((fX7_takeSnow s_tl s_tp s_rd).bind fun v14 =>
    fX7_takeLine_140 v14.1 v14.2.1 v14.2.2)
  else
  if k0 = 8 then
    ((fX6_blame s_tp (2 : Int32) (s_tp 0 2)).bind fun v16 =>
    fX7_takeLine_140 s_tl v16 s_rd)
  else
  ((fX7_takeParty s_tl s_tp s_rd k0).bind fun v17 =>
  fX7_takeLine_140 s_tl v17.1 v17.2)
def fX7_takeLine (s_tl : S2) (s_tp : S2) (s_rd : S2) : Option (Int32 × S2 × S2 × S2) :=
  (fX6_readToken s_tp).bind fun v1 =>
  if (v1 0 4) = (0 : Int32) then
    (if (v1 0 3) = (0 : Int32) then
      (some ((0 : Int32), s_tl, v1, s_rd))
    else
      (if (v1 0 3) = (1 : Int32) then
        ((fX7_lineOfName s_tl v1).bind fun v18 =>
        fX7_takeLine_49 s_tl v1 s_rd v18)
      else
        (fX7_takeLine_49 s_tl v1 s_rd (8 : Int32))))
  else
    (some ((0 : Int32), s_tl, v1, s_rd))
theorem hdX7_takeLine : yX7_takeLine.cls = RX7 ∧ yX7_takeLine.cls ≠ "java/lang/invoke/MethodHandle" ∧ yX7_takeLine.cls ≠ "java/lang/invoke/VarHandle" ∧ (parseMethodDescriptor yX7_takeLine.desc).map (fun d => d.parameters.length) = some 1 := by decide +kernel
theorem iwX7_takeLine_X7 : ∀ w ∈ wsX70, w ∈ wsX7_takeLine := by decide +kernel
theorem lkX7_takeLine_f9 : Cond.fieldLink RX7 9 "CoachCourt$Teller" "tape" "LCoachCourt$Tape;" ∈ wsX7_takeLine := by decide +kernel
theorem iwX7_takeLine_X6 : ∀ w ∈ wsX60, w ∈ wsX7_takeLine := by decide +kernel
set_option maxHeartbeats 4000000 in
set_option maxRecDepth 100000 in
theorem wX7_takeLine_140 {p : Program} {l : Launch} {e : Env} {s : State} {m : MethodId} {args : Array Value} {below : List Frame} {meth : Method} {c : Code} {D : va_G} {t : Nat → ClassId} {κ : Nat → Nat} {A : Nat → Prop} {a_tl : Nat → Nat} {a_tp : Nat → Nat} {a_rd : Nat → Nat} {s_tl : S2} {s_tp : S2} {s_rd : S2} {out : Int32 × S2 × S2 × S2} (C : Cxt p s m args meth c cX7_takeLine 3 RX7 wsX7_takeLine (some .boolean) D t κ A) (hf : fX7_takeLine_140 s_tl s_tp s_rd = some out) : ∀ (H : Heap) (locs : List Loc) (ls : Array Slot), va_P D vwCl ((wTeller t a_tl (a_tp 0) s_tl) ++ (wTape t a_tp s_tp) ++ (wRoad t a_rd s_rd)) H → va_D A ((wTeller t a_tl (a_tp 0) s_tl) ++ (wTape t a_tp s_tp) ++ (wRoad t a_rd s_rd)) → va_S A s.heap H locs → lv_has ls 3 [(0, .ref (a_tl 0))] → W p l e (rmL 7) s m args below meth c H locs 0 0 (MQ below (gQ D (some (.int out.1)) ((wTeller t a_tl (a_tp 0) out.2.1) ++ (wTape t a_tp out.2.2.1) ++ (wRoad t a_rd out.2.2.2)) A) args s 0 0 A) (F0 m 140 ls []) := by
  obtain ⟨hx, hb, hr, hml, hown, hts, hC0, hlk, hA⟩ := id C
  have hK := hC0.1
  intro H locs ls hP hD hS hl
  unfold fX7_takeLine_140 at hf
  refine lv_aload_n hx hb dX7_takeLine_140 rfl (lv_at hl 0 rfl) ?_
  obtain ⟨v7, ev7, hf⟩ := bd_some hf
  refine gk_V C (As := []) (rest := []) (ci := 7) (q := (RX7, TX7, 3)) (q0 := 0) (wr := (wRoad t a_rd s_rd)) (wf := ((wTeller t a_tl (a_tp 0) s_tl) ++ (wTape t a_tp v7) ++ (wRoad t a_rd s_rd))) (cX7_takeSemicolon_ok (l := l) (D := D) (t := t) (κ := κ) (a_tl := a_tl) (a_tp := a_tp) ev7) gX7_takeLine_X7_takeSemicolon rfl ⟨rfl, rfl⟩ hdX7_takeSemicolon ⟨Nat.le_of_ble_eq_true rfl, Nat.le_of_ble_eq_true rfl⟩ rfl rfl hP hD hS [0, 1, 2] [3, 4, 5, 6, 7, 8, 9, 10, 11] [9, 10, 11, 0, 1, 2, 3, 4, 5, 6, 7, 8] rfl rfl rfl rfl (by decide) rfl rfl rfl hl.1 (Nat.le_of_ble_eq_true rfl) dX7_takeLine_141 (Nat.zero_le _) (Nat.zero_le _) (fun H locs hP hD hS => ?_)
  refine W.eq (g2 := F0 m 144 ls []) rfl ?_
  refine lv_aload_n hx hb dX7_takeLine_144 rfl (lv_at hl 0 rfl) ?_
  refine va_get (D := D) (ci := 7) (v := .ref (a_tp 0)) (C := RX7) (T := TX7) (N := 3) hx hb hts iwX7_takeLine_X7 hown hK hP 0 rfl rfl 0 (by decide) (hts _ lkX7_takeLine_f9) (fun _ h9 => h9) rfl dX7_takeLine_145 ?_
  refine va_getN (D := D) (ci := 6) (v := .int (v7 0 4)) (C := RX6) (T := TX6) (N := 7) hx hb hts iwX7_takeLine_X6 hown hK hP 1 rfl rfl 5 (by decide) (hC0.2.1.f 4 rfl) (fun _ h9 => h9) rfl dX7_takeLine_148 ?_
  refine lv_if_ne (tgt := 158) hx hb dX7_takeLine_151 (by decide) (fun c8 => ?_) (fun c8 => ?_)
  · rw [if_neg c8] at hf
    refine lv_iconst (v := 0) hx hb dX7_takeLine_158 (by decide) ?_
    obtain rfl := so_eq hf
    exact g_zret (v := 0) C rfl hP hD hS dX7_takeLine_159
  · rw [if_pos c8] at hf
    refine lv_iconst (v := 1) hx hb dX7_takeLine_154 (by decide) ?_
    refine lv_goto (tgt := 159) hx hb dX7_takeLine_155 (by decide) ?_
    obtain rfl := so_eq hf
    exact g_zret (v := 1) C rfl hP hD hS dX7_takeLine_159
set_option maxHeartbeats 4000000 in
set_option maxRecDepth 100000 in
theorem wX7_takeLine_49 {p : Program} {l : Launch} {e : Env} {s : State} {m : MethodId} {args : Array Value} {below : List Frame} {meth : Method} {c : Code} {D : va_G} {t : Nat → ClassId} {κ : Nat → Nat} {A : Nat → Prop} {a_tl : Nat → Nat} {a_tp : Nat → Nat} {a_rd : Nat → Nat} {s_tl : S2} {s_tp : S2} {s_rd : S2} {k0 : Int32} {out : Int32 × S2 × S2 × S2} (C : Cxt p s m args meth c cX7_takeLine 3 RX7 wsX7_takeLine (some .boolean) D t κ A) (hf : fX7_takeLine_49 s_tl s_tp s_rd k0 = some out) : ∀ (H : Heap) (locs : List Loc) (ls : Array Slot), va_P D vwCl ((wTeller t a_tl (a_tp 0) s_tl) ++ (wTape t a_tp s_tp) ++ (wRoad t a_rd s_rd)) H → va_D A ((wTeller t a_tl (a_tp 0) s_tl) ++ (wTape t a_tp s_tp) ++ (wRoad t a_rd s_rd)) → va_S A s.heap H locs → lv_has ls 3 [(0, .ref (a_tl 0)), (1, .ref (a_rd 0))] → W p l e (rmL 7) s m args below meth c H locs 0 0 (MQ below (gQ D (some (.int out.1)) ((wTeller t a_tl (a_tp 0) out.2.1) ++ (wTape t a_tp out.2.2.1) ++ (wRoad t a_rd out.2.2.2)) A) args s 0 0 A) (F0 m 49 ls [.int k0]) := by
  obtain ⟨hx, hb, hr, hml, hown, hts, hC0, hlk, hA⟩ := id C
  have hK := hC0.1
  intro H locs ls hP hD hS hl
  unfold fX7_takeLine_49 at hf
  refine lv_istore_n (lv' := [(2, .int k0), (0, .ref (a_tl 0)), (1, .ref (a_rd 0))]) hx hb dX7_takeLine_49 rfl hl (by decide) rfl (fun ls hl => ?_)
  refine lv_iload_n hx hb dX7_takeLine_50 rfl (lv_at hl 0 rfl) ?_
  by_cases c5 : k0 = 4
  · rw [if_pos c5] at hf
    refine lv_tableIn (tgt := 84) hx hb dX7_takeLine_51 (by rw [c5]; decide) (by rw [c5]; decide) (by rw [c5]; rfl) (by decide) ?_
    refine lv_aload_n hx hb dX7_takeLine_84 rfl (lv_at hl 1 rfl) ?_
    refine lv_aload_n hx hb dX7_takeLine_85 rfl (lv_at hl 2 rfl) ?_
    obtain ⟨v6, ev6, hf⟩ := bd_some hf
    refine gk_V0 C (As := [.ref (a_rd 0)]) (rest := []) (ci := 7) (q := (RX7, TX7, 3)) (q0 := 0) (cX7_takeMile_ok (l := l) (D := D) (t := t) (κ := κ) (a_tl := a_tl) (a_tp := a_tp) (a_rd := a_rd) ev6) gX7_takeLine_X7_takeMile rfl ⟨rfl, rfl⟩ hdX7_takeMile ⟨Nat.le_of_ble_eq_true rfl, Nat.le_of_ble_eq_true rfl⟩ rfl rfl hP hD hS rfl hl.1 (Nat.le_of_ble_eq_true rfl) dX7_takeLine_86 (Nat.zero_le _) (Nat.zero_le _) (fun H locs hP hD hS => ?_)
    refine W.eq (g2 := F0 m 89 ls []) rfl ?_
    refine lv_goto (tgt := 140) hx hb dX7_takeLine_89 (by decide) ?_
    exact wX7_takeLine_140 C hf _ _ _ hP hD hS (lv_sub hl [1] rfl)
  rw [if_neg c5] at hf
  by_cases c9 : k0 = 5
  · rw [if_pos c9] at hf
    refine lv_tableIn (tgt := 92) hx hb dX7_takeLine_51 (by rw [c9]; decide) (by rw [c9]; decide) (by rw [c9]; rfl) (by decide) ?_
    refine lv_aload_n hx hb dX7_takeLine_92 rfl (lv_at hl 1 rfl) ?_
    refine lv_aload_n hx hb dX7_takeLine_93 rfl (lv_at hl 2 rfl) ?_
    obtain ⟨v10, ev10, hf⟩ := bd_some hf
    refine gk_V0 C (As := [.ref (a_rd 0)]) (rest := []) (ci := 7) (q := (RX7, TX7, 3)) (q0 := 0) (cX7_takeMud_ok (l := l) (D := D) (t := t) (κ := κ) (a_tl := a_tl) (a_tp := a_tp) (a_rd := a_rd) ev10) gX7_takeLine_X7_takeMud rfl ⟨rfl, rfl⟩ hdX7_takeMud ⟨Nat.le_of_ble_eq_true rfl, Nat.le_of_ble_eq_true rfl⟩ rfl rfl hP hD hS rfl hl.1 (Nat.le_of_ble_eq_true rfl) dX7_takeLine_94 (Nat.zero_le _) (Nat.zero_le _) (fun H locs hP hD hS => ?_)
    refine W.eq (g2 := F0 m 97 ls []) rfl ?_
    refine lv_goto (tgt := 140) hx hb dX7_takeLine_97 (by decide) ?_
    exact wX7_takeLine_140 C hf _ _ _ hP hD hS (lv_sub hl [1] rfl)
  rw [if_neg c9] at hf
  by_cases c11 : k0 = 6
  · rw [if_pos c11] at hf
    refine lv_tableIn (tgt := 100) hx hb dX7_takeLine_51 (by rw [c11]; decide) (by rw [c11]; decide) (by rw [c11]; rfl) (by decide) ?_
    refine lv_aload_n hx hb dX7_takeLine_100 rfl (lv_at hl 1 rfl) ?_
    refine lv_aload_n hx hb dX7_takeLine_101 rfl (lv_at hl 2 rfl) ?_
    obtain ⟨v12, ev12, hf⟩ := bd_some hf
    refine gk_V0 C (As := [.ref (a_rd 0)]) (rest := []) (ci := 7) (q := (RX7, TX7, 3)) (q0 := 0) (cX7_takeRoom_ok (l := l) (D := D) (t := t) (κ := κ) (a_tl := a_tl) (a_tp := a_tp) (a_rd := a_rd) ev12) gX7_takeLine_X7_takeRoom rfl ⟨rfl, rfl⟩ hdX7_takeRoom ⟨Nat.le_of_ble_eq_true rfl, Nat.le_of_ble_eq_true rfl⟩ rfl rfl hP hD hS rfl hl.1 (Nat.le_of_ble_eq_true rfl) dX7_takeLine_102 (Nat.zero_le _) (Nat.zero_le _) (fun H locs hP hD hS => ?_)
    refine W.eq (g2 := F0 m 105 ls []) rfl ?_
    refine lv_goto (tgt := 140) hx hb dX7_takeLine_105 (by decide) ?_
    exact wX7_takeLine_140 C hf _ _ _ hP hD hS (lv_sub hl [1] rfl)
  rw [if_neg c11] at hf
  by_cases c13 : k0 = 7
  · rw [if_pos c13] at hf
    refine lv_tableIn (tgt := 108) hx hb dX7_takeLine_51 (by rw [c13]; decide) (by rw [c13]; decide) (by rw [c13]; rfl) (by decide) ?_
    refine lv_aload_n hx hb dX7_takeLine_108 rfl (lv_at hl 1 rfl) ?_
    refine lv_aload_n hx hb dX7_takeLine_109 rfl (lv_at hl 2 rfl) ?_
    obtain ⟨v14, ev14, hf⟩ := bd_some hf
    refine gk_V0 C (As := [.ref (a_rd 0)]) (rest := []) (ci := 7) (q := (RX7, TX7, 3)) (q0 := 0) (cX7_takeSnow_ok (l := l) (D := D) (t := t) (κ := κ) (a_tl := a_tl) (a_tp := a_tp) (a_rd := a_rd) ev14) gX7_takeLine_X7_takeSnow rfl ⟨rfl, rfl⟩ hdX7_takeSnow ⟨Nat.le_of_ble_eq_true rfl, Nat.le_of_ble_eq_true rfl⟩ rfl rfl hP hD hS rfl hl.1 (Nat.le_of_ble_eq_true rfl) dX7_takeLine_110 (Nat.zero_le _) (Nat.zero_le _) (fun H locs hP hD hS => ?_)
    refine W.eq (g2 := F0 m 113 ls []) rfl ?_
    refine lv_goto (tgt := 140) hx hb dX7_takeLine_113 (by decide) ?_
    exact wX7_takeLine_140 C hf _ _ _ hP hD hS (lv_sub hl [1] rfl)
  rw [if_neg c13] at hf
  by_cases c15 : k0 = 8
  · rw [if_pos c15] at hf
    refine lv_tableIn (tgt := 116) hx hb dX7_takeLine_51 (by rw [c15]; decide) (by rw [c15]; decide) (by rw [c15]; rfl) (by decide) ?_
    refine lv_aload_n hx hb dX7_takeLine_116 rfl (lv_at hl 1 rfl) ?_
    refine va_get (D := D) (ci := 7) (v := .ref (a_tp 0)) (C := RX7) (T := TX7) (N := 3) hx hb hts iwX7_takeLine_X7 hown hK hP 0 rfl rfl 0 (by decide) (hts _ lkX7_takeLine_f9) (fun _ h9 => h9) rfl dX7_takeLine_117 ?_
    refine lv_iconst (v := 2) hx hb dX7_takeLine_120 (by decide) ?_
    refine lv_aload_n hx hb dX7_takeLine_121 rfl (lv_at hl 1 rfl) ?_
    refine va_get (D := D) (ci := 7) (v := .ref (a_tp 0)) (C := RX7) (T := TX7) (N := 3) hx hb hts iwX7_takeLine_X7 hown hK hP 0 rfl rfl 0 (by decide) (hts _ lkX7_takeLine_f9) (fun _ h9 => h9) rfl dX7_takeLine_122 ?_
    refine va_getN (D := D) (ci := 6) (v := .int (s_tp 0 2)) (C := RX6) (T := TX6) (N := 7) hx hb hts iwX7_takeLine_X6 hown hK hP 1 rfl rfl 3 (by decide) (hC0.2.1.f 2 rfl) (fun _ h9 => h9) rfl dX7_takeLine_125 ?_
    obtain ⟨v16, ev16, hf⟩ := bd_some hf
    refine gk_V C (As := [.int (2 : Int32), .int (s_tp 0 2)]) (rest := []) (ci := 6) (q := (RX6, TX6, 7)) (q0 := 0) (wr := ((wTeller t a_tl (a_tp 0) s_tl) ++ (wRoad t a_rd s_rd))) (wf := ((wTeller t a_tl (a_tp 0) s_tl) ++ (wTape t a_tp v16) ++ (wRoad t a_rd s_rd))) (cX6_blame_ok (l := l) (D := D) (t := t) (κ := κ) (a_tp := a_tp) ev16) gX7_takeLine_X6_blame rfl ⟨rfl, rfl⟩ hdX6_blame ⟨Nat.le_of_ble_eq_true rfl, Nat.le_of_ble_eq_true rfl⟩ rfl rfl hP hD hS [1, 2] [0, 3, 4, 5, 6, 7, 8, 9, 10, 11] [0, 10, 11, 1, 2, 3, 4, 5, 6, 7, 8, 9] rfl rfl rfl rfl (by decide) rfl rfl rfl hl.1 (Nat.le_of_ble_eq_true rfl) dX7_takeLine_128 (Nat.zero_le _) (Nat.zero_le _) (fun H locs hP hD hS => ?_)
    refine W.eq (g2 := F0 m 131 ls []) rfl ?_
    refine lv_goto (tgt := 140) hx hb dX7_takeLine_131 (by decide) ?_
    exact wX7_takeLine_140 C hf _ _ _ hP hD hS (lv_sub hl [1] rfl)
  rw [if_neg c15] at hf
  refine lv_tableOut (tgt := 134) hx hb dX7_takeLine_51 (by have nc5 := lv_neT c5 (a := 4) (by decide); have nc9 := lv_neT c9 (a := 5) (by decide); have nc11 := lv_neT c11 (a := 6) (by decide); have nc13 := lv_neT c13 (a := 7) (by decide); have nc15 := lv_neT c15 (a := 8) (by decide); have z := Int32.le_toInt k0; have z2 := Int32.toInt_lt k0; omega) (by decide) ?_
  refine lv_aload_n hx hb dX7_takeLine_134 rfl (lv_at hl 1 rfl) ?_
  refine lv_aload_n hx hb dX7_takeLine_135 rfl (lv_at hl 2 rfl) ?_
  refine lv_iload_n hx hb dX7_takeLine_136 rfl (lv_at hl 0 rfl) ?_
  obtain ⟨v17, ev17, hf⟩ := bd_some hf
  refine gk_V0 C (As := [.ref (a_rd 0), .int k0]) (rest := []) (ci := 7) (q := (RX7, TX7, 3)) (q0 := 0) (cX7_takeParty_ok (l := l) (D := D) (t := t) (κ := κ) (a_tl := a_tl) (a_tp := a_tp) (a_rd := a_rd) ev17) gX7_takeLine_X7_takeParty rfl ⟨rfl, rfl⟩ hdX7_takeParty ⟨Nat.le_of_ble_eq_true rfl, Nat.le_of_ble_eq_true rfl⟩ rfl rfl hP hD hS rfl hl.1 (Nat.le_of_ble_eq_true rfl) dX7_takeLine_137 (Nat.zero_le _) (Nat.zero_le _) (fun H locs hP hD hS => ?_)
  refine W.eq (g2 := F0 m 140 ls []) rfl ?_
  exact wX7_takeLine_140 C hf _ _ _ hP hD hS (lv_sub hl [1] rfl)
set_option maxHeartbeats 4000000 in
set_option maxRecDepth 100000 in
theorem cX7_takeLine_ok {l : Launch} {D : va_G} {t : Nat → ClassId} {κ : Nat → Nat} {a_tl : Nat → Nat} {a_tp : Nat → Nat} {a_rd : Nat → Nat} {s_tl : S2} {s_tp : S2} {s_rd : S2} {out : Int32 × S2 × S2 × S2} (hf : fX7_takeLine s_tl s_tp s_rd = some out) : Ct l D t κ yX7_takeLine wsX7_takeLine (rmL 7) [.ref (a_tl 0), .ref (a_rd 0)] ((wTeller t a_tl (a_tp 0) s_tl) ++ (wTape t a_tp s_tp) ++ (wRoad t a_rd s_rd)) (some (.int out.1)) ((wTeller t a_tl (a_tp 0) out.2.1) ++ (wTape t a_tp out.2.2.1) ++ (wRoad t a_rd out.2.2.2)) := by
  refine Ct.ofW (own := RX7) (cc := cX7_takeLine) (maxL := 3) (ret := (some .boolean)) (by decide) rfl rfl (Nat.le_of_ble_eq_true rfl) ?_
  intro p e s m below meth c A C hP hD ls hl
  have hS : va_S A s.heap s.heap [] := va_S.rf
  obtain ⟨hx, hb, hr, hml, hown, hts, hC0, hlk, hA⟩ := id C
  have hK := hC0.1
  have hl : lv_has ls 3 [(0, .ref (a_tl 0)), (1, .ref (a_rd 0))] := hl
  unfold fX7_takeLine at hf
  refine lv_aload_n hx hb dX7_takeLine_0 rfl (lv_at hl 0 rfl) ?_
  refine va_get (D := D) (ci := 7) (v := .ref (a_tp 0)) (C := RX7) (T := TX7) (N := 3) hx hb hts iwX7_takeLine_X7 hown hK hP 0 rfl rfl 0 (by decide) (hts _ lkX7_takeLine_f9) (fun _ h9 => h9) rfl dX7_takeLine_1 ?_
  obtain ⟨v1, ev1, hf⟩ := bd_some hf
  refine gk_V C (As := []) (rest := []) (ci := 6) (q := (RX6, TX6, 7)) (q0 := 0) (wr := ((wTeller t a_tl (a_tp 0) s_tl) ++ (wRoad t a_rd s_rd))) (wf := ((wTeller t a_tl (a_tp 0) s_tl) ++ (wTape t a_tp v1) ++ (wRoad t a_rd s_rd))) (cX6_readToken_ok (l := l) (D := D) (t := t) (κ := κ) (a_tp := a_tp) ev1) gX7_takeLine_X6_readToken rfl ⟨rfl, rfl⟩ hdX6_readToken ⟨Nat.le_of_ble_eq_true rfl, Nat.le_of_ble_eq_true rfl⟩ rfl rfl hP hD hS [1, 2] [0, 3, 4, 5, 6, 7, 8, 9, 10, 11] [0, 10, 11, 1, 2, 3, 4, 5, 6, 7, 8, 9] rfl rfl rfl rfl (by decide) rfl rfl rfl hl.1 (Nat.le_of_ble_eq_true rfl) dX7_takeLine_4 (Nat.zero_le _) (Nat.zero_le _) (fun H locs hP hD hS => ?_)
  refine W.eq (g2 := F0 m 7 ls []) rfl ?_
  refine lv_aload_n hx hb dX7_takeLine_7 rfl (lv_at hl 0 rfl) ?_
  refine va_get (D := D) (ci := 7) (v := .ref (a_tp 0)) (C := RX7) (T := TX7) (N := 3) hx hb hts iwX7_takeLine_X7 hown hK hP 0 rfl rfl 0 (by decide) (hts _ lkX7_takeLine_f9) (fun _ h9 => h9) rfl dX7_takeLine_8 ?_
  refine va_getN (D := D) (ci := 6) (v := .int (v1 0 4)) (C := RX6) (T := TX6) (N := 7) hx hb hts iwX7_takeLine_X6 hown hK hP 1 rfl rfl 5 (by decide) (hC0.2.1.f 4 rfl) (fun _ h9 => h9) rfl dX7_takeLine_11 ?_
  refine lv_if_ne (tgt := 27) hx hb dX7_takeLine_14 (by decide) (fun c2 => ?_) (fun c2 => ?_)
  · rw [if_neg c2] at hf
    refine lv_iconst (v := 0) hx hb dX7_takeLine_27 (by decide) ?_
    obtain rfl := so_eq hf
    exact g_zret (v := 0) C rfl hP hD hS dX7_takeLine_28
  · rw [if_pos c2] at hf
    refine lv_aload_n hx hb dX7_takeLine_17 rfl (lv_at hl 0 rfl) ?_
    refine va_get (D := D) (ci := 7) (v := .ref (a_tp 0)) (C := RX7) (T := TX7) (N := 3) hx hb hts iwX7_takeLine_X7 hown hK hP 0 rfl rfl 0 (by decide) (hts _ lkX7_takeLine_f9) (fun _ h9 => h9) rfl dX7_takeLine_18 ?_
    refine va_getN (D := D) (ci := 6) (v := .int (v1 0 3)) (C := RX6) (T := TX6) (N := 7) hx hb hts iwX7_takeLine_X6 hown hK hP 1 rfl rfl 4 (by decide) (hC0.2.1.f 3 rfl) (fun _ h9 => h9) rfl dX7_takeLine_21 ?_
    refine lv_if_ne (tgt := 29) hx hb dX7_takeLine_24 (by decide) (fun c3 => ?_) (fun c3 => ?_)
    · rw [if_neg c3] at hf
      refine lv_aload_n hx hb dX7_takeLine_29 rfl (lv_at hl 0 rfl) ?_
      refine va_get (D := D) (ci := 7) (v := .ref (a_tp 0)) (C := RX7) (T := TX7) (N := 3) hx hb hts iwX7_takeLine_X7 hown hK hP 0 rfl rfl 0 (by decide) (hts _ lkX7_takeLine_f9) (fun _ h9 => h9) rfl dX7_takeLine_30 ?_
      refine va_getN (D := D) (ci := 6) (v := .int (v1 0 3)) (C := RX6) (T := TX6) (N := 7) hx hb hts iwX7_takeLine_X6 hown hK hP 1 rfl rfl 4 (by decide) (hC0.2.1.f 3 rfl) (fun _ h9 => h9) rfl dX7_takeLine_33 ?_
      refine lv_iconst (v := 1) hx hb dX7_takeLine_36 (by decide) ?_
      refine lv_icmp_ne (tgt := 47) hx hb dX7_takeLine_37 (by decide) (fun c4 => ?_) (fun c4 => ?_)
      · rw [if_neg c4] at hf
        refine lv_bipush (v := 8) hx hb dX7_takeLine_47 (by decide) ?_
        exact wX7_takeLine_49 C hf _ _ _ hP hD hS (lv_sub hl [0, 1] rfl)
      · rw [if_pos c4] at hf
        refine lv_aload_n hx hb dX7_takeLine_40 rfl (lv_at hl 0 rfl) ?_
        obtain ⟨v18, ev18, hf⟩ := bd_some hf
        refine gk_V C (As := []) (rest := []) (ci := 7) (q := (RX7, TX7, 3)) (q0 := 0) (wr := (wRoad t a_rd s_rd)) (wf := ((wTeller t a_tl (a_tp 0) s_tl) ++ (wTape t a_tp v1) ++ (wRoad t a_rd s_rd))) (cX7_lineOfName_ok (l := l) (D := D) (t := t) (κ := κ) (a_tl := a_tl) (a_tp := a_tp) ev18) gX7_takeLine_X7_lineOfName rfl ⟨rfl, rfl⟩ hdX7_lineOfName ⟨Nat.le_of_ble_eq_true rfl, Nat.le_of_ble_eq_true rfl⟩ rfl rfl hP hD hS [0, 1, 2] [3, 4, 5, 6, 7, 8, 9, 10, 11] [9, 10, 11, 0, 1, 2, 3, 4, 5, 6, 7, 8] rfl rfl rfl rfl (by decide) rfl rfl rfl hl.1 (Nat.le_of_ble_eq_true rfl) dX7_takeLine_41 (Nat.zero_le _) (Nat.zero_le _) (fun H locs hP hD hS => ?_)
        refine W.eq (g2 := F0 m 44 ls [.int v18]) rfl ?_
        refine lv_goto (tgt := 49) hx hb dX7_takeLine_44 (by decide) ?_
        exact wX7_takeLine_49 C hf _ _ _ hP hD hS (lv_sub hl [0, 1] rfl)
    · rw [if_pos c3] at hf
      refine lv_iconst (v := 0) hx hb dX7_takeLine_27 (by decide) ?_
      obtain rfl := so_eq hf
      exact g_zret (v := 0) C rfl hP hD hS dX7_takeLine_28
/-! CoachCourt$Teller.tellInto -/
def fX7_tellInto_b23 (s_tl : S2) (s_tp : S2) (s_rd : S2) (x2 : Int32) : Option ((Int32 × S2 × S2 × S2) ⊕ (Int32 × S2 × S2 × S2)) :=
  if (160 : Int32) ≤ x2 then
    (some (.inr (x2, s_tl, s_tp, s_rd)))
  else
    ((fX7_takeLine s_tl s_tp s_rd).bind fun v6 =>
    if v6.1 = (0 : Int32) then
      (some (.inr (x2, v6.2.1, v6.2.2.1, v6.2.2.2)))
    else
      (nm (x2 + (1 : Int32)) fun y8 =>
      some (.inl (y8, v6.2.1, v6.2.2.1, v6.2.2.2))))
def fX7_tellInto_67 (s_tl : S2) (s_tp : S2) (s_rd : S2) (x2 : Int32) : Option (Int32 × S2 × S2 × S2) :=
  if (s_tp 0 4) = (0 : Int32) then
    (some (x2, s_tl, s_tp, s_rd))
  else
    (some ((-10 : Int32) - (s_tp 0 5), s_tl, s_tp, s_rd))
def fX7_tellInto_44 (s_tl : S2) (s_tp : S2) (s_rd : S2) (x2 : Int32) : Option (Int32 × S2 × S2 × S2) :=
  (fX2_lacksMile s_rd).bind fun v10 =>
  if v10 = (0 : Int32) then
    (fX7_tellInto_67 s_tl s_tp s_rd x2)
  else
    ((fX6_blame s_tp (6 : Int32) (s_tp 0 0)).bind fun v13 =>
    fX7_tellInto_67 s_tl v13 s_rd x2)
def fX7_tellInto (s_tl : S2) (s_tp : S2) (s_rd : S2) : Option (Int32 × S2 × S2 × S2) :=
  (fX2_wipe s_rd).bind fun v1 =>
  (fX6_rewind s_tp).bind fun v2 =>
  nm (sE s_tl 0 0 (0 : Int32)) fun s3 =>
  nm (sE s3 0 1 (0 : Int32)) fun s4 =>
  (wh (fun (c : Int32 × S2 × S2 × S2) => fX7_tellInto_b23 c.2.1 c.2.2.1 c.2.2.2 c.1) 5000 ((0 : Int32), s4, v2, v1)).bind fun x9 =>
  fX7_tellInto_44 x9.2.1 x9.2.2.1 x9.2.2.2 x9.1
theorem hdX7_tellInto : yX7_tellInto.cls = RX7 ∧ yX7_tellInto.cls ≠ "java/lang/invoke/MethodHandle" ∧ yX7_tellInto.cls ≠ "java/lang/invoke/VarHandle" ∧ (parseMethodDescriptor yX7_tellInto.desc).map (fun d => d.parameters.length) = some 1 := by decide +kernel
theorem iwX7_tellInto_X7 : ∀ w ∈ wsX70, w ∈ wsX7_tellInto := by decide +kernel
theorem lkX7_tellInto_f9 : Cond.fieldLink RX7 9 "CoachCourt$Teller" "tape" "LCoachCourt$Tape;" ∈ wsX7_tellInto := by decide +kernel
theorem lkX7_tellInto_f25 : Cond.fieldLink RX7 25 "CoachCourt$Teller" "roomTold" "Z" ∈ wsX7_tellInto := by decide +kernel
theorem lkX7_tellInto_f29 : Cond.fieldLink RX7 29 "CoachCourt$Teller" "snowTold" "Z" ∈ wsX7_tellInto := by decide +kernel
theorem iwX7_tellInto_X6 : ∀ w ∈ wsX60, w ∈ wsX7_tellInto := by decide +kernel
set_option maxHeartbeats 4000000 in
set_option maxRecDepth 100000 in
theorem wX7_tellInto_l23 {p : Program} {l : Launch} {e : Env} {s : State} {m : MethodId} {args : Array Value} {below : List Frame} {meth : Method} {c : Code} {D : va_G} {t : Nat → ClassId} {κ : Nat → Nat} {A : Nat → Prop} {a_tl : Nat → Nat} {a_tp : Nat → Nat} {a_rd : Nat → Nat} {rv : Option Value} {w1 : va_W} (C : Cxt p s m args meth c cX7_tellInto 3 RX7 wsX7_tellInto (some .int) D t κ A) : ∀ (n : Nat) (x2 : Int32) (s_tl : S2) (s_tp : S2) (s_rd : S2) (x : Int32 × S2 × S2 × S2), wh (fun (c : Int32 × S2 × S2 × S2) => fX7_tellInto_b23 c.2.1 c.2.2.1 c.2.2.2 c.1) n (x2, s_tl, s_tp, s_rd) = some x → (∀ (z : Int32 × S2 × S2 × S2), x = z → ∀ (H : Heap) (locs : List Loc) (ls : Array Slot), va_P D vwCl ((wTeller t a_tl (a_tp 0) z.2.1) ++ (wTape t a_tp z.2.2.1) ++ (wRoad t a_rd z.2.2.2)) H → va_D A ((wTeller t a_tl (a_tp 0) z.2.1) ++ (wTape t a_tp z.2.2.1) ++ (wRoad t a_rd z.2.2.2)) → va_S A s.heap H locs → lv_has ls 3 [(0, .ref (a_tl 0)), (1, .ref (a_rd 0)), (2, .int z.1)] → W p l e (rmL 8) s m args below meth c H locs 0 0 (MQ below (gQ D rv w1 A) args s 0 0 A) (F0 m 44 ls [])) → ∀ (H : Heap) (locs : List Loc) (ls : Array Slot), va_P D vwCl ((wTeller t a_tl (a_tp 0) s_tl) ++ (wTape t a_tp s_tp) ++ (wRoad t a_rd s_rd)) H → va_D A ((wTeller t a_tl (a_tp 0) s_tl) ++ (wTape t a_tp s_tp) ++ (wRoad t a_rd s_rd)) → va_S A s.heap H locs → lv_has ls 3 [(0, .ref (a_tl 0)), (1, .ref (a_rd 0)), (2, .int x2)] → W p l e (rmL 8) s m args below meth c H locs 0 0 (MQ below (gQ D rv w1 A) args s 0 0 A) (F0 m 23 ls []) := by
  obtain ⟨hx, hb, hr, hml, hown, hts, hC0, hlk, hA⟩ := id C
  have hK := hC0.1
  intro n
  induction n with
  | zero =>
    intro x2 s_tl s_tp s_rd x h
    exact (wh_0 h).elim
  | succ n ih =>
    intro x2 s_tl s_tp s_rd x h HX H locs ls hP hD hS hl
    obtain ⟨v, hf, hB, hX⟩ := wh_step h
    have hf : fX7_tellInto_b23 s_tl s_tp s_rd x2 = some v := hf
    have HB : ∀ (z : Int32 × S2 × S2 × S2), v = .inl z → ∀ (H : Heap) (locs : List Loc) (ls : Array Slot), va_P D vwCl ((wTeller t a_tl (a_tp 0) z.2.1) ++ (wTape t a_tp z.2.2.1) ++ (wRoad t a_rd z.2.2.2)) H → va_D A ((wTeller t a_tl (a_tp 0) z.2.1) ++ (wTape t a_tp z.2.2.1) ++ (wRoad t a_rd z.2.2.2)) → va_S A s.heap H locs → lv_has ls 3 [(0, .ref (a_tl 0)), (1, .ref (a_rd 0)), (2, .int z.1)] → W p l e (rmL 8) s m args below meth c H locs 0 0 (MQ below (gQ D rv w1 A) args s 0 0 A) (F0 m 23 ls []) := fun z hz H locs ls hP hD hS hl => ih z.1 z.2.1 z.2.2.1 z.2.2.2 x (hB z hz) HX H locs ls hP hD hS hl
    have HX : ∀ (z : Int32 × S2 × S2 × S2), v = .inr z → ∀ (H : Heap) (locs : List Loc) (ls : Array Slot), va_P D vwCl ((wTeller t a_tl (a_tp 0) z.2.1) ++ (wTape t a_tp z.2.2.1) ++ (wRoad t a_rd z.2.2.2)) H → va_D A ((wTeller t a_tl (a_tp 0) z.2.1) ++ (wTape t a_tp z.2.2.1) ++ (wRoad t a_rd z.2.2.2)) → va_S A s.heap H locs → lv_has ls 3 [(0, .ref (a_tl 0)), (1, .ref (a_rd 0)), (2, .int z.1)] → W p l e (rmL 8) s m args below meth c H locs 0 0 (MQ below (gQ D rv w1 A) args s 0 0 A) (F0 m 44 ls []) := fun z hz => HX z (hX _ hz).symm
    unfold fX7_tellInto_b23 at hf
    refine lv_iload_n hx hb dX7_tellInto_23 rfl (lv_at hl 2 rfl) ?_
    refine lv_sipush (v := 160) hx hb dX7_tellInto_24 (by decide) ?_
    refine lv_icmp_ge (tgt := 44) hx hb dX7_tellInto_27 (by decide) (fun c5 => ?_) (fun c5 => ?_)
    · rw [if_pos c5] at hf
      obtain rfl := so_eq hf
      exact HX _ rfl _ _ _ hP hD hS (lv_sub hl [0, 1, 2] rfl)
    · rw [if_neg c5] at hf
      refine lv_aload_n hx hb dX7_tellInto_30 rfl (lv_at hl 0 rfl) ?_
      refine lv_aload_n hx hb dX7_tellInto_31 rfl (lv_at hl 1 rfl) ?_
      obtain ⟨v6, ev6, hf⟩ := bd_some hf
      refine gk_V0 C (As := [.ref (a_rd 0)]) (rest := []) (ci := 7) (q := (RX7, TX7, 3)) (q0 := 0) (cX7_takeLine_ok (l := l) (D := D) (t := t) (κ := κ) (a_tl := a_tl) (a_tp := a_tp) (a_rd := a_rd) ev6) gX7_tellInto_X7_takeLine rfl ⟨rfl, rfl⟩ hdX7_takeLine ⟨Nat.le_of_ble_eq_true rfl, Nat.le_of_ble_eq_true rfl⟩ rfl rfl hP hD hS rfl hl.1 (Nat.le_of_ble_eq_true rfl) dX7_tellInto_32 (Nat.zero_le _) (Nat.zero_le _) (fun H locs hP hD hS => ?_)
      refine W.eq (g2 := F0 m 35 ls [.int v6.1]) rfl ?_
      refine lv_if_eq (tgt := 44) hx hb dX7_tellInto_35 (by decide) (fun c7 => ?_) (fun c7 => ?_)
      · rw [if_pos c7] at hf
        obtain rfl := so_eq hf
        exact HX _ rfl _ _ _ hP hD hS (lv_sub hl [0, 1, 2] rfl)
      · rw [if_neg c7] at hf
        obtain ⟨y8, hy8, hf⟩ := nm_ex hf
        refine lv_iinc (v := y8) (lv' := [(2, .int y8), (0, .ref (a_tl 0)), (1, .ref (a_rd 0))]) hx hb dX7_tellInto_38 hl (k := 2) rfl (by rw [hy8]; rfl) (by decide) rfl (fun ls hl => ?_)
        refine lv_goto (tgt := 23) hx hb dX7_tellInto_41 (by decide) ?_
        obtain rfl := so_eq hf
        exact HB _ rfl _ _ _ hP hD hS (lv_sub hl [1, 2, 0] rfl)
set_option maxHeartbeats 4000000 in
set_option maxRecDepth 100000 in
theorem wX7_tellInto_67 {p : Program} {l : Launch} {e : Env} {s : State} {m : MethodId} {args : Array Value} {below : List Frame} {meth : Method} {c : Code} {D : va_G} {t : Nat → ClassId} {κ : Nat → Nat} {A : Nat → Prop} {a_tl : Nat → Nat} {a_tp : Nat → Nat} {a_rd : Nat → Nat} {s_tl : S2} {s_tp : S2} {s_rd : S2} {x2 : Int32} {out : Int32 × S2 × S2 × S2} (C : Cxt p s m args meth c cX7_tellInto 3 RX7 wsX7_tellInto (some .int) D t κ A) (hf : fX7_tellInto_67 s_tl s_tp s_rd x2 = some out) : ∀ (H : Heap) (locs : List Loc) (ls : Array Slot), va_P D vwCl ((wTeller t a_tl (a_tp 0) s_tl) ++ (wTape t a_tp s_tp) ++ (wRoad t a_rd s_rd)) H → va_D A ((wTeller t a_tl (a_tp 0) s_tl) ++ (wTape t a_tp s_tp) ++ (wRoad t a_rd s_rd)) → va_S A s.heap H locs → lv_has ls 3 [(0, .ref (a_tl 0)), (2, .int x2)] → W p l e (rmL 8) s m args below meth c H locs 0 0 (MQ below (gQ D (some (.int out.1)) ((wTeller t a_tl (a_tp 0) out.2.1) ++ (wTape t a_tp out.2.2.1) ++ (wRoad t a_rd out.2.2.2)) A) args s 0 0 A) (F0 m 67 ls []) := by
  obtain ⟨hx, hb, hr, hml, hown, hts, hC0, hlk, hA⟩ := id C
  have hK := hC0.1
  intro H locs ls hP hD hS hl
  unfold fX7_tellInto_67 at hf
  refine lv_aload_n hx hb dX7_tellInto_67 rfl (lv_at hl 0 rfl) ?_
  refine va_get (D := D) (ci := 7) (v := .ref (a_tp 0)) (C := RX7) (T := TX7) (N := 3) hx hb hts iwX7_tellInto_X7 hown hK hP 0 rfl rfl 0 (by decide) (hts _ lkX7_tellInto_f9) (fun _ h9 => h9) rfl dX7_tellInto_68 ?_
  refine va_getN (D := D) (ci := 6) (v := .int (s_tp 0 4)) (C := RX6) (T := TX6) (N := 7) hx hb hts iwX7_tellInto_X6 hown hK hP 1 rfl rfl 5 (by decide) (hC0.2.1.f 4 rfl) (fun _ h9 => h9) rfl dX7_tellInto_71 ?_
  refine lv_if_ne (tgt := 81) hx hb dX7_tellInto_74 (by decide) (fun c12 => ?_) (fun c12 => ?_)
  · rw [if_neg c12] at hf
    refine lv_bipush (v := -10) hx hb dX7_tellInto_81 (by decide) ?_
    refine lv_aload_n hx hb dX7_tellInto_83 rfl (lv_at hl 0 rfl) ?_
    refine va_get (D := D) (ci := 7) (v := .ref (a_tp 0)) (C := RX7) (T := TX7) (N := 3) hx hb hts iwX7_tellInto_X7 hown hK hP 0 rfl rfl 0 (by decide) (hts _ lkX7_tellInto_f9) (fun _ h9 => h9) rfl dX7_tellInto_84 ?_
    refine va_getN (D := D) (ci := 6) (v := .int (s_tp 0 5)) (C := RX6) (T := TX6) (N := 7) hx hb hts iwX7_tellInto_X6 hown hK hP 1 rfl rfl 6 (by decide) (hC0.2.1.f 6 rfl) (fun _ h9 => h9) rfl dX7_tellInto_87 ?_
    refine lv_isub hx hb dX7_tellInto_90 ?_
    obtain rfl := so_eq hf
    exact g_iret C hP hD hS dX7_tellInto_91
  · rw [if_pos c12] at hf
    refine lv_iload_n hx hb dX7_tellInto_77 rfl (lv_at hl 1 rfl) ?_
    refine lv_goto (tgt := 91) hx hb dX7_tellInto_78 (by decide) ?_
    obtain rfl := so_eq hf
    exact g_iret C hP hD hS dX7_tellInto_91
set_option maxHeartbeats 4000000 in
set_option maxRecDepth 100000 in
theorem wX7_tellInto_44 {p : Program} {l : Launch} {e : Env} {s : State} {m : MethodId} {args : Array Value} {below : List Frame} {meth : Method} {c : Code} {D : va_G} {t : Nat → ClassId} {κ : Nat → Nat} {A : Nat → Prop} {a_tl : Nat → Nat} {a_tp : Nat → Nat} {a_rd : Nat → Nat} {s_tl : S2} {s_tp : S2} {s_rd : S2} {x2 : Int32} {out : Int32 × S2 × S2 × S2} (C : Cxt p s m args meth c cX7_tellInto 3 RX7 wsX7_tellInto (some .int) D t κ A) (hf : fX7_tellInto_44 s_tl s_tp s_rd x2 = some out) : ∀ (H : Heap) (locs : List Loc) (ls : Array Slot), va_P D vwCl ((wTeller t a_tl (a_tp 0) s_tl) ++ (wTape t a_tp s_tp) ++ (wRoad t a_rd s_rd)) H → va_D A ((wTeller t a_tl (a_tp 0) s_tl) ++ (wTape t a_tp s_tp) ++ (wRoad t a_rd s_rd)) → va_S A s.heap H locs → lv_has ls 3 [(0, .ref (a_tl 0)), (1, .ref (a_rd 0)), (2, .int x2)] → W p l e (rmL 8) s m args below meth c H locs 0 0 (MQ below (gQ D (some (.int out.1)) ((wTeller t a_tl (a_tp 0) out.2.1) ++ (wTape t a_tp out.2.2.1) ++ (wRoad t a_rd out.2.2.2)) A) args s 0 0 A) (F0 m 44 ls []) := by
  obtain ⟨hx, hb, hr, hml, hown, hts, hC0, hlk, hA⟩ := id C
  have hK := hC0.1
  intro H locs ls hP hD hS hl
  unfold fX7_tellInto_44 at hf
  refine lv_aload_n hx hb dX7_tellInto_44 rfl (lv_at hl 1 rfl) ?_
  obtain ⟨v10, ev10, hf⟩ := bd_some hf
  refine gk_V C (As := []) (rest := []) (ci := 2) (q := (RX2, TX2, 12)) (q0 := 0) (wr := ((wTeller t a_tl (a_tp 0) s_tl) ++ (wTape t a_tp s_tp))) (wf := ((wTeller t a_tl (a_tp 0) s_tl) ++ (wTape t a_tp s_tp) ++ (wRoad t a_rd s_rd))) (cX2_lacksMile_ok (l := l) (D := D) (t := t) (κ := κ) (a_rd := a_rd) ev10) gX7_tellInto_X2_lacksMile rfl ⟨rfl, rfl⟩ hdX2_lacksMile ⟨Nat.le_of_ble_eq_true rfl, Nat.le_of_ble_eq_true rfl⟩ rfl rfl hP hD hS [3, 4, 5, 6, 7, 8, 9, 10, 11] [0, 1, 2] [0, 1, 2, 3, 4, 5, 6, 7, 8, 9, 10, 11] rfl rfl rfl rfl (by decide) rfl rfl rfl hl.1 (Nat.le_of_ble_eq_true rfl) dX7_tellInto_45 (Nat.zero_le _) (Nat.zero_le _) (fun H locs hP hD hS => ?_)
  refine W.eq (g2 := F0 m 48 ls [.int v10]) rfl ?_
  refine lv_if_eq (tgt := 67) hx hb dX7_tellInto_48 (by decide) (fun c11 => ?_) (fun c11 => ?_)
  · rw [if_pos c11] at hf
    exact wX7_tellInto_67 C hf _ _ _ hP hD hS (lv_sub hl [0, 2] rfl)
  · rw [if_neg c11] at hf
    refine lv_aload_n hx hb dX7_tellInto_51 rfl (lv_at hl 0 rfl) ?_
    refine va_get (D := D) (ci := 7) (v := .ref (a_tp 0)) (C := RX7) (T := TX7) (N := 3) hx hb hts iwX7_tellInto_X7 hown hK hP 0 rfl rfl 0 (by decide) (hts _ lkX7_tellInto_f9) (fun _ h9 => h9) rfl dX7_tellInto_52 ?_
    refine lv_bipush (v := 6) hx hb dX7_tellInto_55 (by decide) ?_
    refine lv_aload_n hx hb dX7_tellInto_57 rfl (lv_at hl 0 rfl) ?_
    refine va_get (D := D) (ci := 7) (v := .ref (a_tp 0)) (C := RX7) (T := TX7) (N := 3) hx hb hts iwX7_tellInto_X7 hown hK hP 0 rfl rfl 0 (by decide) (hts _ lkX7_tellInto_f9) (fun _ h9 => h9) rfl dX7_tellInto_58 ?_
    refine va_getN (D := D) (ci := 6) (v := .int (s_tp 0 0)) (C := RX6) (T := TX6) (N := 7) hx hb hts iwX7_tellInto_X6 hown hK hP 1 rfl rfl 1 (by decide) (hC0.2.1.f 1 rfl) (fun _ h9 => h9) rfl dX7_tellInto_61 ?_
    obtain ⟨v13, ev13, hf⟩ := bd_some hf
    refine gk_V C (As := [.int (6 : Int32), .int (s_tp 0 0)]) (rest := []) (ci := 6) (q := (RX6, TX6, 7)) (q0 := 0) (wr := ((wTeller t a_tl (a_tp 0) s_tl) ++ (wRoad t a_rd s_rd))) (wf := ((wTeller t a_tl (a_tp 0) s_tl) ++ (wTape t a_tp v13) ++ (wRoad t a_rd s_rd))) (cX6_blame_ok (l := l) (D := D) (t := t) (κ := κ) (a_tp := a_tp) ev13) gX7_tellInto_X6_blame rfl ⟨rfl, rfl⟩ hdX6_blame ⟨Nat.le_of_ble_eq_true rfl, Nat.le_of_ble_eq_true rfl⟩ rfl rfl hP hD hS [1, 2] [0, 3, 4, 5, 6, 7, 8, 9, 10, 11] [0, 10, 11, 1, 2, 3, 4, 5, 6, 7, 8, 9] rfl rfl rfl rfl (by decide) rfl rfl rfl hl.1 (Nat.le_of_ble_eq_true rfl) dX7_tellInto_64 (Nat.zero_le _) (Nat.zero_le _) (fun H locs hP hD hS => ?_)
    refine W.eq (g2 := F0 m 67 ls []) rfl ?_
    exact wX7_tellInto_67 C hf _ _ _ hP hD hS (lv_sub hl [0, 2] rfl)
set_option maxHeartbeats 4000000 in
set_option maxRecDepth 100000 in
theorem cX7_tellInto_ok {l : Launch} {D : va_G} {t : Nat → ClassId} {κ : Nat → Nat} {a_tl : Nat → Nat} {a_tp : Nat → Nat} {a_rd : Nat → Nat} {s_tl : S2} {s_tp : S2} {s_rd : S2} {out : Int32 × S2 × S2 × S2} (hf : fX7_tellInto s_tl s_tp s_rd = some out) : Ct l D t κ yX7_tellInto wsX7_tellInto (rmL 8) [.ref (a_tl 0), .ref (a_rd 0)] ((wTeller t a_tl (a_tp 0) s_tl) ++ (wTape t a_tp s_tp) ++ (wRoad t a_rd s_rd)) (some (.int out.1)) ((wTeller t a_tl (a_tp 0) out.2.1) ++ (wTape t a_tp out.2.2.1) ++ (wRoad t a_rd out.2.2.2)) := by
  refine Ct.ofW (own := RX7) (cc := cX7_tellInto) (maxL := 3) (ret := (some .int)) (by decide) rfl rfl (Nat.le_of_ble_eq_true rfl) ?_
  intro p e s m below meth c A C hP hD ls hl
  have hS : va_S A s.heap s.heap [] := va_S.rf
  obtain ⟨hx, hb, hr, hml, hown, hts, hC0, hlk, hA⟩ := id C
  have hK := hC0.1
  have hl : lv_has ls 3 [(0, .ref (a_tl 0)), (1, .ref (a_rd 0))] := hl
  unfold fX7_tellInto at hf
  refine lv_aload_n hx hb dX7_tellInto_0 rfl (lv_at hl 1 rfl) ?_
  obtain ⟨v1, ev1, hf⟩ := bd_some hf
  refine gk_V C (As := []) (rest := []) (ci := 2) (q := (RX2, TX2, 12)) (q0 := 0) (wr := ((wTeller t a_tl (a_tp 0) s_tl) ++ (wTape t a_tp s_tp))) (wf := ((wTeller t a_tl (a_tp 0) s_tl) ++ (wTape t a_tp s_tp) ++ (wRoad t a_rd v1))) (cX2_wipe_ok (l := l) (D := D) (t := t) (κ := κ) (a_rd := a_rd) ev1) gX7_tellInto_X2_wipe rfl ⟨rfl, rfl⟩ hdX2_wipe ⟨Nat.le_of_ble_eq_true rfl, Nat.le_of_ble_eq_true rfl⟩ rfl rfl hP hD hS [3, 4, 5, 6, 7, 8, 9, 10, 11] [0, 1, 2] [0, 1, 2, 3, 4, 5, 6, 7, 8, 9, 10, 11] rfl rfl rfl rfl (by decide) rfl rfl rfl hl.1 (Nat.le_of_ble_eq_true rfl) dX7_tellInto_1 (Nat.zero_le _) (Nat.zero_le _) (fun H locs hP hD hS => ?_)
  refine W.eq (g2 := F0 m 4 ls []) rfl ?_
  refine lv_aload_n hx hb dX7_tellInto_4 rfl (lv_at hl 0 rfl) ?_
  refine va_get (D := D) (ci := 7) (v := .ref (a_tp 0)) (C := RX7) (T := TX7) (N := 3) hx hb hts iwX7_tellInto_X7 hown hK hP 0 rfl rfl 0 (by decide) (hts _ lkX7_tellInto_f9) (fun _ h9 => h9) rfl dX7_tellInto_5 ?_
  obtain ⟨v2, ev2, hf⟩ := bd_some hf
  refine gk_V C (As := []) (rest := []) (ci := 6) (q := (RX6, TX6, 7)) (q0 := 0) (wr := ((wTeller t a_tl (a_tp 0) s_tl) ++ (wRoad t a_rd v1))) (wf := ((wTeller t a_tl (a_tp 0) s_tl) ++ (wTape t a_tp v2) ++ (wRoad t a_rd v1))) (cX6_rewind_ok (l := l) (D := D) (t := t) (κ := κ) (a_tp := a_tp) ev2) gX7_tellInto_X6_rewind rfl ⟨rfl, rfl⟩ hdX6_rewind ⟨Nat.le_of_ble_eq_true rfl, Nat.le_of_ble_eq_true rfl⟩ rfl rfl hP hD hS [1, 2] [0, 3, 4, 5, 6, 7, 8, 9, 10, 11] [0, 10, 11, 1, 2, 3, 4, 5, 6, 7, 8, 9] rfl rfl rfl rfl (by decide) rfl rfl rfl hl.1 (Nat.le_of_ble_eq_true rfl) dX7_tellInto_8 (Nat.zero_le _) (Nat.zero_le _) (fun H locs hP hD hS => ?_)
  refine W.eq (g2 := F0 m 11 ls []) rfl ?_
  refine lv_aload_n hx hb dX7_tellInto_11 rfl (lv_at hl 0 rfl) ?_
  refine lv_iconst (v := 0) hx hb dX7_tellInto_12 (by decide) ?_
  obtain ⟨s3, hs3, hf⟩ := nm_ex hf
  refine va_put (D := D) (ci := 7) (v := .int (0 : Int32)) (ty := .boolean) (C := RX7) (T := TX7) (N := 3) hx hb hts iwX7_tellInto_X7 tyX7 tyX7_ok nmX7 hown hK hP hD hS 0 rfl rfl 1 (by decide) (hts _ lkX7_tellInto_f25) (fun _ h9 => h9) rfl (by decide +kernel) rfl rfl (Nat.le_of_ble_eq_true rfl) dX7_tellInto_13 (fun H locs hP hD hS => ?_)
  have hP : va_P D vwCl ((wTeller t a_tl (a_tp 0) s3) ++ (wTape t a_tp v2) ++ (wRoad t a_rd v1)) H := by rw [hs3]; exact hP
  have hD : va_D A ((wTeller t a_tl (a_tp 0) s3) ++ (wTape t a_tp v2) ++ (wRoad t a_rd v1)) := by rw [hs3]; exact hD
  refine lv_aload_n hx hb dX7_tellInto_16 rfl (lv_at hl 0 rfl) ?_
  refine lv_iconst (v := 0) hx hb dX7_tellInto_17 (by decide) ?_
  obtain ⟨s4, hs4, hf⟩ := nm_ex hf
  refine va_put (D := D) (ci := 7) (v := .int (0 : Int32)) (ty := .boolean) (C := RX7) (T := TX7) (N := 3) hx hb hts iwX7_tellInto_X7 tyX7 tyX7_ok nmX7 hown hK hP hD hS 0 rfl rfl 2 (by decide) (hts _ lkX7_tellInto_f29) (fun _ h9 => h9) rfl (by decide +kernel) rfl rfl (Nat.le_of_ble_eq_true rfl) dX7_tellInto_18 (fun H locs hP hD hS => ?_)
  have hP : va_P D vwCl ((wTeller t a_tl (a_tp 0) s4) ++ (wTape t a_tp v2) ++ (wRoad t a_rd v1)) H := by rw [hs4]; exact hP
  have hD : va_D A ((wTeller t a_tl (a_tp 0) s4) ++ (wTape t a_tp v2) ++ (wRoad t a_rd v1)) := by rw [hs4]; exact hD
  refine lv_iconst (v := 0) hx hb dX7_tellInto_21 (by decide) ?_
  refine lv_istore_n (lv' := [(2, .int (0 : Int32)), (0, .ref (a_tl 0)), (1, .ref (a_rd 0))]) hx hb dX7_tellInto_22 rfl hl (by decide) rfl (fun ls hl => ?_)
  obtain ⟨x9, ex9, hf⟩ := bd_some hf
  refine wX7_tellInto_l23 C 5000 (0 : Int32) s4 v2 v1 x9 ex9 (fun c9 h9 H locs ls hP hD hS hl => ?_) _ _ _ hP hD hS (lv_sub hl [1, 2, 0] rfl)
  subst h9
  exact wX7_tellInto_44 C hf _ _ _ hP hD hS (lv_sub hl [0, 1, 2] rfl)
