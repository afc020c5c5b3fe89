/-! CoachCourt$Drive.fateRow -/
def selX0_fateRow (x : Int32) : Nat := if x = 0 then 1 else if x = 1 then 2 else if x = 2 then 3 else 4
theorem selX0_fateRow_d {x : Int32} (h0 : ¬ x = 0) (h1 : ¬ x = 1) (h2 : ¬ x = 2) : selX0_fateRow x = 4 := by unfold selX0_fateRow; rw [if_neg h0, if_neg h1, if_neg h2]
theorem hdX0_fateRow : yX0_fateRow.cls = RX0 ∧ yX0_fateRow.cls ≠ "java/lang/invoke/MethodHandle" ∧ yX0_fateRow.cls ≠ "java/lang/invoke/VarHandle" ∧ (parseMethodDescriptor yX0_fateRow.desc).map (fun d => d.parameters.length) = some 1 := by decide +kernel
theorem iwX0_fateRow_X0 : ∀ w ∈ wsX00, w ∈ wsX0_fateRow := by decide +kernel
theorem lkX0_fateRow_f9 : Cond.fieldLink RX0 9 "CoachCourt$Drive" "verdict" "[I" ∈ wsX0_fateRow := by decide +kernel
theorem lkX0_fateRow_f15 : Cond.fieldLink RX0 15 "CoachCourt$Drive" "fall" "[I" ∈ wsX0_fateRow := by decide +kernel
theorem lkX0_fateRow_f18 : Cond.fieldLink RX0 18 "CoachCourt$Drive" "heard" "[I" ∈ wsX0_fateRow := by decide +kernel
theorem lkX0_fateRow_f21 : Cond.fieldLink RX0 21 "CoachCourt$Drive" "left" "[I" ∈ wsX0_fateRow := by decide +kernel
set_option maxHeartbeats 4000000 in
set_option maxRecDepth 100000 in
theorem cX0_fateRow_ok {l : Launch} {D : va_G} {t : Nat → ClassId} {κ : Nat → Nat} {a_dr : Nat → Nat} {s_dr : S2} {p1 : Int32} : Ct l D t κ yX0_fateRow wsX0_fateRow (rmL 0) [.ref (a_dr 0), .int p1] (wDrive t a_dr s_dr) (some (.ref (a_dr (selX0_fateRow p1)))) (wDrive t a_dr s_dr) := by
  refine Ct.ofW (own := RX0) (cc := cX0_fateRow) (maxL := 2) (ret := (some (.array .int))) (by decide) rfl rfl (Nat.le_of_ble_eq_true rfl) ?_
  intro p e s m below meth c A C hP hD ls hl
  have hS : va_S A s.heap s.heap [] := va_S.rf
  obtain ⟨hx, hb, hr, hml, hown, hts, hC0, hlk, hA⟩ := id C
  have hK := hC0.1
  have hl : lv_has ls 2 [(0, .ref (a_dr 0)), (1, .int p1)] := hl
  refine lv_iload_n hx hb dX0_fateRow_0 rfl (lv_at hl 1 rfl) ?_
  by_cases c0 : p1 = 0
  · subst c0
    refine lv_tableIn (tgt := 28) hx hb dX0_fateRow_1 (by decide) (by decide) rfl (by decide) ?_
    refine lv_aload_n hx hb dX0_fateRow_28 rfl (lv_at hl 0 rfl) ?_
    refine va_get (D := D) (ci := 0) (v := .ref (a_dr 1)) (C := RX0) (T := TX0) (N := 7) hx hb hts iwX0_fateRow_X0 hown hK hP 0 rfl rfl 0 (by decide) (hts _ lkX0_fateRow_f9) (fun _ h9 => h9) rfl dX0_fateRow_29 ?_
    exact g_aret C hP hD hS dX0_fateRow_32
  by_cases c1 : p1 = 1
  · subst c1
    refine lv_tableIn (tgt := 33) hx hb dX0_fateRow_1 (by decide) (by decide) rfl (by decide) ?_
    refine lv_aload_n hx hb dX0_fateRow_33 rfl (lv_at hl 0 rfl) ?_
    refine va_get (D := D) (ci := 0) (v := .ref (a_dr 2)) (C := RX0) (T := TX0) (N := 7) hx hb hts iwX0_fateRow_X0 hown hK hP 0 rfl rfl 1 (by decide) (hts _ lkX0_fateRow_f15) (fun _ h9 => h9) rfl dX0_fateRow_34 ?_
    exact g_aret C hP hD hS dX0_fateRow_37
  by_cases c2 : p1 = 2
  · subst c2
    refine lv_tableIn (tgt := 38) hx hb dX0_fateRow_1 (by decide) (by decide) rfl (by decide) ?_
    refine lv_aload_n hx hb dX0_fateRow_38 rfl (lv_at hl 0 rfl) ?_
    refine va_get (D := D) (ci := 0) (v := .ref (a_dr 3)) (C := RX0) (T := TX0) (N := 7) hx hb hts iwX0_fateRow_X0 hown hK hP 0 rfl rfl 2 (by decide) (hts _ lkX0_fateRow_f18) (fun _ h9 => h9) rfl dX0_fateRow_39 ?_
    exact g_aret C hP hD hS dX0_fateRow_42
  refine lv_tableOut (tgt := 43) hx hb dX0_fateRow_1 (by have nc0 := lv_neT c0 (a := 0) (by decide); have nc1 := lv_neT c1 (a := 1) (by decide); have nc2 := lv_neT c2 (a := 2) (by decide); omega) (by decide) ?_
  rw [selX0_fateRow_d c0 c1 c2]
  refine lv_aload_n hx hb dX0_fateRow_43 rfl (lv_at hl 0 rfl) ?_
  refine va_get (D := D) (ci := 0) (v := .ref (a_dr 4)) (C := RX0) (T := TX0) (N := 7) hx hb hts iwX0_fateRow_X0 hown hK hP 0 rfl rfl 3 (by decide) (hts _ lkX0_fateRow_f21) (fun _ h9 => h9) rfl dX0_fateRow_44 ?_
  exact g_aret C hP hD hS dX0_fateRow_47
/-! CoachCourt$Drive.hasVerdict -/
def fX0_hasVerdict (s_dr : S2) (p1 : Int32) : Option (Int32) :=
  gd (ixb p1 4) <|
  if (s_dr 1 (Int32.toNatClampNeg p1)) = (-4 : Int32) then
    (some (0 : Int32))
  else
    (some (1 : Int32))
theorem hdX0_hasVerdict : yX0_hasVerdict.cls = RX0 ∧ yX0_hasVerdict.cls ≠ "java/lang/invoke/MethodHandle" ∧ yX0_hasVerdict.cls ≠ "java/lang/invoke/VarHandle" ∧ (parseMethodDescriptor yX0_hasVerdict.desc).map (fun d => d.parameters.length) = some 1 := by decide +kernel
theorem iwX0_hasVerdict_X0 : ∀ w ∈ wsX00, w ∈ wsX0_hasVerdict := by decide +kernel
theorem lkX0_hasVerdict_f9 : Cond.fieldLink RX0 9 "CoachCourt$Drive" "verdict" "[I" ∈ wsX0_hasVerdict := by decide +kernel
set_option maxHeartbeats 4000000 in
set_option maxRecDepth 100000 in
theorem cX0_hasVerdict_ok {l : Launch} {D : va_G} {t : Nat → ClassId} {κ : Nat → Nat} {a_dr : Nat → Nat} {s_dr : S2} {p1 : Int32} {out : Int32} (hf : fX0_hasVerdict s_dr p1 = some out) : Ct l D t κ yX0_hasVerdict wsX0_hasVerdict (rmL 0) [.ref (a_dr 0), .int p1] (wDrive t a_dr s_dr) (some (.int out)) (wDrive t a_dr s_dr) := by
  refine Ct.ofW (own := RX0) (cc := cX0_hasVerdict) (maxL := 2) (ret := (some .boolean)) (by decide) rfl rfl (Nat.le_of_ble_eq_true rfl) ?_
  intro p e s m below meth c A C hP hD ls hl
  have hS : va_S A s.heap s.heap [] := va_S.rf
  obtain ⟨hx, hb, hr, hml, hown, hts, hC0, hlk, hA⟩ := id C
  have hK := hC0.1
  have hl : lv_has ls 2 [(0, .ref (a_dr 0)), (1, .int p1)] := hl
  unfold fX0_hasVerdict at hf
  refine lv_aload_n hx hb dX0_hasVerdict_0 rfl (lv_at hl 0 rfl) ?_
  refine va_get (D := D) (ci := 0) (v := .ref (a_dr 1)) (C := RX0) (T := TX0) (N := 7) hx hb hts iwX0_hasVerdict_X0 hown hK hP 0 rfl rfl 0 (by decide) (hts _ lkX0_hasVerdict_f9) (fun _ h9 => h9) rfl dX0_hasVerdict_1 ?_
  refine lv_iload_n hx hb dX0_hasVerdict_4 rfl (lv_at hl 1 rfl) ?_
  obtain ⟨b1, hf⟩ := gd_some hf
  refine va_iald hx hb hK hP 1 0 rfl rfl (ixb_in b1) dX0_hasVerdict_5 ?_
  refine lv_bipush (v := -4) hx hb dX0_hasVerdict_6 (by decide) ?_
  refine lv_icmp_eq (tgt := 15) hx hb dX0_hasVerdict_8 (by decide) (fun c2 => ?_) (fun c2 => ?_)
  · rw [if_pos c2] at hf
    refine lv_iconst (v := 0) hx hb dX0_hasVerdict_15 (by decide) ?_
    obtain rfl := so_eq hf
    exact g_zret (v := 0) C rfl hP hD hS dX0_hasVerdict_16
  · rw [if_neg c2] at hf
    refine lv_iconst (v := 1) hx hb dX0_hasVerdict_11 (by decide) ?_
    refine lv_goto (tgt := 16) hx hb dX0_hasVerdict_12 (by decide) ?_
    obtain rfl := so_eq hf
    exact g_zret (v := 1) C rfl hP hD hS dX0_hasVerdict_16
/-! CoachCourt$Drive.whoHas -/
def fX0_whoHas_b11 (s_dr : S2) (x3 : Int32) (x4 : Int32) : Option ((Int32 × Int32) ⊕ (Int32 × Int32)) :=
  if (s_dr 0 0) ≤ x4 then
    (some (.inr (x3, x4)))
  else
    (gd (ixb x4 4) <|
    if (s_dr 1 (Int32.toNatClampNeg x4)) = (-4 : Int32) then
      (nm (x4 + (1 : Int32)) fun y6 =>
      some (.inl (x3, y6)))
    else
      (nm (x3 ||| ((1 : Int32) <<< (x4 &&& 31))) fun y7 =>
      nm (x4 + (1 : Int32)) fun y8 =>
      some (.inl (y7, y8))))
def fX0_whoHas_b11_2 (s_dr : S2) (x3 : Int32) (x4 : Int32) : Option ((Int32 × Int32) ⊕ (Int32 × Int32)) :=
  if (s_dr 0 0) ≤ x4 then
    (some (.inr (x3, x4)))
  else
    (gd (ixb x4 4) <|
    if (s_dr 2 (Int32.toNatClampNeg x4)) = (-4 : Int32) then
      (nm (x4 + (1 : Int32)) fun y14 =>
      some (.inl (x3, y14)))
    else
      (nm (x3 ||| ((1 : Int32) <<< (x4 &&& 31))) fun y15 =>
      nm (x4 + (1 : Int32)) fun y16 =>
      some (.inl (y15, y16))))
def fX0_whoHas_b11_3 (s_dr : S2) (x3 : Int32) (x4 : Int32) : Option ((Int32 × Int32) ⊕ (Int32 × Int32)) :=
  if (s_dr 0 0) ≤ x4 then
    (some (.inr (x3, x4)))
  else
    (gd (ixb x4 4) <|
    if (s_dr 3 (Int32.toNatClampNeg x4)) = (-4 : Int32) then
      (nm (x4 + (1 : Int32)) fun y22 =>
      some (.inl (x3, y22)))
    else
      (nm (x3 ||| ((1 : Int32) <<< (x4 &&& 31))) fun y23 =>
      nm (x4 + (1 : Int32)) fun y24 =>
      some (.inl (y23, y24))))
def fX0_whoHas_b11_4 (s_dr : S2) (x3 : Int32) (x4 : Int32) : Option ((Int32 × Int32) ⊕ (Int32 × Int32)) :=
  if (s_dr 0 0) ≤ x4 then
    (some (.inr (x3, x4)))
  else
    (gd (ixb x4 4) <|
    if (s_dr 4 (Int32.toNatClampNeg x4)) = (-4 : Int32) then
      (nm (x4 + (1 : Int32)) fun y29 =>
      some (.inl (x3, y29)))
    else
      (nm (x3 ||| ((1 : Int32) <<< (x4 &&& 31))) fun y30 =>
      nm (x4 + (1 : Int32)) fun y31 =>
      some (.inl (y30, y31))))
def fX0_whoHas (s_dr : S2) (p1 : Int32) : Option (Int32) :=
  if p1 = 0 then
    ((wh (fun (c : Int32 × Int32) => fX0_whoHas_b11 s_dr c.1 c.2) 5000 ((0 : Int32), (0 : Int32))).bind fun x9 =>
    some x9.1)
  else
  if p1 = 1 then
    ((wh (fun (c : Int32 × Int32) => fX0_whoHas_b11_2 s_dr c.1 c.2) 5000 ((0 : Int32), (0 : Int32))).bind fun x17 =>
    some x17.1)
  else
  if p1 = 2 then
    ((wh (fun (c : Int32 × Int32) => fX0_whoHas_b11_3 s_dr c.1 c.2) 5000 ((0 : Int32), (0 : Int32))).bind fun x25 =>
    some x25.1)
  else
  ((wh (fun (c : Int32 × Int32) => fX0_whoHas_b11_4 s_dr c.1 c.2) 5000 ((0 : Int32), (0 : Int32))).bind fun x32 =>
  some x32.1)
theorem hdX0_whoHas : yX0_whoHas.cls = RX0 ∧ yX0_whoHas.cls ≠ "java/lang/invoke/MethodHandle" ∧ yX0_whoHas.cls ≠ "java/lang/invoke/VarHandle" ∧ (parseMethodDescriptor yX0_whoHas.desc).map (fun d => d.parameters.length) = some 1 := by decide +kernel
theorem iwX0_whoHas_X0 : ∀ w ∈ wsX00, w ∈ wsX0_whoHas := by decide +kernel
theorem lkX0_whoHas_f31 : Cond.fieldLink RX0 31 "CoachCourt$Drive" "parties" "I" ∈ wsX0_whoHas := by decide +kernel
set_option maxHeartbeats 4000000 in
set_option maxRecDepth 100000 in
theorem wX0_whoHas_l11 {p : Program} {l : Launch} {e : Env} {s : State} {m : MethodId} {args : Array Value} {below : List Frame} {meth : Method} {c : Code} {D : va_G} {t : Nat → ClassId} {κ : Nat → Nat} {A : Nat → Prop} {a_dr : Nat → Nat} {s_dr : S2} {rv : Option Value} {w1 : va_W} (C : Cxt p s m args meth c cX0_whoHas 5 RX0 wsX0_whoHas (some .int) D t κ A) : ∀ (n : Nat) (x3 : Int32) (x4 : Int32) (x : Int32 × Int32), wh (fun (c : Int32 × Int32) => fX0_whoHas_b11 s_dr c.1 c.2) n (x3, x4) = some x → (∀ (z : Int32 × Int32), x = z → ∀ (H : Heap) (locs : List Loc) (ls : Array Slot), va_P D vwCl (wDrive t a_dr s_dr) H → va_D A (wDrive t a_dr s_dr) → va_S A s.heap H locs → lv_has ls 5 [(3, .int z.1)] → W p l e (rmL 1) s m args below meth c H locs 0 0 (MQ below (gQ D rv w1 A) args s 0 0 A) (F0 m 42 ls [])) → ∀ (H : Heap) (locs : List Loc) (ls : Array Slot), va_P D vwCl (wDrive t a_dr s_dr) H → va_D A (wDrive t a_dr s_dr) → va_S A s.heap H locs → lv_has ls 5 [(0, .ref (a_dr 0)), (2, .ref (a_dr 1)), (3, .int x3), (4, .int x4)] → W p l e (rmL 1) s m args below meth c H locs 0 0 (MQ below (gQ D rv w1 A) args s 0 0 A) (F0 m 11 ls []) := by
  obtain ⟨hx, hb, hr, hml, hown, hts, hC0, hlk, hA⟩ := id C
  have hK := hC0.1
  intro n
  induction n with
  | zero =>
    intro x3 x4 x h
    exact (wh_0 h).elim
  | succ n ih =>
    intro x3 x4 x h HX H locs ls hP hD hS hl
    obtain ⟨v, hf, hB, hX⟩ := wh_step h
    have hf : fX0_whoHas_b11 s_dr x3 x4 = some v := hf
    have HB : ∀ (z : Int32 × Int32), v = .inl z → ∀ (H : Heap) (locs : List Loc) (ls : Array Slot), va_P D vwCl (wDrive t a_dr s_dr) H → va_D A (wDrive t a_dr s_dr) → va_S A s.heap H locs → lv_has ls 5 [(0, .ref (a_dr 0)), (2, .ref (a_dr 1)), (3, .int z.1), (4, .int z.2)] → W p l e (rmL 1) s m args below meth c H locs 0 0 (MQ below (gQ D rv w1 A) args s 0 0 A) (F0 m 11 ls []) := fun z hz H locs ls hP hD hS hl => ih z.1 z.2 x (hB z hz) HX H locs ls hP hD hS hl
    have HX : ∀ (z : Int32 × Int32), v = .inr z → ∀ (H : Heap) (locs : List Loc) (ls : Array Slot), va_P D vwCl (wDrive t a_dr s_dr) H → va_D A (wDrive t a_dr s_dr) → va_S A s.heap H locs → lv_has ls 5 [(3, .int z.1)] → W p l e (rmL 1) s m args below meth c H locs 0 0 (MQ below (gQ D rv w1 A) args s 0 0 A) (F0 m 42 ls []) := fun z hz => HX z (hX _ hz).symm
    unfold fX0_whoHas_b11 at hf
    refine lv_iload hx hb dX0_whoHas_11 (lv_at hl 3 rfl) ?_
    refine lv_aload_n hx hb dX0_whoHas_13 rfl (lv_at hl 0 rfl) ?_
    refine va_get (D := D) (ci := 0) (v := .int (s_dr 0 0)) (C := RX0) (T := TX0) (N := 7) hx hb hts iwX0_whoHas_X0 hown hK hP 0 rfl rfl 5 (by decide) (hts _ lkX0_whoHas_f31) (fun _ h9 => h9) rfl dX0_whoHas_14 ?_
    refine lv_icmp_ge (tgt := 42) hx hb dX0_whoHas_17 (by decide) (fun c3 => ?_) (fun c3 => ?_)
    · rw [if_pos c3] at hf
      obtain rfl := so_eq hf
      exact HX _ rfl _ _ _ hP hD hS (lv_sub hl [2] rfl)
    · rw [if_neg c3] at hf
      refine lv_aload_n hx hb dX0_whoHas_20 rfl (lv_at hl 1 rfl) ?_
      refine lv_iload hx hb dX0_whoHas_21 (lv_at hl 3 rfl) ?_
      obtain ⟨b4, hf⟩ := gd_some hf
      refine va_iald hx hb hK hP 1 0 rfl rfl (ixb_in b4) dX0_whoHas_23 ?_
      refine lv_bipush (v := -4) hx hb dX0_whoHas_24 (by decide) ?_
      refine lv_icmp_eq (tgt := 36) hx hb dX0_whoHas_26 (by decide) (fun c5 => ?_) (fun c5 => ?_)
      · rw [if_pos c5] at hf
        obtain ⟨y6, hy6, hf⟩ := nm_ex hf
        refine lv_iinc (v := y6) (lv' := [(4, .int y6), (0, .ref (a_dr 0)), (2, .ref (a_dr 1)), (3, .int x3)]) hx hb dX0_whoHas_36 hl (k := 3) rfl (by rw [hy6]; rfl) (by decide) rfl (fun ls hl => ?_)
        refine lv_goto (tgt := 11) hx hb dX0_whoHas_39 (by decide) ?_
        obtain rfl := so_eq hf
        exact HB _ rfl _ _ _ hP hD hS (lv_sub hl [1, 2, 3, 0] rfl)
      · rw [if_neg c5] at hf
        refine lv_iload_n hx hb dX0_whoHas_29 rfl (lv_at hl 2 rfl) ?_
        refine lv_iconst (v := 1) hx hb dX0_whoHas_30 (by decide) ?_
        refine lv_iload hx hb dX0_whoHas_31 (lv_at hl 3 rfl) ?_
        refine lv_ishl hx hb dX0_whoHas_33 ?_
        refine lv_ior hx hb dX0_whoHas_34 ?_
        obtain ⟨y7, hy7, hf⟩ := nm_ex hf
        refine W.eq (g2 := F0 m 35 ls [.int y7]) (by rw [hy7]) ?_
        refine lv_istore_n (lv' := [(3, .int y7), (0, .ref (a_dr 0)), (2, .ref (a_dr 1)), (4, .int x4)]) hx hb dX0_whoHas_35 rfl hl (by decide) rfl (fun ls hl => ?_)
        obtain ⟨y8, hy8, hf⟩ := nm_ex hf
        refine lv_iinc (v := y8) (lv' := [(4, .int y8), (3, .int y7), (0, .ref (a_dr 0)), (2, .ref (a_dr 1))]) hx hb dX0_whoHas_36 hl (k := 3) rfl (by rw [hy8]; rfl) (by decide) rfl (fun ls hl => ?_)
        refine lv_goto (tgt := 11) hx hb dX0_whoHas_39 (by decide) ?_
        obtain rfl := so_eq hf
        exact HB _ rfl _ _ _ hP hD hS (lv_sub hl [2, 3, 1, 0] rfl)
set_option maxHeartbeats 4000000 in
set_option maxRecDepth 100000 in
theorem wX0_whoHas_l11_2 {p : Program} {l : Launch} {e : Env} {s : State} {m : MethodId} {args : Array Value} {below : List Frame} {meth : Method} {c : Code} {D : va_G} {t : Nat → ClassId} {κ : Nat → Nat} {A : Nat → Prop} {a_dr : Nat → Nat} {s_dr : S2} {rv : Option Value} {w1 : va_W} (C : Cxt p s m args meth c cX0_whoHas 5 RX0 wsX0_whoHas (some .int) D t κ A) : ∀ (n : Nat) (x3 : Int32) (x4 : Int32) (x : Int32 × Int32), wh (fun (c : Int32 × Int32) => fX0_whoHas_b11_2 s_dr c.1 c.2) n (x3, x4) = some x → (∀ (z : Int32 × Int32), x = z → ∀ (H : Heap) (locs : List Loc) (ls : Array Slot), va_P D vwCl (wDrive t a_dr s_dr) H → va_D A (wDrive t a_dr s_dr) → va_S A s.heap H locs → lv_has ls 5 [(3, .int z.1)] → W p l e (rmL 1) s m args below meth c H locs 0 0 (MQ below (gQ D rv w1 A) args s 0 0 A) (F0 m 42 ls [])) → ∀ (H : Heap) (locs : List Loc) (ls : Array Slot), va_P D vwCl (wDrive t a_dr s_dr) H → va_D A (wDrive t a_dr s_dr) → va_S A s.heap H locs → lv_has ls 5 [(0, .ref (a_dr 0)), (2, .ref (a_dr 2)), (3, .int x3), (4, .int x4)] → W p l e (rmL 1) s m args below meth c H locs 0 0 (MQ below (gQ D rv w1 A) args s 0 0 A) (F0 m 11 ls []) := by
  obtain ⟨hx, hb, hr, hml, hown, hts, hC0, hlk, hA⟩ := id C
  have hK := hC0.1
  intro n
  induction n with
  | zero =>
    intro x3 x4 x h
    exact (wh_0 h).elim
  | succ n ih =>
    intro x3 x4 x h HX H locs ls hP hD hS hl
    obtain ⟨v, hf, hB, hX⟩ := wh_step h
    have hf : fX0_whoHas_b11_2 s_dr x3 x4 = some v := hf
    have HB : ∀ (z : Int32 × Int32), v = .inl z → ∀ (H : Heap) (locs : List Loc) (ls : Array Slot), va_P D vwCl (wDrive t a_dr s_dr) H → va_D A (wDrive t a_dr s_dr) → va_S A s.heap H locs → lv_has ls 5 [(0, .ref (a_dr 0)), (2, .ref (a_dr 2)), (3, .int z.1), (4, .int z.2)] → W p l e (rmL 1) s m args below meth c H locs 0 0 (MQ below (gQ D rv w1 A) args s 0 0 A) (F0 m 11 ls []) := fun z hz H locs ls hP hD hS hl => ih z.1 z.2 x (hB z hz) HX H locs ls hP hD hS hl
    have HX : ∀ (z : Int32 × Int32), v = .inr z → ∀ (H : Heap) (locs : List Loc) (ls : Array Slot), va_P D vwCl (wDrive t a_dr s_dr) H → va_D A (wDrive t a_dr s_dr) → va_S A s.heap H locs → lv_has ls 5 [(3, .int z.1)] → W p l e (rmL 1) s m args below meth c H locs 0 0 (MQ below (gQ D rv w1 A) args s 0 0 A) (F0 m 42 ls []) := fun z hz => HX z (hX _ hz).symm
    unfold fX0_whoHas_b11_2 at hf
    refine lv_iload hx hb dX0_whoHas_11 (lv_at hl 3 rfl) ?_
    refine lv_aload_n hx hb dX0_whoHas_13 rfl (lv_at hl 0 rfl) ?_
    refine va_get (D := D) (ci := 0) (v := .int (s_dr 0 0)) (C := RX0) (T := TX0) (N := 7) hx hb hts iwX0_whoHas_X0 hown hK hP 0 rfl rfl 5 (by decide) (hts _ lkX0_whoHas_f31) (fun _ h9 => h9) rfl dX0_whoHas_14 ?_
    refine lv_icmp_ge (tgt := 42) hx hb dX0_whoHas_17 (by decide) (fun c11 => ?_) (fun c11 => ?_)
    · rw [if_pos c11] at hf
      obtain rfl := so_eq hf
      exact HX _ rfl _ _ _ hP hD hS (lv_sub hl [2] rfl)
    · rw [if_neg c11] at hf
      refine lv_aload_n hx hb dX0_whoHas_20 rfl (lv_at hl 1 rfl) ?_
      refine lv_iload hx hb dX0_whoHas_21 (lv_at hl 3 rfl) ?_
      obtain ⟨b12, hf⟩ := gd_some hf
      refine va_iald hx hb hK hP 2 0 rfl rfl (ixb_in b12) dX0_whoHas_23 ?_
      refine lv_bipush (v := -4) hx hb dX0_whoHas_24 (by decide) ?_
      refine lv_icmp_eq (tgt := 36) hx hb dX0_whoHas_26 (by decide) (fun c13 => ?_) (fun c13 => ?_)
      · rw [if_pos c13] at hf
        obtain ⟨y14, hy14, hf⟩ := nm_ex hf
        refine lv_iinc (v := y14) (lv' := [(4, .int y14), (0, .ref (a_dr 0)), (2, .ref (a_dr 2)), (3, .int x3)]) hx hb dX0_whoHas_36 hl (k := 3) rfl (by rw [hy14]; rfl) (by decide) rfl (fun ls hl => ?_)
        refine lv_goto (tgt := 11) hx hb dX0_whoHas_39 (by decide) ?_
        obtain rfl := so_eq hf
        exact HB _ rfl _ _ _ hP hD hS (lv_sub hl [1, 2, 3, 0] rfl)
      · rw [if_neg c13] at hf
        refine lv_iload_n hx hb dX0_whoHas_29 rfl (lv_at hl 2 rfl) ?_
        refine lv_iconst (v := 1) hx hb dX0_whoHas_30 (by decide) ?_
        refine lv_iload hx hb dX0_whoHas_31 (lv_at hl 3 rfl) ?_
        refine lv_ishl hx hb dX0_whoHas_33 ?_
        refine lv_ior hx hb dX0_whoHas_34 ?_
        obtain ⟨y15, hy15, hf⟩ := nm_ex hf
        refine W.eq (g2 := F0 m 35 ls [.int y15]) (by rw [hy15]) ?_
        refine lv_istore_n (lv' := [(3, .int y15), (0, .ref (a_dr 0)), (2, .ref (a_dr 2)), (4, .int x4)]) hx hb dX0_whoHas_35 rfl hl (by decide) rfl (fun ls hl => ?_)
        obtain ⟨y16, hy16, hf⟩ := nm_ex hf
        refine lv_iinc (v := y16) (lv' := [(4, .int y16), (3, .int y15), (0, .ref (a_dr 0)), (2, .ref (a_dr 2))]) hx hb dX0_whoHas_36 hl (k := 3) rfl (by rw [hy16]; rfl) (by decide) rfl (fun ls hl => ?_)
        refine lv_goto (tgt := 11) hx hb dX0_whoHas_39 (by decide) ?_
        obtain rfl := so_eq hf
        exact HB _ rfl _ _ _ hP hD hS (lv_sub hl [2, 3, 1, 0] rfl)
set_option maxHeartbeats 4000000 in
set_option maxRecDepth 100000 in
theorem wX0_whoHas_l11_3 {p : Program} {l : Launch} {e : Env} {s : State} {m : MethodId} {args : Array Value} {below : List Frame} {meth : Method} {c : Code} {D : va_G} {t : Nat → ClassId} {κ : Nat → Nat} {A : Nat → Prop} {a_dr : Nat → Nat} {s_dr : S2} {rv : Option Value} {w1 : va_W} (C : Cxt p s m args meth c cX0_whoHas 5 RX0 wsX0_whoHas (some .int) D t κ A) : ∀ (n : Nat) (x3 : Int32) (x4 : Int32) (x : Int32 × Int32), wh (fun (c : Int32 × Int32) => fX0_whoHas_b11_3 s_dr c.1 c.2) n (x3, x4) = some x → (∀ (z : Int32 × Int32), x = z → ∀ (H : Heap) (locs : List Loc) (ls : Array Slot), va_P D vwCl (wDrive t a_dr s_dr) H → va_D A (wDrive t a_dr s_dr) → va_S A s.heap H locs → lv_has ls 5 [(3, .int z.1)] → W p l e (rmL 1) s m args below meth c H locs 0 0 (MQ below (gQ D rv w1 A) args s 0 0 A) (F0 m 42 ls [])) → ∀ (H : Heap) (locs : List Loc) (ls : Array Slot), va_P D vwCl (wDrive t a_dr s_dr) H → va_D A (wDrive t a_dr s_dr) → va_S A s.heap H locs → lv_has ls 5 [(0, .ref (a_dr 0)), (2, .ref (a_dr 3)), (3, .int x3), (4, .int x4)] → W p l e (rmL 1) s m args below meth c H locs 0 0 (MQ below (gQ D rv w1 A) args s 0 0 A) (F0 m 11 ls []) := by
  obtain ⟨hx, hb, hr, hml, hown, hts, hC0, hlk, hA⟩ := id C
  have hK := hC0.1
  intro n
  induction n with
  | zero =>
    intro x3 x4 x h
    exact (wh_0 h).elim
  | succ n ih =>
    intro x3 x4 x h HX H locs ls hP hD hS hl
    obtain ⟨v, hf, hB, hX⟩ := wh_step h
    have hf : fX0_whoHas_b11_3 s_dr x3 x4 = some v := hf
    have HB : ∀ (z : Int32 × Int32), v = .inl z → ∀ (H : Heap) (locs : List Loc) (ls : Array Slot), va_P D vwCl (wDrive t a_dr s_dr) H → va_D A (wDrive t a_dr s_dr) → va_S A s.heap H locs → lv_has ls 5 [(0, .ref (a_dr 0)), (2, .ref (a_dr 3)), (3, .int z.1), (4, .int z.2)] → W p l e (rmL 1) s m args below meth c H locs 0 0 (MQ below (gQ D rv w1 A) args s 0 0 A) (F0 m 11 ls []) := fun z hz H locs ls hP hD hS hl => ih z.1 z.2 x (hB z hz) HX H locs ls hP hD hS hl
    have HX : ∀ (z : Int32 × Int32), v = .inr z → ∀ (H : Heap) (locs : List Loc) (ls : Array Slot), va_P D vwCl (wDrive t a_dr s_dr) H → va_D A (wDrive t a_dr s_dr) → va_S A s.heap H locs → lv_has ls 5 [(3, .int z.1)] → W p l e (rmL 1) s m args below meth c H locs 0 0 (MQ below (gQ D rv w1 A) args s 0 0 A) (F0 m 42 ls []) := fun z hz => HX z (hX _ hz).symm
    unfold fX0_whoHas_b11_3 at hf
    refine lv_iload hx hb dX0_whoHas_11 (lv_at hl 3 rfl) ?_
    refine lv_aload_n hx hb dX0_whoHas_13 rfl (lv_at hl 0 rfl) ?_
    refine va_get (D := D) (ci := 0) (v := .int (s_dr 0 0)) (C := RX0) (T := TX0) (N := 7) hx hb hts iwX0_whoHas_X0 hown hK hP 0 rfl rfl 5 (by decide) (hts _ lkX0_whoHas_f31) (fun _ h9 => h9) rfl dX0_whoHas_14 ?_
    refine lv_icmp_ge (tgt := 42) hx hb dX0_whoHas_17 (by decide) (fun c19 => ?_) (fun c19 => ?_)
    · rw [if_pos c19] at hf
      obtain rfl := so_eq hf
      exact HX _ rfl _ _ _ hP hD hS (lv_sub hl [2] rfl)
    · rw [if_neg c19] at hf
      refine lv_aload_n hx hb dX0_whoHas_20 rfl (lv_at hl 1 rfl) ?_
      refine lv_iload hx hb dX0_whoHas_21 (lv_at hl 3 rfl) ?_
      obtain ⟨b20, hf⟩ := gd_some hf
      refine va_iald hx hb hK hP 3 0 rfl rfl (ixb_in b20) dX0_whoHas_23 ?_
      refine lv_bipush (v := -4) hx hb dX0_whoHas_24 (by decide) ?_
      refine lv_icmp_eq (tgt := 36) hx hb dX0_whoHas_26 (by decide) (fun c21 => ?_) (fun c21 => ?_)
      · rw [if_pos c21] at hf
        obtain ⟨y22, hy22, hf⟩ := nm_ex hf
        refine lv_iinc (v := y22) (lv' := [(4, .int y22), (0, .ref (a_dr 0)), (2, .ref (a_dr 3)), (3, .int x3)]) hx hb dX0_whoHas_36 hl (k := 3) rfl (by rw [hy22]; rfl) (by decide) rfl (fun ls hl => ?_)
        refine lv_goto (tgt := 11) hx hb dX0_whoHas_39 (by decide) ?_
        obtain rfl := so_eq hf
        exact HB _ rfl _ _ _ hP hD hS (lv_sub hl [1, 2, 3, 0] rfl)
      · rw [if_neg c21] at hf
        refine lv_iload_n hx hb dX0_whoHas_29 rfl (lv_at hl 2 rfl) ?_
        refine lv_iconst (v := 1) hx hb dX0_whoHas_30 (by decide) ?_
        refine lv_iload hx hb dX0_whoHas_31 (lv_at hl 3 rfl) ?_
        refine lv_ishl hx hb dX0_whoHas_33 ?_
        refine lv_ior hx hb dX0_whoHas_34 ?_
        obtain ⟨y23, hy23, hf⟩ := nm_ex hf
        refine W.eq (g2 := F0 m 35 ls [.int y23]) (by rw [hy23]) ?_
        refine lv_istore_n (lv' := [(3, .int y23), (0, .ref (a_dr 0)), (2, .ref (a_dr 3)), (4, .int x4)]) hx hb dX0_whoHas_35 rfl hl (by decide) rfl (fun ls hl => ?_)
        obtain ⟨y24, hy24, hf⟩ := nm_ex hf
        refine lv_iinc (v := y24) (lv' := [(4, .int y24), (3, .int y23), (0, .ref (a_dr 0)), (2, .ref (a_dr 3))]) hx hb dX0_whoHas_36 hl (k := 3) rfl (by rw [hy24]; rfl) (by decide) rfl (fun ls hl => ?_)
        refine lv_goto (tgt := 11) hx hb dX0_whoHas_39 (by decide) ?_
        obtain rfl := so_eq hf
        exact HB _ rfl _ _ _ hP hD hS (lv_sub hl [2, 3, 1, 0] rfl)
set_option maxHeartbeats 4000000 in
set_option maxRecDepth 100000 in
theorem wX0_whoHas_l11_4 {p : Program} {l : Launch} {e : Env} {s : State} {m : MethodId} {args : Array Value} {below : List Frame} {meth : Method} {c : Code} {D : va_G} {t : Nat → ClassId} {κ : Nat → Nat} {A : Nat → Prop} {a_dr : Nat → Nat} {s_dr : S2} {rv : Option Value} {w1 : va_W} (C : Cxt p s m args meth c cX0_whoHas 5 RX0 wsX0_whoHas (some .int) D t κ A) : ∀ (n : Nat) (x3 : Int32) (x4 : Int32) (x : Int32 × Int32), wh (fun (c : Int32 × Int32) => fX0_whoHas_b11_4 s_dr c.1 c.2) n (x3, x4) = some x → (∀ (z : Int32 × Int32), x = z → ∀ (H : Heap) (locs : List Loc) (ls : Array Slot), va_P D vwCl (wDrive t a_dr s_dr) H → va_D A (wDrive t a_dr s_dr) → va_S A s.heap H locs → lv_has ls 5 [(3, .int z.1)] → W p l e (rmL 1) s m args below meth c H locs 0 0 (MQ below (gQ D rv w1 A) args s 0 0 A) (F0 m 42 ls [])) → ∀ (H : Heap) (locs : List Loc) (ls : Array Slot), va_P D vwCl (wDrive t a_dr s_dr) H → va_D A (wDrive t a_dr s_dr) → va_S A s.heap H locs → lv_has ls 5 [(0, .ref (a_dr 0)), (2, .ref (a_dr 4)), (3, .int x3), (4, .int x4)] → W p l e (rmL 1) s m args below meth c H locs 0 0 (MQ below (gQ D rv w1 A) args s 0 0 A) (F0 m 11 ls []) := by
  obtain ⟨hx, hb, hr, hml, hown, hts, hC0, hlk, hA⟩ := id C
  have hK := hC0.1
  intro n
  induction n with
  | zero =>
    intro x3 x4 x h
    exact (wh_0 h).elim
  | succ n ih =>
    intro x3 x4 x h HX H locs ls hP hD hS hl
    obtain ⟨v, hf, hB, hX⟩ := wh_step h
    have hf : fX0_whoHas_b11_4 s_dr x3 x4 = some v := hf
    have HB : ∀ (z : Int32 × Int32), v = .inl z → ∀ (H : Heap) (locs : List Loc) (ls : Array Slot), va_P D vwCl (wDrive t a_dr s_dr) H → va_D A (wDrive t a_dr s_dr) → va_S A s.heap H locs → lv_has ls 5 [(0, .ref (a_dr 0)), (2, .ref (a_dr 4)), (3, .int z.1), (4, .int z.2)] → W p l e (rmL 1) s m args below meth c H locs 0 0 (MQ below (gQ D rv w1 A) args s 0 0 A) (F0 m 11 ls []) := fun z hz H locs ls hP hD hS hl => ih z.1 z.2 x (hB z hz) HX H locs ls hP hD hS hl
    have HX : ∀ (z : Int32 × Int32), v = .inr z → ∀ (H : Heap) (locs : List Loc) (ls : Array Slot), va_P D vwCl (wDrive t a_dr s_dr) H → va_D A (wDrive t a_dr s_dr) → va_S A s.heap H locs → lv_has ls 5 [(3, .int z.1)] → W p l e (rmL 1) s m args below meth c H locs 0 0 (MQ below (gQ D rv w1 A) args s 0 0 A) (F0 m 42 ls []) := fun z hz => HX z (hX _ hz).symm
    unfold fX0_whoHas_b11_4 at hf
    refine lv_iload hx hb dX0_whoHas_11 (lv_at hl 3 rfl) ?_
    refine lv_aload_n hx hb dX0_whoHas_13 rfl (lv_at hl 0 rfl) ?_
    refine va_get (D := D) (ci := 0) (v := .int (s_dr 0 0)) (C := RX0) (T := TX0) (N := 7) hx hb hts iwX0_whoHas_X0 hown hK hP 0 rfl rfl 5 (by decide) (hts _ lkX0_whoHas_f31) (fun _ h9 => h9) rfl dX0_whoHas_14 ?_
    refine lv_icmp_ge (tgt := 42) hx hb dX0_whoHas_17 (by decide) (fun c26 => ?_) (fun c26 => ?_)
    · rw [if_pos c26] at hf
      obtain rfl := so_eq hf
      exact HX _ rfl _ _ _ hP hD hS (lv_sub hl [2] rfl)
    · rw [if_neg c26] at hf
      refine lv_aload_n hx hb dX0_whoHas_20 rfl (lv_at hl 1 rfl) ?_
      refine lv_iload hx hb dX0_whoHas_21 (lv_at hl 3 rfl) ?_
      obtain ⟨b27, hf⟩ := gd_some hf
      refine va_iald hx hb hK hP 4 0 rfl rfl (ixb_in b27) dX0_whoHas_23 ?_
      refine lv_bipush (v := -4) hx hb dX0_whoHas_24 (by decide) ?_
      refine lv_icmp_eq (tgt := 36) hx hb dX0_whoHas_26 (by decide) (fun c28 => ?_) (fun c28 => ?_)
      · rw [if_pos c28] at hf
        obtain ⟨y29, hy29, hf⟩ := nm_ex hf
        refine lv_iinc (v := y29) (lv' := [(4, .int y29), (0, .ref (a_dr 0)), (2, .ref (a_dr 4)), (3, .int x3)]) hx hb dX0_whoHas_36 hl (k := 3) rfl (by rw [hy29]; rfl) (by decide) rfl (fun ls hl => ?_)
        refine lv_goto (tgt := 11) hx hb dX0_whoHas_39 (by decide) ?_
        obtain rfl := so_eq hf
        exact HB _ rfl _ _ _ hP hD hS (lv_sub hl [1, 2, 3, 0] rfl)
      · rw [if_neg c28] at hf
        refine lv_iload_n hx hb dX0_whoHas_29 rfl (lv_at hl 2 rfl) ?_
        refine lv_iconst (v := 1) hx hb dX0_whoHas_30 (by decide) ?_
        refine lv_iload hx hb dX0_whoHas_31 (lv_at hl 3 rfl) ?_
        refine lv_ishl hx hb dX0_whoHas_33 ?_
        refine lv_ior hx hb dX0_whoHas_34 ?_
        obtain ⟨y30, hy30, hf⟩ := nm_ex hf
        refine W.eq (g2 := F0 m 35 ls [.int y30]) (by rw [hy30]) ?_
        refine lv_istore_n (lv' := [(3, .int y30), (0, .ref (a_dr 0)), (2, .ref (a_dr 4)), (4, .int x4)]) hx hb dX0_whoHas_35 rfl hl (by decide) rfl (fun ls hl => ?_)
        obtain ⟨y31, hy31, hf⟩ := nm_ex hf
        refine lv_iinc (v := y31) (lv' := [(4, .int y31), (3, .int y30), (0, .ref (a_dr 0)), (2, .ref (a_dr 4))]) hx hb dX0_whoHas_36 hl (k := 3) rfl (by rw [hy31]; rfl) (by decide) rfl (fun ls hl => ?_)
        refine lv_goto (tgt := 11) hx hb dX0_whoHas_39 (by decide) ?_
        obtain rfl := so_eq hf
        exact HB _ rfl _ _ _ hP hD hS (lv_sub hl [2, 3, 1, 0] rfl)
set_option maxHeartbeats 4000000 in
set_option maxRecDepth 100000 in
theorem cX0_whoHas_ok {l : Launch} {D : va_G} {t : Nat → ClassId} {κ : Nat → Nat} {a_dr : Nat → Nat} {s_dr : S2} {p1 : Int32} {out : Int32} (hf : fX0_whoHas s_dr p1 = some out) : Ct l D t κ yX0_whoHas wsX0_whoHas (rmL 1) [.ref (a_dr 0), .int p1] (wDrive t a_dr s_dr) (some (.int out)) (wDrive t a_dr s_dr) := by
  refine Ct.ofW (own := RX0) (cc := cX0_whoHas) (maxL := 5) (ret := (some .int)) (by decide) rfl rfl (Nat.le_of_ble_eq_true rfl) ?_
  intro p e s m below meth c A C hP hD ls hl
  have hS : va_S A s.heap s.heap [] := va_S.rf
  obtain ⟨hx, hb, hr, hml, hown, hts, hC0, hlk, hA⟩ := id C
  have hK := hC0.1
  have hl : lv_has ls 5 [(0, .ref (a_dr 0)), (1, .int p1)] := hl
  unfold fX0_whoHas at hf
  refine lv_aload_n hx hb dX0_whoHas_0 rfl (lv_at hl 0 rfl) ?_
  refine lv_iload_n hx hb dX0_whoHas_1 rfl (lv_at hl 1 rfl) ?_
  refine gk_V0 C (As := [.int p1]) (rest := []) (ci := 0) (q := (RX0, TX0, 7)) (q0 := 0) (cX0_fateRow_ok (l := l) (D := D) (t := t) (κ := κ) (a_dr := a_dr) (s_dr := s_dr) (p1 := p1)) gX0_whoHas_X0_fateRow rfl ⟨rfl, rfl⟩ hdX0_fateRow ⟨Nat.le_of_ble_eq_true rfl, Nat.le_of_ble_eq_true rfl⟩ rfl rfl hP hD hS rfl hl.1 (Nat.le_of_ble_eq_true rfl) dX0_whoHas_2 (Nat.zero_le _) (Nat.zero_le _) (fun H locs hP hD hS => ?_)
  by_cases c2 : p1 = 0
  · rw [if_pos c2] at hf
    refine W.eq (g2 := F0 m 5 ls [.ref (a_dr 1)]) (by rw [c2]; rfl) ?_
    refine lv_astore_n (lv' := [(2, .ref (a_dr 1)), (0, .ref (a_dr 0)), (1, .int p1)]) hx hb dX0_whoHas_5 rfl hl (by decide) rfl (fun ls hl => ?_)
    refine lv_iconst (v := 0) hx hb dX0_whoHas_6 (by decide) ?_
    refine lv_istore_n (lv' := [(3, .int (0 : Int32)), (2, .ref (a_dr 1)), (0, .ref (a_dr 0)), (1, .int p1)]) hx hb dX0_whoHas_7 rfl hl (by decide) rfl (fun ls hl => ?_)
    refine lv_iconst (v := 0) hx hb dX0_whoHas_8 (by decide) ?_
    refine lv_istore (lv' := [(4, .int (0 : Int32)), (3, .int (0 : Int32)), (2, .ref (a_dr 1)), (0, .ref (a_dr 0)), (1, .int p1)]) hx hb dX0_whoHas_9 hl (by decide) rfl (fun ls hl => ?_)
    obtain ⟨x9, ex9, hf⟩ := bd_some hf
    refine wX0_whoHas_l11 C 5000 (0 : Int32) (0 : Int32) x9 ex9 (fun c9 h9 H locs ls hP hD hS hl => ?_) _ _ _ hP hD hS (lv_sub hl [3, 2, 1, 0] rfl)
    subst h9
    refine lv_iload_n hx hb dX0_whoHas_42 rfl (lv_at hl 0 rfl) ?_
    obtain rfl := so_eq hf
    exact g_iret C hP hD hS dX0_whoHas_43
  rw [if_neg c2] at hf
  by_cases c10 : p1 = 1
  · rw [if_pos c10] at hf
    refine W.eq (g2 := F0 m 5 ls [.ref (a_dr 2)]) (by rw [c10]; rfl) ?_
    refine lv_astore_n (lv' := [(2, .ref (a_dr 2)), (0, .ref (a_dr 0)), (1, .int p1)]) hx hb dX0_whoHas_5 rfl hl (by decide) rfl (fun ls hl => ?_)
    refine lv_iconst (v := 0) hx hb dX0_whoHas_6 (by decide) ?_
    refine lv_istore_n (lv' := [(3, .int (0 : Int32)), (2, .ref (a_dr 2)), (0, .ref (a_dr 0)), (1, .int p1)]) hx hb dX0_whoHas_7 rfl hl (by decide) rfl (fun ls hl => ?_)
    refine lv_iconst (v := 0) hx hb dX0_whoHas_8 (by decide) ?_
    refine lv_istore (lv' := [(4, .int (0 : Int32)), (3, .int (0 : Int32)), (2, .ref (a_dr 2)), (0, .ref (a_dr 0)), (1, .int p1)]) hx hb dX0_whoHas_9 hl (by decide) rfl (fun ls hl => ?_)
    obtain ⟨x17, ex17, hf⟩ := bd_some hf
    refine wX0_whoHas_l11_2 C 5000 (0 : Int32) (0 : Int32) x17 ex17 (fun c9 h9 H locs ls hP hD hS hl => ?_) _ _ _ hP hD hS (lv_sub hl [3, 2, 1, 0] rfl)
    subst h9
    refine lv_iload_n hx hb dX0_whoHas_42 rfl (lv_at hl 0 rfl) ?_
    obtain rfl := so_eq hf
    exact g_iret C hP hD hS dX0_whoHas_43
  rw [if_neg c10] at hf
  by_cases c18 : p1 = 2
  · rw [if_pos c18] at hf
    refine W.eq (g2 := F0 m 5 ls [.ref (a_dr 3)]) (by rw [c18]; rfl) ?_
    refine lv_astore_n (lv' := [(2, .ref (a_dr 3)), (0, .ref (a_dr 0)), (1, .int p1)]) hx hb dX0_whoHas_5 rfl hl (by decide) rfl (fun ls hl => ?_)
    refine lv_iconst (v := 0) hx hb dX0_whoHas_6 (by decide) ?_
    refine lv_istore_n (lv' := [(3, .int (0 : Int32)), (2, .ref (a_dr 3)), (0, .ref (a_dr 0)), (1, .int p1)]) hx hb dX0_whoHas_7 rfl hl (by decide) rfl (fun ls hl => ?_)
    refine lv_iconst (v := 0) hx hb dX0_whoHas_8 (by decide) ?_
    refine lv_istore (lv' := [(4, .int (0 : Int32)), (3, .int (0 : Int32)), (2, .ref (a_dr 3)), (0, .ref (a_dr 0)), (1, .int p1)]) hx hb dX0_whoHas_9 hl (by decide) rfl (fun ls hl => ?_)
    obtain ⟨x25, ex25, hf⟩ := bd_some hf
    refine wX0_whoHas_l11_3 C 5000 (0 : Int32) (0 : Int32) x25 ex25 (fun c9 h9 H locs ls hP hD hS hl => ?_) _ _ _ hP hD hS (lv_sub hl [3, 2, 1, 0] rfl)
    subst h9
    refine lv_iload_n hx hb dX0_whoHas_42 rfl (lv_at hl 0 rfl) ?_
    obtain rfl := so_eq hf
    exact g_iret C hP hD hS dX0_whoHas_43
  rw [if_neg c18] at hf
  refine W.eq (g2 := F0 m 5 ls [.ref (a_dr 4)]) (by rw [selX0_fateRow_d c2 c10 c18]; rfl) ?_
  refine lv_astore_n (lv' := [(2, .ref (a_dr 4)), (0, .ref (a_dr 0)), (1, .int p1)]) hx hb dX0_whoHas_5 rfl hl (by decide) rfl (fun ls hl => ?_)
  refine lv_iconst (v := 0) hx hb dX0_whoHas_6 (by decide) ?_
  refine lv_istore_n (lv' := [(3, .int (0 : Int32)), (2, .ref (a_dr 4)), (0, .ref (a_dr 0)), (1, .int p1)]) hx hb dX0_whoHas_7 rfl hl (by decide) rfl (fun ls hl => ?_)
  refine lv_iconst (v := 0) hx hb dX0_whoHas_8 (by decide) ?_
  refine lv_istore (lv' := [(4, .int (0 : Int32)), (3, .int (0 : Int32)), (2, .ref (a_dr 4)), (0, .ref (a_dr 0)), (1, .int p1)]) hx hb dX0_whoHas_9 hl (by decide) rfl (fun ls hl => ?_)
  obtain ⟨x32, ex32, hf⟩ := bd_some hf
  refine wX0_whoHas_l11_4 C 5000 (0 : Int32) (0 : Int32) x32 ex32 (fun c9 h9 H locs ls hP hD hS hl => ?_) _ _ _ hP hD hS (lv_sub hl [3, 2, 1, 0] rfl)
  subst h9
  refine lv_iload_n hx hb dX0_whoHas_42 rfl (lv_at hl 0 rfl) ?_
  obtain rfl := so_eq hf
  exact g_iret C hP hD hS dX0_whoHas_43
/-! CoachCourt$Drive.verdicts -/
def fX0_verdicts (s_dr : S2) : Option (Int32) :=
  (fX0_whoHas s_dr (0 : Int32)).bind fun v1 =>
  (fJ6_bitCount_0f7a4 v1).bind fun v2 =>
  some v2
theorem hdX0_verdicts : yX0_verdicts.cls = RX0 ∧ yX0_verdicts.cls ≠ "java/lang/invoke/MethodHandle" ∧ yX0_verdicts.cls ≠ "java/lang/invoke/VarHandle" ∧ (parseMethodDescriptor yX0_verdicts.desc).map (fun d => d.parameters.length) = some 0 := by decide +kernel
set_option maxHeartbeats 4000000 in
set_option maxRecDepth 100000 in
theorem cX0_verdicts_ok {l : Launch} {D : va_G} {t : Nat → ClassId} {κ : Nat → Nat} {a_dr : Nat → Nat} {s_dr : S2} {out : Int32} (hf : fX0_verdicts s_dr = some out) : Ct l D t κ yX0_verdicts wsX0_verdicts (rmL 2) [.ref (a_dr 0)] (wDrive t a_dr s_dr) (some (.int out)) (wDrive t a_dr s_dr) := by
  refine Ct.ofW (own := RX0) (cc := cX0_verdicts) (maxL := 1) (ret := (some .int)) (by decide) rfl rfl (Nat.le_of_ble_eq_true rfl) ?_
  intro p e s m below meth c A C hP hD ls hl
  have hS : va_S A s.heap s.heap [] := va_S.rf
  obtain ⟨hx, hb, hr, hml, hown, hts, hC0, hlk, hA⟩ := id C
  have hK := hC0.1
  have hl : lv_has ls 1 [(0, .ref (a_dr 0))] := hl
  unfold fX0_verdicts at hf
  refine lv_aload_n hx hb dX0_verdicts_0 rfl (lv_at hl 0 rfl) ?_
  refine lv_iconst (v := 0) hx hb dX0_verdicts_1 (by decide) ?_
  obtain ⟨v1, ev1, hf⟩ := bd_some hf
  refine gk_V0 C (As := [.int (0 : Int32)]) (rest := []) (ci := 0) (q := (RX0, TX0, 7)) (q0 := 0) (cX0_whoHas_ok (l := l) (D := D) (t := t) (κ := κ) (a_dr := a_dr) ev1) gX0_verdicts_X0_whoHas rfl ⟨rfl, rfl⟩ hdX0_whoHas ⟨Nat.le_of_ble_eq_true rfl, Nat.le_of_ble_eq_true rfl⟩ rfl rfl hP hD hS rfl hl.1 (Nat.le_of_ble_eq_true rfl) dX0_verdicts_2 (Nat.zero_le _) (Nat.zero_le _) (fun H locs hP hD hS => ?_)
  refine W.eq (g2 := F0 m 5 ls [.int v1]) rfl ?_
  obtain ⟨v2, ev2, hf⟩ := bd_some hf
  refine gk_S C (As := [.int v1]) (rest := []) (cJ6_bitCount_0f7a4_ok (l := l) (D := D) (t := t) (κ := κ) ev2) gX0_verdicts_J6_bitCount_0f7a4 rfl ⟨rfl, rfl⟩ hdJ6_bitCount_0f7a4 ⟨Nat.le_of_ble_eq_true rfl, Nat.le_of_ble_eq_true rfl⟩ hP hD hS rfl hl.1 (Nat.le_of_ble_eq_true rfl) dX0_verdicts_5 (Nat.zero_le _) (Nat.zero_le _) (fun H locs hP hD hS => ?_)
  refine W.eq (g2 := F0 m 8 ls [.int v2]) rfl ?_
  obtain rfl := so_eq hf
  exact g_iret C hP hD hS dX0_verdicts_8
/-! CoachCourt$Drive.lastVerdict -/
def fX0_lastVerdict_b5 (s_dr : S2) (x1 : Int32) (x2 : Int32) : Option ((Int32 × Int32) ⊕ (Int32 × Int32)) :=
  if (s_dr 0 0) ≤ x2 then
    (some (.inr (x1, x2)))
  else
    (gd (ixb x2 4) <|
    nm (if x1 < (s_dr 1 (Int32.toNatClampNeg x2)) then (s_dr 1 (Int32.toNatClampNeg x2)) else x1) fun y3 =>
    nm (x2 + (1 : Int32)) fun y4 =>
    some (.inl (y3, y4)))
def fX0_lastVerdict (s_dr : S2) : Option (Int32) :=
  (wh (fun (c : Int32 × Int32) => fX0_lastVerdict_b5 s_dr c.1 c.2) 5000 ((-4 : Int32), (0 : Int32))).bind fun x5 =>
  some x5.1
theorem hdX0_lastVerdict : yX0_lastVerdict.cls = RX0 ∧ yX0_lastVerdict.cls ≠ "java/lang/invoke/MethodHandle" ∧ yX0_lastVerdict.cls ≠ "java/lang/invoke/VarHandle" ∧ (parseMethodDescriptor yX0_lastVerdict.desc).map (fun d => d.parameters.length) = some 0 := by decide +kernel
theorem iwX0_lastVerdict_X0 : ∀ w ∈ wsX00, w ∈ wsX0_lastVerdict := by decide +kernel
theorem lkX0_lastVerdict_f31 : Cond.fieldLink RX0 31 "CoachCourt$Drive" "parties" "I" ∈ wsX0_lastVerdict := by decide +kernel
theorem lkX0_lastVerdict_f9 : Cond.fieldLink RX0 9 "CoachCourt$Drive" "verdict" "[I" ∈ wsX0_lastVerdict := by decide +kernel
theorem lkX0_lastVerdict_mm93 : Cond.methodLink RX0 93 Lib.Math.max.name ∈ wsX0_lastVerdict := by decide +kernel
theorem lkX0_lastVerdict_ms : Cond.static Lib.Math.max.name ∈ wsX0_lastVerdict := by decide +kernel
theorem lkX0_lastVerdict_mi : Cond.initialized "java/lang/Math" ∈ wsX0_lastVerdict := by decide +kernel
theorem lkX0_lastVerdict_mc : Cond.code Lib.Math.max.name Lib.Math.max.code 2 (some .int) ∈ wsX0_lastVerdict := by decide +kernel
set_option maxHeartbeats 4000000 in
set_option maxRecDepth 100000 in
theorem wX0_lastVerdict_l5 {p : Program} {l : Launch} {e : Env} {s : State} {m : MethodId} {args : Array Value} {below : List Frame} {meth : Method} {c : Code} {D : va_G} {t : Nat → ClassId} {κ : Nat → Nat} {A : Nat → Prop} {a_dr : Nat → Nat} {s_dr : S2} {rv : Option Value} {w1 : va_W} (C : Cxt p s m args meth c cX0_lastVerdict 3 RX0 wsX0_lastVerdict (some .int) D t κ A) : ∀ (n : Nat) (x1 : Int32) (x2 : Int32) (x : Int32 × Int32), wh (fun (c : Int32 × Int32) => fX0_lastVerdict_b5 s_dr c.1 c.2) n (x1, x2) = some x → (∀ (z : Int32 × Int32), x = z → ∀ (H : Heap) (locs : List Loc) (ls : Array Slot), va_P D vwCl (wDrive t a_dr s_dr) H → va_D A (wDrive t a_dr s_dr) → va_S A s.heap H locs → lv_has ls 3 [(1, .int z.1)] → W p l e (rmL 0) s m args below meth c H locs 0 0 (MQ below (gQ D rv w1 A) args s 0 0 A) (F0 m 30 ls [])) → ∀ (H : Heap) (locs : List Loc) (ls : Array Slot), va_P D vwCl (wDrive t a_dr s_dr) H → va_D A (wDrive t a_dr s_dr) → va_S A s.heap H locs → lv_has ls 3 [(0, .ref (a_dr 0)), (1, .int x1), (2, .int x2)] → W p l e (rmL 0) s m args below meth c H locs 0 0 (MQ below (gQ D rv w1 A) args s 0 0 A) (F0 m 5 ls []) := by
  obtain ⟨hx, hb, hr, hml, hown, hts, hC0, hlk, hA⟩ := id C
  have hK := hC0.1
  intro n
  induction n with
  | zero =>
    intro x1 x2 x h
    exact (wh_0 h).elim
  | succ n ih =>
    intro x1 x2 x h HX H locs ls hP hD hS hl
    obtain ⟨v, hf, hB, hX⟩ := wh_step h
    have hf : fX0_lastVerdict_b5 s_dr x1 x2 = some v := hf
    have HB : ∀ (z : Int32 × Int32), v = .inl z → ∀ (H : Heap) (locs : List Loc) (ls : Array Slot), va_P D vwCl (wDrive t a_dr s_dr) H → va_D A (wDrive t a_dr s_dr) → va_S A s.heap H locs → lv_has ls 3 [(0, .ref (a_dr 0)), (1, .int z.1), (2, .int z.2)] → W p l e (rmL 0) s m args below meth c H locs 0 0 (MQ below (gQ D rv w1 A) args s 0 0 A) (F0 m 5 ls []) := fun z hz H locs ls hP hD hS hl => ih z.1 z.2 x (hB z hz) HX H locs ls hP hD hS hl
    have HX : ∀ (z : Int32 × Int32), v = .inr z → ∀ (H : Heap) (locs : List Loc) (ls : Array Slot), va_P D vwCl (wDrive t a_dr s_dr) H → va_D A (wDrive t a_dr s_dr) → va_S A s.heap H locs → lv_has ls 3 [(1, .int z.1)] → W p l e (rmL 0) s m args below meth c H locs 0 0 (MQ below (gQ D rv w1 A) args s 0 0 A) (F0 m 30 ls []) := fun z hz => HX z (hX _ hz).symm
    unfold fX0_lastVerdict_b5 at hf
    refine lv_iload_n hx hb dX0_lastVerdict_5 rfl (lv_at hl 2 rfl) ?_
    refine lv_aload_n hx hb dX0_lastVerdict_6 rfl (lv_at hl 0 rfl) ?_
    refine va_get (D := D) (ci := 0) (v := .int (s_dr 0 0)) (C := RX0) (T := TX0) (N := 7) hx hb hts iwX0_lastVerdict_X0 hown hK hP 0 rfl rfl 5 (by decide) (hts _ lkX0_lastVerdict_f31) (fun _ h9 => h9) rfl dX0_lastVerdict_7 ?_
    refine lv_icmp_ge (tgt := 30) hx hb dX0_lastVerdict_10 (by decide) (fun c1 => ?_) (fun c1 => ?_)
    · rw [if_pos c1] at hf
      obtain rfl := so_eq hf
      exact HX _ rfl _ _ _ hP hD hS (lv_sub hl [1] rfl)
    · rw [if_neg c1] at hf
      refine lv_iload_n hx hb dX0_lastVerdict_13 rfl (lv_at hl 1 rfl) ?_
      refine lv_aload_n hx hb dX0_lastVerdict_14 rfl (lv_at hl 0 rfl) ?_
      refine va_get (D := D) (ci := 0) (v := .ref (a_dr 1)) (C := RX0) (T := TX0) (N := 7) hx hb hts iwX0_lastVerdict_X0 hown hK hP 0 rfl rfl 0 (by decide) (hts _ lkX0_lastVerdict_f9) (fun _ h9 => h9) rfl dX0_lastVerdict_15 ?_
      refine lv_iload_n hx hb dX0_lastVerdict_18 rfl (lv_at hl 2 rfl) ?_
      obtain ⟨b2, hf⟩ := gd_some hf
      refine va_iald hx hb hK hP 1 0 rfl rfl (ixb_in b2) dX0_lastVerdict_19 ?_
      refine va_mmax hx hb (hml.trans hl.1.symm) hown (hts _ lkX0_lastVerdict_mm93) (hts _ lkX0_lastVerdict_ms) (hts _ lkX0_lastVerdict_mi) (hts _ lkX0_lastVerdict_mc) (Nat.le_of_ble_eq_true rfl) (Nat.le_of_ble_eq_true rfl) (Nat.zero_le _) (Nat.zero_le _) dX0_lastVerdict_20 ?_
      obtain ⟨y3, hy3, hf⟩ := nm_ex hf
      refine W.eq (g2 := F0 m 23 ls [.int y3]) (by rw [hy3]) ?_
      refine lv_istore_n (lv' := [(1, .int y3), (0, .ref (a_dr 0)), (2, .int x2)]) hx hb dX0_lastVerdict_23 rfl hl (by decide) rfl (fun ls hl => ?_)
      obtain ⟨y4, hy4, hf⟩ := nm_ex hf
      refine lv_iinc (v := y4) (lv' := [(2, .int y4), (1, .int y3), (0, .ref (a_dr 0))]) hx hb dX0_lastVerdict_24 hl (k := 2) rfl (by rw [hy4]; rfl) (by decide) rfl (fun ls hl => ?_)
      refine lv_goto (tgt := 5) hx hb dX0_lastVerdict_27 (by decide) ?_
      obtain rfl := so_eq hf
      exact HB _ rfl _ _ _ hP hD hS (lv_sub hl [2, 1, 0] rfl)
set_option maxHeartbeats 4000000 in
set_option maxRecDepth 100000 in
theorem cX0_lastVerdict_ok {l : Launch} {D : va_G} {t : Nat → ClassId} {κ : Nat → Nat} {a_dr : Nat → Nat} {s_dr : S2} {out : Int32} (hf : fX0_lastVerdict s_dr = some out) : Ct l D t κ yX0_lastVerdict wsX0_lastVerdict (rmL 0) [.ref (a_dr 0)] (wDrive t a_dr s_dr) (some (.int out)) (wDrive t a_dr s_dr) := by
  refine Ct.ofW (own := RX0) (cc := cX0_lastVerdict) (maxL := 3) (ret := (some .int)) (by decide) rfl rfl (Nat.le_of_ble_eq_true rfl) ?_
  intro p e s m below meth c A C hP hD ls hl
  have hS : va_S A s.heap s.heap [] := va_S.rf
  obtain ⟨hx, hb, hr, hml, hown, hts, hC0, hlk, hA⟩ := id C
  have hK := hC0.1
  have hl : lv_has ls 3 [(0, .ref (a_dr 0))] := hl
  unfold fX0_lastVerdict at hf
  refine lv_bipush (v := -4) hx hb dX0_lastVerdict_0 (by decide) ?_
  refine lv_istore_n (lv' := [(1, .int (-4 : Int32)), (0, .ref (a_dr 0))]) hx hb dX0_lastVerdict_2 rfl hl (by decide) rfl (fun ls hl => ?_)
  refine lv_iconst (v := 0) hx hb dX0_lastVerdict_3 (by decide) ?_
  refine lv_istore_n (lv' := [(2, .int (0 : Int32)), (1, .int (-4 : Int32)), (0, .ref (a_dr 0))]) hx hb dX0_lastVerdict_4 rfl hl (by decide) rfl (fun ls hl => ?_)
  obtain ⟨x5, ex5, hf⟩ := bd_some hf
  refine wX0_lastVerdict_l5 C 5000 (-4 : Int32) (0 : Int32) x5 ex5 (fun c9 h9 H locs ls hP hD hS hl => ?_) _ _ _ hP hD hS (lv_sub hl [2, 1, 0] rfl)
  subst h9
  refine lv_iload_n hx hb dX0_lastVerdict_30 rfl (lv_at hl 0 rfl) ?_
  obtain rfl := so_eq hf
  exact g_iret C hP hD hS dX0_lastVerdict_31
/-! CoachCourt$Drive.heardInAll -/
def fX0_heardInAll_b4 (s_dr : S2) (x1 : Int32) (x2 : Int32) : Option ((Int32 × Int32) ⊕ (Int32 × Int32)) :=
  if (s_dr 0 0) ≤ x2 then
    (some (.inr (x1, x2)))
  else
    (gd (ixb x2 4) <|
    nm (x1 + (s_dr 3 (Int32.toNatClampNeg x2))) fun y3 =>
    nm (x2 + (1 : Int32)) fun y4 =>
    some (.inl (y3, y4)))
def fX0_heardInAll (s_dr : S2) : Option (Int32) :=
  (wh (fun (c : Int32 × Int32) => fX0_heardInAll_b4 s_dr c.1 c.2) 5000 ((0 : Int32), (0 : Int32))).bind fun x5 =>
  some x5.1
theorem hdX0_heardInAll : yX0_heardInAll.cls = RX0 ∧ yX0_heardInAll.cls ≠ "java/lang/invoke/MethodHandle" ∧ yX0_heardInAll.cls ≠ "java/lang/invoke/VarHandle" ∧ (parseMethodDescriptor yX0_heardInAll.desc).map (fun d => d.parameters.length) = some 0 := by decide +kernel
theorem iwX0_heardInAll_X0 : ∀ w ∈ wsX00, w ∈ wsX0_heardInAll := by decide +kernel
theorem lkX0_heardInAll_f31 : Cond.fieldLink RX0 31 "CoachCourt$Drive" "parties" "I" ∈ wsX0_heardInAll := by decide +kernel
theorem lkX0_heardInAll_f18 : Cond.fieldLink RX0 18 "CoachCourt$Drive" "heard" "[I" ∈ wsX0_heardInAll := by decide +kernel
set_option maxHeartbeats 4000000 in
set_option maxRecDepth 100000 in
theorem wX0_heardInAll_l4 {p : Program} {l : Launch} {e : Env} {s : State} {m : MethodId} {args : Array Value} {below : List Frame} {meth : Method} {c : Code} {D : va_G} {t : Nat → ClassId} {κ : Nat → Nat} {A : Nat → Prop} {a_dr : Nat → Nat} {s_dr : S2} {rv : Option Value} {w1 : va_W} (C : Cxt p s m args meth c cX0_heardInAll 3 RX0 wsX0_heardInAll (some .int) D t κ A) : ∀ (n : Nat) (x1 : Int32) (x2 : Int32) (x : Int32 × Int32), wh (fun (c : Int32 × Int32) => fX0_heardInAll_b4 s_dr c.1 c.2) n (x1, x2) = some x → (∀ (z : Int32 × Int32), x = z → ∀ (H : Heap) (locs : List Loc) (ls : Array Slot), va_P D vwCl (wDrive t a_dr s_dr) H → va_D A (wDrive t a_dr s_dr) → va_S A s.heap H locs → lv_has ls 3 [(1, .int z.1)] → W p l e (rmL 0) s m args below meth c H locs 0 0 (MQ below (gQ D rv w1 A) args s 0 0 A) (F0 m 27 ls [])) → ∀ (H : Heap) (locs : List Loc) (ls : Array Slot), va_P D vwCl (wDrive t a_dr s_dr) H → va_D A (wDrive t a_dr s_dr) → va_S A s.heap H locs → lv_has ls 3 [(0, .ref (a_dr 0)), (1, .int x1), (2, .int x2)] → W p l e (rmL 0) s m args below meth c H locs 0 0 (MQ below (gQ D rv w1 A) args s 0 0 A) (F0 m 4 ls []) := by
  obtain ⟨hx, hb, hr, hml, hown, hts, hC0, hlk, hA⟩ := id C
  have hK := hC0.1
  intro n
  induction n with
  | zero =>
    intro x1 x2 x h
    exact (wh_0 h).elim
  | succ n ih =>
    intro x1 x2 x h HX H locs ls hP hD hS hl
    obtain ⟨v, hf, hB, hX⟩ := wh_step h
    have hf : fX0_heardInAll_b4 s_dr x1 x2 = some v := hf
    have HB : ∀ (z : Int32 × Int32), v = .inl z → ∀ (H : Heap) (locs : List Loc) (ls : Array Slot), va_P D vwCl (wDrive t a_dr s_dr) H → va_D A (wDrive t a_dr s_dr) → va_S A s.heap H locs → lv_has ls 3 [(0, .ref (a_dr 0)), (1, .int z.1), (2, .int z.2)] → W p l e (rmL 0) s m args below meth c H locs 0 0 (MQ below (gQ D rv w1 A) args s 0 0 A) (F0 m 4 ls []) := fun z hz H locs ls hP hD hS hl => ih z.1 z.2 x (hB z hz) HX H locs ls hP hD hS hl
    have HX : ∀ (z : Int32 × Int32), v = .inr z → ∀ (H : Heap) (locs : List Loc) (ls : Array Slot), va_P D vwCl (wDrive t a_dr s_dr) H → va_D A (wDrive t a_dr s_dr) → va_S A s.heap H locs → lv_has ls 3 [(1, .int z.1)] → W p l e (rmL 0) s m args below meth c H locs 0 0 (MQ below (gQ D rv w1 A) args s 0 0 A) (F0 m 27 ls []) := fun z hz => HX z (hX _ hz).symm
    unfold fX0_heardInAll_b4 at hf
    refine lv_iload_n hx hb dX0_heardInAll_4 rfl (lv_at hl 2 rfl) ?_
    refine lv_aload_n hx hb dX0_heardInAll_5 rfl (lv_at hl 0 rfl) ?_
    refine va_get (D := D) (ci := 0) (v := .int (s_dr 0 0)) (C := RX0) (T := TX0) (N := 7) hx hb hts iwX0_heardInAll_X0 hown hK hP 0 rfl rfl 5 (by decide) (hts _ lkX0_heardInAll_f31) (fun _ h9 => h9) rfl dX0_heardInAll_6 ?_
    refine lv_icmp_ge (tgt := 27) hx hb dX0_heardInAll_9 (by decide) (fun c1 => ?_) (fun c1 => ?_)
    · rw [if_pos c1] at hf
      obtain rfl := so_eq hf
      exact HX _ rfl _ _ _ hP hD hS (lv_sub hl [1] rfl)
    · rw [if_neg c1] at hf
      refine lv_iload_n hx hb dX0_heardInAll_12 rfl (lv_at hl 1 rfl) ?_
      refine lv_aload_n hx hb dX0_heardInAll_13 rfl (lv_at hl 0 rfl) ?_
      refine va_get (D := D) (ci := 0) (v := .ref (a_dr 3)) (C := RX0) (T := TX0) (N := 7) hx hb hts iwX0_heardInAll_X0 hown hK hP 0 rfl rfl 2 (by decide) (hts _ lkX0_heardInAll_f18) (fun _ h9 => h9) rfl dX0_heardInAll_14 ?_
      refine lv_iload_n hx hb dX0_heardInAll_17 rfl (lv_at hl 2 rfl) ?_
      obtain ⟨b2, hf⟩ := gd_some hf
      refine va_iald hx hb hK hP 3 0 rfl rfl (ixb_in b2) dX0_heardInAll_18 ?_
      refine lv_iadd hx hb dX0_heardInAll_19 ?_
      obtain ⟨y3, hy3, hf⟩ := nm_ex hf
      refine W.eq (g2 := F0 m 20 ls [.int y3]) (by rw [hy3]) ?_
      refine lv_istore_n (lv' := [(1, .int y3), (0, .ref (a_dr 0)), (2, .int x2)]) hx hb dX0_heardInAll_20 rfl hl (by decide) rfl (fun ls hl => ?_)
      obtain ⟨y4, hy4, hf⟩ := nm_ex hf
      refine lv_iinc (v := y4) (lv' := [(2, .int y4), (1, .int y3), (0, .ref (a_dr 0))]) hx hb dX0_heardInAll_21 hl (k := 2) rfl (by rw [hy4]; rfl) (by decide) rfl (fun ls hl => ?_)
      refine lv_goto (tgt := 4) hx hb dX0_heardInAll_24 (by decide) ?_
      obtain rfl := so_eq hf
      exact HB _ rfl _ _ _ hP hD hS (lv_sub hl [2, 1, 0] rfl)
set_option maxHeartbeats 4000000 in
set_option maxRecDepth 100000 in
theorem cX0_heardInAll_ok {l : Launch} {D : va_G} {t : Nat → ClassId} {κ : Nat → Nat} {a_dr : Nat → Nat} {s_dr : S2} {out : Int32} (hf : fX0_heardInAll s_dr = some out) : Ct l D t κ yX0_heardInAll wsX0_heardInAll (rmL 0) [.ref (a_dr 0)] (wDrive t a_dr s_dr) (some (.int out)) (wDrive t a_dr s_dr) := by
  refine Ct.ofW (own := RX0) (cc := cX0_heardInAll) (maxL := 3) (ret := (some .int)) (by decide) rfl rfl (Nat.le_of_ble_eq_true rfl) ?_
  intro p e s m below meth c A C hP hD ls hl
  have hS : va_S A s.heap s.heap [] := va_S.rf
  obtain ⟨hx, hb, hr, hml, hown, hts, hC0, hlk, hA⟩ := id C
  have hK := hC0.1
  have hl : lv_has ls 3 [(0, .ref (a_dr 0))] := hl
  unfold fX0_heardInAll at hf
  refine lv_iconst (v := 0) hx hb dX0_heardInAll_0 (by decide) ?_
  refine lv_istore_n (lv' := [(1, .int (0 : Int32)), (0, .ref (a_dr 0))]) hx hb dX0_heardInAll_1 rfl hl (by decide) rfl (fun ls hl => ?_)
  refine lv_iconst (v := 0) hx hb dX0_heardInAll_2 (by decide) ?_
  refine lv_istore_n (lv' := [(2, .int (0 : Int32)), (1, .int (0 : Int32)), (0, .ref (a_dr 0))]) hx hb dX0_heardInAll_3 rfl hl (by decide) rfl (fun ls hl => ?_)
  obtain ⟨x5, ex5, hf⟩ := bd_some hf
  refine wX0_heardInAll_l4 C 5000 (0 : Int32) (0 : Int32) x5 ex5 (fun c9 h9 H locs ls hP hD hS hl => ?_) _ _ _ hP hD hS (lv_sub hl [2, 1, 0] rfl)
  subst h9
  refine lv_iload_n hx hb dX0_heardInAll_27 rfl (lv_at hl 0 rfl) ?_
  obtain rfl := so_eq hf
  exact g_iret C hP hD hS dX0_heardInAll_28
/-! CoachCourt$Drive.setOut -/
def fX0_setOut_b2 (s_dr : S2) (s_rd : S2) (x2 : Int32) (x3 : Int32) : Option ((Int32 × S2) ⊕ (Int32 × S2)) :=
  if (8 : Int32) ≤ x3 then
    (some (.inr (x3, s_dr)))
  else
    (gd (ixb x3 8) <|
    nm (sE s_dr 5 (Int32.toNatClampNeg x3) ((s_dr 5 (Int32.toNatClampNeg x3)) &&& (((1 : Int32) <<< (x2 &&& 31)) - (1 : Int32)))) fun s3 =>
    nm (x3 + (1 : Int32)) fun y4 =>
    some (.inl (y4, s3)))
def fX0_setOut (s_dr : S2) (s_rd : S2) (p2 : Int32) : Option (S2) :=
  (wh (fun (c : Int32 × S2) => fX0_setOut_b2 c.2 s_rd p2 c.1) 5000 ((0 : Int32), s_dr)).bind fun x5 =>
  gd (ixb p2 4) <|
  nm (sE x5.2 1 (Int32.toNatClampNeg p2) (-4 : Int32)) fun s7 =>
  nm (sE s7 2 (Int32.toNatClampNeg p2) (-4 : Int32)) fun s8 =>
  nm (sE s8 3 (Int32.toNatClampNeg p2) (0 : Int32)) fun s9 =>
  nm (sE s9 4 (Int32.toNatClampNeg p2) (s_rd 5 (Int32.toNatClampNeg p2))) fun s10 =>
  some s10
theorem hdX0_setOut : yX0_setOut.cls = RX0 ∧ yX0_setOut.cls ≠ "java/lang/invoke/MethodHandle" ∧ yX0_setOut.cls ≠ "java/lang/invoke/VarHandle" ∧ (parseMethodDescriptor yX0_setOut.desc).map (fun d => d.parameters.length) = some 2 := by decide +kernel
theorem iwX0_setOut_X0 : ∀ w ∈ wsX00, w ∈ wsX0_setOut := by decide +kernel
theorem lkX0_setOut_f24 : Cond.fieldLink RX0 24 "CoachCourt$Drive" "runners" "[I" ∈ wsX0_setOut := by decide +kernel
theorem lkX0_setOut_f9 : Cond.fieldLink RX0 9 "CoachCourt$Drive" "verdict" "[I" ∈ wsX0_setOut := by decide +kernel
theorem lkX0_setOut_f15 : Cond.fieldLink RX0 15 "CoachCourt$Drive" "fall" "[I" ∈ wsX0_setOut := by decide +kernel
theorem lkX0_setOut_f18 : Cond.fieldLink RX0 18 "CoachCourt$Drive" "heard" "[I" ∈ wsX0_setOut := by decide +kernel
theorem lkX0_setOut_f21 : Cond.fieldLink RX0 21 "CoachCourt$Drive" "left" "[I" ∈ wsX0_setOut := by decide +kernel
theorem iwX0_setOut_X2 : ∀ w ∈ wsX20, w ∈ wsX0_setOut := by decide +kernel
set_option maxHeartbeats 4000000 in
set_option maxRecDepth 100000 in
theorem wX0_setOut_l2 {p : Program} {l : Launch} {e : Env} {s : State} {m : MethodId} {args : Array Value} {below : List Frame} {meth : Method} {c : Code} {D : va_G} {t : Nat → ClassId} {κ : Nat → Nat} {A : Nat → Prop} {a_dr : Nat → Nat} {a_rd : Nat → Nat} {s_rd : S2} {x2 : Int32} {rv : Option Value} {w1 : va_W} (C : Cxt p s m args meth c cX0_setOut 4 RX0 wsX0_setOut none D t κ A) : ∀ (n : Nat) (x3 : Int32) (s_dr : S2) (x : Int32 × S2), wh (fun (c : Int32 × S2) => fX0_setOut_b2 c.2 s_rd x2 c.1) n (x3, s_dr) = some x → (∀ (z : Int32 × S2), x = z → ∀ (H : Heap) (locs : List Loc) (ls : Array Slot), va_P D vwCl ((wDrive t a_dr z.2) ++ (wRoad t a_rd s_rd)) H → va_D A ((wDrive t a_dr z.2) ++ (wRoad t a_rd s_rd)) → va_S A s.heap H locs → lv_has ls 4 [(0, .ref (a_dr 0)), (1, .ref (a_rd 0)), (2, .int x2)] → W p l e (rmL 0) s m args below meth c H locs 0 0 (MQ below (gQ D rv w1 A) args s 0 0 A) (F0 m 28 ls [])) → ∀ (H : Heap) (locs : List Loc) (ls : Array Slot), va_P D vwCl ((wDrive t a_dr s_dr) ++ (wRoad t a_rd s_rd)) H → va_D A ((wDrive t a_dr s_dr) ++ (wRoad t a_rd s_rd)) → va_S A s.heap H locs → lv_has ls 4 [(0, .ref (a_dr 0)), (1, .ref (a_rd 0)), (2, .int x2), (3, .int x3)] → W p l e (rmL 0) s m args below meth c H locs 0 0 (MQ below (gQ D rv w1 A) args s 0 0 A) (F0 m 2 ls []) := by
  obtain ⟨hx, hb, hr, hml, hown, hts, hC0, hlk, hA⟩ := id C
  have hK := hC0.1
  intro n
  induction n with
  | zero =>
    intro x3 s_dr x h
    exact (wh_0 h).elim
  | succ n ih =>
    intro x3 s_dr x h HX H locs ls hP hD hS hl
    obtain ⟨v, hf, hB, hX⟩ := wh_step h
    have hf : fX0_setOut_b2 s_dr s_rd x2 x3 = some v := hf
    have HB : ∀ (z : Int32 × S2), v = .inl z → ∀ (H : Heap) (locs : List Loc) (ls : Array Slot), va_P D vwCl ((wDrive t a_dr z.2) ++ (wRoad t a_rd s_rd)) H → va_D A ((wDrive t a_dr z.2) ++ (wRoad t a_rd s_rd)) → va_S A s.heap H locs → lv_has ls 4 [(0, .ref (a_dr 0)), (1, .ref (a_rd 0)), (2, .int x2), (3, .int z.1)] → W p l e (rmL 0) s m args below meth c H locs 0 0 (MQ below (gQ D rv w1 A) args s 0 0 A) (F0 m 2 ls []) := fun z hz H locs ls hP hD hS hl => ih z.1 z.2 x (hB z hz) HX H locs ls hP hD hS hl
    have HX : ∀ (z : Int32 × S2), v = .inr z → ∀ (H : Heap) (locs : List Loc) (ls : Array Slot), va_P D vwCl ((wDrive t a_dr z.2) ++ (wRoad t a_rd s_rd)) H → va_D A ((wDrive t a_dr z.2) ++ (wRoad t a_rd s_rd)) → va_S A s.heap H locs → lv_has ls 4 [(0, .ref (a_dr 0)), (1, .ref (a_rd 0)), (2, .int x2)] → W p l e (rmL 0) s m args below meth c H locs 0 0 (MQ below (gQ D rv w1 A) args s 0 0 A) (F0 m 28 ls []) := fun z hz => HX z (hX _ hz).symm
    unfold fX0_setOut_b2 at hf
    refine lv_iload_n hx hb dX0_setOut_2 rfl (lv_at hl 3 rfl) ?_
    refine lv_bipush (v := 8) hx hb dX0_setOut_3 (by decide) ?_
    refine lv_icmp_ge (tgt := 28) hx hb dX0_setOut_5 (by decide) (fun c1 => ?_) (fun c1 => ?_)
    · rw [if_pos c1] at hf
      obtain rfl := so_eq hf
      exact HX _ rfl _ _ _ hP hD hS (lv_sub hl [0, 1, 2] rfl)
    · rw [if_neg c1] at hf
      refine lv_aload_n hx hb dX0_setOut_8 rfl (lv_at hl 0 rfl) ?_
      refine va_get (D := D) (ci := 0) (v := .ref (a_dr 5)) (C := RX0) (T := TX0) (N := 7) hx hb hts iwX0_setOut_X0 hown hK hP 0 rfl rfl 4 (by decide) (hts _ lkX0_setOut_f24) (fun _ h9 => h9) rfl dX0_setOut_9 ?_
      refine lv_iload_n hx hb dX0_setOut_12 rfl (lv_at hl 3 rfl) ?_
      refine lv_dup2_11 hx hb dX0_setOut_13 rfl rfl ?_
      obtain ⟨b2, hf⟩ := gd_some hf
      refine va_iald hx hb hK hP 5 0 rfl rfl (ixb_in b2) dX0_setOut_14 ?_
      refine lv_iconst (v := 1) hx hb dX0_setOut_15 (by decide) ?_
      refine lv_iload_n hx hb dX0_setOut_16 rfl (lv_at hl 2 rfl) ?_
      refine lv_ishl hx hb dX0_setOut_17 ?_
      refine lv_iconst (v := 1) hx hb dX0_setOut_18 (by decide) ?_
      refine lv_isub hx hb dX0_setOut_19 ?_
      refine lv_iand hx hb dX0_setOut_20 ?_
      obtain ⟨s3, hs3, hf⟩ := nm_ex hf
      refine va_iast hx hb hK hP hD hS 5 0 rfl rfl (ixb_in b2) dX0_setOut_21 (fun H locs hP hD hS => ?_)
      have hP : va_P D vwCl ((wDrive t a_dr s3) ++ (wRoad t a_rd s_rd)) H := by rw [hs3]; exact hP
      have hD : va_D A ((wDrive t a_dr s3) ++ (wRoad t a_rd s_rd)) := by rw [hs3]; exact hD
      obtain ⟨y4, hy4, hf⟩ := nm_ex hf
      refine lv_iinc (v := y4) (lv' := [(3, .int y4), (0, .ref (a_dr 0)), (1, .ref (a_rd 0)), (2, .int x2)]) hx hb dX0_setOut_22 hl (k := 3) rfl (by rw [hy4]; rfl) (by decide) rfl (fun ls hl => ?_)
      refine lv_goto (tgt := 2) hx hb dX0_setOut_25 (by decide) ?_
      obtain rfl := so_eq hf
      exact HB _ rfl _ _ _ hP hD hS (lv_sub hl [1, 2, 3, 0] rfl)
set_option maxHeartbeats 4000000 in
set_option maxRecDepth 100000 in
theorem cX0_setOut_ok {l : Launch} {D : va_G} {t : Nat → ClassId} {κ : Nat → Nat} {a_dr : Nat → Nat} {a_rd : Nat → Nat} {s_dr : S2} {s_rd : S2} {p2 : Int32} {out : S2} (hf : fX0_setOut s_dr s_rd p2 = some out) : Ct l D t κ yX0_setOut wsX0_setOut (rmL 0) [.ref (a_dr 0), .ref (a_rd 0), .int p2] ((wDrive t a_dr s_dr) ++ (wRoad t a_rd s_rd)) none ((wDrive t a_dr out) ++ (wRoad t a_rd s_rd)) := by
  refine Ct.ofW (own := RX0) (cc := cX0_setOut) (maxL := 4) (ret := none) (by decide) rfl rfl (Nat.le_of_ble_eq_true rfl) ?_
  intro p e s m below meth c A C hP hD ls hl
  have hS : va_S A s.heap s.heap [] := va_S.rf
  obtain ⟨hx, hb, hr, hml, hown, hts, hC0, hlk, hA⟩ := id C
  have hK := hC0.1
  have hl : lv_has ls 4 [(0, .ref (a_dr 0)), (1, .ref (a_rd 0)), (2, .int p2)] := hl
  unfold fX0_setOut at hf
  refine lv_iconst (v := 0) hx hb dX0_setOut_0 (by decide) ?_
  refine lv_istore_n (lv' := [(3, .int (0 : Int32)), (0, .ref (a_dr 0)), (1, .ref (a_rd 0)), (2, .int p2)]) hx hb dX0_setOut_1 rfl hl (by decide) rfl (fun ls hl => ?_)
  obtain ⟨x5, ex5, hf⟩ := bd_some hf
  refine wX0_setOut_l2 C 5000 (0 : Int32) s_dr x5 ex5 (fun c9 h9 H locs ls hP hD hS hl => ?_) _ _ _ hP hD hS (lv_sub hl [1, 2, 3, 0] rfl)
  subst h9
  refine lv_aload_n hx hb dX0_setOut_28 rfl (lv_at hl 0 rfl) ?_
  refine va_get (D := D) (ci := 0) (v := .ref (a_dr 1)) (C := RX0) (T := TX0) (N := 7) hx hb hts iwX0_setOut_X0 hown hK hP 0 rfl rfl 0 (by decide) (hts _ lkX0_setOut_f9) (fun _ h9 => h9) rfl dX0_setOut_29 ?_
  refine lv_iload_n hx hb dX0_setOut_32 rfl (lv_at hl 2 rfl) ?_
  refine lv_bipush (v := -4) hx hb dX0_setOut_33 (by decide) ?_
  obtain ⟨b6, hf⟩ := gd_some hf
  obtain ⟨s7, hs7, hf⟩ := nm_ex hf
  refine va_iast hx hb hK hP hD hS 1 0 rfl rfl (ixb_in b6) dX0_setOut_35 (fun H locs hP hD hS => ?_)
  have hP : va_P D vwCl ((wDrive t a_dr s7) ++ (wRoad t a_rd s_rd)) H := by rw [hs7]; exact hP
  have hD : va_D A ((wDrive t a_dr s7) ++ (wRoad t a_rd s_rd)) := by rw [hs7]; exact hD
  refine lv_aload_n hx hb dX0_setOut_36 rfl (lv_at hl 0 rfl) ?_
  refine va_get (D := D) (ci := 0) (v := .ref (a_dr 2)) (C := RX0) (T := TX0) (N := 7) hx hb hts iwX0_setOut_X0 hown hK hP 0 rfl rfl 1 (by decide) (hts _ lkX0_setOut_f15) (fun _ h9 => h9) rfl dX0_setOut_37 ?_
  refine lv_iload_n hx hb dX0_setOut_40 rfl (lv_at hl 2 rfl) ?_
  refine lv_bipush (v := -4) hx hb dX0_setOut_41 (by decide) ?_
  obtain ⟨s8, hs8, hf⟩ := nm_ex hf
  refine va_iast hx hb hK hP hD hS 2 0 rfl rfl (ixb_in b6) dX0_setOut_43 (fun H locs hP hD hS => ?_)
  have hP : va_P D vwCl ((wDrive t a_dr s8) ++ (wRoad t a_rd s_rd)) H := by rw [hs8]; exact hP
  have hD : va_D A ((wDrive t a_dr s8) ++ (wRoad t a_rd s_rd)) := by rw [hs8]; exact hD
  refine lv_aload_n hx hb dX0_setOut_44 rfl (lv_at hl 0 rfl) ?_
  refine va_get (D := D) (ci := 0) (v := .ref (a_dr 3)) (C := RX0) (T := TX0) (N := 7) hx hb hts iwX0_setOut_X0 hown hK hP 0 rfl rfl 2 (by decide) (hts _ lkX0_setOut_f18) (fun _ h9 => h9) rfl dX0_setOut_45 ?_
  refine lv_iload_n hx hb dX0_setOut_48 rfl (lv_at hl 2 rfl) ?_
  refine lv_iconst (v := 0) hx hb dX0_setOut_49 (by decide) ?_
  obtain ⟨s9, hs9, hf⟩ := nm_ex hf
  refine va_iast hx hb hK hP hD hS 3 0 rfl rfl (ixb_in b6) dX0_setOut_50 (fun H locs hP hD hS => ?_)
  have hP : va_P D vwCl ((wDrive t a_dr s9) ++ (wRoad t a_rd s_rd)) H := by rw [hs9]; exact hP
  have hD : va_D A ((wDrive t a_dr s9) ++ (wRoad t a_rd s_rd)) := by rw [hs9]; exact hD
  refine lv_aload_n hx hb dX0_setOut_51 rfl (lv_at hl 0 rfl) ?_
  refine va_get (D := D) (ci := 0) (v := .ref (a_dr 4)) (C := RX0) (T := TX0) (N := 7) hx hb hts iwX0_setOut_X0 hown hK hP 0 rfl rfl 3 (by decide) (hts _ lkX0_setOut_f21) (fun _ h9 => h9) rfl dX0_setOut_52 ?_
  refine lv_iload_n hx hb dX0_setOut_55 rfl (lv_at hl 2 rfl) ?_
  refine lv_aload_n hx hb dX0_setOut_56 rfl (lv_at hl 1 rfl) ?_
  refine va_getN (D := D) (ci := 2) (v := .ref (a_rd 5)) (C := RX2) (T := TX2) (N := 12) hx hb hts iwX0_setOut_X2 hown hK hP 6 rfl rfl 4 (by decide) (hC0.2.1.f 15 rfl) (fun _ h9 => h9) rfl dX0_setOut_57 ?_
  refine lv_iload_n hx hb dX0_setOut_60 rfl (lv_at hl 2 rfl) ?_
  refine va_iald hx hb hK hP 11 0 rfl rfl (ixb_in b6) dX0_setOut_61 ?_
  obtain ⟨s10, hs10, hf⟩ := nm_ex hf
  refine va_iast hx hb hK hP hD hS 4 0 rfl rfl (ixb_in b6) dX0_setOut_62 (fun H locs hP hD hS => ?_)
  have hP : va_P D vwCl ((wDrive t a_dr s10) ++ (wRoad t a_rd s_rd)) H := by rw [hs10]; exact hP
  have hD : va_D A ((wDrive t a_dr s10) ++ (wRoad t a_rd s_rd)) := by rw [hs10]; exact hD
  obtain rfl := so_eq hf
  exact g_vret C hP hD hS dX0_setOut_63
/-! CoachCourt$Drive.runParty -/
def fX0_runParty_121 (s_dr : S2) (s_rd : S2) (x2 : Int32) (x4 : Int32) : Option ((Int32 × S2) ⊕ ((Int32 × S2) ⊕ (S2))) :=
  gd (ixb x2 4) <|
  nm (sE s_dr 2 (Int32.toNatClampNeg x2) x4) fun s13 =>
  some (.inr (.inr s13))
def fX0_runParty_185 (s_dr : S2) (s_rd : S2) (x2 : Int32) (x3 : Int32) (x4 : Int32) : Option ((Int32 × S2) ⊕ ((Int32 × S2) ⊕ (S2))) :=
  gd (ixb x2 4) <|
  if (s_dr 3 (Int32.toNatClampNeg x2)) < (s_rd 6 (Int32.toNatClampNeg x2)) then
    (nm (x4 + (1 : Int32)) fun y23 =>
    some (.inl (y23, s_dr)))
  else
    (nm (sE s_dr 1 (Int32.toNatClampNeg x2) x4) fun s24 =>
    some (.inr (.inr s24)))
def fX0_runParty_98 (s_dr : S2) (s_rd : S2) (x2 : Int32) (x3 : Int32) (x4 : Int32) (x5 : Int32) (x6 : Int32) (k0 : Int32) : Option ((Int32 × S2) ⊕ ((Int32 × S2) ⊕ (S2))) :=
  if x6 = (0 : Int32) then
    (if k0 = (0 : Int32) then
      (gd (ixb x2 4) <|
      if x5 ≤ (s_dr 4 (Int32.toNatClampNeg x2)) then
        (gd (ixb x4 8) <|
        nm (sE s_dr 5 (Int32.toNatClampNeg x4) ((s_dr 5 (Int32.toNatClampNeg x4)) ||| ((1 : Int32) <<< (x2 &&& 31)))) fun s18 =>
        nm (sE s18 4 (Int32.toNatClampNeg x2) ((s18 4 (Int32.toNatClampNeg x2)) - x5)) fun s19 =>
        if (s_rd 1 (Int32.toNatClampNeg x4)) = (s_rd 7 (Int32.toNatClampNeg x2)) then
          ((fX2_hearingOf s_rd x4).bind fun v25 =>
          nm (sE s19 3 (Int32.toNatClampNeg x2) ((s19 3 (Int32.toNatClampNeg x2)) + v25)) fun s26 =>
          fX0_runParty_185 s26 s_rd x2 x3 x4)
        else
          (fX0_runParty_185 s19 s_rd x2 x3 x4))
      else
        (fX0_runParty_121 s_dr s_rd x2 x4))
    else
      (fX0_runParty_121 s_dr s_rd x2 x4))
  else
    (fX0_runParty_121 s_dr s_rd x2 x4)
def fX0_runParty_56 (s_dr : S2) (s_rd : S2) (x2 : Int32) (x3 : Int32) (x4 : Int32) (x5 : Int32) (k0 : Int32) : Option ((Int32 × S2) ⊕ ((Int32 × S2) ⊕ (S2))) :=
  gd (ixb x2 4) <|
  if (s_rd 4 (Int32.toNatClampNeg x2)) = (3 : Int32) then
    (if x4 ≤ x3 then
      (fX0_runParty_98 s_dr s_rd x2 x3 x4 x5 k0 (0 : Int32))
    else
      (gd (ixb x4 8) <|
      gd (ixb (x4 - (1 : Int32)) 8) <|
      if (s_rd 1 (Int32.toNatClampNeg x4)) = (s_rd 1 (Int32.toNatClampNeg (x4 - (1 : Int32)))) then
        (fX0_runParty_98 s_dr s_rd x2 x3 x4 x5 k0 (0 : Int32))
      else
        (fX0_runParty_98 s_dr s_rd x2 x3 x4 x5 k0 (1 : Int32))))
  else
    (fX0_runParty_98 s_dr s_rd x2 x3 x4 x5 k0 (0 : Int32))
def fX0_runParty_b16 (s_dr : S2) (s_rd : S2) (x2 : Int32) (x3 : Int32) (x4 : Int32) : Option ((Int32 × S2) ⊕ ((Int32 × S2) ⊕ (S2))) :=
  if (s_dr 0 1) ≤ x4 then
    (some (.inr (.inl (x4, s_dr))))
  else
    ((fX2_strainOf s_rd x2 x4).bind fun v5 =>
    gd (ixb x4 8) <|
    (fJ6_bitCount_0f7a4 (s_dr 5 (Int32.toNatClampNeg x4))).bind fun v7 =>
    if v7 < (s_rd 0 2) then
      (fX0_runParty_56 s_dr s_rd x2 x3 x4 v5 (0 : Int32))
    else
      (fX0_runParty_56 s_dr s_rd x2 x3 x4 v5 (1 : Int32)))
def fX0_runParty (s_dr : S2) (s_rd : S2) (p2 : Int32) : Option (S2) :=
  (fX0_setOut s_dr s_rd p2).bind fun v1 =>
  gd (ixb p2 4) <|
  nm (s_rd 8 (Int32.toNatClampNeg p2)) fun y3 =>
  (wh (fun (c : Int32 × S2) => fX0_runParty_b16 c.2 s_rd p2 y3 c.1) 5000 (y3, v1)).bind fun x31 =>
  Sum.elim (fun q32 =>
    some q32.2) (fun r33 => some r33) x31
theorem hdX0_runParty : yX0_runParty.cls = RX0 ∧ yX0_runParty.cls ≠ "java/lang/invoke/MethodHandle" ∧ yX0_runParty.cls ≠ "java/lang/invoke/VarHandle" ∧ (parseMethodDescriptor yX0_runParty.desc).map (fun d => d.parameters.length) = some 2 := by decide +kernel
theorem iwX0_runParty_X2 : ∀ w ∈ wsX20, w ∈ wsX0_runParty := by decide +kernel
theorem iwX0_runParty_X0 : ∀ w ∈ wsX00, w ∈ wsX0_runParty := by decide +kernel
theorem lkX0_runParty_f46 : Cond.fieldLink RX0 46 "CoachCourt$Drive" "driven" "I" ∈ wsX0_runParty := by decide +kernel
theorem lkX0_runParty_f24 : Cond.fieldLink RX0 24 "CoachCourt$Drive" "runners" "[I" ∈ wsX0_runParty := by decide +kernel
theorem lkX0_runParty_f15 : Cond.fieldLink RX0 15 "CoachCourt$Drive" "fall" "[I" ∈ wsX0_runParty := by decide +kernel
theorem lkX0_runParty_f21 : Cond.fieldLink RX0 21 "CoachCourt$Drive" "left" "[I" ∈ wsX0_runParty := by decide +kernel
theorem lkX0_runParty_f18 : Cond.fieldLink RX0 18 "CoachCourt$Drive" "heard" "[I" ∈ wsX0_runParty := by decide +kernel
theorem lkX0_runParty_f9 : Cond.fieldLink RX0 9 "CoachCourt$Drive" "verdict" "[I" ∈ wsX0_runParty := by decide +kernel
set_option maxHeartbeats 4000000 in
set_option maxRecDepth 100000 in
theorem wX0_runParty_121 {p : Program} {l : Launch} {e : Env} {s : State} {m : MethodId} {args : Array Value} {below : List Frame} {meth : Method} {c : Code} {D : va_G} {t : Nat → ClassId} {κ : Nat → Nat} {A : Nat → Prop} {a_dr : Nat → Nat} {a_rd : Nat → Nat} {s_dr : S2} {s_rd : S2} {x2 : Int32} {x4 : Int32} {rv : Option Value} {w1 : va_W} {v : (Int32 × S2) ⊕ ((Int32 × S2) ⊕ (S2))} (C : Cxt p s m args meth c cX0_runParty 8 RX0 wsX0_runParty none D t κ A) (hf : fX0_runParty_121 s_dr s_rd x2 x4 = some v) (HR : ∀ (r : S2), v = .inr (.inr r) → rv = none ∧ w1 = ((wDrive t a_dr r) ++ (wRoad t a_rd s_rd))) : ∀ (H : Heap) (locs : List Loc) (ls : Array Slot), va_P D vwCl ((wDrive t a_dr s_dr) ++ (wRoad t a_rd s_rd)) H → va_D A ((wDrive t a_dr s_dr) ++ (wRoad t a_rd s_rd)) → va_S A s.heap H locs → lv_has ls 8 [(0, .ref (a_dr 0)), (2, .int x2), (4, .int x4)] → W p l e (rmL 2) s m args below meth c H locs 0 0 (MQ below (gQ D rv w1 A) args s 0 0 A) (F0 m 121 ls []) := by
  obtain ⟨hx, hb, hr, hml, hown, hts, hC0, hlk, hA⟩ := id C
  have hK := hC0.1
  intro H locs ls hP hD hS hl
  unfold fX0_runParty_121 at hf
  refine lv_aload_n hx hb dX0_runParty_121 rfl (lv_at hl 0 rfl) ?_
  refine va_get (D := D) (ci := 0) (v := .ref (a_dr 2)) (C := RX0) (T := TX0) (N := 7) hx hb hts iwX0_runParty_X0 hown hK hP 0 rfl rfl 1 (by decide) (hts _ lkX0_runParty_f15) (fun _ h9 => h9) rfl dX0_runParty_122 ?_
  refine lv_iload_n hx hb dX0_runParty_125 rfl (lv_at hl 1 rfl) ?_
  refine lv_iload hx hb dX0_runParty_126 (lv_at hl 2 rfl) ?_
  obtain ⟨b12, hf⟩ := gd_some hf
  obtain ⟨s13, hs13, hf⟩ := nm_ex hf
  refine va_iast hx hb hK hP hD hS 2 0 rfl rfl (ixb_in b12) dX0_runParty_128 (fun H locs hP hD hS => ?_)
  have hP : va_P D vwCl ((wDrive t a_dr s13) ++ (wRoad t a_rd s_rd)) H := by rw [hs13]; exact hP
  have hD : va_D A ((wDrive t a_dr s13) ++ (wRoad t a_rd s_rd)) := by rw [hs13]; exact hD
  obtain rfl := so_eq hf
  obtain ⟨rfl, rfl⟩ := HR _ rfl
  exact g_vret C hP hD hS dX0_runParty_129
set_option maxHeartbeats 4000000 in
set_option maxRecDepth 100000 in
theorem wX0_runParty_185 {p : Program} {l : Launch} {e : Env} {s : State} {m : MethodId} {args : Array Value} {below : List Frame} {meth : Method} {c : Code} {D : va_G} {t : Nat → ClassId} {κ : Nat → Nat} {A : Nat → Prop} {a_dr : Nat → Nat} {a_rd : Nat → Nat} {s_dr : S2} {s_rd : S2} {x2 : Int32} {x3 : Int32} {x4 : Int32} {rv : Option Value} {w1 : va_W} {v : (Int32 × S2) ⊕ ((Int32 × S2) ⊕ (S2))} (C : Cxt p s m args meth c cX0_runParty 8 RX0 wsX0_runParty none D t κ A) (hf : fX0_runParty_185 s_dr s_rd x2 x3 x4 = some v) (HB : ∀ (z : Int32 × S2), v = .inl z → ∀ (H : Heap) (locs : List Loc) (ls : Array Slot), va_P D vwCl ((wDrive t a_dr z.2) ++ (wRoad t a_rd s_rd)) H → va_D A ((wDrive t a_dr z.2) ++ (wRoad t a_rd s_rd)) → va_S A s.heap H locs → lv_has ls 8 [(0, .ref (a_dr 0)), (1, .ref (a_rd 0)), (2, .int x2), (3, .int x3), (4, .int z.1)] → W p l e (rmL 2) s m args below meth c H locs 0 0 (MQ below (gQ D rv w1 A) args s 0 0 A) (F0 m 16 ls [])) (HR : ∀ (r : S2), v = .inr (.inr r) → rv = none ∧ w1 = ((wDrive t a_dr r) ++ (wRoad t a_rd s_rd))) : ∀ (H : Heap) (locs : List Loc) (ls : Array Slot), va_P D vwCl ((wDrive t a_dr s_dr) ++ (wRoad t a_rd s_rd)) H → va_D A ((wDrive t a_dr s_dr) ++ (wRoad t a_rd s_rd)) → va_S A s.heap H locs → lv_has ls 8 [(0, .ref (a_dr 0)), (1, .ref (a_rd 0)), (2, .int x2), (3, .int x3), (4, .int x4)] → W p l e (rmL 2) s m args below meth c H locs 0 0 (MQ below (gQ D rv w1 A) args s 0 0 A) (F0 m 185 ls []) := by
  obtain ⟨hx, hb, hr, hml, hown, hts, hC0, hlk, hA⟩ := id C
  have hK := hC0.1
  intro H locs ls hP hD hS hl
  unfold fX0_runParty_185 at hf
  refine lv_aload_n hx hb dX0_runParty_185 rfl (lv_at hl 0 rfl) ?_
  refine va_get (D := D) (ci := 0) (v := .ref (a_dr 3)) (C := RX0) (T := TX0) (N := 7) hx hb hts iwX0_runParty_X0 hown hK hP 0 rfl rfl 2 (by decide) (hts _ lkX0_runParty_f18) (fun _ h9 => h9) rfl dX0_runParty_186 ?_
  refine lv_iload_n hx hb dX0_runParty_189 rfl (lv_at hl 2 rfl) ?_
  obtain ⟨b21, hf⟩ := gd_some hf
  refine va_iald hx hb hK hP 3 0 rfl rfl (ixb_in b21) dX0_runParty_190 ?_
  refine lv_aload_n hx hb dX0_runParty_191 rfl (lv_at hl 1 rfl) ?_
  refine va_getN (D := D) (ci := 2) (v := .ref (a_rd 6)) (C := RX2) (T := TX2) (N := 12) hx hb hts iwX0_runParty_X2 hown hK hP 6 rfl rfl 5 (by decide) (hC0.2.1.f 17 rfl) (fun _ h9 => h9) rfl dX0_runParty_192 ?_
  refine lv_iload_n hx hb dX0_runParty_195 rfl (lv_at hl 2 rfl) ?_
  refine va_iald hx hb hK hP 12 0 rfl rfl (ixb_in b21) dX0_runParty_196 ?_
  refine lv_icmp_lt (tgt := 209) hx hb dX0_runParty_197 (by decide) (fun c22 => ?_) (fun c22 => ?_)
  · rw [if_pos c22] at hf
    obtain ⟨y23, hy23, hf⟩ := nm_ex hf
    refine lv_iinc (v := y23) (lv' := [(4, .int y23), (0, .ref (a_dr 0)), (1, .ref (a_rd 0)), (2, .int x2), (3, .int x3)]) hx hb dX0_runParty_209 hl (k := 4) rfl (by rw [hy23]; rfl) (by decide) rfl (fun ls hl => ?_)
    refine lv_goto (tgt := 16) hx hb dX0_runParty_212 (by decide) ?_
    obtain rfl := so_eq hf
    exact HB _ rfl _ _ _ hP hD hS (lv_sub hl [1, 2, 3, 4, 0] rfl)
  · rw [if_neg c22] at hf
    refine lv_aload_n hx hb dX0_runParty_200 rfl (lv_at hl 0 rfl) ?_
    refine va_get (D := D) (ci := 0) (v := .ref (a_dr 1)) (C := RX0) (T := TX0) (N := 7) hx hb hts iwX0_runParty_X0 hown hK hP 0 rfl rfl 0 (by decide) (hts _ lkX0_runParty_f9) (fun _ h9 => h9) rfl dX0_runParty_201 ?_
    refine lv_iload_n hx hb dX0_runParty_204 rfl (lv_at hl 2 rfl) ?_
    refine lv_iload hx hb dX0_runParty_205 (lv_at hl 4 rfl) ?_
    obtain ⟨s24, hs24, hf⟩ := nm_ex hf
    refine va_iast hx hb hK hP hD hS 1 0 rfl rfl (ixb_in b21) dX0_runParty_207 (fun H locs hP hD hS => ?_)
    have hP : va_P D vwCl ((wDrive t a_dr s24) ++ (wRoad t a_rd s_rd)) H := by rw [hs24]; exact hP
    have hD : va_D A ((wDrive t a_dr s24) ++ (wRoad t a_rd s_rd)) := by rw [hs24]; exact hD
    obtain rfl := so_eq hf
    obtain ⟨rfl, rfl⟩ := HR _ rfl
    exact g_vret C hP hD hS dX0_runParty_208
set_option maxHeartbeats 4000000 in
set_option maxRecDepth 100000 in
theorem wX0_runParty_98 {p : Program} {l : Launch} {e : Env} {s : State} {m : MethodId} {args : Array Value} {below : List Frame} {meth : Method} {c : Code} {D : va_G} {t : Nat → ClassId} {κ : Nat → Nat} {A : Nat → Prop} {a_dr : Nat → Nat} {a_rd : Nat → Nat} {s_dr : S2} {s_rd : S2} {x2 : Int32} {x3 : Int32} {x4 : Int32} {x5 : Int32} {x6 : Int32} {k0 : Int32} {rv : Option Value} {w1 : va_W} {v : (Int32 × S2) ⊕ ((Int32 × S2) ⊕ (S2))} (C : Cxt p s m args meth c cX0_runParty 8 RX0 wsX0_runParty none D t κ A) (hf : fX0_runParty_98 s_dr s_rd x2 x3 x4 x5 x6 k0 = some v) (HB : ∀ (z : Int32 × S2), v = .inl z → ∀ (H : Heap) (locs : List Loc) (ls : Array Slot), va_P D vwCl ((wDrive t a_dr z.2) ++ (wRoad t a_rd s_rd)) H → va_D A ((wDrive t a_dr z.2) ++ (wRoad t a_rd s_rd)) → va_S A s.heap H locs → lv_has ls 8 [(0, .ref (a_dr 0)), (1, .ref (a_rd 0)), (2, .int x2), (3, .int x3), (4, .int z.1)] → W p l e (rmL 2) s m args below meth c H locs 0 0 (MQ below (gQ D rv w1 A) args s 0 0 A) (F0 m 16 ls [])) (HR : ∀ (r : S2), v = .inr (.inr r) → rv = none ∧ w1 = ((wDrive t a_dr r) ++ (wRoad t a_rd s_rd))) : ∀ (H : Heap) (locs : List Loc) (ls : Array Slot), va_P D vwCl ((wDrive t a_dr s_dr) ++ (wRoad t a_rd s_rd)) H → va_D A ((wDrive t a_dr s_dr) ++ (wRoad t a_rd s_rd)) → va_S A s.heap H locs → lv_has ls 8 [(0, .ref (a_dr 0)), (1, .ref (a_rd 0)), (2, .int x2), (3, .int x3), (4, .int x4), (5, .int x5), (6, .int x6)] → W p l e (rmL 2) s m args below meth c H locs 0 0 (MQ below (gQ D rv w1 A) args s 0 0 A) (F0 m 98 ls [.int k0]) := by
  obtain ⟨hx, hb, hr, hml, hown, hts, hC0, hlk, hA⟩ := id C
  have hK := hC0.1
  intro H locs ls hP hD hS hl
  unfold fX0_runParty_98 at hf
  refine lv_istore (lv' := [(7, .int k0), (0, .ref (a_dr 0)), (1, .ref (a_rd 0)), (2, .int x2), (3, .int x3), (4, .int x4), (5, .int x5), (6, .int x6)]) hx hb dX0_runParty_98 hl (by decide) rfl (fun ls hl => ?_)
  refine lv_iload hx hb dX0_runParty_100 (lv_at hl 7 rfl) ?_
  refine lv_if_ne (tgt := 121) hx hb dX0_runParty_102 (by decide) (fun c11 => ?_) (fun c11 => ?_)
  · rw [if_neg c11] at hf
    exact wX0_runParty_121 C hf HR _ _ _ hP hD hS (lv_sub hl [1, 3, 5] rfl)
  · rw [if_pos c11] at hf
    refine lv_iload hx hb dX0_runParty_105 (lv_at hl 0 rfl) ?_
    refine lv_if_ne (tgt := 121) hx hb dX0_runParty_107 (by decide) (fun c14 => ?_) (fun c14 => ?_)
    · rw [if_neg c14] at hf
      exact wX0_runParty_121 C hf HR _ _ _ hP hD hS (lv_sub hl [1, 3, 5] rfl)
    · rw [if_pos c14] at hf
      refine lv_aload_n hx hb dX0_runParty_110 rfl (lv_at hl 1 rfl) ?_
      refine va_get (D := D) (ci := 0) (v := .ref (a_dr 4)) (C := RX0) (T := TX0) (N := 7) hx hb hts iwX0_runParty_X0 hown hK hP 0 rfl rfl 3 (by decide) (hts _ lkX0_runParty_f21) (fun _ h9 => h9) rfl dX0_runParty_111 ?_
      refine lv_iload_n hx hb dX0_runParty_114 rfl (lv_at hl 3 rfl) ?_
      obtain ⟨b15, hf⟩ := gd_some hf
      refine va_iald hx hb hK hP 4 0 rfl rfl (ixb_in b15) dX0_runParty_115 ?_
      refine lv_iload hx hb dX0_runParty_116 (lv_at hl 6 rfl) ?_
      refine lv_icmp_ge (tgt := 130) hx hb dX0_runParty_118 (by decide) (fun c16 => ?_) (fun c16 => ?_)
      · rw [if_pos c16] at hf
        refine lv_aload_n hx hb dX0_runParty_130 rfl (lv_at hl 1 rfl) ?_
        refine va_get (D := D) (ci := 0) (v := .ref (a_dr 5)) (C := RX0) (T := TX0) (N := 7) hx hb hts iwX0_runParty_X0 hown hK hP 0 rfl rfl 4 (by decide) (hts _ lkX0_runParty_f24) (fun _ h9 => h9) rfl dX0_runParty_131 ?_
        refine lv_iload hx hb dX0_runParty_134 (lv_at hl 5 rfl) ?_
        refine lv_dup2_11 hx hb dX0_runParty_136 rfl rfl ?_
        obtain ⟨b17, hf⟩ := gd_some hf
        refine va_iald hx hb hK hP 5 0 rfl rfl (ixb_in b17) dX0_runParty_137 ?_
        refine lv_iconst (v := 1) hx hb dX0_runParty_138 (by decide) ?_
        refine lv_iload_n hx hb dX0_runParty_139 rfl (lv_at hl 3 rfl) ?_
        refine lv_ishl hx hb dX0_runParty_140 ?_
        refine lv_ior hx hb dX0_runParty_141 ?_
        obtain ⟨s18, hs18, hf⟩ := nm_ex hf
        refine va_iast hx hb hK hP hD hS 5 0 rfl rfl (ixb_in b17) dX0_runParty_142 (fun H locs hP hD hS => ?_)
        have hP : va_P D vwCl ((wDrive t a_dr s18) ++ (wRoad t a_rd s_rd)) H := by rw [hs18]; exact hP
        have hD : va_D A ((wDrive t a_dr s18) ++ (wRoad t a_rd s_rd)) := by rw [hs18]; exact hD
        refine lv_aload_n hx hb dX0_runParty_143 rfl (lv_at hl 1 rfl) ?_
        refine va_get (D := D) (ci := 0) (v := .ref (a_dr 4)) (C := RX0) (T := TX0) (N := 7) hx hb hts iwX0_runParty_X0 hown hK hP 0 rfl rfl 3 (by decide) (hts _ lkX0_runParty_f21) (fun _ h9 => h9) rfl dX0_runParty_144 ?_
        refine lv_iload_n hx hb dX0_runParty_147 rfl (lv_at hl 3 rfl) ?_
        refine lv_dup2_11 hx hb dX0_runParty_148 rfl rfl ?_
        refine va_iald hx hb hK hP 4 0 rfl rfl (ixb_in b15) dX0_runParty_149 ?_
        refine lv_iload hx hb dX0_runParty_150 (lv_at hl 6 rfl) ?_
        refine lv_isub hx hb dX0_runParty_152 ?_
        obtain ⟨s19, hs19, hf⟩ := nm_ex hf
        refine va_iast hx hb hK hP hD hS 4 0 rfl rfl (ixb_in b15) dX0_runParty_153 (fun H locs hP hD hS => ?_)
        have hP : va_P D vwCl ((wDrive t a_dr s19) ++ (wRoad t a_rd s_rd)) H := by rw [hs19]; exact hP
        have hD : va_D A ((wDrive t a_dr s19) ++ (wRoad t a_rd s_rd)) := by rw [hs19]; exact hD
        refine lv_aload_n hx hb dX0_runParty_154 rfl (lv_at hl 2 rfl) ?_
        refine va_getN (D := D) (ci := 2) (v := .ref (a_rd 1)) (C := RX2) (T := TX2) (N := 12) hx hb hts iwX0_runParty_X2 hown hK hP 6 rfl rfl 0 (by decide) (hC0.2.1.f 7 rfl) (fun _ h9 => h9) rfl dX0_runParty_155 ?_
        refine lv_iload hx hb dX0_runParty_158 (lv_at hl 5 rfl) ?_
        refine va_iald hx hb hK hP 7 0 rfl rfl (ixb_in b17) dX0_runParty_160 ?_
        refine lv_aload_n hx hb dX0_runParty_161 rfl (lv_at hl 2 rfl) ?_
        refine va_getN (D := D) (ci := 2) (v := .ref (a_rd 7)) (C := RX2) (T := TX2) (N := 12) hx hb hts iwX0_runParty_X2 hown hK hP 6 rfl rfl 6 (by decide) (hC0.2.1.f 18 rfl) (fun _ h9 => h9) rfl dX0_runParty_162 ?_
        refine lv_iload_n hx hb dX0_runParty_165 rfl (lv_at hl 3 rfl) ?_
        refine va_iald hx hb hK hP 13 0 rfl rfl (ixb_in b15) dX0_runParty_166 ?_
        refine lv_icmp_ne (tgt := 185) hx hb dX0_runParty_167 (by decide) (fun c20 => ?_) (fun c20 => ?_)
        · rw [if_neg c20] at hf
          exact wX0_runParty_185 C hf HB HR _ _ _ hP hD hS (lv_sub hl [1, 2, 3, 4, 5] rfl)
        · rw [if_pos c20] at hf
          refine lv_aload_n hx hb dX0_runParty_170 rfl (lv_at hl 1 rfl) ?_
          refine va_get (D := D) (ci := 0) (v := .ref (a_dr 3)) (C := RX0) (T := TX0) (N := 7) hx hb hts iwX0_runParty_X0 hown hK hP 0 rfl rfl 2 (by decide) (hts _ lkX0_runParty_f18) (fun _ h9 => h9) rfl dX0_runParty_171 ?_
          refine lv_iload_n hx hb dX0_runParty_174 rfl (lv_at hl 3 rfl) ?_
          refine lv_dup2_11 hx hb dX0_runParty_175 rfl rfl ?_
          refine va_iald hx hb hK hP 3 0 rfl rfl (ixb_in b15) dX0_runParty_176 ?_
          refine lv_aload_n hx hb dX0_runParty_177 rfl (lv_at hl 2 rfl) ?_
          refine lv_iload hx hb dX0_runParty_178 (lv_at hl 5 rfl) ?_
          obtain ⟨v25, ev25, hf⟩ := bd_some hf
          refine gk_V C (As := [.int x4]) (rest := [.int (s19 3 (Int32.toNatClampNeg x2)), .int x2, .ref (a_dr 3)]) (ci := 2) (q := (RX2, TX2, 12)) (q0 := 0) (wr := (wDrive t a_dr s19)) (wf := ((wDrive t a_dr s19) ++ (wRoad t a_rd s_rd))) (cX2_hearingOf_ok (l := l) (D := D) (t := t) (κ := κ) (a_rd := a_rd) ev25) gX0_runParty_X2_hearingOf rfl ⟨rfl, rfl⟩ hdX2_hearingOf ⟨Nat.le_of_ble_eq_true rfl, Nat.le_of_ble_eq_true rfl⟩ rfl rfl hP hD hS [6, 7, 8, 9, 10, 11, 12, 13, 14] [0, 1, 2, 3, 4, 5] [0, 1, 2, 3, 4, 5, 6, 7, 8, 9, 10, 11, 12, 13, 14] rfl rfl rfl rfl (by decide) rfl rfl rfl hl.1 (Nat.le_of_ble_eq_true rfl) dX0_runParty_180 (Nat.zero_le _) (Nat.zero_le _) (fun H locs hP hD hS => ?_)
          refine W.eq (g2 := F0 m 183 ls [.int v25, .int (s19 3 (Int32.toNatClampNeg x2)), .int x2, .ref (a_dr 3)]) rfl ?_
          refine lv_iadd hx hb dX0_runParty_183 ?_
          obtain ⟨s26, hs26, hf⟩ := nm_ex hf
          refine va_iast hx hb hK hP hD hS 3 0 rfl rfl (ixb_in b15) dX0_runParty_184 (fun H locs hP hD hS => ?_)
          have hP : va_P D vwCl ((wDrive t a_dr s26) ++ (wRoad t a_rd s_rd)) H := by rw [hs26]; exact hP
          have hD : va_D A ((wDrive t a_dr s26) ++ (wRoad t a_rd s_rd)) := by rw [hs26]; exact hD
          exact wX0_runParty_185 C hf HB HR _ _ _ hP hD hS (lv_sub hl [1, 2, 3, 4, 5] rfl)
      · rw [if_neg c16] at hf
        exact wX0_runParty_121 C hf HR _ _ _ hP hD hS (lv_sub hl [1, 3, 5] rfl)
set_option maxHeartbeats 4000000 in
set_option maxRecDepth 100000 in
theorem wX0_runParty_56 {p : Program} {l : Launch} {e : Env} {s : State} {m : MethodId} {args : Array Value} {below : List Frame} {meth : Method} {c : Code} {D : va_G} {t : Nat → ClassId} {κ : Nat → Nat} {A : Nat → Prop} {a_dr : Nat → Nat} {a_rd : Nat → Nat} {s_dr : S2} {s_rd : S2} {x2 : Int32} {x3 : Int32} {x4 : Int32} {x5 : Int32} {k0 : Int32} {rv : Option Value} {w1 : va_W} {v : (Int32 × S2) ⊕ ((Int32 × S2) ⊕ (S2))} (C : Cxt p s m args meth c cX0_runParty 8 RX0 wsX0_runParty none D t κ A) (hf : fX0_runParty_56 s_dr s_rd x2 x3 x4 x5 k0 = some v) (HB : ∀ (z : Int32 × S2), v = .inl z → ∀ (H : Heap) (locs : List Loc) (ls : Array Slot), va_P D vwCl ((wDrive t a_dr z.2) ++ (wRoad t a_rd s_rd)) H → va_D A ((wDrive t a_dr z.2) ++ (wRoad t a_rd s_rd)) → va_S A s.heap H locs → lv_has ls 8 [(0, .ref (a_dr 0)), (1, .ref (a_rd 0)), (2, .int x2), (3, .int x3), (4, .int z.1)] → W p l e (rmL 2) s m args below meth c H locs 0 0 (MQ below (gQ D rv w1 A) args s 0 0 A) (F0 m 16 ls [])) (HR : ∀ (r : S2), v = .inr (.inr r) → rv = none ∧ w1 = ((wDrive t a_dr r) ++ (wRoad t a_rd s_rd))) : ∀ (H : Heap) (locs : List Loc) (ls : Array Slot), va_P D vwCl ((wDrive t a_dr s_dr) ++ (wRoad t a_rd s_rd)) H → va_D A ((wDrive t a_dr s_dr) ++ (wRoad t a_rd s_rd)) → va_S A s.heap H locs → lv_has ls 8 [(0, .ref (a_dr 0)), (1, .ref (a_rd 0)), (2, .int x2), (3, .int x3), (4, .int x4), (5, .int x5)] → W p l e (rmL 2) s m args below meth c H locs 0 0 (MQ below (gQ D rv w1 A) args s 0 0 A) (F0 m 56 ls [.int k0]) := by
  obtain ⟨hx, hb, hr, hml, hown, hts, hC0, hlk, hA⟩ := id C
  have hK := hC0.1
  intro H locs ls hP hD hS hl
  unfold fX0_runParty_56 at hf
  refine lv_istore (lv' := [(6, .int k0), (0, .ref (a_dr 0)), (1, .ref (a_rd 0)), (2, .int x2), (3, .int x3), (4, .int x4), (5, .int x5)]) hx hb dX0_runParty_56 hl (by decide) rfl (fun ls hl => ?_)
  refine lv_aload_n hx hb dX0_runParty_58 rfl (lv_at hl 2 rfl) ?_
  refine va_getN (D := D) (ci := 2) (v := .ref (a_rd 4)) (C := RX2) (T := TX2) (N := 12) hx hb hts iwX0_runParty_X2 hown hK hP 6 rfl rfl 3 (by decide) (hC0.2.1.f 13 rfl) (fun _ h9 => h9) rfl dX0_runParty_59 ?_
  refine lv_iload_n hx hb dX0_runParty_62 rfl (lv_at hl 3 rfl) ?_
  obtain ⟨b9, hf⟩ := gd_some hf
  refine va_iald hx hb hK hP 10 0 rfl rfl (ixb_in b9) dX0_runParty_63 ?_
  refine lv_iconst (v := 3) hx hb dX0_runParty_64 (by decide) ?_
  refine lv_icmp_ne (tgt := 97) hx hb dX0_runParty_65 (by decide) (fun c10 => ?_) (fun c10 => ?_)
  · rw [if_neg c10] at hf
    refine lv_iconst (v := 0) hx hb dX0_runParty_97 (by decide) ?_
    exact wX0_runParty_98 C hf HB HR _ _ _ hP hD hS (lv_sub hl [1, 2, 3, 4, 5, 6, 0] rfl)
  · rw [if_pos c10] at hf
    refine lv_iload hx hb dX0_runParty_68 (lv_at hl 5 rfl) ?_
    refine lv_iload_n hx hb dX0_runParty_70 rfl (lv_at hl 4 rfl) ?_
    refine lv_icmp_le (tgt := 97) hx hb dX0_runParty_71 (by decide) (fun c27 => ?_) (fun c27 => ?_)
    · rw [if_pos c27] at hf
      refine lv_iconst (v := 0) hx hb dX0_runParty_97 (by decide) ?_
      exact wX0_runParty_98 C hf HB HR _ _ _ hP hD hS (lv_sub hl [1, 2, 3, 4, 5, 6, 0] rfl)
    · rw [if_neg c27] at hf
      refine lv_aload_n hx hb dX0_runParty_74 rfl (lv_at hl 2 rfl) ?_
      refine va_getN (D := D) (ci := 2) (v := .ref (a_rd 1)) (C := RX2) (T := TX2) (N := 12) hx hb hts iwX0_runParty_X2 hown hK hP 6 rfl rfl 0 (by decide) (hC0.2.1.f 7 rfl) (fun _ h9 => h9) rfl dX0_runParty_75 ?_
      refine lv_iload hx hb dX0_runParty_78 (lv_at hl 5 rfl) ?_
      obtain ⟨b28, hf⟩ := gd_some hf
      refine va_iald hx hb hK hP 7 0 rfl rfl (ixb_in b28) dX0_runParty_80 ?_
      refine lv_aload_n hx hb dX0_runParty_81 rfl (lv_at hl 2 rfl) ?_
      refine va_getN (D := D) (ci := 2) (v := .ref (a_rd 1)) (C := RX2) (T := TX2) (N := 12) hx hb hts iwX0_runParty_X2 hown hK hP 6 rfl rfl 0 (by decide) (hC0.2.1.f 7 rfl) (fun _ h9 => h9) rfl dX0_runParty_82 ?_
      refine lv_iload hx hb dX0_runParty_85 (lv_at hl 5 rfl) ?_
      refine lv_iconst (v := 1) hx hb dX0_runParty_87 (by decide) ?_
      refine lv_isub hx hb dX0_runParty_88 ?_
      obtain ⟨b29, hf⟩ := gd_some hf
      refine va_iald hx hb hK hP 7 0 rfl rfl (ixb_in b29) dX0_runParty_89 ?_
      refine lv_icmp_eq (tgt := 97) hx hb dX0_runParty_90 (by decide) (fun c30 => ?_) (fun c30 => ?_)
      · rw [if_pos c30] at hf
        refine lv_iconst (v := 0) hx hb dX0_runParty_97 (by decide) ?_
        exact wX0_runParty_98 C hf HB HR _ _ _ hP hD hS (lv_sub hl [1, 2, 3, 4, 5, 6, 0] rfl)
      · rw [if_neg c30] at hf
        refine lv_iconst (v := 1) hx hb dX0_runParty_93 (by decide) ?_
        refine lv_goto (tgt := 98) hx hb dX0_runParty_94 (by decide) ?_
        exact wX0_runParty_98 C hf HB HR _ _ _ hP hD hS (lv_sub hl [1, 2, 3, 4, 5, 6, 0] rfl)
set_option maxHeartbeats 4000000 in
set_option maxRecDepth 100000 in
theorem wX0_runParty_l16 {p : Program} {l : Launch} {e : Env} {s : State} {m : MethodId} {args : Array Value} {below : List Frame} {meth : Method} {c : Code} {D : va_G} {t : Nat → ClassId} {κ : Nat → Nat} {A : Nat → Prop} {a_dr : Nat → Nat} {a_rd : Nat → Nat} {s_rd : S2} {x2 : Int32} {x3 : Int32} {rv : Option Value} {w1 : va_W} (C : Cxt p s m args meth c cX0_runParty 8 RX0 wsX0_runParty none D t κ A) : ∀ (n : Nat) (x4 : Int32) (s_dr : S2) (x : (Int32 × S2) ⊕ (S2)), wh (fun (c : Int32 × S2) => fX0_runParty_b16 c.2 s_rd x2 x3 c.1) n (x4, s_dr) = some x → (∀ (z : Int32 × S2), x = .inl z → ∀ (H : Heap) (locs : List Loc) (ls : Array Slot), va_P D vwCl ((wDrive t a_dr z.2) ++ (wRoad t a_rd s_rd)) H → va_D A ((wDrive t a_dr z.2) ++ (wRoad t a_rd s_rd)) → va_S A s.heap H locs → lv_has ls 8 [] → W p l e (rmL 2) s m args below meth c H locs 0 0 (MQ below (gQ D rv w1 A) args s 0 0 A) (F0 m 215 ls [])) → (∀ (r : S2), x = .inr r → rv = none ∧ w1 = ((wDrive t a_dr r) ++ (wRoad t a_rd s_rd))) → ∀ (H : Heap) (locs : List Loc) (ls : Array Slot), va_P D vwCl ((wDrive t a_dr s_dr) ++ (wRoad t a_rd s_rd)) H → va_D A ((wDrive t a_dr s_dr) ++ (wRoad t a_rd s_rd)) → va_S A s.heap H locs → lv_has ls 8 [(0, .ref (a_dr 0)), (1, .ref (a_rd 0)), (2, .int x2), (3, .int x3), (4, .int x4)] → W p l e (rmL 2) s m args below meth c H locs 0 0 (MQ below (gQ D rv w1 A) args s 0 0 A) (F0 m 16 ls []) := by
  obtain ⟨hx, hb, hr, hml, hown, hts, hC0, hlk, hA⟩ := id C
  have hK := hC0.1
  intro n
  induction n with
  | zero =>
    intro x4 s_dr x h
    exact (wh_0 h).elim
  | succ n ih =>
    intro x4 s_dr x h HX HR H locs ls hP hD hS hl
    obtain ⟨v, hf, hB, hX⟩ := wh_step h
    have hf : fX0_runParty_b16 s_dr s_rd x2 x3 x4 = some v := hf
    have HB : ∀ (z : Int32 × S2), v = .inl z → ∀ (H : Heap) (locs : List Loc) (ls : Array Slot), va_P D vwCl ((wDrive t a_dr z.2) ++ (wRoad t a_rd s_rd)) H → va_D A ((wDrive t a_dr z.2) ++ (wRoad t a_rd s_rd)) → va_S A s.heap H locs → lv_has ls 8 [(0, .ref (a_dr 0)), (1, .ref (a_rd 0)), (2, .int x2), (3, .int x3), (4, .int z.1)] → W p l e (rmL 2) s m args below meth c H locs 0 0 (MQ below (gQ D rv w1 A) args s 0 0 A) (F0 m 16 ls []) := fun z hz H locs ls hP hD hS hl => ih z.1 z.2 x (hB z hz) HX HR H locs ls hP hD hS hl
    have HX : ∀ (z : Int32 × S2), v = .inr (.inl z) → ∀ (H : Heap) (locs : List Loc) (ls : Array Slot), va_P D vwCl ((wDrive t a_dr z.2) ++ (wRoad t a_rd s_rd)) H → va_D A ((wDrive t a_dr z.2) ++ (wRoad t a_rd s_rd)) → va_S A s.heap H locs → lv_has ls 8 [] → W p l e (rmL 2) s m args below meth c H locs 0 0 (MQ below (gQ D rv w1 A) args s 0 0 A) (F0 m 215 ls []) := fun z hz => HX z (hX _ hz).symm
    have HR : ∀ (r : S2), v = .inr (.inr r) → rv = none ∧ w1 = ((wDrive t a_dr r) ++ (wRoad t a_rd s_rd)) := fun r hz => HR r (hX _ hz).symm
    unfold fX0_runParty_b16 at hf
    refine lv_iload hx hb dX0_runParty_16 (lv_at hl 4 rfl) ?_
    refine lv_aload_n hx hb dX0_runParty_18 rfl (lv_at hl 0 rfl) ?_
    refine va_get (D := D) (ci := 0) (v := .int (s_dr 0 1)) (C := RX0) (T := TX0) (N := 7) hx hb hts iwX0_runParty_X0 hown hK hP 0 rfl rfl 6 (by decide) (hts _ lkX0_runParty_f46) (fun _ h9 => h9) rfl dX0_runParty_19 ?_
    refine lv_icmp_ge (tgt := 215) hx hb dX0_runParty_22 (by decide) (fun c4 => ?_) (fun c4 => ?_)
    · rw [if_pos c4] at hf
      obtain rfl := so_eq hf
      exact HX _ rfl _ _ _ hP hD hS (lv_sub hl [] rfl)
    · rw [if_neg c4] at hf
      refine lv_aload_n hx hb dX0_runParty_25 rfl (lv_at hl 1 rfl) ?_
      refine lv_iload_n hx hb dX0_runParty_26 rfl (lv_at hl 2 rfl) ?_
      refine lv_iload hx hb dX0_runParty_27 (lv_at hl 4 rfl) ?_
      obtain ⟨v5, ev5, hf⟩ := bd_some hf
      refine gk_V C (As := [.int x2, .int x4]) (rest := []) (ci := 2) (q := (RX2, TX2, 12)) (q0 := 0) (wr := (wDrive t a_dr s_dr)) (wf := ((wDrive t a_dr s_dr) ++ (wRoad t a_rd s_rd))) (cX2_strainOf_ok (l := l) (D := D) (t := t) (κ := κ) (a_rd := a_rd) ev5) gX0_runParty_X2_strainOf rfl ⟨rfl, rfl⟩ hdX2_strainOf ⟨Nat.le_of_ble_eq_true rfl, Nat.le_of_ble_eq_true rfl⟩ rfl rfl hP hD hS [6, 7, 8, 9, 10, 11, 12, 13, 14] [0, 1, 2, 3, 4, 5] [0, 1, 2, 3, 4, 5, 6, 7, 8, 9, 10, 11, 12, 13, 14] rfl rfl rfl rfl (by decide) rfl rfl rfl hl.1 (Nat.le_of_ble_eq_true rfl) dX0_runParty_29 (Nat.zero_le _) (Nat.zero_le _) (fun H locs hP hD hS => ?_)
      refine W.eq (g2 := F0 m 32 ls [.int v5]) rfl ?_
      refine lv_istore (lv' := [(5, .int v5), (0, .ref (a_dr 0)), (1, .ref (a_rd 0)), (2, .int x2), (3, .int x3), (4, .int x4)]) hx hb dX0_runParty_32 hl (by decide) rfl (fun ls hl => ?_)
      refine lv_aload_n hx hb dX0_runParty_34 rfl (lv_at hl 1 rfl) ?_
      refine va_get (D := D) (ci := 0) (v := .ref (a_dr 5)) (C := RX0) (T := TX0) (N := 7) hx hb hts iwX0_runParty_X0 hown hK hP 0 rfl rfl 4 (by decide) (hts _ lkX0_runParty_f24) (fun _ h9 => h9) rfl dX0_runParty_35 ?_
      refine lv_iload hx hb dX0_runParty_38 (lv_at hl 5 rfl) ?_
      obtain ⟨b6, hf⟩ := gd_some hf
      refine va_iald hx hb hK hP 5 0 rfl rfl (ixb_in b6) dX0_runParty_40 ?_
      obtain ⟨v7, ev7, hf⟩ := bd_some hf
      refine gk_S C (As := [.int (s_dr 5 (Int32.toNatClampNeg x4))]) (rest := []) (cJ6_bitCount_0f7a4_ok (l := l) (D := D) (t := t) (κ := κ) ev7) gX0_runParty_J6_bitCount_0f7a4 rfl ⟨rfl, rfl⟩ hdJ6_bitCount_0f7a4 ⟨Nat.le_of_ble_eq_true rfl, Nat.le_of_ble_eq_true rfl⟩ hP hD hS rfl hl.1 (Nat.le_of_ble_eq_true rfl) dX0_runParty_41 (Nat.zero_le _) (Nat.zero_le _) (fun H locs hP hD hS => ?_)
      refine W.eq (g2 := F0 m 44 ls [.int v7]) rfl ?_
      refine lv_aload_n hx hb dX0_runParty_44 rfl (lv_at hl 2 rfl) ?_
      refine va_getN (D := D) (ci := 2) (v := .int (s_rd 0 2)) (C := RX2) (T := TX2) (N := 12) hx hb hts iwX0_runParty_X2 hown hK hP 6 rfl rfl 10 (by decide) (hC0.2.1.f 29 rfl) (fun _ h9 => h9) rfl dX0_runParty_45 ?_
      refine lv_icmp_lt (tgt := 55) hx hb dX0_runParty_48 (by decide) (fun c8 => ?_) (fun c8 => ?_)
      · rw [if_pos c8] at hf
        refine lv_iconst (v := 0) hx hb dX0_runParty_55 (by decide) ?_
        exact wX0_runParty_56 C hf HB HR _ _ _ hP hD hS (lv_sub hl [1, 2, 3, 4, 5, 0] rfl)
      · rw [if_neg c8] at hf
        refine lv_iconst (v := 1) hx hb dX0_runParty_51 (by decide) ?_
        refine lv_goto (tgt := 56) hx hb dX0_runParty_52 (by decide) ?_
        exact wX0_runParty_56 C hf HB HR _ _ _ hP hD hS (lv_sub hl [1, 2, 3, 4, 5, 0] rfl)
set_option maxHeartbeats 4000000 in
set_option maxRecDepth 100000 in
theorem cX0_runParty_ok {l : Launch} {D : va_G} {t : Nat → ClassId} {κ : Nat → Nat} {a_dr : Nat → Nat} {a_rd : Nat → Nat} {s_dr : S2} {s_rd : S2} {p2 : Int32} {out : S2} (hf : fX0_runParty s_dr s_rd p2 = some out) : Ct l D t κ yX0_runParty wsX0_runParty (rmL 2) [.ref (a_dr 0), .ref (a_rd 0), .int p2] ((wDrive t a_dr s_dr) ++ (wRoad t a_rd s_rd)) none ((wDrive t a_dr out) ++ (wRoad t a_rd s_rd)) := by
  refine Ct.ofW (own := RX0) (cc := cX0_runParty) (maxL := 8) (ret := none) (by decide) rfl rfl (Nat.le_of_ble_eq_true rfl) ?_
  intro p e s m below meth c A C hP hD ls hl
  have hS : va_S A s.heap s.heap [] := va_S.rf
  obtain ⟨hx, hb, hr, hml, hown, hts, hC0, hlk, hA⟩ := id C
  have hK := hC0.1
  have hl : lv_has ls 8 [(0, .ref (a_dr 0)), (1, .ref (a_rd 0)), (2, .int p2)] := hl
  unfold fX0_runParty at hf
  refine lv_aload_n hx hb dX0_runParty_0 rfl (lv_at hl 0 rfl) ?_
  refine lv_aload_n hx hb dX0_runParty_1 rfl (lv_at hl 1 rfl) ?_
  refine lv_iload_n hx hb dX0_runParty_2 rfl (lv_at hl 2 rfl) ?_
  obtain ⟨v1, ev1, hf⟩ := bd_some hf
  refine gk_V0 C (As := [.ref (a_rd 0), .int p2]) (rest := []) (ci := 0) (q := (RX0, TX0, 7)) (q0 := 0) (cX0_setOut_ok (l := l) (D := D) (t := t) (κ := κ) (a_dr := a_dr) (a_rd := a_rd) ev1) gX0_runParty_X0_setOut rfl ⟨rfl, rfl⟩ hdX0_setOut ⟨Nat.le_of_ble_eq_true rfl, Nat.le_of_ble_eq_true rfl⟩ rfl rfl hP hD hS rfl hl.1 (Nat.le_of_ble_eq_true rfl) dX0_runParty_3 (Nat.zero_le _) (Nat.zero_le _) (fun H locs hP hD hS => ?_)
  refine W.eq (g2 := F0 m 6 ls []) rfl ?_
  refine lv_aload_n hx hb dX0_runParty_6 rfl (lv_at hl 1 rfl) ?_
  refine va_getN (D := D) (ci := 2) (v := .ref (a_rd 8)) (C := RX2) (T := TX2) (N := 12) hx hb hts iwX0_runParty_X2 hown hK hP 6 rfl rfl 7 (by decide) (hC0.2.1.f 20 rfl) (fun _ h9 => h9) rfl dX0_runParty_7 ?_
  refine lv_iload_n hx hb dX0_runParty_10 rfl (lv_at hl 2 rfl) ?_
  obtain ⟨b2, hf⟩ := gd_some hf
  refine va_iald hx hb hK hP 14 0 rfl rfl (ixb_in b2) dX0_runParty_11 ?_
  obtain ⟨y3, hy3, hf⟩ := nm_ex hf
  refine W.eq (g2 := F0 m 12 ls [.int y3]) (by rw [hy3]) ?_
  refine lv_istore_n (lv' := [(3, .int y3), (0, .ref (a_dr 0)), (1, .ref (a_rd 0)), (2, .int p2)]) hx hb dX0_runParty_12 rfl hl (by decide) rfl (fun ls hl => ?_)
  refine lv_iload_n hx hb dX0_runParty_13 rfl (lv_at hl 0 rfl) ?_
  refine lv_istore (lv' := [(4, .int y3), (3, .int y3), (0, .ref (a_dr 0)), (1, .ref (a_rd 0)), (2, .int p2)]) hx hb dX0_runParty_14 hl (by decide) rfl (fun ls hl => ?_)
  obtain ⟨x31, ex31, hf⟩ := bd_some hf
  refine wX0_runParty_l16 C 5000 y3 v1 x31 ex31 (fun q32 h9 H locs ls hP hD hS hl => ?_) (fun r33 h9 => ?_) _ _ _ hP hD hS (lv_sub hl [2, 3, 4, 1, 0] rfl)
  · rw [h9, Sum.elim_inl] at hf
    obtain rfl := so_eq hf
    exact g_vret C hP hD hS dX0_runParty_215
  · rw [h9, Sum.elim_inr] at hf
    obtain rfl := so_eq hf
    exact ⟨rfl, rfl⟩
/-! CoachCourt$Drive.begin -/
def fX0_begin_b18 (s_dr : S2) (s_rd : S2) (x2 : Int32) : Option ((Int32 × S2) ⊕ (Int32 × S2)) :=
  if (8 : Int32) ≤ x2 then
    (some (.inr (x2, s_dr)))
  else
    (gd (ixb x2 8) <|
    nm (sE s_dr 5 (Int32.toNatClampNeg x2) (0 : Int32)) fun s6 =>
    nm (x2 + (1 : Int32)) fun y7 =>
    some (.inl (y7, s6)))
def fX0_begin (s_dr : S2) (s_rd : S2) : Option (S2) :=
  nm (sE s_dr 0 0 (s_rd 0 1)) fun s1 =>
  (fX2_drivenMiles s_rd).bind fun v2 =>
  nm (sE s1 0 1 v2) fun s3 =>
  (wh (fun (c : Int32 × S2) => fX0_begin_b18 c.2 s_rd c.1) 5000 ((0 : Int32), s3)).bind fun x8 =>
  some x8.2
theorem hdX0_begin : yX0_begin.cls = RX0 ∧ yX0_begin.cls ≠ "java/lang/invoke/MethodHandle" ∧ yX0_begin.cls ≠ "java/lang/invoke/VarHandle" ∧ (parseMethodDescriptor yX0_begin.desc).map (fun d => d.parameters.length) = some 1 := by decide +kernel
theorem iwX0_begin_X2 : ∀ w ∈ wsX20, w ∈ wsX0_begin := by decide +kernel
theorem iwX0_begin_X0 : ∀ w ∈ wsX00, w ∈ wsX0_begin := by decide +kernel
theorem lkX0_begin_f31 : Cond.fieldLink RX0 31 "CoachCourt$Drive" "parties" "I" ∈ wsX0_begin := by decide +kernel
theorem lkX0_begin_f46 : Cond.fieldLink RX0 46 "CoachCourt$Drive" "driven" "I" ∈ wsX0_begin := by decide +kernel
theorem lkX0_begin_f24 : Cond.fieldLink RX0 24 "CoachCourt$Drive" "runners" "[I" ∈ wsX0_begin := by decide +kernel
set_option maxHeartbeats 4000000 in
set_option maxRecDepth 100000 in
theorem wX0_begin_l18 {p : Program} {l : Launch} {e : Env} {s : State} {m : MethodId} {args : Array Value} {below : List Frame} {meth : Method} {c : Code} {D : va_G} {t : Nat → ClassId} {κ : Nat → Nat} {A : Nat → Prop} {a_dr : Nat → Nat} {a_rd : Nat → Nat} {s_rd : S2} {rv : Option Value} {w1 : va_W} (C : Cxt p s m args meth c cX0_begin 3 RX0 wsX0_begin none D t κ A) : ∀ (n : Nat) (x2 : Int32) (s_dr : S2) (x : Int32 × S2), wh (fun (c : Int32 × S2) => fX0_begin_b18 c.2 s_rd c.1) n (x2, s_dr) = some x → (∀ (z : Int32 × S2), x = z → ∀ (H : Heap) (locs : List Loc) (ls : Array Slot), va_P D vwCl ((wDrive t a_dr z.2) ++ (wRoad t a_rd s_rd)) H → va_D A ((wDrive t a_dr z.2) ++ (wRoad t a_rd s_rd)) → va_S A s.heap H locs → lv_has ls 3 [] → W p l e (rmL 2) s m args below meth c H locs 0 0 (MQ below (gQ D rv w1 A) args s 0 0 A) (F0 m 37 ls [])) → ∀ (H : Heap) (locs : List Loc) (ls : Array Slot), va_P D vwCl ((wDrive t a_dr s_dr) ++ (wRoad t a_rd s_rd)) H → va_D A ((wDrive t a_dr s_dr) ++ (wRoad t a_rd s_rd)) → va_S A s.heap H locs → lv_has ls 3 [(0, .ref (a_dr 0)), (2, .int x2)] → W p l e (rmL 2) s m args below meth c H locs 0 0 (MQ below (gQ D rv w1 A) args s 0 0 A) (F0 m 18 ls []) := by
  obtain ⟨hx, hb, hr, hml, hown, hts, hC0, hlk, hA⟩ := id C
  have hK := hC0.1
  intro n
  induction n with
  | zero =>
    intro x2 s_dr x h
    exact (wh_0 h).elim
  | succ n ih =>
    intro x2 s_dr x h HX H locs ls hP hD hS hl
    obtain ⟨v, hf, hB, hX⟩ := wh_step h
    have hf : fX0_begin_b18 s_dr s_rd x2 = some v := hf
    have HB : ∀ (z : Int32 × S2), v = .inl z → ∀ (H : Heap) (locs : List Loc) (ls : Array Slot), va_P D vwCl ((wDrive t a_dr z.2) ++ (wRoad t a_rd s_rd)) H → va_D A ((wDrive t a_dr z.2) ++ (wRoad t a_rd s_rd)) → va_S A s.heap H locs → lv_has ls 3 [(0, .ref (a_dr 0)), (2, .int z.1)] → W p l e (rmL 2) s m args below meth c H locs 0 0 (MQ below (gQ D rv w1 A) args s 0 0 A) (F0 m 18 ls []) := fun z hz H locs ls hP hD hS hl => ih z.1 z.2 x (hB z hz) HX H locs ls hP hD hS hl
    have HX : ∀ (z : Int32 × S2), v = .inr z → ∀ (H : Heap) (locs : List Loc) (ls : Array Slot), va_P D vwCl ((wDrive t a_dr z.2) ++ (wRoad t a_rd s_rd)) H → va_D A ((wDrive t a_dr z.2) ++ (wRoad t a_rd s_rd)) → va_S A s.heap H locs → lv_has ls 3 [] → W p l e (rmL 2) s m args below meth c H locs 0 0 (MQ below (gQ D rv w1 A) args s 0 0 A) (F0 m 37 ls []) := fun z hz => HX z (hX _ hz).symm
    unfold fX0_begin_b18 at hf
    refine lv_iload_n hx hb dX0_begin_18 rfl (lv_at hl 1 rfl) ?_
    refine lv_bipush (v := 8) hx hb dX0_begin_19 (by decide) ?_
    refine lv_icmp_ge (tgt := 37) hx hb dX0_begin_21 (by decide) (fun c4 => ?_) (fun c4 => ?_)
    · rw [if_pos c4] at hf
      obtain rfl := so_eq hf
      exact HX _ rfl _ _ _ hP hD hS (lv_sub hl [] rfl)
    · rw [if_neg c4] at hf
      refine lv_aload_n hx hb dX0_begin_24 rfl (lv_at hl 0 rfl) ?_
      refine va_get (D := D) (ci := 0) (v := .ref (a_dr 5)) (C := RX0) (T := TX0) (N := 7) hx hb hts iwX0_begin_X0 hown hK hP 0 rfl rfl 4 (by decide) (hts _ lkX0_begin_f24) (fun _ h9 => h9) rfl dX0_begin_25 ?_
      refine lv_iload_n hx hb dX0_begin_28 rfl (lv_at hl 1 rfl) ?_
      refine lv_iconst (v := 0) hx hb dX0_begin_29 (by decide) ?_
      obtain ⟨b5, hf⟩ := gd_some hf
      obtain ⟨s6, hs6, hf⟩ := nm_ex hf
      refine va_iast hx hb hK hP hD hS 5 0 rfl rfl (ixb_in b5) dX0_begin_30 (fun H locs hP hD hS => ?_)
      have hP : va_P D vwCl ((wDrive t a_dr s6) ++ (wRoad t a_rd s_rd)) H := by rw [hs6]; exact hP
      have hD : va_D A ((wDrive t a_dr s6) ++ (wRoad t a_rd s_rd)) := by rw [hs6]; exact hD
      obtain ⟨y7, hy7, hf⟩ := nm_ex hf
      refine lv_iinc (v := y7) (lv' := [(2, .int y7), (0, .ref (a_dr 0))]) hx hb dX0_begin_31 hl (k := 1) rfl (by rw [hy7]; rfl) (by decide) rfl (fun ls hl => ?_)
      refine lv_goto (tgt := 18) hx hb dX0_begin_34 (by decide) ?_
      obtain rfl := so_eq hf
      exact HB _ rfl _ _ _ hP hD hS (lv_sub hl [1, 0] rfl)
set_option maxHeartbeats 4000000 in
set_option maxRecDepth 100000 in
theorem cX0_begin_ok {l : Launch} {D : va_G} {t : Nat → ClassId} {κ : Nat → Nat} {a_dr : Nat → Nat} {a_rd : Nat → Nat} {s_dr : S2} {s_rd : S2} {out : S2} (hf : fX0_begin s_dr s_rd = some out) : Ct l D t κ yX0_begin wsX0_begin (rmL 2) [.ref (a_dr 0), .ref (a_rd 0)] ((wDrive t a_dr s_dr) ++ (wRoad t a_rd s_rd)) none ((wDrive t a_dr out) ++ (wRoad t a_rd s_rd)) := by
  refine Ct.ofW (own := RX0) (cc := cX0_begin) (maxL := 3) (ret := none) (by decide) rfl rfl (Nat.le_of_ble_eq_true rfl) ?_
  intro p e s m below meth c A C hP hD ls hl
  have hS : va_S A s.heap s.heap [] := va_S.rf
  obtain ⟨hx, hb, hr, hml, hown, hts, hC0, hlk, hA⟩ := id C
  have hK := hC0.1
  have hl : lv_has ls 3 [(0, .ref (a_dr 0)), (1, .ref (a_rd 0))] := hl
  unfold fX0_begin at hf
  refine lv_aload_n hx hb dX0_begin_0 rfl (lv_at hl 0 rfl) ?_
  refine lv_aload_n hx hb dX0_begin_1 rfl (lv_at hl 1 rfl) ?_
  refine va_getN (D := D) (ci := 2) (v := .int (s_rd 0 1)) (C := RX2) (T := TX2) (N := 12) hx hb hts iwX0_begin_X2 hown hK hP 6 rfl rfl 9 (by decide) (hC0.2.1.f 26 rfl) (fun _ h9 => h9) rfl dX0_begin_2 ?_
  obtain ⟨s1, hs1, hf⟩ := nm_ex hf
  refine va_put (D := D) (ci := 0) (v := .int (s_rd 0 1)) (ty := .int) (C := RX0) (T := TX0) (N := 7) hx hb hts iwX0_begin_X0 tyX0 tyX0_ok nmX0 hown hK hP hD hS 0 rfl rfl 5 (by decide) (hts _ lkX0_begin_f31) (fun _ h9 => h9) rfl (by decide +kernel) rfl rfl (Nat.le_of_ble_eq_true rfl) dX0_begin_5 (fun H locs hP hD hS => ?_)
  have hP : va_P D vwCl ((wDrive t a_dr s1) ++ (wRoad t a_rd s_rd)) H := by rw [hs1]; exact hP
  have hD : va_D A ((wDrive t a_dr s1) ++ (wRoad t a_rd s_rd)) := by rw [hs1]; exact hD
  refine lv_aload_n hx hb dX0_begin_8 rfl (lv_at hl 0 rfl) ?_
  refine lv_aload_n hx hb dX0_begin_9 rfl (lv_at hl 1 rfl) ?_
  obtain ⟨v2, ev2, hf⟩ := bd_some hf
  refine gk_V C (As := []) (rest := [.ref (a_dr 0)]) (ci := 2) (q := (RX2, TX2, 12)) (q0 := 0) (wr := (wDrive t a_dr s1)) (wf := ((wDrive t a_dr s1) ++ (wRoad t a_rd s_rd))) (cX2_drivenMiles_ok (l := l) (D := D) (t := t) (κ := κ) (a_rd := a_rd) ev2) gX0_begin_X2_drivenMiles rfl ⟨rfl, rfl⟩ hdX2_drivenMiles ⟨Nat.le_of_ble_eq_true rfl, Nat.le_of_ble_eq_true rfl⟩ rfl rfl hP hD hS [6, 7, 8, 9, 10, 11, 12, 13, 14] [0, 1, 2, 3, 4, 5] [0, 1, 2, 3, 4, 5, 6, 7, 8, 9, 10, 11, 12, 13, 14] rfl rfl rfl rfl (by decide) rfl rfl rfl hl.1 (Nat.le_of_ble_eq_true rfl) dX0_begin_10 (Nat.zero_le _) (Nat.zero_le _) (fun H locs hP hD hS => ?_)
  refine W.eq (g2 := F0 m 13 ls [.int v2, .ref (a_dr 0)]) rfl ?_
  obtain ⟨s3, hs3, hf⟩ := nm_ex hf
  refine va_put (D := D) (ci := 0) (v := .int v2) (ty := .int) (C := RX0) (T := TX0) (N := 7) hx hb hts iwX0_begin_X0 tyX0 tyX0_ok nmX0 hown hK hP hD hS 0 rfl rfl 6 (by decide) (hts _ lkX0_begin_f46) (fun _ h9 => h9) rfl (by decide +kernel) rfl rfl (Nat.le_of_ble_eq_true rfl) dX0_begin_13 (fun H locs hP hD hS => ?_)
  have hP : va_P D vwCl ((wDrive t a_dr s3) ++ (wRoad t a_rd s_rd)) H := by rw [hs3]; exact hP
  have hD : va_D A ((wDrive t a_dr s3) ++ (wRoad t a_rd s_rd)) := by rw [hs3]; exact hD
  refine lv_iconst (v := 0) hx hb dX0_begin_16 (by decide) ?_
  refine lv_istore_n (lv' := [(2, .int (0 : Int32)), (0, .ref (a_dr 0)), (1, .ref (a_rd 0))]) hx hb dX0_begin_17 rfl hl (by decide) rfl (fun ls hl => ?_)
  obtain ⟨x8, ex8, hf⟩ := bd_some hf
  refine wX0_begin_l18 C 5000 (0 : Int32) s3 x8 ex8 (fun c9 h9 H locs ls hP hD hS hl => ?_) _ _ _ hP hD hS (lv_sub hl [1, 0] rfl)
  subst h9
  obtain rfl := so_eq hf
  exact g_vret C hP hD hS dX0_begin_37
/-! CoachCourt$Drive.run -/
def fX0_run_b7 (s_dr : S2) (s_rd : S2) (x2 : Int32) : Option ((Int32 × S2) ⊕ (Int32 × S2)) :=
  if (s_dr 0 0) ≤ x2 then
    (some (.inr (x2, s_dr)))
  else
    ((fX0_runParty s_dr s_rd x2).bind fun v3 =>
    nm (x2 + (1 : Int32)) fun y4 =>
    some (.inl (y4, v3)))
def fX0_run (s_dr : S2) (s_rd : S2) : Option (S2) :=
  (fX0_begin s_dr s_rd).bind fun v1 =>
  (wh (fun (c : Int32 × S2) => fX0_run_b7 c.2 s_rd c.1) 5000 ((0 : Int32), v1)).bind fun x5 =>
  some x5.2
theorem hdX0_run : yX0_run.cls = RX0 ∧ yX0_run.cls ≠ "java/lang/invoke/MethodHandle" ∧ yX0_run.cls ≠ "java/lang/invoke/VarHandle" ∧ (parseMethodDescriptor yX0_run.desc).map (fun d => d.parameters.length) = some 1 := by decide +kernel
theorem iwX0_run_X0 : ∀ w ∈ wsX00, w ∈ wsX0_run := by decide +kernel
theorem lkX0_run_f31 : Cond.fieldLink RX0 31 "CoachCourt$Drive" "parties" "I" ∈ wsX0_run := by decide +kernel
set_option maxHeartbeats 4000000 in
set_option maxRecDepth 100000 in
theorem wX0_run_l7 {p : Program} {l : Launch} {e : Env} {s : State} {m : MethodId} {args : Array Value} {below : List Frame} {meth : Method} {c : Code} {D : va_G} {t : Nat → ClassId} {κ : Nat → Nat} {A : Nat → Prop} {a_dr : Nat → Nat} {a_rd : Nat → Nat} {s_rd : S2} {rv : Option Value} {w1 : va_W} (C : Cxt p s m args meth c cX0_run 3 RX0 wsX0_run none D t κ A) : ∀ (n : Nat) (x2 : Int32) (s_dr : S2) (x : Int32 × S2), wh (fun (c : Int32 × S2) => fX0_run_b7 c.2 s_rd c.1) n (x2, s_dr) = some x → (∀ (z : Int32 × S2), x = z → ∀ (H : Heap) (locs : List Loc) (ls : Array Slot), va_P D vwCl ((wDrive t a_dr z.2) ++ (wRoad t a_rd s_rd)) H → va_D A ((wDrive t a_dr z.2) ++ (wRoad t a_rd s_rd)) → va_S A s.heap H locs → lv_has ls 3 [] → W p l e (rmL 3) s m args below meth c H locs 0 0 (MQ below (gQ D rv w1 A) args s 0 0 A) (F0 m 27 ls [])) → ∀ (H : Heap) (locs : List Loc) (ls : Array Slot), va_P D vwCl ((wDrive t a_dr s_dr) ++ (wRoad t a_rd s_rd)) H → va_D A ((wDrive t a_dr s_dr) ++ (wRoad t a_rd s_rd)) → va_S A s.heap H locs → lv_has ls 3 [(0, .ref (a_dr 0)), (1, .ref (a_rd 0)), (2, .int x2)] → W p l e (rmL 3) s m args below meth c H locs 0 0 (MQ below (gQ D rv w1 A) args s 0 0 A) (F0 m 7 ls []) := by
  obtain ⟨hx, hb, hr, hml, hown, hts, hC0, hlk, hA⟩ := id C
  have hK := hC0.1
  intro n
  induction n with
  | zero =>
    intro x2 s_dr x h
    exact (wh_0 h).elim
  | succ n ih =>
    intro x2 s_dr x h HX H locs ls hP hD hS hl
    obtain ⟨v, hf, hB, hX⟩ := wh_step h
    have hf : fX0_run_b7 s_dr s_rd x2 = some v := hf
    have HB : ∀ (z : Int32 × S2), v = .inl z → ∀ (H : Heap) (locs : List Loc) (ls : Array Slot), va_P D vwCl ((wDrive t a_dr z.2) ++ (wRoad t a_rd s_rd)) H → va_D A ((wDrive t a_dr z.2) ++ (wRoad t a_rd s_rd)) → va_S A s.heap H locs → lv_has ls 3 [(0, .ref (a_dr 0)), (1, .ref (a_rd 0)), (2, .int z.1)] → W p l e (rmL 3) s m args below meth c H locs 0 0 (MQ below (gQ D rv w1 A) args s 0 0 A) (F0 m 7 ls []) := fun z hz H locs ls hP hD hS hl => ih z.1 z.2 x (hB z hz) HX H locs ls hP hD hS hl
    have HX : ∀ (z : Int32 × S2), v = .inr z → ∀ (H : Heap) (locs : List Loc) (ls : Array Slot), va_P D vwCl ((wDrive t a_dr z.2) ++ (wRoad t a_rd s_rd)) H → va_D A ((wDrive t a_dr z.2) ++ (wRoad t a_rd s_rd)) → va_S A s.heap H locs → lv_has ls 3 [] → W p l e (rmL 3) s m args below meth c H locs 0 0 (MQ below (gQ D rv w1 A) args s 0 0 A) (F0 m 27 ls []) := fun z hz => HX z (hX _ hz).symm
    unfold fX0_run_b7 at hf
    refine lv_iload_n hx hb dX0_run_7 rfl (lv_at hl 2 rfl) ?_
    refine lv_aload_n hx hb dX0_run_8 rfl (lv_at hl 0 rfl) ?_
    refine va_get (D := D) (ci := 0) (v := .int (s_dr 0 0)) (C := RX0) (T := TX0) (N := 7) hx hb hts iwX0_run_X0 hown hK hP 0 rfl rfl 5 (by decide) (hts _ lkX0_run_f31) (fun _ h9 => h9) rfl dX0_run_9 ?_
    refine lv_icmp_ge (tgt := 27) hx hb dX0_run_12 (by decide) (fun c2 => ?_) (fun c2 => ?_)
    · rw [if_pos c2] at hf
      obtain rfl := so_eq hf
      exact HX _ rfl _ _ _ hP hD hS (lv_sub hl [] rfl)
    · rw [if_neg c2] at hf
      refine lv_aload_n hx hb dX0_run_15 rfl (lv_at hl 0 rfl) ?_
      refine lv_aload_n hx hb dX0_run_16 rfl (lv_at hl 1 rfl) ?_
      refine lv_iload_n hx hb dX0_run_17 rfl (lv_at hl 2 rfl) ?_
      obtain ⟨v3, ev3, hf⟩ := bd_some hf
      refine gk_V0 C (As := [.ref (a_rd 0), .int x2]) (rest := []) (ci := 0) (q := (RX0, TX0, 7)) (q0 := 0) (cX0_runParty_ok (l := l) (D := D) (t := t) (κ := κ) (a_dr := a_dr) (a_rd := a_rd) ev3) gX0_run_X0_runParty rfl ⟨rfl, rfl⟩ hdX0_runParty ⟨Nat.le_of_ble_eq_true rfl, Nat.le_of_ble_eq_true rfl⟩ rfl rfl hP hD hS rfl hl.1 (Nat.le_of_ble_eq_true rfl) dX0_run_18 (Nat.zero_le _) (Nat.zero_le _) (fun H locs hP hD hS => ?_)
      refine W.eq (g2 := F0 m 21 ls []) rfl ?_
      obtain ⟨y4, hy4, hf⟩ := nm_ex hf
      refine lv_iinc (v := y4) (lv' := [(2, .int y4), (0, .ref (a_dr 0)), (1, .ref (a_rd 0))]) hx hb dX0_run_21 hl (k := 2) rfl (by rw [hy4]; rfl) (by decide) rfl (fun ls hl => ?_)
      refine lv_goto (tgt := 7) hx hb dX0_run_24 (by decide) ?_
      obtain rfl := so_eq hf
      exact HB _ rfl _ _ _ hP hD hS (lv_sub hl [1, 2, 0] rfl)
set_option maxHeartbeats 4000000 in
set_option maxRecDepth 100000 in
theorem cX0_run_ok {l : Launch} {D : va_G} {t : Nat → ClassId} {κ : Nat → Nat} {a_dr : Nat → Nat} {a_rd : Nat → Nat} {s_dr : S2} {s_rd : S2} {out : S2} (hf : fX0_run s_dr s_rd = some out) : Ct l D t κ yX0_run wsX0_run (rmL 3) [.ref (a_dr 0), .ref (a_rd 0)] ((wDrive t a_dr s_dr) ++ (wRoad t a_rd s_rd)) none ((wDrive t a_dr out) ++ (wRoad t a_rd s_rd)) := by
  refine Ct.ofW (own := RX0) (cc := cX0_run) (maxL := 3) (ret := none) (by decide) rfl rfl (Nat.le_of_ble_eq_true rfl) ?_
  intro p e s m below meth c A C hP hD ls hl
  have hS : va_S A s.heap s.heap [] := va_S.rf
  obtain ⟨hx, hb, hr, hml, hown, hts, hC0, hlk, hA⟩ := id C
  have hK := hC0.1
  have hl : lv_has ls 3 [(0, .ref (a_dr 0)), (1, .ref (a_rd 0))] := hl
  unfold fX0_run at hf
  refine lv_aload_n hx hb dX0_run_0 rfl (lv_at hl 0 rfl) ?_
  refine lv_aload_n hx hb dX0_run_1 rfl (lv_at hl 1 rfl) ?_
  obtain ⟨v1, ev1, hf⟩ := bd_some hf
  refine gk_V0 C (As := [.ref (a_rd 0)]) (rest := []) (ci := 0) (q := (RX0, TX0, 7)) (q0 := 0) (cX0_begin_ok (l := l) (D := D) (t := t) (κ := κ) (a_dr := a_dr) (a_rd := a_rd) ev1) gX0_run_X0_begin rfl ⟨rfl, rfl⟩ hdX0_begin ⟨Nat.le_of_ble_eq_true rfl, Nat.le_of_ble_eq_true rfl⟩ rfl rfl hP hD hS rfl hl.1 (Nat.le_of_ble_eq_true rfl) dX0_run_2 (Nat.zero_le _) (Nat.zero_le _) (fun H locs hP hD hS => ?_)
  refine W.eq (g2 := F0 m 5 ls []) rfl ?_
  refine lv_iconst (v := 0) hx hb dX0_run_5 (by decide) ?_
  refine lv_istore_n (lv' := [(2, .int (0 : Int32)), (0, .ref (a_dr 0)), (1, .ref (a_rd 0))]) hx hb dX0_run_6 rfl hl (by decide) rfl (fun ls hl => ?_)
  obtain ⟨x5, ex5, hf⟩ := bd_some hf
  refine wX0_run_l7 C 5000 (0 : Int32) v1 x5 ex5 (fun c9 h9 H locs ls hP hD hS hl => ?_) _ _ _ hP hD hS (lv_sub hl [1, 2, 0] rfl)
  subst h9
  obtain rfl := so_eq hf
  exact g_vret C hP hD hS dX0_run_27
