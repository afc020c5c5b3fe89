/-! CoachCourtModel.stoneIn -/
def fX9_stoneIn_b10 (s_mo : S2) (x2 : Int32) (x3 : Int32) (x4 : Int32) : Option ((Int32 × Int32) ⊕ (Int32 × Int32)) :=
  if x4 ≤ x2 then
    (some (.inr (x3, x4)))
  else
    (gd (nzb (s_mo 0 0)) <|
    nm (x3 / (s_mo 0 0)) fun y4 =>
    nm (x4 + (-1 : Int32)) fun y5 =>
    some (.inl (y4, y5)))
def fX9_stoneIn (s_mo : S2) (p1 : Int32) (p2 : Int32) : Option (Int32) :=
  nm ((s_mo 0 1) - (1 : Int32)) fun y1 =>
  (wh (fun (c : Int32 × Int32) => fX9_stoneIn_b10 s_mo p2 c.1 c.2) 5000 (p1, y1)).bind fun x6 =>
  gd (nzb (s_mo 0 0)) <|
  some (x6.1 - x6.1 / (s_mo 0 0) * (s_mo 0 0))
theorem hdX9_stoneIn : yX9_stoneIn.cls = RX9 ∧ yX9_stoneIn.cls ≠ "java/lang/invoke/MethodHandle" ∧ yX9_stoneIn.cls ≠ "java/lang/invoke/VarHandle" ∧ (parseMethodDescriptor yX9_stoneIn.desc).map (fun d => d.parameters.length) = some 2 := by decide +kernel
theorem iwX9_stoneIn_X9 : ∀ w ∈ wsX90, w ∈ wsX9_stoneIn := by decide +kernel
theorem lkX9_stoneIn_f84 : Cond.fieldLink RX9 84 "CoachCourtModel" "parties" "I" ∈ wsX9_stoneIn := by decide +kernel
theorem lkX9_stoneIn_f81 : Cond.fieldLink RX9 81 "CoachCourtModel" "miles" "I" ∈ wsX9_stoneIn := by decide +kernel
set_option maxHeartbeats 4000000 in
set_option maxRecDepth 100000 in
theorem wX9_stoneIn_l10 {p : Program} {l : Launch} {e : Env} {s : State} {m : MethodId} {args : Array Value} {below : List Frame} {meth : Method} {c : Code} {D : va_G} {t : Nat → ClassId} {κ : Nat → Nat} {A : Nat → Prop} {a_mo : Nat → Nat} {s_mo : S2} {lam : S6} {x2 : Int32} {rv : Option Value} {w1 : va_W} (C : Cxt p s m args meth c cX9_stoneIn 5 RX9 wsX9_stoneIn (some .int) D t κ A) : ∀ (n : Nat) (x3 : Int32) (x4 : Int32) (x : Int32 × Int32), wh (fun (c : Int32 × Int32) => fX9_stoneIn_b10 s_mo x2 c.1 c.2) n (x3, x4) = some x → (∀ (z : Int32 × Int32), x = z → ∀ (H : Heap) (locs : List Loc) (ls : Array Slot), va_P D vwCl (wModel t a_mo s_mo lam) H → va_D A (wModel t a_mo s_mo lam) → va_S A s.heap H locs → lv_has ls 5 [(0, .ref (a_mo 0)), (3, .int z.1)] → W p l e (rmL 0) s m args below meth c H locs 0 0 (MQ below (gQ D rv w1 A) args s 0 0 A) (F0 m 29 ls [])) → ∀ (H : Heap) (locs : List Loc) (ls : Array Slot), va_P D vwCl (wModel t a_mo s_mo lam) H → va_D A (wModel t a_mo s_mo lam) → va_S A s.heap H locs → lv_has ls 5 [(0, .ref (a_mo 0)), (2, .int x2), (3, .int x3), (4, .int x4)] → W p l e (rmL 0) s m args below meth c H locs 0 0 (MQ below (gQ D rv w1 A) args s 0 0 A) (F0 m 10 ls []) := by
  obtain ⟨hx, hb, hr, hml, hown, hts, hC0, hlk, hA⟩ := id C
  have hK := hC0.1
  intro n
  induction n with
  | zero =>
    intro x3 x4 x h
    exact (wh_0 h).elim
  | succ n ih =>
    intro x3 x4 x h HX H locs ls hP hD hS hl
    obtain ⟨v, hf, hB, hX⟩ := wh_step h
    have hf : fX9_stoneIn_b10 s_mo x2 x3 x4 = some v := hf
    have HB : ∀ (z : Int32 × Int32), v = .inl z → ∀ (H : Heap) (locs : List Loc) (ls : Array Slot), va_P D vwCl (wModel t a_mo s_mo lam) H → va_D A (wModel t a_mo s_mo lam) → va_S A s.heap H locs → lv_has ls 5 [(0, .ref (a_mo 0)), (2, .int x2), (3, .int z.1), (4, .int z.2)] → W p l e (rmL 0) s m args below meth c H locs 0 0 (MQ below (gQ D rv w1 A) args s 0 0 A) (F0 m 10 ls []) := fun z hz H locs ls hP hD hS hl => ih z.1 z.2 x (hB z hz) HX H locs ls hP hD hS hl
    have HX : ∀ (z : Int32 × Int32), v = .inr z → ∀ (H : Heap) (locs : List Loc) (ls : Array Slot), va_P D vwCl (wModel t a_mo s_mo lam) H → va_D A (wModel t a_mo s_mo lam) → va_S A s.heap H locs → lv_has ls 5 [(0, .ref (a_mo 0)), (3, .int z.1)] → W p l e (rmL 0) s m args below meth c H locs 0 0 (MQ below (gQ D rv w1 A) args s 0 0 A) (F0 m 29 ls []) := fun z hz => HX z (hX _ hz).symm
    unfold fX9_stoneIn_b10 at hf
    refine lv_iload hx hb dX9_stoneIn_10 (lv_at hl 3 rfl) ?_
    refine lv_iload_n hx hb dX9_stoneIn_12 rfl (lv_at hl 1 rfl) ?_
    refine lv_icmp_le (tgt := 29) hx hb dX9_stoneIn_13 (by decide) (fun c2 => ?_) (fun c2 => ?_)
    · rw [if_pos c2] at hf
      obtain rfl := so_eq hf
      exact HX _ rfl _ _ _ hP hD hS (lv_sub hl [0, 2] rfl)
    · rw [if_neg c2] at hf
      refine lv_iload_n hx hb dX9_stoneIn_16 rfl (lv_at hl 2 rfl) ?_
      refine lv_aload_n hx hb dX9_stoneIn_17 rfl (lv_at hl 0 rfl) ?_
      refine va_get (D := D) (ci := 9) (v := .int (s_mo 0 0)) (C := RX9) (T := TX9) (N := 37) hx hb hts iwX9_stoneIn_X9 hown hK hP 0 rfl rfl 3 (by decide) (hts _ lkX9_stoneIn_f81) (fun _ h9 => h9) rfl dX9_stoneIn_18 ?_
      obtain ⟨b3, hf⟩ := gd_some hf
      refine lv_idiv hx hb dX9_stoneIn_21 (nzb_ne b3) ?_
      obtain ⟨y4, hy4, hf⟩ := nm_ex hf
      refine W.eq (g2 := F0 m 22 ls [.int y4]) (by rw [hy4]) ?_
      refine lv_istore_n (lv' := [(3, .int y4), (0, .ref (a_mo 0)), (2, .int x2), (4, .int x4)]) hx hb dX9_stoneIn_22 rfl hl (by decide) rfl (fun ls hl => ?_)
      obtain ⟨y5, hy5, hf⟩ := nm_ex hf
      refine lv_iinc (v := y5) (lv' := [(4, .int y5), (3, .int y4), (0, .ref (a_mo 0)), (2, .int x2)]) hx hb dX9_stoneIn_23 hl (k := 3) rfl (by rw [hy5]; rfl) (by decide) rfl (fun ls hl => ?_)
      refine lv_goto (tgt := 10) hx hb dX9_stoneIn_26 (by decide) ?_
      obtain rfl := so_eq hf
      exact HB _ rfl _ _ _ hP hD hS (lv_sub hl [2, 3, 1, 0] rfl)
set_option maxHeartbeats 4000000 in
set_option maxRecDepth 100000 in
theorem cX9_stoneIn_ok {l : Launch} {D : va_G} {t : Nat → ClassId} {κ : Nat → Nat} {a_mo : Nat → Nat} {s_mo : S2} {lam : S6} {p1 : Int32} {p2 : Int32} {out : Int32} (hf : fX9_stoneIn s_mo p1 p2 = some out) : Ct l D t κ yX9_stoneIn wsX9_stoneIn (rmL 0) [.ref (a_mo 0), .int p1, .int p2] (wModel t a_mo s_mo lam) (some (.int out)) (wModel t a_mo s_mo lam) := by
  refine Ct.ofW (own := RX9) (cc := cX9_stoneIn) (maxL := 5) (ret := (some .int)) (by decide) rfl rfl (Nat.le_of_ble_eq_true rfl) ?_
  intro p e s m below meth c A C hP hD ls hl
  have hS : va_S A s.heap s.heap [] := va_S.rf
  obtain ⟨hx, hb, hr, hml, hown, hts, hC0, hlk, hA⟩ := id C
  have hK := hC0.1
  have hl : lv_has ls 5 [(0, .ref (a_mo 0)), (1, .int p1), (2, .int p2)] := hl
  unfold fX9_stoneIn at hf
  refine lv_iload_n hx hb dX9_stoneIn_0 rfl (lv_at hl 1 rfl) ?_
  refine lv_istore_n (lv' := [(3, .int p1), (0, .ref (a_mo 0)), (1, .int p1), (2, .int p2)]) hx hb dX9_stoneIn_1 rfl hl (by decide) rfl (fun ls hl => ?_)
  refine lv_aload_n hx hb dX9_stoneIn_2 rfl (lv_at hl 1 rfl) ?_
  refine va_get (D := D) (ci := 9) (v := .int (s_mo 0 1)) (C := RX9) (T := TX9) (N := 37) hx hb hts iwX9_stoneIn_X9 hown hK hP 0 rfl rfl 4 (by decide) (hts _ lkX9_stoneIn_f84) (fun _ h9 => h9) rfl dX9_stoneIn_3 ?_
  refine lv_iconst (v := 1) hx hb dX9_stoneIn_6 (by decide) ?_
  refine lv_isub hx hb dX9_stoneIn_7 ?_
  obtain ⟨y1, hy1, hf⟩ := nm_ex hf
  refine W.eq (g2 := F0 m 8 ls [.int y1]) (by rw [hy1]) ?_
  refine lv_istore (lv' := [(4, .int y1), (3, .int p1), (0, .ref (a_mo 0)), (1, .int p1), (2, .int p2)]) hx hb dX9_stoneIn_8 hl (by decide) rfl (fun ls hl => ?_)
  obtain ⟨x6, ex6, hf⟩ := bd_some hf
  refine wX9_stoneIn_l10 C 5000 p1 y1 x6 ex6 (fun c9 h9 H locs ls hP hD hS hl => ?_) _ _ _ hP hD hS (lv_sub hl [2, 4, 1, 0] rfl)
  subst h9
  refine lv_iload_n hx hb dX9_stoneIn_29 rfl (lv_at hl 1 rfl) ?_
  refine lv_aload_n hx hb dX9_stoneIn_30 rfl (lv_at hl 0 rfl) ?_
  refine va_get (D := D) (ci := 9) (v := .int (s_mo 0 0)) (C := RX9) (T := TX9) (N := 37) hx hb hts iwX9_stoneIn_X9 hown hK hP 0 rfl rfl 3 (by decide) (hts _ lkX9_stoneIn_f81) (fun _ h9 => h9) rfl dX9_stoneIn_31 ?_
  obtain ⟨b7, hf⟩ := gd_some hf
  refine lv_irem hx hb dX9_stoneIn_34 (nzb_ne b7) ?_
  obtain rfl := so_eq hf
  exact g_iret C hP hD hS dX9_stoneIn_35
/-! CoachCourtModel.best -/
def fX9_best_b31 (s_mo : S2) (x1 : Int32) (x2 : Int32) (x3 : Int32) : Option ((Int32 × Int32 × S2) ⊕ (Int32 × Int32 × S2)) :=
  if (s_mo 0 1) ≤ x3 then
    (some (.inr (x2, x3, s_mo)))
  else
    (nm (x2 * (s_mo 0 0)) fun y4 =>
    nm (x3 + (1 : Int32)) fun y5 =>
    some (.inl (y4, y5, s_mo)))
def fX9_best_b73 (s_mo : S2) (x1 : Int32) (x2 : Int32) (x3 : Int32) (x4 : Int32) (x5 : Int32) (x6 : Int32) : Option ((Int32 × S2) ⊕ (Int32 × S2)) :=
  if (s_mo 0 1) ≤ x6 then
    (some (.inr (x6, s_mo)))
  else
    ((fX9_stoneIn s_mo x5 x6).bind fun v10 =>
    gd (ixb (((24 : Int32) + ((5 : Int32) * x6)) + (4 : Int32)) 59) <|
    nm (sE s_mo 2 (Int32.toNatClampNeg (((24 : Int32) + ((5 : Int32) * x6)) + (4 : Int32))) v10) fun s12 =>
    nm (x6 + (1 : Int32)) fun y13 =>
    some (.inl (y13, s12)))
def fX9_best_129 (s_mo : S2) (x1 : Int32) (x2 : Int32) (x3 : Int32) (x5 : Int32) (x6 : Int32) (k0 : Int32) : Option ((Int32 × Int32 × Int32 × S2) ⊕ (Int32 × Int32 × Int32 × S2)) :=
  if x6 ≤ x3 then
    (nm (x5 + (1 : Int32)) fun y19 =>
    some (.inl (x3, k0, y19, s_mo)))
  else
    (nm (x5 + (1 : Int32)) fun y20 =>
    some (.inl (x6, k0, y20, s_mo)))
def fX9_best_b64 (s_mo : S2) (x1 : Int32) (x2 : Int32) (x3 : Int32) (x4 : Int32) (x5 : Int32) : Option ((Int32 × Int32 × Int32 × S2) ⊕ (Int32 × Int32 × Int32 × S2)) :=
  if x2 ≤ x5 then
    (some (.inr (x3, x4, x5, s_mo)))
  else
    ((wh (fun (c : Int32 × S2) => fX9_best_b73 c.2 x1 x2 x3 x4 x5 c.1) 5000 ((0 : Int32), s_mo)).bind fun x14 =>
    (fX9_howMany x14.2).bind fun v15 =>
    nm v15.1 fun y16 =>
    if y16 ≤ x3 then
      (fX9_best_129 v15.2 x1 x2 x3 x5 y16 x4)
    else
      (fX9_best_129 v15.2 x1 x2 x3 x5 y16 x5))
def fX9_best_17 (s_mo : S2) (x1 : Int32) : Option (Int32 × S2) :=
  if (s_mo 0 0) = (0 : Int32) then
    (some ((-2 : Int32), s_mo))
  else
    ((wh (fun (c : Int32 × Int32 × S2) => fX9_best_b31 c.2.2 x1 c.1 c.2.1) 5000 ((1 : Int32), (0 : Int32), s_mo)).bind fun x6 =>
    (fX9_starts x6.2.2).bind fun v7 =>
    (wh (fun (c : Int32 × Int32 × Int32 × S2) => fX9_best_b64 c.2.2.2 x1 x6.1 c.1 c.2.1 c.2.2.1) 5000 ((-1 : Int32), (0 : Int32), (0 : Int32), v7)).bind fun x21 =>
    if x1 = (0 : Int32) then
      (some (x21.1, x21.2.2.2))
    else
      ((fX9_stoneIn x21.2.2.2 x21.2.1 (x1 - (10 : Int32))).bind fun v23 =>
      some (v23, x21.2.2.2)))
def fX9_best (s_mo : S2) (p1 : Int32) : Option (Int32 × S2) :=
  if p1 = (0 : Int32) then
    (fX9_best_17 s_mo p1)
  else
    ((fX9_isParty s_mo (p1 - (10 : Int32))).bind fun v24 =>
    if v24 = (0 : Int32) then
      (some ((-1 : Int32), s_mo))
    else
      (fX9_best_17 s_mo p1))
theorem hdX9_best : yX9_best.cls = RX9 ∧ yX9_best.cls ≠ "java/lang/invoke/MethodHandle" ∧ yX9_best.cls ≠ "java/lang/invoke/VarHandle" ∧ (parseMethodDescriptor yX9_best.desc).map (fun d => d.parameters.length) = some 1 := by decide +kernel
theorem iwX9_best_X9 : ∀ w ∈ wsX90, w ∈ wsX9_best := by decide +kernel
theorem lkX9_best_f81 : Cond.fieldLink RX9 81 "CoachCourtModel" "miles" "I" ∈ wsX9_best := by decide +kernel
theorem lkX9_best_f84 : Cond.fieldLink RX9 84 "CoachCourtModel" "parties" "I" ∈ wsX9_best := by decide +kernel
theorem lkX9_best_f13 : Cond.fieldLink RX9 13 "CoachCourtModel" "now" "[I" ∈ wsX9_best := by decide +kernel
set_option maxHeartbeats 4000000 in
set_option maxRecDepth 100000 in
theorem wX9_best_l31 {p : Program} {l : Launch} {e : Env} {s : State} {m : MethodId} {args : Array Value} {below : List Frame} {meth : Method} {c : Code} {D : va_G} {t : Nat → ClassId} {κ : Nat → Nat} {A : Nat → Prop} {a_mo : Nat → Nat} {lam : S6} {x1 : Int32} {rv : Option Value} {w1 : va_W} (C : Cxt p s m args meth c cX9_best 7 RX9 wsX9_best (some .int) D t κ A) : ∀ (n : Nat) (x2 : Int32) (x3 : Int32) (s_mo : S2) (x : Int32 × Int32 × S2), wh (fun (c : Int32 × Int32 × S2) => fX9_best_b31 c.2.2 x1 c.1 c.2.1) n (x2, x3, s_mo) = some x → (∀ (z : Int32 × Int32 × S2), x = z → ∀ (H : Heap) (locs : List Loc) (ls : Array Slot), va_P D vwCl (wModel t a_mo z.2.2 lam) H → va_D A (wModel t a_mo z.2.2 lam) → va_S A s.heap H locs → lv_has ls 7 [(0, .ref (a_mo 0)), (1, .int x1), (2, .int z.1)] → W p l e (rmL 7) s m args below meth c H locs 0 0 (MQ below (gQ D rv w1 A) args s 0 0 A) (F0 m 52 ls [])) → ∀ (H : Heap) (locs : List Loc) (ls : Array Slot), va_P D vwCl (wModel t a_mo s_mo lam) H → va_D A (wModel t a_mo s_mo lam) → va_S A s.heap H locs → lv_has ls 7 [(0, .ref (a_mo 0)), (1, .int x1), (2, .int x2), (3, .int x3)] → W p l e (rmL 7) s m args below meth c H locs 0 0 (MQ below (gQ D rv w1 A) args s 0 0 A) (F0 m 31 ls []) := by
  obtain ⟨hx, hb, hr, hml, hown, hts, hC0, hlk, hA⟩ := id C
  have hK := hC0.1
  intro n
  induction n with
  | zero =>
    intro x2 x3 s_mo x h
    exact (wh_0 h).elim
  | succ n ih =>
    intro x2 x3 s_mo x h HX H locs ls hP hD hS hl
    obtain ⟨v, hf, hB, hX⟩ := wh_step h
    have hf : fX9_best_b31 s_mo x1 x2 x3 = some v := hf
    have HB : ∀ (z : Int32 × Int32 × S2), v = .inl z → ∀ (H : Heap) (locs : List Loc) (ls : Array Slot), va_P D vwCl (wModel t a_mo z.2.2 lam) H → va_D A (wModel t a_mo z.2.2 lam) → va_S A s.heap H locs → lv_has ls 7 [(0, .ref (a_mo 0)), (1, .int x1), (2, .int z.1), (3, .int z.2.1)] → W p l e (rmL 7) s m args below meth c H locs 0 0 (MQ below (gQ D rv w1 A) args s 0 0 A) (F0 m 31 ls []) := fun z hz H locs ls hP hD hS hl => ih z.1 z.2.1 z.2.2 x (hB z hz) HX H locs ls hP hD hS hl
    have HX : ∀ (z : Int32 × Int32 × S2), v = .inr z → ∀ (H : Heap) (locs : List Loc) (ls : Array Slot), va_P D vwCl (wModel t a_mo z.2.2 lam) H → va_D A (wModel t a_mo z.2.2 lam) → va_S A s.heap H locs → lv_has ls 7 [(0, .ref (a_mo 0)), (1, .int x1), (2, .int z.1)] → W p l e (rmL 7) s m args below meth c H locs 0 0 (MQ below (gQ D rv w1 A) args s 0 0 A) (F0 m 52 ls []) := fun z hz => HX z (hX _ hz).symm
    unfold fX9_best_b31 at hf
    refine lv_iload_n hx hb dX9_best_31 rfl (lv_at hl 3 rfl) ?_
    refine lv_aload_n hx hb dX9_best_32 rfl (lv_at hl 0 rfl) ?_
    refine va_get (D := D) (ci := 9) (v := .int (s_mo 0 1)) (C := RX9) (T := TX9) (N := 37) hx hb hts iwX9_best_X9 hown hK hP 0 rfl rfl 4 (by decide) (hts _ lkX9_best_f84) (fun _ h9 => h9) rfl dX9_best_33 ?_
    refine lv_icmp_ge (tgt := 52) hx hb dX9_best_36 (by decide) (fun c3 => ?_) (fun c3 => ?_)
    · rw [if_pos c3] at hf
      obtain rfl := so_eq hf
      exact HX _ rfl _ _ _ hP hD hS (lv_sub hl [0, 1, 2] rfl)
    · rw [if_neg c3] at hf
      refine lv_iload_n hx hb dX9_best_39 rfl (lv_at hl 2 rfl) ?_
      refine lv_aload_n hx hb dX9_best_40 rfl (lv_at hl 0 rfl) ?_
      refine va_get (D := D) (ci := 9) (v := .int (s_mo 0 0)) (C := RX9) (T := TX9) (N := 37) hx hb hts iwX9_best_X9 hown hK hP 0 rfl rfl 3 (by decide) (hts _ lkX9_best_f81) (fun _ h9 => h9) rfl dX9_best_41 ?_
      refine lv_imul hx hb dX9_best_44 ?_
      obtain ⟨y4, hy4, hf⟩ := nm_ex hf
      refine W.eq (g2 := F0 m 45 ls [.int y4]) (by rw [hy4]) ?_
      refine lv_istore_n (lv' := [(2, .int y4), (0, .ref (a_mo 0)), (1, .int x1), (3, .int x3)]) hx hb dX9_best_45 rfl hl (by decide) rfl (fun ls hl => ?_)
      obtain ⟨y5, hy5, hf⟩ := nm_ex hf
      refine lv_iinc (v := y5) (lv' := [(3, .int y5), (2, .int y4), (0, .ref (a_mo 0)), (1, .int x1)]) hx hb dX9_best_46 hl (k := 3) rfl (by rw [hy5]; rfl) (by decide) rfl (fun ls hl => ?_)
      refine lv_goto (tgt := 31) hx hb dX9_best_49 (by decide) ?_
      obtain rfl := so_eq hf
      exact HB _ rfl _ _ _ hP hD hS (lv_sub hl [2, 3, 1, 0] rfl)
set_option maxHeartbeats 4000000 in
set_option maxRecDepth 100000 in
theorem wX9_best_l73 {p : Program} {l : Launch} {e : Env} {s : State} {m : MethodId} {args : Array Value} {below : List Frame} {meth : Method} {c : Code} {D : va_G} {t : Nat → ClassId} {κ : Nat → Nat} {A : Nat → Prop} {a_mo : Nat → Nat} {lam : S6} {x1 : Int32} {x2 : Int32} {x3 : Int32} {x4 : Int32} {x5 : Int32} {rv : Option Value} {w1 : va_W} (C : Cxt p s m args meth c cX9_best 7 RX9 wsX9_best (some .int) D t κ A) : ∀ (n : Nat) (x6 : Int32) (s_mo : S2) (x : Int32 × S2), wh (fun (c : Int32 × S2) => fX9_best_b73 c.2 x1 x2 x3 x4 x5 c.1) n (x6, s_mo) = some x → (∀ (z : Int32 × S2), x = z → ∀ (H : Heap) (locs : List Loc) (ls : Array Slot), va_P D vwCl (wModel t a_mo z.2 lam) H → va_D A (wModel t a_mo z.2 lam) → va_S A s.heap H locs → lv_has ls 7 [(0, .ref (a_mo 0)), (1, .int x1), (2, .int x2), (3, .int x3), (4, .int x4), (5, .int x5)] → W p l e (rmL 7) s m args below meth c H locs 0 0 (MQ below (gQ D rv w1 A) args s 0 0 A) (F0 m 110 ls [])) → ∀ (H : Heap) (locs : List Loc) (ls : Array Slot), va_P D vwCl (wModel t a_mo s_mo lam) H → va_D A (wModel t a_mo s_mo lam) → va_S A s.heap H locs → lv_has ls 7 [(0, .ref (a_mo 0)), (1, .int x1), (2, .int x2), (3, .int x3), (4, .int x4), (5, .int x5), (6, .int x6)] → W p l e (rmL 7) s m args below meth c H locs 0 0 (MQ below (gQ D rv w1 A) args s 0 0 A) (F0 m 73 ls []) := by
  obtain ⟨hx, hb, hr, hml, hown, hts, hC0, hlk, hA⟩ := id C
  have hK := hC0.1
  intro n
  induction n with
  | zero =>
    intro x6 s_mo x h
    exact (wh_0 h).elim
  | succ n ih =>
    intro x6 s_mo x h HX H locs ls hP hD hS hl
    obtain ⟨v, hf, hB, hX⟩ := wh_step h
    have hf : fX9_best_b73 s_mo x1 x2 x3 x4 x5 x6 = some v := hf
    have HB : ∀ (z : Int32 × S2), v = .inl z → ∀ (H : Heap) (locs : List Loc) (ls : Array Slot), va_P D vwCl (wModel t a_mo z.2 lam) H → va_D A (wModel t a_mo z.2 lam) → va_S A s.heap H locs → lv_has ls 7 [(0, .ref (a_mo 0)), (1, .int x1), (2, .int x2), (3, .int x3), (4, .int x4), (5, .int x5), (6, .int z.1)] → W p l e (rmL 7) s m args below meth c H locs 0 0 (MQ below (gQ D rv w1 A) args s 0 0 A) (F0 m 73 ls []) := fun z hz H locs ls hP hD hS hl => ih z.1 z.2 x (hB z hz) HX H locs ls hP hD hS hl
    have HX : ∀ (z : Int32 × S2), v = .inr z → ∀ (H : Heap) (locs : List Loc) (ls : Array Slot), va_P D vwCl (wModel t a_mo z.2 lam) H → va_D A (wModel t a_mo z.2 lam) → va_S A s.heap H locs → lv_has ls 7 [(0, .ref (a_mo 0)), (1, .int x1), (2, .int x2), (3, .int x3), (4, .int x4), (5, .int x5)] → W p l e (rmL 7) s m args below meth c H locs 0 0 (MQ below (gQ D rv w1 A) args s 0 0 A) (F0 m 110 ls []) := fun z hz => HX z (hX _ hz).symm
    unfold fX9_best_b73 at hf
    refine lv_iload hx hb dX9_best_73 (lv_at hl 6 rfl) ?_
    refine lv_aload_n hx hb dX9_best_75 rfl (lv_at hl 0 rfl) ?_
    refine va_get (D := D) (ci := 9) (v := .int (s_mo 0 1)) (C := RX9) (T := TX9) (N := 37) hx hb hts iwX9_best_X9 hown hK hP 0 rfl rfl 4 (by decide) (hts _ lkX9_best_f84) (fun _ h9 => h9) rfl dX9_best_76 ?_
    refine lv_icmp_ge (tgt := 110) hx hb dX9_best_79 (by decide) (fun c9 => ?_) (fun c9 => ?_)
    · rw [if_pos c9] at hf
      obtain rfl := so_eq hf
      exact HX _ rfl _ _ _ hP hD hS (lv_sub hl [0, 1, 2, 3, 4, 5] rfl)
    · rw [if_neg c9] at hf
      refine lv_aload_n hx hb dX9_best_82 rfl (lv_at hl 0 rfl) ?_
      refine va_get (D := D) (ci := 9) (v := .ref (a_mo 2)) (C := RX9) (T := TX9) (N := 37) hx hb hts iwX9_best_X9 hown hK hP 0 rfl rfl 1 (by decide) (hts _ lkX9_best_f13) (fun _ h9 => h9) rfl dX9_best_83 ?_
      refine lv_bipush (v := 24) hx hb dX9_best_86 (by decide) ?_
      refine lv_iconst (v := 5) hx hb dX9_best_88 (by decide) ?_
      refine lv_iload hx hb dX9_best_89 (lv_at hl 6 rfl) ?_
      refine lv_imul hx hb dX9_best_91 ?_
      refine lv_iadd hx hb dX9_best_92 ?_
      refine lv_iconst (v := 4) hx hb dX9_best_93 (by decide) ?_
      refine lv_iadd hx hb dX9_best_94 ?_
      refine lv_aload_n hx hb dX9_best_95 rfl (lv_at hl 0 rfl) ?_
      refine lv_iload hx hb dX9_best_96 (lv_at hl 5 rfl) ?_
      refine lv_iload hx hb dX9_best_98 (lv_at hl 6 rfl) ?_
      obtain ⟨v10, ev10, hf⟩ := bd_some hf
      refine gk_V0 C (As := [.int x5, .int x6]) (rest := [.int (((24 : Int32) + ((5 : Int32) * x6)) + (4 : Int32)), .ref (a_mo 2)]) (ci := 9) (q := (RX9, TX9, 37)) (q0 := 0) (cX9_stoneIn_ok (l := l) (D := D) (t := t) (κ := κ) (a_mo := a_mo) (lam := lam) ev10) gX9_best_X9_stoneIn rfl ⟨rfl, rfl⟩ hdX9_stoneIn ⟨Nat.le_of_ble_eq_true rfl, Nat.le_of_ble_eq_true rfl⟩ rfl rfl hP hD hS rfl hl.1 (Nat.le_of_ble_eq_true rfl) dX9_best_100 (Nat.zero_le _) (Nat.zero_le _) (fun H locs hP hD hS => ?_)
      refine W.eq (g2 := F0 m 103 ls [.int v10, .int (((24 : Int32) + ((5 : Int32) * x6)) + (4 : Int32)), .ref (a_mo 2)]) rfl ?_
      obtain ⟨b11, hf⟩ := gd_some hf
      obtain ⟨s12, hs12, hf⟩ := nm_ex hf
      refine va_iast hx hb hK hP hD hS 2 0 rfl rfl (ixb_in b11) dX9_best_103 (fun H locs hP hD hS => ?_)
      have hP : va_P D vwCl (wModel t a_mo s12 lam) H := by rw [hs12]; exact hP
      have hD : va_D A (wModel t a_mo s12 lam) := by rw [hs12]; exact hD
      obtain ⟨y13, hy13, hf⟩ := nm_ex hf
      refine lv_iinc (v := y13) (lv' := [(6, .int y13), (0, .ref (a_mo 0)), (1, .int x1), (2, .int x2), (3, .int x3), (4, .int x4), (5, .int x5)]) hx hb dX9_best_104 hl (k := 6) rfl (by rw [hy13]; rfl) (by decide) rfl (fun ls hl => ?_)
      refine lv_goto (tgt := 73) hx hb dX9_best_107 (by decide) ?_
      obtain rfl := so_eq hf
      exact HB _ rfl _ _ _ hP hD hS (lv_sub hl [1, 2, 3, 4, 5, 6, 0] rfl)
set_option maxHeartbeats 4000000 in
set_option maxRecDepth 100000 in
theorem wX9_best_129 {p : Program} {l : Launch} {e : Env} {s : State} {m : MethodId} {args : Array Value} {below : List Frame} {meth : Method} {c : Code} {D : va_G} {t : Nat → ClassId} {κ : Nat → Nat} {A : Nat → Prop} {a_mo : Nat → Nat} {s_mo : S2} {lam : S6} {x1 : Int32} {x2 : Int32} {x3 : Int32} {x5 : Int32} {x6 : Int32} {k0 : Int32} {rv : Option Value} {w1 : va_W} {v : (Int32 × Int32 × Int32 × S2) ⊕ (Int32 × Int32 × Int32 × S2)} (C : Cxt p s m args meth c cX9_best 7 RX9 wsX9_best (some .int) D t κ A) (hf : fX9_best_129 s_mo x1 x2 x3 x5 x6 k0 = some v) (HB : ∀ (z : Int32 × Int32 × Int32 × S2), v = .inl z → ∀ (H : Heap) (locs : List Loc) (ls : Array Slot), va_P D vwCl (wModel t a_mo z.2.2.2 lam) H → va_D A (wModel t a_mo z.2.2.2 lam) → va_S A s.heap H locs → lv_has ls 7 [(0, .ref (a_mo 0)), (1, .int x1), (2, .int x2), (3, .int z.1), (4, .int z.2.1), (5, .int z.2.2.1)] → W p l e (rmL 7) s m args below meth c H locs 0 0 (MQ below (gQ D rv w1 A) args s 0 0 A) (F0 m 64 ls [])) : ∀ (H : Heap) (locs : List Loc) (ls : Array Slot), va_P D vwCl (wModel t a_mo s_mo lam) H → va_D A (wModel t a_mo s_mo lam) → va_S A s.heap H locs → lv_has ls 7 [(0, .ref (a_mo 0)), (1, .int x1), (2, .int x2), (3, .int x3), (5, .int x5), (6, .int x6)] → W p l e (rmL 7) s m args below meth c H locs 0 0 (MQ below (gQ D rv w1 A) args s 0 0 A) (F0 m 129 ls [.int k0]) := by
  obtain ⟨hx, hb, hr, hml, hown, hts, hC0, hlk, hA⟩ := id C
  have hK := hC0.1
  intro H locs ls hP hD hS hl
  unfold fX9_best_129 at hf
  refine lv_istore (lv' := [(4, .int k0), (0, .ref (a_mo 0)), (1, .int x1), (2, .int x2), (3, .int x3), (5, .int x5), (6, .int x6)]) hx hb dX9_best_129 hl (by decide) rfl (fun ls hl => ?_)
  refine lv_iload hx hb dX9_best_131 (lv_at hl 6 rfl) ?_
  refine lv_iload_n hx hb dX9_best_133 rfl (lv_at hl 4 rfl) ?_
  refine lv_icmp_le (tgt := 142) hx hb dX9_best_134 (by decide) (fun c18 => ?_) (fun c18 => ?_)
  · rw [if_pos c18] at hf
    refine lv_iload_n hx hb dX9_best_142 rfl (lv_at hl 4 rfl) ?_
    refine lv_istore_n (lv' := [(3, .int x3), (4, .int k0), (0, .ref (a_mo 0)), (1, .int x1), (2, .int x2), (5, .int x5), (6, .int x6)]) hx hb dX9_best_143 rfl hl (by decide) rfl (fun ls hl => ?_)
    obtain ⟨y19, hy19, hf⟩ := nm_ex hf
    refine lv_iinc (v := y19) (lv' := [(5, .int y19), (3, .int x3), (4, .int k0), (0, .ref (a_mo 0)), (1, .int x1), (2, .int x2), (6, .int x6)]) hx hb dX9_best_144 hl (k := 5) rfl (by rw [hy19]; rfl) (by decide) rfl (fun ls hl => ?_)
    refine lv_goto (tgt := 64) hx hb dX9_best_147 (by decide) ?_
    obtain rfl := so_eq hf
    exact HB _ rfl _ _ _ hP hD hS (lv_sub hl [3, 4, 5, 1, 2, 0] rfl)
  · rw [if_neg c18] at hf
    refine lv_iload hx hb dX9_best_137 (lv_at hl 6 rfl) ?_
    refine lv_goto (tgt := 143) hx hb dX9_best_139 (by decide) ?_
    refine lv_istore_n (lv' := [(3, .int x6), (4, .int k0), (0, .ref (a_mo 0)), (1, .int x1), (2, .int x2), (5, .int x5), (6, .int x6)]) hx hb dX9_best_143 rfl hl (by decide) rfl (fun ls hl => ?_)
    obtain ⟨y20, hy20, hf⟩ := nm_ex hf
    refine lv_iinc (v := y20) (lv' := [(5, .int y20), (3, .int x6), (4, .int k0), (0, .ref (a_mo 0)), (1, .int x1), (2, .int x2), (6, .int x6)]) hx hb dX9_best_144 hl (k := 5) rfl (by rw [hy20]; rfl) (by decide) rfl (fun ls hl => ?_)
    refine lv_goto (tgt := 64) hx hb dX9_best_147 (by decide) ?_
    obtain rfl := so_eq hf
    exact HB _ rfl _ _ _ hP hD hS (lv_sub hl [3, 4, 5, 1, 2, 0] rfl)
set_option maxHeartbeats 4000000 in
set_option maxRecDepth 100000 in
theorem wX9_best_l64 {p : Program} {l : Launch} {e : Env} {s : State} {m : MethodId} {args : Array Value} {below : List Frame} {meth : Method} {c : Code} {D : va_G} {t : Nat → ClassId} {κ : Nat → Nat} {A : Nat → Prop} {a_mo : Nat → Nat} {lam : S6} {x1 : Int32} {x2 : Int32} {rv : Option Value} {w1 : va_W} (C : Cxt p s m args meth c cX9_best 7 RX9 wsX9_best (some .int) D t κ A) : ∀ (n : Nat) (x3 : Int32) (x4 : Int32) (x5 : Int32) (s_mo : S2) (x : Int32 × Int32 × Int32 × S2), wh (fun (c : Int32 × Int32 × Int32 × S2) => fX9_best_b64 c.2.2.2 x1 x2 c.1 c.2.1 c.2.2.1) n (x3, x4, x5, s_mo) = some x → (∀ (z : Int32 × Int32 × Int32 × S2), x = z → ∀ (H : Heap) (locs : List Loc) (ls : Array Slot), va_P D vwCl (wModel t a_mo z.2.2.2 lam) H → va_D A (wModel t a_mo z.2.2.2 lam) → va_S A s.heap H locs → lv_has ls 7 [(0, .ref (a_mo 0)), (1, .int x1), (3, .int z.1), (4, .int z.2.1)] → W p l e (rmL 7) s m args below meth c H locs 0 0 (MQ below (gQ D rv w1 A) args s 0 0 A) (F0 m 150 ls [])) → ∀ (H : Heap) (locs : List Loc) (ls : Array Slot), va_P D vwCl (wModel t a_mo s_mo lam) H → va_D A (wModel t a_mo s_mo lam) → va_S A s.heap H locs → lv_has ls 7 [(0, .ref (a_mo 0)), (1, .int x1), (2, .int x2), (3, .int x3), (4, .int x4), (5, .int x5)] → W p l e (rmL 7) s m args below meth c H locs 0 0 (MQ below (gQ D rv w1 A) args s 0 0 A) (F0 m 64 ls []) := by
  obtain ⟨hx, hb, hr, hml, hown, hts, hC0, hlk, hA⟩ := id C
  have hK := hC0.1
  intro n
  induction n with
  | zero =>
    intro x3 x4 x5 s_mo x h
    exact (wh_0 h).elim
  | succ n ih =>
    intro x3 x4 x5 s_mo x h HX H locs ls hP hD hS hl
    obtain ⟨v, hf, hB, hX⟩ := wh_step h
    have hf : fX9_best_b64 s_mo x1 x2 x3 x4 x5 = some v := hf
    have HB : ∀ (z : Int32 × Int32 × Int32 × S2), v = .inl z → ∀ (H : Heap) (locs : List Loc) (ls : Array Slot), va_P D vwCl (wModel t a_mo z.2.2.2 lam) H → va_D A (wModel t a_mo z.2.2.2 lam) → va_S A s.heap H locs → lv_has ls 7 [(0, .ref (a_mo 0)), (1, .int x1), (2, .int x2), (3, .int z.1), (4, .int z.2.1), (5, .int z.2.2.1)] → W p l e (rmL 7) s m args below meth c H locs 0 0 (MQ below (gQ D rv w1 A) args s 0 0 A) (F0 m 64 ls []) := fun z hz H locs ls hP hD hS hl => ih z.1 z.2.1 z.2.2.1 z.2.2.2 x (hB z hz) HX H locs ls hP hD hS hl
    have HX : ∀ (z : Int32 × Int32 × Int32 × S2), v = .inr z → ∀ (H : Heap) (locs : List Loc) (ls : Array Slot), va_P D vwCl (wModel t a_mo z.2.2.2 lam) H → va_D A (wModel t a_mo z.2.2.2 lam) → va_S A s.heap H locs → lv_has ls 7 [(0, .ref (a_mo 0)), (1, .int x1), (3, .int z.1), (4, .int z.2.1)] → W p l e (rmL 7) s m args below meth c H locs 0 0 (MQ below (gQ D rv w1 A) args s 0 0 A) (F0 m 150 ls []) := fun z hz => HX z (hX _ hz).symm
    unfold fX9_best_b64 at hf
    refine lv_iload hx hb dX9_best_64 (lv_at hl 5 rfl) ?_
    refine lv_iload_n hx hb dX9_best_66 rfl (lv_at hl 2 rfl) ?_
    refine lv_icmp_ge (tgt := 150) hx hb dX9_best_67 (by decide) (fun c8 => ?_) (fun c8 => ?_)
    · rw [if_pos c8] at hf
      obtain rfl := so_eq hf
      exact HX _ rfl _ _ _ hP hD hS (lv_sub hl [0, 1, 3, 4] rfl)
    · rw [if_neg c8] at hf
      refine lv_iconst (v := 0) hx hb dX9_best_70 (by decide) ?_
      refine lv_istore (lv' := [(6, .int (0 : Int32)), (0, .ref (a_mo 0)), (1, .int x1), (2, .int x2), (3, .int x3), (4, .int x4), (5, .int x5)]) hx hb dX9_best_71 hl (by decide) rfl (fun ls hl => ?_)
      obtain ⟨x14, ex14, hf⟩ := bd_some hf
      refine wX9_best_l73 C 5000 (0 : Int32) s_mo x14 ex14 (fun c9 h9 H locs ls hP hD hS hl => ?_) _ _ _ hP hD hS (lv_sub hl [1, 2, 3, 4, 5, 6, 0] rfl)
      subst h9
      refine lv_aload_n hx hb dX9_best_110 rfl (lv_at hl 0 rfl) ?_
      obtain ⟨v15, ev15, hf⟩ := bd_some hf
      refine gk_V0 C (As := []) (rest := []) (ci := 9) (q := (RX9, TX9, 37)) (q0 := 0) (cX9_howMany_ok (l := l) (D := D) (t := t) (κ := κ) (a_mo := a_mo) (lam := lam) ev15) gX9_best_X9_howMany rfl ⟨rfl, rfl⟩ hdX9_howMany ⟨Nat.le_of_ble_eq_true rfl, Nat.le_of_ble_eq_true rfl⟩ rfl rfl hP hD hS rfl hl.1 (Nat.le_of_ble_eq_true rfl) dX9_best_111 (Nat.zero_le _) (Nat.zero_le _) (fun H locs hP hD hS => ?_)
      refine W.eq (g2 := F0 m 114 ls [.int v15.1]) rfl ?_
      obtain ⟨y16, hy16, hf⟩ := nm_ex hf
      refine W.eq (g2 := F0 m 114 ls [.int y16]) (by rw [hy16]) ?_
      refine lv_istore (lv' := [(6, .int y16), (0, .ref (a_mo 0)), (1, .int x1), (2, .int x2), (3, .int x3), (4, .int x4), (5, .int x5)]) hx hb dX9_best_114 hl (by decide) rfl (fun ls hl => ?_)
      refine lv_iload hx hb dX9_best_116 (lv_at hl 0 rfl) ?_
      refine lv_iload_n hx hb dX9_best_118 rfl (lv_at hl 4 rfl) ?_
      refine lv_icmp_le (tgt := 127) hx hb dX9_best_119 (by decide) (fun c17 => ?_) (fun c17 => ?_)
      · rw [if_pos c17] at hf
        refine lv_iload hx hb dX9_best_127 (lv_at hl 5 rfl) ?_
        exact wX9_best_129 C hf HB _ _ _ hP hD hS (lv_sub hl [1, 2, 3, 4, 6, 0] rfl)
      · rw [if_neg c17] at hf
        refine lv_iload hx hb dX9_best_122 (lv_at hl 6 rfl) ?_
        refine lv_goto (tgt := 129) hx hb dX9_best_124 (by decide) ?_
        exact wX9_best_129 C hf HB _ _ _ hP hD hS (lv_sub hl [1, 2, 3, 4, 6, 0] rfl)
set_option maxHeartbeats 4000000 in
set_option maxRecDepth 100000 in
theorem wX9_best_17 {p : Program} {l : Launch} {e : Env} {s : State} {m : MethodId} {args : Array Value} {below : List Frame} {meth : Method} {c : Code} {D : va_G} {t : Nat → ClassId} {κ : Nat → Nat} {A : Nat → Prop} {a_mo : Nat → Nat} {s_mo : S2} {lam : S6} {x1 : Int32} {out : Int32 × S2} (C : Cxt p s m args meth c cX9_best 7 RX9 wsX9_best (some .int) D t κ A) (hf : fX9_best_17 s_mo x1 = some out) : ∀ (H : Heap) (locs : List Loc) (ls : Array Slot), va_P D vwCl (wModel t a_mo s_mo lam) H → va_D A (wModel t a_mo s_mo lam) → va_S A s.heap H locs → lv_has ls 7 [(0, .ref (a_mo 0)), (1, .int x1)] → W p l e (rmL 7) s m args below meth c H locs 0 0 (MQ below (gQ D (some (.int out.1)) (wModel t a_mo out.2 lam) A) args s 0 0 A) (F0 m 17 ls []) := by
  obtain ⟨hx, hb, hr, hml, hown, hts, hC0, hlk, hA⟩ := id C
  have hK := hC0.1
  intro H locs ls hP hD hS hl
  unfold fX9_best_17 at hf
  refine lv_aload_n hx hb dX9_best_17 rfl (lv_at hl 0 rfl) ?_
  refine va_get (D := D) (ci := 9) (v := .int (s_mo 0 0)) (C := RX9) (T := TX9) (N := 37) hx hb hts iwX9_best_X9 hown hK hP 0 rfl rfl 3 (by decide) (hts _ lkX9_best_f81) (fun _ h9 => h9) rfl dX9_best_18 ?_
  refine lv_if_ne (tgt := 27) hx hb dX9_best_21 (by decide) (fun c2 => ?_) (fun c2 => ?_)
  · rw [if_neg c2] at hf
    refine lv_iconst (v := 1) hx hb dX9_best_27 (by decide) ?_
    refine lv_istore_n (lv' := [(2, .int (1 : Int32)), (0, .ref (a_mo 0)), (1, .int x1)]) hx hb dX9_best_28 rfl hl (by decide) rfl (fun ls hl => ?_)
    refine lv_iconst (v := 0) hx hb dX9_best_29 (by decide) ?_
    refine lv_istore_n (lv' := [(3, .int (0 : Int32)), (2, .int (1 : Int32)), (0, .ref (a_mo 0)), (1, .int x1)]) hx hb dX9_best_30 rfl hl (by decide) rfl (fun ls hl => ?_)
    obtain ⟨x6, ex6, hf⟩ := bd_some hf
    refine wX9_best_l31 C 5000 (1 : Int32) (0 : Int32) s_mo x6 ex6 (fun c9 h9 H locs ls hP hD hS hl => ?_) _ _ _ hP hD hS (lv_sub hl [2, 3, 1, 0] rfl)
    subst h9
    refine lv_iconst (v := -1) hx hb dX9_best_52 (by decide) ?_
    refine lv_istore_n (lv' := [(3, .int (-1 : Int32)), (0, .ref (a_mo 0)), (1, .int x1), (2, .int x6.1)]) hx hb dX9_best_53 rfl hl (by decide) rfl (fun ls hl => ?_)
    refine lv_iconst (v := 0) hx hb dX9_best_54 (by decide) ?_
    refine lv_istore (lv' := [(4, .int (0 : Int32)), (3, .int (-1 : Int32)), (0, .ref (a_mo 0)), (1, .int x1), (2, .int x6.1)]) hx hb dX9_best_55 hl (by decide) rfl (fun ls hl => ?_)
    refine lv_aload_n hx hb dX9_best_57 rfl (lv_at hl 2 rfl) ?_
    obtain ⟨v7, ev7, hf⟩ := bd_some hf
    refine gk_V0 C (As := []) (rest := []) (ci := 9) (q := (RX9, TX9, 37)) (q0 := 0) (cX9_starts_ok (l := l) (D := D) (t := t) (κ := κ) (a_mo := a_mo) (lam := lam) ev7) gX9_best_X9_starts rfl ⟨rfl, rfl⟩ hdX9_starts ⟨Nat.le_of_ble_eq_true rfl, Nat.le_of_ble_eq_true rfl⟩ rfl rfl hP hD hS rfl hl.1 (Nat.le_of_ble_eq_true rfl) dX9_best_58 (Nat.zero_le _) (Nat.zero_le _) (fun H locs hP hD hS => ?_)
    refine W.eq (g2 := F0 m 61 ls []) rfl ?_
    refine lv_iconst (v := 0) hx hb dX9_best_61 (by decide) ?_
    refine lv_istore (lv' := [(5, .int (0 : Int32)), (4, .int (0 : Int32)), (3, .int (-1 : Int32)), (0, .ref (a_mo 0)), (1, .int x1), (2, .int x6.1)]) hx hb dX9_best_62 hl (by decide) rfl (fun ls hl => ?_)
    obtain ⟨x21, ex21, hf⟩ := bd_some hf
    refine wX9_best_l64 C 5000 (-1 : Int32) (0 : Int32) (0 : Int32) v7 x21 ex21 (fun c9 h9 H locs ls hP hD hS hl => ?_) _ _ _ hP hD hS (lv_sub hl [3, 4, 5, 2, 1, 0] rfl)
    subst h9
    refine lv_iload_n hx hb dX9_best_150 rfl (lv_at hl 1 rfl) ?_
    refine lv_if_ne (tgt := 158) hx hb dX9_best_151 (by decide) (fun c22 => ?_) (fun c22 => ?_)
    · rw [if_neg c22] at hf
      refine lv_aload_n hx hb dX9_best_158 rfl (lv_at hl 0 rfl) ?_
      refine lv_iload hx hb dX9_best_159 (lv_at hl 3 rfl) ?_
      refine lv_iload_n hx hb dX9_best_161 rfl (lv_at hl 1 rfl) ?_
      refine lv_bipush (v := 10) hx hb dX9_best_162 (by decide) ?_
      refine lv_isub hx hb dX9_best_164 ?_
      obtain ⟨v23, ev23, hf⟩ := bd_some hf
      refine gk_V0 C (As := [.int x21.2.1, .int (x1 - (10 : Int32))]) (rest := []) (ci := 9) (q := (RX9, TX9, 37)) (q0 := 0) (cX9_stoneIn_ok (l := l) (D := D) (t := t) (κ := κ) (a_mo := a_mo) (lam := lam) ev23) gX9_best_X9_stoneIn rfl ⟨rfl, rfl⟩ hdX9_stoneIn ⟨Nat.le_of_ble_eq_true rfl, Nat.le_of_ble_eq_true rfl⟩ rfl rfl hP hD hS rfl hl.1 (Nat.le_of_ble_eq_true rfl) dX9_best_165 (Nat.zero_le _) (Nat.zero_le _) (fun H locs hP hD hS => ?_)
      refine W.eq (g2 := F0 m 168 ls [.int v23]) rfl ?_
      obtain rfl := so_eq hf
      exact g_iret C hP hD hS dX9_best_168
    · rw [if_pos c22] at hf
      refine lv_iload_n hx hb dX9_best_154 rfl (lv_at hl 2 rfl) ?_
      refine lv_goto (tgt := 168) hx hb dX9_best_155 (by decide) ?_
      obtain rfl := so_eq hf
      exact g_iret C hP hD hS dX9_best_168
  · rw [if_pos c2] at hf
    refine lv_bipush (v := -2) hx hb dX9_best_24 (by decide) ?_
    obtain rfl := so_eq hf
    exact g_iret C hP hD hS dX9_best_26
set_option maxHeartbeats 4000000 in
set_option maxRecDepth 100000 in
theorem cX9_best_ok {l : Launch} {D : va_G} {t : Nat → ClassId} {κ : Nat → Nat} {a_mo : Nat → Nat} {s_mo : S2} {lam : S6} {p1 : Int32} {out : Int32 × S2} (hf : fX9_best s_mo p1 = some out) : Ct l D t κ yX9_best wsX9_best (rmL 7) [.ref (a_mo 0), .int p1] (wModel t a_mo s_mo lam) (some (.int out.1)) (wModel t a_mo out.2 lam) := by
  refine Ct.ofW (own := RX9) (cc := cX9_best) (maxL := 7) (ret := (some .int)) (by decide) rfl rfl (Nat.le_of_ble_eq_true rfl) ?_
  intro p e s m below meth c A C hP hD ls hl
  have hS : va_S A s.heap s.heap [] := va_S.rf
  obtain ⟨hx, hb, hr, hml, hown, hts, hC0, hlk, hA⟩ := id C
  have hK := hC0.1
  have hl : lv_has ls 7 [(0, .ref (a_mo 0)), (1, .int p1)] := hl
  unfold fX9_best at hf
  refine lv_iload_n hx hb dX9_best_0 rfl (lv_at hl 1 rfl) ?_
  refine lv_if_eq (tgt := 17) hx hb dX9_best_1 (by decide) (fun c1 => ?_) (fun c1 => ?_)
  · rw [if_pos c1] at hf
    exact wX9_best_17 C hf _ _ _ hP hD hS (lv_sub hl [0, 1] rfl)
  · rw [if_neg c1] at hf
    refine lv_aload_n hx hb dX9_best_4 rfl (lv_at hl 0 rfl) ?_
    refine lv_iload_n hx hb dX9_best_5 rfl (lv_at hl 1 rfl) ?_
    refine lv_bipush (v := 10) hx hb dX9_best_6 (by decide) ?_
    refine lv_isub hx hb dX9_best_8 ?_
    obtain ⟨v24, ev24, hf⟩ := bd_some hf
    refine gk_V0 C (As := [.int (p1 - (10 : Int32))]) (rest := []) (ci := 9) (q := (RX9, TX9, 37)) (q0 := 0) (cX9_isParty_ok (l := l) (D := D) (t := t) (κ := κ) (a_mo := a_mo) (lam := lam) ev24) gX9_best_X9_isParty rfl ⟨rfl, rfl⟩ hdX9_isParty ⟨Nat.le_of_ble_eq_true rfl, Nat.le_of_ble_eq_true rfl⟩ rfl rfl hP hD hS rfl hl.1 (Nat.le_of_ble_eq_true rfl) dX9_best_9 (Nat.zero_le _) (Nat.zero_le _) (fun H locs hP hD hS => ?_)
    refine W.eq (g2 := F0 m 12 ls [.int v24]) rfl ?_
    refine lv_if_ne (tgt := 17) hx hb dX9_best_12 (by decide) (fun c25 => ?_) (fun c25 => ?_)
    · rw [if_neg c25] at hf
      exact wX9_best_17 C hf _ _ _ hP hD hS (lv_sub hl [0, 1] rfl)
    · rw [if_pos c25] at hf
      refine lv_iconst (v := -1) hx hb dX9_best_15 (by decide) ?_
      obtain rfl := so_eq hf
      exact g_iret C hP hD hS dX9_best_16
/-! CoachCourtModel.findPlace -/
def fX9_findPlace_108 (s_mo : S2) (x1 : Int32) (x2 : Int32) (k0 : Int32) : Option ((Int32 × S2) ⊕ (Int32 × S2)) :=
  nm (sE s_mo 0 16 k0) fun s13 =>
  nm (x2 + (1 : Int32)) fun y14 =>
  some (.inl (y14, s13))
def fX9_findPlace_87 (s_mo : S2) (x1 : Int32) (x2 : Int32) (x3 : Int32) (k0 : Int32) : Option ((Int32 × S2) ⊕ (Int32 × S2)) :=
  nm (sE s_mo 0 15 k0) fun s11 =>
  if x3 = (0 : Int32) then
    (fX9_findPlace_108 s11 x1 x2 (s11 0 16))
  else
    (gd (ixb x1 4) <|
    fX9_findPlace_108 s11 x1 x2 (s11 6 (Int32.toNatClampNeg x1)))
def fX9_findPlace_73 (s_mo : S2) (x1 : Int32) (x2 : Int32) (k0 : Int32) : Option ((Int32 × S2) ⊕ (Int32 × S2)) :=
  if k0 = (0 : Int32) then
    (fX9_findPlace_87 s_mo x1 x2 k0 (s_mo 0 15))
  else
    (fX9_findPlace_87 s_mo x1 x2 k0 x2)
def fX9_findPlace_b18 (s_mo : S2) (x1 : Int32) (x2 : Int32) : Option ((Int32 × S2) ⊕ (Int32 × S2)) :=
  if (s_mo 0 0) ≤ x2 then
    (some (.inr (x2, s_mo)))
  else
    (gd (ixb (((24 : Int32) + ((5 : Int32) * x1)) + (4 : Int32)) 59) <|
    nm (sE s_mo 2 (Int32.toNatClampNeg (((24 : Int32) + ((5 : Int32) * x1)) + (4 : Int32))) x2) fun s6 =>
    (fX9_drives s6).bind fun v7 =>
    gd (ixb x1 4) <|
    if (v7 6 (Int32.toNatClampNeg x1)) = (-4 : Int32) then
      (fX9_findPlace_73 v7 x1 x2 (0 : Int32))
    else
      (if (v7 0 16) < (v7 6 (Int32.toNatClampNeg x1)) then
        (fX9_findPlace_73 v7 x1 x2 (0 : Int32))
      else
        (fX9_findPlace_73 v7 x1 x2 (1 : Int32))))
def fX9_findPlace (s_mo : S2) (p1 : Int32) : Option (S2) :=
  nm (sE s_mo 0 15 (-4 : Int32)) fun s1 =>
  nm (sE s1 0 16 (1000000 : Int32)) fun s2 =>
  (fX9_starts s2).bind fun v3 =>
  (wh (fun (c : Int32 × S2) => fX9_findPlace_b18 c.2 p1 c.1) 5000 ((0 : Int32), v3)).bind fun x17 =>
  some x17.2
theorem hdX9_findPlace : yX9_findPlace.cls = RX9 ∧ yX9_findPlace.cls ≠ "java/lang/invoke/MethodHandle" ∧ yX9_findPlace.cls ≠ "java/lang/invoke/VarHandle" ∧ (parseMethodDescriptor yX9_findPlace.desc).map (fun d => d.parameters.length) = some 1 := by decide +kernel
theorem iwX9_findPlace_X9 : ∀ w ∈ wsX90, w ∈ wsX9_findPlace := by decide +kernel
theorem lkX9_findPlace_f236 : Cond.fieldLink RX9 236 "CoachCourtModel" "bestStone" "I" ∈ wsX9_findPlace := by decide +kernel
theorem lkX9_findPlace_c239 : Cond.constant RX9 239 (1000000) ∈ wsX9_findPlace := by decide +kernel
theorem lkX9_findPlace_f240 : Cond.fieldLink RX9 240 "CoachCourtModel" "bestMile" "I" ∈ wsX9_findPlace := by decide +kernel
theorem lkX9_findPlace_f81 : Cond.fieldLink RX9 81 "CoachCourtModel" "miles" "I" ∈ wsX9_findPlace := by decide +kernel
theorem lkX9_findPlace_f13 : Cond.fieldLink RX9 13 "CoachCourtModel" "now" "[I" ∈ wsX9_findPlace := by decide +kernel
theorem lkX9_findPlace_f26 : Cond.fieldLink RX9 26 "CoachCourtModel" "verdict" "[I" ∈ wsX9_findPlace := by decide +kernel
set_option maxHeartbeats 4000000 in
set_option maxRecDepth 100000 in
theorem wX9_findPlace_108 {p : Program} {l : Launch} {e : Env} {s : State} {m : MethodId} {args : Array Value} {below : List Frame} {meth : Method} {c : Code} {D : va_G} {t : Nat → ClassId} {κ : Nat → Nat} {A : Nat → Prop} {a_mo : Nat → Nat} {s_mo : S2} {lam : S6} {x1 : Int32} {x2 : Int32} {k0 : Int32} {rv : Option Value} {w1 : va_W} {v : (Int32 × S2) ⊕ (Int32 × S2)} (C : Cxt p s m args meth c cX9_findPlace 4 RX9 wsX9_findPlace none D t κ A) (hf : fX9_findPlace_108 s_mo x1 x2 k0 = some v) (HB : ∀ (z : Int32 × S2), v = .inl z → ∀ (H : Heap) (locs : List Loc) (ls : Array Slot), va_P D vwCl (wModel t a_mo z.2 lam) H → va_D A (wModel t a_mo z.2 lam) → va_S A s.heap H locs → lv_has ls 4 [(0, .ref (a_mo 0)), (1, .int x1), (2, .int z.1)] → W p l e (rmL 6) s m args below meth c H locs 0 0 (MQ below (gQ D rv w1 A) args s 0 0 A) (F0 m 18 ls [])) : ∀ (H : Heap) (locs : List Loc) (ls : Array Slot), va_P D vwCl (wModel t a_mo s_mo lam) H → va_D A (wModel t a_mo s_mo lam) → va_S A s.heap H locs → lv_has ls 4 [(0, .ref (a_mo 0)), (1, .int x1), (2, .int x2)] → W p l e (rmL 6) s m args below meth c H locs 0 0 (MQ below (gQ D rv w1 A) args s 0 0 A) (F0 m 108 ls [.int k0, .ref (a_mo 0)]) := by
  obtain ⟨hx, hb, hr, hml, hown, hts, hC0, hlk, hA⟩ := id C
  have hK := hC0.1
  intro H locs ls hP hD hS hl
  unfold fX9_findPlace_108 at hf
  obtain ⟨s13, hs13, hf⟩ := nm_ex hf
  refine va_put (D := D) (ci := 9) (v := .int k0) (ty := .int) (C := RX9) (T := TX9) (N := 37) hx hb hts iwX9_findPlace_X9 tyX9 tyX9_ok nmX9 hown hK hP hD hS 0 rfl rfl 27 (by decide) (hts _ lkX9_findPlace_f240) (fun _ h9 => h9) rfl (by decide +kernel) rfl rfl (Nat.le_of_ble_eq_true rfl) dX9_findPlace_108 (fun H locs hP hD hS => ?_)
  have hP : va_P D vwCl (wModel t a_mo s13 lam) H := by rw [hs13]; exact hP
  have hD : va_D A (wModel t a_mo s13 lam) := by rw [hs13]; exact hD
  obtain ⟨y14, hy14, hf⟩ := nm_ex hf
  refine lv_iinc (v := y14) (lv' := [(2, .int y14), (0, .ref (a_mo 0)), (1, .int x1)]) hx hb dX9_findPlace_111 hl (k := 2) rfl (by rw [hy14]; rfl) (by decide) rfl (fun ls hl => ?_)
  refine lv_goto (tgt := 18) hx hb dX9_findPlace_114 (by decide) ?_
  obtain rfl := so_eq hf
  exact HB _ rfl _ _ _ hP hD hS (lv_sub hl [1, 2, 0] rfl)
set_option maxHeartbeats 4000000 in
set_option maxRecDepth 100000 in
theorem wX9_findPlace_87 {p : Program} {l : Launch} {e : Env} {s : State} {m : MethodId} {args : Array Value} {below : List Frame} {meth : Method} {c : Code} {D : va_G} {t : Nat → ClassId} {κ : Nat → Nat} {A : Nat → Prop} {a_mo : Nat → Nat} {s_mo : S2} {lam : S6} {x1 : Int32} {x2 : Int32} {x3 : Int32} {k0 : Int32} {rv : Option Value} {w1 : va_W} {v : (Int32 × S2) ⊕ (Int32 × S2)} (C : Cxt p s m args meth c cX9_findPlace 4 RX9 wsX9_findPlace none D t κ A) (hf : fX9_findPlace_87 s_mo x1 x2 x3 k0 = some v) (HB : ∀ (z : Int32 × S2), v = .inl z → ∀ (H : Heap) (locs : List Loc) (ls : Array Slot), va_P D vwCl (wModel t a_mo z.2 lam) H → va_D A (wModel t a_mo z.2 lam) → va_S A s.heap H locs → lv_has ls 4 [(0, .ref (a_mo 0)), (1, .int x1), (2, .int z.1)] → W p l e (rmL 6) s m args below meth c H locs 0 0 (MQ below (gQ D rv w1 A) args s 0 0 A) (F0 m 18 ls [])) : ∀ (H : Heap) (locs : List Loc) (ls : Array Slot), va_P D vwCl (wModel t a_mo s_mo lam) H → va_D A (wModel t a_mo s_mo lam) → va_S A s.heap H locs → lv_has ls 4 [(0, .ref (a_mo 0)), (1, .int x1), (2, .int x2), (3, .int x3)] → W p l e (rmL 6) s m args below meth c H locs 0 0 (MQ below (gQ D rv w1 A) args s 0 0 A) (F0 m 87 ls [.int k0, .ref (a_mo 0)]) := by
  obtain ⟨hx, hb, hr, hml, hown, hts, hC0, hlk, hA⟩ := id C
  have hK := hC0.1
  intro H locs ls hP hD hS hl
  unfold fX9_findPlace_87 at hf
  obtain ⟨s11, hs11, hf⟩ := nm_ex hf
  refine va_put (D := D) (ci := 9) (v := .int k0) (ty := .int) (C := RX9) (T := TX9) (N := 37) hx hb hts iwX9_findPlace_X9 tyX9 tyX9_ok nmX9 hown hK hP hD hS 0 rfl rfl 26 (by decide) (hts _ lkX9_findPlace_f236) (fun _ h9 => h9) rfl (by decide +kernel) rfl rfl (Nat.le_of_ble_eq_true rfl) dX9_findPlace_87 (fun H locs hP hD hS => ?_)
  have hP : va_P D vwCl (wModel t a_mo s11 lam) H := by rw [hs11]; exact hP
  have hD : va_D A (wModel t a_mo s11 lam) := by rw [hs11]; exact hD
  refine lv_aload_n hx hb dX9_findPlace_90 rfl (lv_at hl 0 rfl) ?_
  refine lv_iload_n hx hb dX9_findPlace_91 rfl (lv_at hl 3 rfl) ?_
  refine lv_if_eq (tgt := 104) hx hb dX9_findPlace_92 (by decide) (fun c12 => ?_) (fun c12 => ?_)
  · rw [if_pos c12] at hf
    refine lv_aload_n hx hb dX9_findPlace_104 rfl (lv_at hl 0 rfl) ?_
    refine va_get (D := D) (ci := 9) (v := .int (s11 0 16)) (C := RX9) (T := TX9) (N := 37) hx hb hts iwX9_findPlace_X9 hown hK hP 0 rfl rfl 27 (by decide) (hts _ lkX9_findPlace_f240) (fun _ h9 => h9) rfl dX9_findPlace_105 ?_
    exact wX9_findPlace_108 C hf HB _ _ _ hP hD hS (lv_sub hl [0, 1, 2] rfl)
  · rw [if_neg c12] at hf
    refine lv_aload_n hx hb dX9_findPlace_95 rfl (lv_at hl 0 rfl) ?_
    refine va_get (D := D) (ci := 9) (v := .ref (a_mo 6)) (C := RX9) (T := TX9) (N := 37) hx hb hts iwX9_findPlace_X9 hown hK hP 0 rfl rfl 19 (by decide) (hts _ lkX9_findPlace_f26) (fun _ h9 => h9) rfl dX9_findPlace_96 ?_
    refine lv_iload_n hx hb dX9_findPlace_99 rfl (lv_at hl 1 rfl) ?_
    obtain ⟨b15, hf⟩ := gd_some hf
    refine va_iald hx hb hK hP 6 0 rfl rfl (ixb_in b15) dX9_findPlace_100 ?_
    refine lv_goto (tgt := 108) hx hb dX9_findPlace_101 (by decide) ?_
    exact wX9_findPlace_108 C hf HB _ _ _ hP hD hS (lv_sub hl [0, 1, 2] rfl)
set_option maxHeartbeats 4000000 in
set_option maxRecDepth 100000 in
theorem wX9_findPlace_73 {p : Program} {l : Launch} {e : Env} {s : State} {m : MethodId} {args : Array Value} {below : List Frame} {meth : Method} {c : Code} {D : va_G} {t : Nat → ClassId} {κ : Nat → Nat} {A : Nat → Prop} {a_mo : Nat → Nat} {s_mo : S2} {lam : S6} {x1 : Int32} {x2 : Int32} {k0 : Int32} {rv : Option Value} {w1 : va_W} {v : (Int32 × S2) ⊕ (Int32 × S2)} (C : Cxt p s m args meth c cX9_findPlace 4 RX9 wsX9_findPlace none D t κ A) (hf : fX9_findPlace_73 s_mo x1 x2 k0 = some v) (HB : ∀ (z : Int32 × S2), v = .inl z → ∀ (H : Heap) (locs : List Loc) (ls : Array Slot), va_P D vwCl (wModel t a_mo z.2 lam) H → va_D A (wModel t a_mo z.2 lam) → va_S A s.heap H locs → lv_has ls 4 [(0, .ref (a_mo 0)), (1, .int x1), (2, .int z.1)] → W p l e (rmL 6) s m args below meth c H locs 0 0 (MQ below (gQ D rv w1 A) args s 0 0 A) (F0 m 18 ls [])) : ∀ (H : Heap) (locs : List Loc) (ls : Array Slot), va_P D vwCl (wModel t a_mo s_mo lam) H → va_D A (wModel t a_mo s_mo lam) → va_S A s.heap H locs → lv_has ls 4 [(0, .ref (a_mo 0)), (1, .int x1), (2, .int x2)] → W p l e (rmL 6) s m args below meth c H locs 0 0 (MQ below (gQ D rv w1 A) args s 0 0 A) (F0 m 73 ls [.int k0]) := by
  obtain ⟨hx, hb, hr, hml, hown, hts, hC0, hlk, hA⟩ := id C
  have hK := hC0.1
  intro H locs ls hP hD hS hl
  unfold fX9_findPlace_73 at hf
  refine lv_istore_n (lv' := [(3, .int k0), (0, .ref (a_mo 0)), (1, .int x1), (2, .int x2)]) hx hb dX9_findPlace_73 rfl hl (by decide) rfl (fun ls hl => ?_)
  refine lv_aload_n hx hb dX9_findPlace_74 rfl (lv_at hl 1 rfl) ?_
  refine lv_iload_n hx hb dX9_findPlace_75 rfl (lv_at hl 0 rfl) ?_
  refine lv_if_eq (tgt := 83) hx hb dX9_findPlace_76 (by decide) (fun c10 => ?_) (fun c10 => ?_)
  · rw [if_pos c10] at hf
    refine lv_aload_n hx hb dX9_findPlace_83 rfl (lv_at hl 1 rfl) ?_
    refine va_get (D := D) (ci := 9) (v := .int (s_mo 0 15)) (C := RX9) (T := TX9) (N := 37) hx hb hts iwX9_findPlace_X9 hown hK hP 0 rfl rfl 26 (by decide) (hts _ lkX9_findPlace_f236) (fun _ h9 => h9) rfl dX9_findPlace_84 ?_
    exact wX9_findPlace_87 C hf HB _ _ _ hP hD hS (lv_sub hl [1, 2, 3, 0] rfl)
  · rw [if_neg c10] at hf
    refine lv_iload_n hx hb dX9_findPlace_79 rfl (lv_at hl 3 rfl) ?_
    refine lv_goto (tgt := 87) hx hb dX9_findPlace_80 (by decide) ?_
    exact wX9_findPlace_87 C hf HB _ _ _ hP hD hS (lv_sub hl [1, 2, 3, 0] rfl)
set_option maxHeartbeats 4000000 in
set_option maxRecDepth 100000 in
theorem wX9_findPlace_l18 {p : Program} {l : Launch} {e : Env} {s : State} {m : MethodId} {args : Array Value} {below : List Frame} {meth : Method} {c : Code} {D : va_G} {t : Nat → ClassId} {κ : Nat → Nat} {A : Nat → Prop} {a_mo : Nat → Nat} {lam : S6} {x1 : Int32} {rv : Option Value} {w1 : va_W} (C : Cxt p s m args meth c cX9_findPlace 4 RX9 wsX9_findPlace none D t κ A) : ∀ (n : Nat) (x2 : Int32) (s_mo : S2) (x : Int32 × S2), wh (fun (c : Int32 × S2) => fX9_findPlace_b18 c.2 x1 c.1) n (x2, s_mo) = some x → (∀ (z : Int32 × S2), x = z → ∀ (H : Heap) (locs : List Loc) (ls : Array Slot), va_P D vwCl (wModel t a_mo z.2 lam) H → va_D A (wModel t a_mo z.2 lam) → va_S A s.heap H locs → lv_has ls 4 [] → W p l e (rmL 6) s m args below meth c H locs 0 0 (MQ below (gQ D rv w1 A) args s 0 0 A) (F0 m 117 ls [])) → ∀ (H : Heap) (locs : List Loc) (ls : Array Slot), va_P D vwCl (wModel t a_mo s_mo lam) H → va_D A (wModel t a_mo s_mo lam) → va_S A s.heap H locs → lv_has ls 4 [(0, .ref (a_mo 0)), (1, .int x1), (2, .int x2)] → W p l e (rmL 6) s m args below meth c H locs 0 0 (MQ below (gQ D rv w1 A) args s 0 0 A) (F0 m 18 ls []) := by
  obtain ⟨hx, hb, hr, hml, hown, hts, hC0, hlk, hA⟩ := id C
  have hK := hC0.1
  intro n
  induction n with
  | zero =>
    intro x2 s_mo x h
    exact (wh_0 h).elim
  | succ n ih =>
    intro x2 s_mo x h HX H locs ls hP hD hS hl
    obtain ⟨v, hf, hB, hX⟩ := wh_step h
    have hf : fX9_findPlace_b18 s_mo x1 x2 = some v := hf
    have HB : ∀ (z : Int32 × S2), v = .inl z → ∀ (H : Heap) (locs : List Loc) (ls : Array Slot), va_P D vwCl (wModel t a_mo z.2 lam) H → va_D A (wModel t a_mo z.2 lam) → va_S A s.heap H locs → lv_has ls 4 [(0, .ref (a_mo 0)), (1, .int x1), (2, .int z.1)] → W p l e (rmL 6) s m args below meth c H locs 0 0 (MQ below (gQ D rv w1 A) args s 0 0 A) (F0 m 18 ls []) := fun z hz H locs ls hP hD hS hl => ih z.1 z.2 x (hB z hz) HX H locs ls hP hD hS hl
    have HX : ∀ (z : Int32 × S2), v = .inr z → ∀ (H : Heap) (locs : List Loc) (ls : Array Slot), va_P D vwCl (wModel t a_mo z.2 lam) H → va_D A (wModel t a_mo z.2 lam) → va_S A s.heap H locs → lv_has ls 4 [] → W p l e (rmL 6) s m args below meth c H locs 0 0 (MQ below (gQ D rv w1 A) args s 0 0 A) (F0 m 117 ls []) := fun z hz => HX z (hX _ hz).symm
    unfold fX9_findPlace_b18 at hf
    refine lv_iload_n hx hb dX9_findPlace_18 rfl (lv_at hl 2 rfl) ?_
    refine lv_aload_n hx hb dX9_findPlace_19 rfl (lv_at hl 0 rfl) ?_
    refine va_get (D := D) (ci := 9) (v := .int (s_mo 0 0)) (C := RX9) (T := TX9) (N := 37) hx hb hts iwX9_findPlace_X9 hown hK hP 0 rfl rfl 3 (by decide) (hts _ lkX9_findPlace_f81) (fun _ h9 => h9) rfl dX9_findPlace_20 ?_
    refine lv_icmp_ge (tgt := 117) hx hb dX9_findPlace_23 (by decide) (fun c4 => ?_) (fun c4 => ?_)
    · rw [if_pos c4] at hf
      obtain rfl := so_eq hf
      exact HX _ rfl _ _ _ hP hD hS (lv_sub hl [] rfl)
    · rw [if_neg c4] at hf
      refine lv_aload_n hx hb dX9_findPlace_26 rfl (lv_at hl 0 rfl) ?_
      refine va_get (D := D) (ci := 9) (v := .ref (a_mo 2)) (C := RX9) (T := TX9) (N := 37) hx hb hts iwX9_findPlace_X9 hown hK hP 0 rfl rfl 1 (by decide) (hts _ lkX9_findPlace_f13) (fun _ h9 => h9) rfl dX9_findPlace_27 ?_
      refine lv_bipush (v := 24) hx hb dX9_findPlace_30 (by decide) ?_
      refine lv_iconst (v := 5) hx hb dX9_findPlace_32 (by decide) ?_
      refine lv_iload_n hx hb dX9_findPlace_33 rfl (lv_at hl 1 rfl) ?_
      refine lv_imul hx hb dX9_findPlace_34 ?_
      refine lv_iadd hx hb dX9_findPlace_35 ?_
      refine lv_iconst (v := 4) hx hb dX9_findPlace_36 (by decide) ?_
      refine lv_iadd hx hb dX9_findPlace_37 ?_
      refine lv_iload_n hx hb dX9_findPlace_38 rfl (lv_at hl 2 rfl) ?_
      obtain ⟨b5, hf⟩ := gd_some hf
      obtain ⟨s6, hs6, hf⟩ := nm_ex hf
      refine va_iast hx hb hK hP hD hS 2 0 rfl rfl (ixb_in b5) dX9_findPlace_39 (fun H locs hP hD hS => ?_)
      have hP : va_P D vwCl (wModel t a_mo s6 lam) H := by rw [hs6]; exact hP
      have hD : va_D A (wModel t a_mo s6 lam) := by rw [hs6]; exact hD
      refine lv_aload_n hx hb dX9_findPlace_40 rfl (lv_at hl 0 rfl) ?_
      obtain ⟨v7, ev7, hf⟩ := bd_some hf
      refine gk_V0 C (As := []) (rest := []) (ci := 9) (q := (RX9, TX9, 37)) (q0 := 0) (cX9_drives_ok (l := l) (D := D) (t := t) (κ := κ) (a_mo := a_mo) (lam := lam) ev7) gX9_findPlace_X9_drives rfl ⟨rfl, rfl⟩ hdX9_drives ⟨Nat.le_of_ble_eq_true rfl, Nat.le_of_ble_eq_true rfl⟩ rfl rfl hP hD hS rfl hl.1 (Nat.le_of_ble_eq_true rfl) dX9_findPlace_41 (Nat.zero_le _) (Nat.zero_le _) (fun H locs hP hD hS => ?_)
      refine W.eq (g2 := F0 m 44 ls []) rfl ?_
      refine lv_aload_n hx hb dX9_findPlace_44 rfl (lv_at hl 0 rfl) ?_
      refine va_get (D := D) (ci := 9) (v := .ref (a_mo 6)) (C := RX9) (T := TX9) (N := 37) hx hb hts iwX9_findPlace_X9 hown hK hP 0 rfl rfl 19 (by decide) (hts _ lkX9_findPlace_f26) (fun _ h9 => h9) rfl dX9_findPlace_45 ?_
      refine lv_iload_n hx hb dX9_findPlace_48 rfl (lv_at hl 1 rfl) ?_
      obtain ⟨b8, hf⟩ := gd_some hf
      refine va_iald hx hb hK hP 6 0 rfl rfl (ixb_in b8) dX9_findPlace_49 ?_
      refine lv_bipush (v := -4) hx hb dX9_findPlace_50 (by decide) ?_
      refine lv_icmp_eq (tgt := 72) hx hb dX9_findPlace_52 (by decide) (fun c9 => ?_) (fun c9 => ?_)
      · rw [if_pos c9] at hf
        refine lv_iconst (v := 0) hx hb dX9_findPlace_72 (by decide) ?_
        exact wX9_findPlace_73 C hf HB _ _ _ hP hD hS (lv_sub hl [0, 1, 2] rfl)
      · rw [if_neg c9] at hf
        refine lv_aload_n hx hb dX9_findPlace_55 rfl (lv_at hl 0 rfl) ?_
        refine va_get (D := D) (ci := 9) (v := .ref (a_mo 6)) (C := RX9) (T := TX9) (N := 37) hx hb hts iwX9_findPlace_X9 hown hK hP 0 rfl rfl 19 (by decide) (hts _ lkX9_findPlace_f26) (fun _ h9 => h9) rfl dX9_findPlace_56 ?_
        refine lv_iload_n hx hb dX9_findPlace_59 rfl (lv_at hl 1 rfl) ?_
        refine va_iald hx hb hK hP 6 0 rfl rfl (ixb_in b8) dX9_findPlace_60 ?_
        refine lv_aload_n hx hb dX9_findPlace_61 rfl (lv_at hl 0 rfl) ?_
        refine va_get (D := D) (ci := 9) (v := .int (v7 0 16)) (C := RX9) (T := TX9) (N := 37) hx hb hts iwX9_findPlace_X9 hown hK hP 0 rfl rfl 27 (by decide) (hts _ lkX9_findPlace_f240) (fun _ h9 => h9) rfl dX9_findPlace_62 ?_
        refine lv_icmp_gt (tgt := 72) hx hb dX9_findPlace_65 (by decide) (fun c16 => ?_) (fun c16 => ?_)
        · rw [if_pos c16] at hf
          refine lv_iconst (v := 0) hx hb dX9_findPlace_72 (by decide) ?_
          exact wX9_findPlace_73 C hf HB _ _ _ hP hD hS (lv_sub hl [0, 1, 2] rfl)
        · rw [if_neg c16] at hf
          refine lv_iconst (v := 1) hx hb dX9_findPlace_68 (by decide) ?_
          refine lv_goto (tgt := 73) hx hb dX9_findPlace_69 (by decide) ?_
          exact wX9_findPlace_73 C hf HB _ _ _ hP hD hS (lv_sub hl [0, 1, 2] rfl)
set_option maxHeartbeats 4000000 in
set_option maxRecDepth 100000 in
theorem cX9_findPlace_ok {l : Launch} {D : va_G} {t : Nat → ClassId} {κ : Nat → Nat} {a_mo : Nat → Nat} {s_mo : S2} {lam : S6} {p1 : Int32} {out : S2} (hf : fX9_findPlace s_mo p1 = some out) : Ct l D t κ yX9_findPlace wsX9_findPlace (rmL 6) [.ref (a_mo 0), .int p1] (wModel t a_mo s_mo lam) none (wModel t a_mo out lam) := by
  refine Ct.ofW (own := RX9) (cc := cX9_findPlace) (maxL := 4) (ret := none) (by decide) rfl rfl (Nat.le_of_ble_eq_true rfl) ?_
  intro p e s m below meth c A C hP hD ls hl
  have hS : va_S A s.heap s.heap [] := va_S.rf
  obtain ⟨hx, hb, hr, hml, hown, hts, hC0, hlk, hA⟩ := id C
  have hK := hC0.1
  have hl : lv_has ls 4 [(0, .ref (a_mo 0)), (1, .int p1)] := hl
  unfold fX9_findPlace at hf
  refine lv_aload_n hx hb dX9_findPlace_0 rfl (lv_at hl 0 rfl) ?_
  refine lv_bipush (v := -4) hx hb dX9_findPlace_1 (by decide) ?_
  obtain ⟨s1, hs1, hf⟩ := nm_ex hf
  refine va_put (D := D) (ci := 9) (v := .int (-4 : Int32)) (ty := .int) (C := RX9) (T := TX9) (N := 37) hx hb hts iwX9_findPlace_X9 tyX9 tyX9_ok nmX9 hown hK hP hD hS 0 rfl rfl 26 (by decide) (hts _ lkX9_findPlace_f236) (fun _ h9 => h9) rfl (by decide +kernel) rfl rfl (Nat.le_of_ble_eq_true rfl) dX9_findPlace_3 (fun H locs hP hD hS => ?_)
  have hP : va_P D vwCl (wModel t a_mo s1 lam) H := by rw [hs1]; exact hP
  have hD : va_D A (wModel t a_mo s1 lam) := by rw [hs1]; exact hD
  refine lv_aload_n hx hb dX9_findPlace_6 rfl (lv_at hl 0 rfl) ?_
  refine lv_ldc hx hb hown (hts _ lkX9_findPlace_c239) dX9_findPlace_7 ?_
  obtain ⟨s2, hs2, hf⟩ := nm_ex hf
  refine va_put (D := D) (ci := 9) (v := .int (1000000 : Int32)) (ty := .int) (C := RX9) (T := TX9) (N := 37) hx hb hts iwX9_findPlace_X9 tyX9 tyX9_ok nmX9 hown hK hP hD hS 0 rfl rfl 27 (by decide) (hts _ lkX9_findPlace_f240) (fun _ h9 => h9) rfl (by decide +kernel) rfl rfl (Nat.le_of_ble_eq_true rfl) dX9_findPlace_9 (fun H locs hP hD hS => ?_)
  have hP : va_P D vwCl (wModel t a_mo s2 lam) H := by rw [hs2]; exact hP
  have hD : va_D A (wModel t a_mo s2 lam) := by rw [hs2]; exact hD
  refine lv_aload_n hx hb dX9_findPlace_12 rfl (lv_at hl 0 rfl) ?_
  obtain ⟨v3, ev3, hf⟩ := bd_some hf
  refine gk_V0 C (As := []) (rest := []) (ci := 9) (q := (RX9, TX9, 37)) (q0 := 0) (cX9_starts_ok (l := l) (D := D) (t := t) (κ := κ) (a_mo := a_mo) (lam := lam) ev3) gX9_findPlace_X9_starts rfl ⟨rfl, rfl⟩ hdX9_starts ⟨Nat.le_of_ble_eq_true rfl, Nat.le_of_ble_eq_true rfl⟩ rfl rfl hP hD hS rfl hl.1 (Nat.le_of_ble_eq_true rfl) dX9_findPlace_13 (Nat.zero_le _) (Nat.zero_le _) (fun H locs hP hD hS => ?_)
  refine W.eq (g2 := F0 m 16 ls []) rfl ?_
  refine lv_iconst (v := 0) hx hb dX9_findPlace_16 (by decide) ?_
  refine lv_istore_n (lv' := [(2, .int (0 : Int32)), (0, .ref (a_mo 0)), (1, .int p1)]) hx hb dX9_findPlace_17 rfl hl (by decide) rfl (fun ls hl => ?_)
  obtain ⟨x17, ex17, hf⟩ := bd_some hf
  refine wX9_findPlace_l18 C 5000 (0 : Int32) v3 x17 ex17 (fun c9 h9 H locs ls hP hD hS hl => ?_) _ _ _ hP hD hS (lv_sub hl [1, 2, 0] rfl)
  subst h9
  obtain rfl := so_eq hf
  exact g_vret C hP hD hS dX9_findPlace_117
/-! CoachCourtModel.place -/
def fX9_place (s_mo : S2) (p1 : Int32) (p2 : Int32) : Option (Int32 × S2) :=
  (fX9_isParty s_mo p1).bind fun v1 =>
  if v1 = (0 : Int32) then
    (some ((-1 : Int32), s_mo))
  else
    ((fX9_isPart p2).bind fun v3 =>
    if v3 = (0 : Int32) then
      (some ((-1 : Int32), s_mo))
    else
      ((fX9_findPlace s_mo p1).bind fun v5 =>
      if (v5 0 15) = (-4 : Int32) then
        (some ((-4 : Int32), v5))
      else
        (if p2 = (0 : Int32) then
          (some (v5 0 15, v5))
        else
          (some (v5 0 16, v5)))))
theorem hdX9_place : yX9_place.cls = RX9 ∧ yX9_place.cls ≠ "java/lang/invoke/MethodHandle" ∧ yX9_place.cls ≠ "java/lang/invoke/VarHandle" ∧ (parseMethodDescriptor yX9_place.desc).map (fun d => d.parameters.length) = some 2 := by decide +kernel
theorem iwX9_place_X9 : ∀ w ∈ wsX90, w ∈ wsX9_place := by decide +kernel
theorem lkX9_place_f236 : Cond.fieldLink RX9 236 "CoachCourtModel" "bestStone" "I" ∈ wsX9_place := by decide +kernel
theorem lkX9_place_f240 : Cond.fieldLink RX9 240 "CoachCourtModel" "bestMile" "I" ∈ wsX9_place := by decide +kernel
set_option maxHeartbeats 4000000 in
set_option maxRecDepth 100000 in
theorem cX9_place_ok {l : Launch} {D : va_G} {t : Nat → ClassId} {κ : Nat → Nat} {a_mo : Nat → Nat} {s_mo : S2} {lam : S6} {p1 : Int32} {p2 : Int32} {out : Int32 × S2} (hf : fX9_place s_mo p1 p2 = some out) : Ct l D t κ yX9_place wsX9_place (rmL 7) [.ref (a_mo 0), .int p1, .int p2] (wModel t a_mo s_mo lam) (some (.int out.1)) (wModel t a_mo out.2 lam) := by
  refine Ct.ofW (own := RX9) (cc := cX9_place) (maxL := 3) (ret := (some .int)) (by decide) rfl rfl (Nat.le_of_ble_eq_true rfl) ?_
  intro p e s m below meth c A C hP hD ls hl
  have hS : va_S A s.heap s.heap [] := va_S.rf
  obtain ⟨hx, hb, hr, hml, hown, hts, hC0, hlk, hA⟩ := id C
  have hK := hC0.1
  have hl : lv_has ls 3 [(0, .ref (a_mo 0)), (1, .int p1), (2, .int p2)] := hl
  unfold fX9_place at hf
  refine lv_aload_n hx hb dX9_place_0 rfl (lv_at hl 0 rfl) ?_
  refine lv_iload_n hx hb dX9_place_1 rfl (lv_at hl 1 rfl) ?_
  obtain ⟨v1, ev1, hf⟩ := bd_some hf
  refine gk_V0 C (As := [.int p1]) (rest := []) (ci := 9) (q := (RX9, TX9, 37)) (q0 := 0) (cX9_isParty_ok (l := l) (D := D) (t := t) (κ := κ) (a_mo := a_mo) (lam := lam) ev1) gX9_place_X9_isParty rfl ⟨rfl, rfl⟩ hdX9_isParty ⟨Nat.le_of_ble_eq_true rfl, Nat.le_of_ble_eq_true rfl⟩ rfl rfl hP hD hS rfl hl.1 (Nat.le_of_ble_eq_true rfl) dX9_place_2 (Nat.zero_le _) (Nat.zero_le _) (fun H locs hP hD hS => ?_)
  refine W.eq (g2 := F0 m 5 ls [.int v1]) rfl ?_
  refine lv_if_eq (tgt := 15) hx hb dX9_place_5 (by decide) (fun c2 => ?_) (fun c2 => ?_)
  · rw [if_pos c2] at hf
    refine lv_iconst (v := -1) hx hb dX9_place_15 (by decide) ?_
    obtain rfl := so_eq hf
    exact g_iret C hP hD hS dX9_place_16
  · rw [if_neg c2] at hf
    refine lv_iload_n hx hb dX9_place_8 rfl (lv_at hl 2 rfl) ?_
    obtain ⟨v3, ev3, hf⟩ := bd_some hf
    refine gk_S C (As := [.int p2]) (rest := []) (cX9_isPart_ok (l := l) (D := D) (t := t) (κ := κ) ev3) gX9_place_X9_isPart rfl ⟨rfl, rfl⟩ hdX9_isPart ⟨Nat.le_of_ble_eq_true rfl, Nat.le_of_ble_eq_true rfl⟩ hP hD hS rfl hl.1 (Nat.le_of_ble_eq_true rfl) dX9_place_9 (Nat.zero_le _) (Nat.zero_le _) (fun H locs hP hD hS => ?_)
    refine W.eq (g2 := F0 m 12 ls [.int v3]) rfl ?_
    refine lv_if_ne (tgt := 17) hx hb dX9_place_12 (by decide) (fun c4 => ?_) (fun c4 => ?_)
    · rw [if_neg c4] at hf
      refine lv_aload_n hx hb dX9_place_17 rfl (lv_at hl 0 rfl) ?_
      refine lv_iload_n hx hb dX9_place_18 rfl (lv_at hl 1 rfl) ?_
      obtain ⟨v5, ev5, hf⟩ := bd_some hf
      refine gk_V0 C (As := [.int p1]) (rest := []) (ci := 9) (q := (RX9, TX9, 37)) (q0 := 0) (cX9_findPlace_ok (l := l) (D := D) (t := t) (κ := κ) (a_mo := a_mo) (lam := lam) ev5) gX9_place_X9_findPlace rfl ⟨rfl, rfl⟩ hdX9_findPlace ⟨Nat.le_of_ble_eq_true rfl, Nat.le_of_ble_eq_true rfl⟩ rfl rfl hP hD hS rfl hl.1 (Nat.le_of_ble_eq_true rfl) dX9_place_19 (Nat.zero_le _) (Nat.zero_le _) (fun H locs hP hD hS => ?_)
      refine W.eq (g2 := F0 m 22 ls []) rfl ?_
      refine lv_aload_n hx hb dX9_place_22 rfl (lv_at hl 0 rfl) ?_
      refine va_get (D := D) (ci := 9) (v := .int (v5 0 15)) (C := RX9) (T := TX9) (N := 37) hx hb hts iwX9_place_X9 hown hK hP 0 rfl rfl 26 (by decide) (hts _ lkX9_place_f236) (fun _ h9 => h9) rfl dX9_place_23 ?_
      refine lv_bipush (v := -4) hx hb dX9_place_26 (by decide) ?_
      refine lv_icmp_ne (tgt := 36) hx hb dX9_place_28 (by decide) (fun c6 => ?_) (fun c6 => ?_)
      · rw [if_neg c6] at hf
        refine lv_iload_n hx hb dX9_place_36 rfl (lv_at hl 2 rfl) ?_
        refine lv_if_ne (tgt := 47) hx hb dX9_place_37 (by decide) (fun c7 => ?_) (fun c7 => ?_)
        · rw [if_neg c7] at hf
          refine lv_aload_n hx hb dX9_place_47 rfl (lv_at hl 0 rfl) ?_
          refine va_get (D := D) (ci := 9) (v := .int (v5 0 16)) (C := RX9) (T := TX9) (N := 37) hx hb hts iwX9_place_X9 hown hK hP 0 rfl rfl 27 (by decide) (hts _ lkX9_place_f240) (fun _ h9 => h9) rfl dX9_place_48 ?_
          obtain rfl := so_eq hf
          exact g_iret C hP hD hS dX9_place_51
        · rw [if_pos c7] at hf
          refine lv_aload_n hx hb dX9_place_40 rfl (lv_at hl 0 rfl) ?_
          refine va_get (D := D) (ci := 9) (v := .int (v5 0 15)) (C := RX9) (T := TX9) (N := 37) hx hb hts iwX9_place_X9 hown hK hP 0 rfl rfl 26 (by decide) (hts _ lkX9_place_f236) (fun _ h9 => h9) rfl dX9_place_41 ?_
          refine lv_goto (tgt := 51) hx hb dX9_place_44 (by decide) ?_
          obtain rfl := so_eq hf
          exact g_iret C hP hD hS dX9_place_51
      · rw [if_pos c6] at hf
        refine lv_bipush (v := -4) hx hb dX9_place_31 (by decide) ?_
        refine lv_goto (tgt := 51) hx hb dX9_place_33 (by decide) ?_
        obtain rfl := so_eq hf
        exact g_iret C hP hD hS dX9_place_51
    · rw [if_pos c4] at hf
      refine lv_iconst (v := -1) hx hb dX9_place_15 (by decide) ?_
      obtain rfl := so_eq hf
      exact g_iret C hP hD hS dX9_place_16
/-! CoachCourtModel.never -/
def fX9_never_32 (s_mo : S2) (x2 : Int32) (k0 : Int32) (k1 : Int32) : Option ((Int32 × Int32 × S2) ⊕ (Int32 × Int32 × S2)) :=
  (fX9_flag k0).bind fun v4 =>
  nm (k1 ||| (v4 <<< (x2 &&& 31))) fun y5 =>
  nm (x2 + (1 : Int32)) fun y6 =>
  some (.inl (y5, y6, s_mo))
def fX9_never_b4 (s_mo : S2) (x1 : Int32) (x2 : Int32) : Option ((Int32 × Int32 × S2) ⊕ (Int32 × Int32 × S2)) :=
  if (s_mo 0 1) ≤ x2 then
    (some (.inr (x1, x2, s_mo)))
  else
    ((fX9_findPlace s_mo x2).bind fun v2 =>
    if (v2 0 15) = (-4 : Int32) then
      (fX9_never_32 v2 x2 (1 : Int32) x1)
    else
      (fX9_never_32 v2 x2 (0 : Int32) x1))
def fX9_never (s_mo : S2) : Option (Int32 × S2) :=
  (wh (fun (c : Int32 × Int32 × S2) => fX9_never_b4 c.2.2 c.1 c.2.1) 5000 ((0 : Int32), (0 : Int32), s_mo)).bind fun x7 =>
  some (x7.1, x7.2.2)
theorem hdX9_never : yX9_never.cls = RX9 ∧ yX9_never.cls ≠ "java/lang/invoke/MethodHandle" ∧ yX9_never.cls ≠ "java/lang/invoke/VarHandle" ∧ (parseMethodDescriptor yX9_never.desc).map (fun d => d.parameters.length) = some 0 := by decide +kernel
theorem iwX9_never_X9 : ∀ w ∈ wsX90, w ∈ wsX9_never := by decide +kernel
theorem lkX9_never_f84 : Cond.fieldLink RX9 84 "CoachCourtModel" "parties" "I" ∈ wsX9_never := by decide +kernel
theorem lkX9_never_f236 : Cond.fieldLink RX9 236 "CoachCourtModel" "bestStone" "I" ∈ wsX9_never := by decide +kernel
set_option maxHeartbeats 4000000 in
set_option maxRecDepth 100000 in
theorem wX9_never_32 {p : Program} {l : Launch} {e : Env} {s : State} {m : MethodId} {args : Array Value} {below : List Frame} {meth : Method} {c : Code} {D : va_G} {t : Nat → ClassId} {κ : Nat → Nat} {A : Nat → Prop} {a_mo : Nat → Nat} {s_mo : S2} {lam : S6} {x2 : Int32} {k0 : Int32} {k1 : Int32} {rv : Option Value} {w1 : va_W} {v : (Int32 × Int32 × S2) ⊕ (Int32 × Int32 × S2)} (C : Cxt p s m args meth c cX9_never 3 RX9 wsX9_never (some .int) D t κ A) (hf : fX9_never_32 s_mo x2 k0 k1 = some v) (HB : ∀ (z : Int32 × Int32 × S2), v = .inl z → ∀ (H : Heap) (locs : List Loc) (ls : Array Slot), va_P D vwCl (wModel t a_mo z.2.2 lam) H → va_D A (wModel t a_mo z.2.2 lam) → va_S A s.heap H locs → lv_has ls 3 [(0, .ref (a_mo 0)), (1, .int z.1), (2, .int z.2.1)] → W p l e (rmL 7) s m args below meth c H locs 0 0 (MQ below (gQ D rv w1 A) args s 0 0 A) (F0 m 4 ls [])) : ∀ (H : Heap) (locs : List Loc) (ls : Array Slot), va_P D vwCl (wModel t a_mo s_mo lam) H → va_D A (wModel t a_mo s_mo lam) → va_S A s.heap H locs → lv_has ls 3 [(0, .ref (a_mo 0)), (2, .int x2)] → W p l e (rmL 7) s m args below meth c H locs 0 0 (MQ below (gQ D rv w1 A) args s 0 0 A) (F0 m 32 ls [.int k0, .int k1]) := by
  obtain ⟨hx, hb, hr, hml, hown, hts, hC0, hlk, hA⟩ := id C
  have hK := hC0.1
  intro H locs ls hP hD hS hl
  unfold fX9_never_32 at hf
  obtain ⟨v4, ev4, hf⟩ := bd_some hf
  refine gk_S C (As := [.int k0]) (rest := [.int k1]) (cX9_flag_ok (l := l) (D := D) (t := t) (κ := κ) ev4) gX9_never_X9_flag rfl ⟨rfl, rfl⟩ hdX9_flag ⟨Nat.le_of_ble_eq_true rfl, Nat.le_of_ble_eq_true rfl⟩ hP hD hS rfl hl.1 (Nat.le_of_ble_eq_true rfl) dX9_never_32 (Nat.zero_le _) (Nat.zero_le _) (fun H locs hP hD hS => ?_)
  refine W.eq (g2 := F0 m 35 ls [.int v4, .int k1]) rfl ?_
  refine lv_iload_n hx hb dX9_never_35 rfl (lv_at hl 1 rfl) ?_
  refine lv_ishl hx hb dX9_never_36 ?_
  refine lv_ior hx hb dX9_never_37 ?_
  obtain ⟨y5, hy5, hf⟩ := nm_ex hf
  refine W.eq (g2 := F0 m 38 ls [.int y5]) (by rw [hy5]) ?_
  refine lv_istore_n (lv' := [(1, .int y5), (0, .ref (a_mo 0)), (2, .int x2)]) hx hb dX9_never_38 rfl hl (by decide) rfl (fun ls hl => ?_)
  obtain ⟨y6, hy6, hf⟩ := nm_ex hf
  refine lv_iinc (v := y6) (lv' := [(2, .int y6), (1, .int y5), (0, .ref (a_mo 0))]) hx hb dX9_never_39 hl (k := 2) rfl (by rw [hy6]; rfl) (by decide) rfl (fun ls hl => ?_)
  refine lv_goto (tgt := 4) hx hb dX9_never_42 (by decide) ?_
  obtain rfl := so_eq hf
  exact HB _ rfl _ _ _ hP hD hS (lv_sub hl [2, 1, 0] rfl)
set_option maxHeartbeats 4000000 in
set_option maxRecDepth 100000 in
theorem wX9_never_l4 {p : Program} {l : Launch} {e : Env} {s : State} {m : MethodId} {args : Array Value} {below : List Frame} {meth : Method} {c : Code} {D : va_G} {t : Nat → ClassId} {κ : Nat → Nat} {A : Nat → Prop} {a_mo : Nat → Nat} {lam : S6} {rv : Option Value} {w1 : va_W} (C : Cxt p s m args meth c cX9_never 3 RX9 wsX9_never (some .int) D t κ A) : ∀ (n : Nat) (x1 : Int32) (x2 : Int32) (s_mo : S2) (x : Int32 × Int32 × S2), wh (fun (c : Int32 × Int32 × S2) => fX9_never_b4 c.2.2 c.1 c.2.1) n (x1, x2, s_mo) = some x → (∀ (z : Int32 × Int32 × S2), x = z → ∀ (H : Heap) (locs : List Loc) (ls : Array Slot), va_P D vwCl (wModel t a_mo z.2.2 lam) H → va_D A (wModel t a_mo z.2.2 lam) → va_S A s.heap H locs → lv_has ls 3 [(1, .int z.1)] → W p l e (rmL 7) s m args below meth c H locs 0 0 (MQ below (gQ D rv w1 A) args s 0 0 A) (F0 m 45 ls [])) → ∀ (H : Heap) (locs : List Loc) (ls : Array Slot), va_P D vwCl (wModel t a_mo s_mo lam) H → va_D A (wModel t a_mo s_mo lam) → va_S A s.heap H locs → lv_has ls 3 [(0, .ref (a_mo 0)), (1, .int x1), (2, .int x2)] → W p l e (rmL 7) s m args below meth c H locs 0 0 (MQ below (gQ D rv w1 A) args s 0 0 A) (F0 m 4 ls []) := by
  obtain ⟨hx, hb, hr, hml, hown, hts, hC0, hlk, hA⟩ := id C
  have hK := hC0.1
  intro n
  induction n with
  | zero =>
    intro x1 x2 s_mo x h
    exact (wh_0 h).elim
  | succ n ih =>
    intro x1 x2 s_mo x h HX H locs ls hP hD hS hl
    obtain ⟨v, hf, hB, hX⟩ := wh_step h
    have hf : fX9_never_b4 s_mo x1 x2 = some v := hf
    have HB : ∀ (z : Int32 × Int32 × S2), v = .inl z → ∀ (H : Heap) (locs : List Loc) (ls : Array Slot), va_P D vwCl (wModel t a_mo z.2.2 lam) H → va_D A (wModel t a_mo z.2.2 lam) → va_S A s.heap H locs → lv_has ls 3 [(0, .ref (a_mo 0)), (1, .int z.1), (2, .int z.2.1)] → W p l e (rmL 7) s m args below meth c H locs 0 0 (MQ below (gQ D rv w1 A) args s 0 0 A) (F0 m 4 ls []) := fun z hz H locs ls hP hD hS hl => ih z.1 z.2.1 z.2.2 x (hB z hz) HX H locs ls hP hD hS hl
    have HX : ∀ (z : Int32 × Int32 × S2), v = .inr z → ∀ (H : Heap) (locs : List Loc) (ls : Array Slot), va_P D vwCl (wModel t a_mo z.2.2 lam) H → va_D A (wModel t a_mo z.2.2 lam) → va_S A s.heap H locs → lv_has ls 3 [(1, .int z.1)] → W p l e (rmL 7) s m args below meth c H locs 0 0 (MQ below (gQ D rv w1 A) args s 0 0 A) (F0 m 45 ls []) := fun z hz => HX z (hX _ hz).symm
    unfold fX9_never_b4 at hf
    refine lv_iload_n hx hb dX9_never_4 rfl (lv_at hl 2 rfl) ?_
    refine lv_aload_n hx hb dX9_never_5 rfl (lv_at hl 0 rfl) ?_
    refine va_get (D := D) (ci := 9) (v := .int (s_mo 0 1)) (C := RX9) (T := TX9) (N := 37) hx hb hts iwX9_never_X9 hown hK hP 0 rfl rfl 4 (by decide) (hts _ lkX9_never_f84) (fun _ h9 => h9) rfl dX9_never_6 ?_
    refine lv_icmp_ge (tgt := 45) hx hb dX9_never_9 (by decide) (fun c1 => ?_) (fun c1 => ?_)
    · rw [if_pos c1] at hf
      obtain rfl := so_eq hf
      exact HX _ rfl _ _ _ hP hD hS (lv_sub hl [1] rfl)
    · rw [if_neg c1] at hf
      refine lv_aload_n hx hb dX9_never_12 rfl (lv_at hl 0 rfl) ?_
      refine lv_iload_n hx hb dX9_never_13 rfl (lv_at hl 2 rfl) ?_
      obtain ⟨v2, ev2, hf⟩ := bd_some hf
      refine gk_V0 C (As := [.int x2]) (rest := []) (ci := 9) (q := (RX9, TX9, 37)) (q0 := 0) (cX9_findPlace_ok (l := l) (D := D) (t := t) (κ := κ) (a_mo := a_mo) (lam := lam) ev2) gX9_never_X9_findPlace rfl ⟨rfl, rfl⟩ hdX9_findPlace ⟨Nat.le_of_ble_eq_true rfl, Nat.le_of_ble_eq_true rfl⟩ rfl rfl hP hD hS rfl hl.1 (Nat.le_of_ble_eq_true rfl) dX9_never_14 (Nat.zero_le _) (Nat.zero_le _) (fun H locs hP hD hS => ?_)
      refine W.eq (g2 := F0 m 17 ls []) rfl ?_
      refine lv_iload_n hx hb dX9_never_17 rfl (lv_at hl 1 rfl) ?_
      refine lv_aload_n hx hb dX9_never_18 rfl (lv_at hl 0 rfl) ?_
      refine va_get (D := D) (ci := 9) (v := .int (v2 0 15)) (C := RX9) (T := TX9) (N := 37) hx hb hts iwX9_never_X9 hown hK hP 0 rfl rfl 26 (by decide) (hts _ lkX9_never_f236) (fun _ h9 => h9) rfl dX9_never_19 ?_
      refine lv_bipush (v := -4) hx hb dX9_never_22 (by decide) ?_
      refine lv_icmp_ne (tgt := 31) hx hb dX9_never_24 (by decide) (fun c3 => ?_) (fun c3 => ?_)
      · rw [if_neg c3] at hf
        refine lv_iconst (v := 0) hx hb dX9_never_31 (by decide) ?_
        exact wX9_never_32 C hf HB _ _ _ hP hD hS (lv_sub hl [0, 2] rfl)
      · rw [if_pos c3] at hf
        refine lv_iconst (v := 1) hx hb dX9_never_27 (by decide) ?_
        refine lv_goto (tgt := 32) hx hb dX9_never_28 (by decide) ?_
        exact wX9_never_32 C hf HB _ _ _ hP hD hS (lv_sub hl [0, 2] rfl)
set_option maxHeartbeats 4000000 in
set_option maxRecDepth 100000 in
theorem cX9_never_ok {l : Launch} {D : va_G} {t : Nat → ClassId} {κ : Nat → Nat} {a_mo : Nat → Nat} {s_mo : S2} {lam : S6} {out : Int32 × S2} (hf : fX9_never s_mo = some out) : Ct l D t κ yX9_never wsX9_never (rmL 7) [.ref (a_mo 0)] (wModel t a_mo s_mo lam) (some (.int out.1)) (wModel t a_mo out.2 lam) := by
  refine Ct.ofW (own := RX9) (cc := cX9_never) (maxL := 3) (ret := (some .int)) (by decide) rfl rfl (Nat.le_of_ble_eq_true rfl) ?_
  intro p e s m below meth c A C hP hD ls hl
  have hS : va_S A s.heap s.heap [] := va_S.rf
  obtain ⟨hx, hb, hr, hml, hown, hts, hC0, hlk, hA⟩ := id C
  have hK := hC0.1
  have hl : lv_has ls 3 [(0, .ref (a_mo 0))] := hl
  unfold fX9_never at hf
  refine lv_iconst (v := 0) hx hb dX9_never_0 (by decide) ?_
  refine lv_istore_n (lv' := [(1, .int (0 : Int32)), (0, .ref (a_mo 0))]) hx hb dX9_never_1 rfl hl (by decide) rfl (fun ls hl => ?_)
  refine lv_iconst (v := 0) hx hb dX9_never_2 (by decide) ?_
  refine lv_istore_n (lv' := [(2, .int (0 : Int32)), (1, .int (0 : Int32)), (0, .ref (a_mo 0))]) hx hb dX9_never_3 rfl hl (by decide) rfl (fun ls hl => ?_)
  obtain ⟨x7, ex7, hf⟩ := bd_some hf
  refine wX9_never_l4 C 5000 (0 : Int32) (0 : Int32) s_mo x7 ex7 (fun c9 h9 H locs ls hP hD hS hl => ?_) _ _ _ hP hD hS (lv_sub hl [2, 1, 0] rfl)
  subst h9
  refine lv_iload_n hx hb dX9_never_45 rfl (lv_at hl 0 rfl) ?_
  obtain rfl := so_eq hf
  exact g_iret C hP hD hS dX9_never_46
/-! CoachCourtModel.oats -/
def fX9_oats_b16 (s_mo : S2) (x1 : Int32) (x2 : Int32) : Option ((Int32 × S2) ⊕ ((Int32 × S2) ⊕ (Int32 × S2))) :=
  if (99 : Int32) < x2 then
    (some (.inr (.inl (x2, s_mo))))
  else
    (gd (ixb (((24 : Int32) + ((5 : Int32) * x1)) + (1 : Int32)) 59) <|
    nm (sE s_mo 2 (Int32.toNatClampNeg (((24 : Int32) + ((5 : Int32) * x1)) + (1 : Int32))) x2) fun s6 =>
    (fX9_drives s6).bind fun v7 =>
    gd (ixb x1 4) <|
    if (v7 6 (Int32.toNatClampNeg x1)) = (-4 : Int32) then
      (nm (x2 + (1 : Int32)) fun y10 =>
      some (.inl (y10, v7)))
    else
      (some (.inr (.inr (x2, v7)))))
def fX9_oats (s_mo : S2) (p1 : Int32) : Option (Int32 × S2) :=
  (fX9_isParty s_mo p1).bind fun v1 =>
  if v1 = (0 : Int32) then
    (some ((-1 : Int32), s_mo))
  else
    ((fX9_starts s_mo).bind fun v3 =>
    (wh (fun (c : Int32 × S2) => fX9_oats_b16 c.2 p1 c.1) 5000 ((0 : Int32), v3)).bind fun x11 =>
    Sum.elim (fun q12 =>
      some ((-4 : Int32), q12.2)) (fun r13 => some r13) x11)
theorem hdX9_oats : yX9_oats.cls = RX9 ∧ yX9_oats.cls ≠ "java/lang/invoke/MethodHandle" ∧ yX9_oats.cls ≠ "java/lang/invoke/VarHandle" ∧ (parseMethodDescriptor yX9_oats.desc).map (fun d => d.parameters.length) = some 1 := by decide +kernel
theorem iwX9_oats_X9 : ∀ w ∈ wsX90, w ∈ wsX9_oats := by decide +kernel
theorem lkX9_oats_f13 : Cond.fieldLink RX9 13 "CoachCourtModel" "now" "[I" ∈ wsX9_oats := by decide +kernel
theorem lkX9_oats_f26 : Cond.fieldLink RX9 26 "CoachCourtModel" "verdict" "[I" ∈ wsX9_oats := by decide +kernel
set_option maxHeartbeats 4000000 in
set_option maxRecDepth 100000 in
theorem wX9_oats_l16 {p : Program} {l : Launch} {e : Env} {s : State} {m : MethodId} {args : Array Value} {below : List Frame} {meth : Method} {c : Code} {D : va_G} {t : Nat → ClassId} {κ : Nat → Nat} {A : Nat → Prop} {a_mo : Nat → Nat} {lam : S6} {x1 : Int32} {rv : Option Value} {w1 : va_W} (C : Cxt p s m args meth c cX9_oats 3 RX9 wsX9_oats (some .int) D t κ A) : ∀ (n : Nat) (x2 : Int32) (s_mo : S2) (x : (Int32 × S2) ⊕ (Int32 × S2)), wh (fun (c : Int32 × S2) => fX9_oats_b16 c.2 x1 c.1) n (x2, s_mo) = some x → (∀ (z : Int32 × S2), x = .inl z → ∀ (H : Heap) (locs : List Loc) (ls : Array Slot), va_P D vwCl (wModel t a_mo z.2 lam) H → va_D A (wModel t a_mo z.2 lam) → va_S A s.heap H locs → lv_has ls 3 [] → W p l e (rmL 6) s m args below meth c H locs 0 0 (MQ below (gQ D rv w1 A) args s 0 0 A) (F0 m 59 ls [])) → (∀ (r : Int32 × S2), x = .inr r → rv = (some (.int r.1)) ∧ w1 = (wModel t a_mo r.2 lam)) → ∀ (H : Heap) (locs : List Loc) (ls : Array Slot), va_P D vwCl (wModel t a_mo s_mo lam) H → va_D A (wModel t a_mo s_mo lam) → va_S A s.heap H locs → lv_has ls 3 [(0, .ref (a_mo 0)), (1, .int x1), (2, .int x2)] → W p l e (rmL 6) s m args below meth c H locs 0 0 (MQ below (gQ D rv w1 A) args s 0 0 A) (F0 m 16 ls []) := by
  obtain ⟨hx, hb, hr, hml, hown, hts, hC0, hlk, hA⟩ := id C
  have hK := hC0.1
  intro n
  induction n with
  | zero =>
    intro x2 s_mo x h
    exact (wh_0 h).elim
  | succ n ih =>
    intro x2 s_mo x h HX HR H locs ls hP hD hS hl
    obtain ⟨v, hf, hB, hX⟩ := wh_step h
    have hf : fX9_oats_b16 s_mo x1 x2 = some v := hf
    have HB : ∀ (z : Int32 × S2), v = .inl z → ∀ (H : Heap) (locs : List Loc) (ls : Array Slot), va_P D vwCl (wModel t a_mo z.2 lam) H → va_D A (wModel t a_mo z.2 lam) → va_S A s.heap H locs → lv_has ls 3 [(0, .ref (a_mo 0)), (1, .int x1), (2, .int z.1)] → W p l e (rmL 6) s m args below meth c H locs 0 0 (MQ below (gQ D rv w1 A) args s 0 0 A) (F0 m 16 ls []) := fun z hz H locs ls hP hD hS hl => ih z.1 z.2 x (hB z hz) HX HR H locs ls hP hD hS hl
    have HX : ∀ (z : Int32 × S2), v = .inr (.inl z) → ∀ (H : Heap) (locs : List Loc) (ls : Array Slot), va_P D vwCl (wModel t a_mo z.2 lam) H → va_D A (wModel t a_mo z.2 lam) → va_S A s.heap H locs → lv_has ls 3 [] → W p l e (rmL 6) s m args below meth c H locs 0 0 (MQ below (gQ D rv w1 A) args s 0 0 A) (F0 m 59 ls []) := fun z hz => HX z (hX _ hz).symm
    have HR : ∀ (r : Int32 × S2), v = .inr (.inr r) → rv = (some (.int r.1)) ∧ w1 = (wModel t a_mo r.2 lam) := fun r hz => HR r (hX _ hz).symm
    unfold fX9_oats_b16 at hf
    refine lv_iload_n hx hb dX9_oats_16 rfl (lv_at hl 2 rfl) ?_
    refine lv_bipush (v := 99) hx hb dX9_oats_17 (by decide) ?_
    refine lv_icmp_gt (tgt := 59) hx hb dX9_oats_19 (by decide) (fun c4 => ?_) (fun c4 => ?_)
    · rw [if_pos c4] at hf
      obtain rfl := so_eq hf
      exact HX _ rfl _ _ _ hP hD hS (lv_sub hl [] rfl)
    · rw [if_neg c4] at hf
      refine lv_aload_n hx hb dX9_oats_22 rfl (lv_at hl 0 rfl) ?_
      refine va_get (D := D) (ci := 9) (v := .ref (a_mo 2)) (C := RX9) (T := TX9) (N := 37) hx hb hts iwX9_oats_X9 hown hK hP 0 rfl rfl 1 (by decide) (hts _ lkX9_oats_f13) (fun _ h9 => h9) rfl dX9_oats_23 ?_
      refine lv_bipush (v := 24) hx hb dX9_oats_26 (by decide) ?_
      refine lv_iconst (v := 5) hx hb dX9_oats_28 (by decide) ?_
      refine lv_iload_n hx hb dX9_oats_29 rfl (lv_at hl 1 rfl) ?_
      refine lv_imul hx hb dX9_oats_30 ?_
      refine lv_iadd hx hb dX9_oats_31 ?_
      refine lv_iconst (v := 1) hx hb dX9_oats_32 (by decide) ?_
      refine lv_iadd hx hb dX9_oats_33 ?_
      refine lv_iload_n hx hb dX9_oats_34 rfl (lv_at hl 2 rfl) ?_
      obtain ⟨b5, hf⟩ := gd_some hf
      obtain ⟨s6, hs6, hf⟩ := nm_ex hf
      refine va_iast hx hb hK hP hD hS 2 0 rfl rfl (ixb_in b5) dX9_oats_35 (fun H locs hP hD hS => ?_)
      have hP : va_P D vwCl (wModel t a_mo s6 lam) H := by rw [hs6]; exact hP
      have hD : va_D A (wModel t a_mo s6 lam) := by rw [hs6]; exact hD
      refine lv_aload_n hx hb dX9_oats_36 rfl (lv_at hl 0 rfl) ?_
      obtain ⟨v7, ev7, hf⟩ := bd_some hf
      refine gk_V0 C (As := []) (rest := []) (ci := 9) (q := (RX9, TX9, 37)) (q0 := 0) (cX9_drives_ok (l := l) (D := D) (t := t) (κ := κ) (a_mo := a_mo) (lam := lam) ev7) gX9_oats_X9_drives rfl ⟨rfl, rfl⟩ hdX9_drives ⟨Nat.le_of_ble_eq_true rfl, Nat.le_of_ble_eq_true rfl⟩ rfl rfl hP hD hS rfl hl.1 (Nat.le_of_ble_eq_true rfl) dX9_oats_37 (Nat.zero_le _) (Nat.zero_le _) (fun H locs hP hD hS => ?_)
      refine W.eq (g2 := F0 m 40 ls []) rfl ?_
      refine lv_aload_n hx hb dX9_oats_40 rfl (lv_at hl 0 rfl) ?_
      refine va_get (D := D) (ci := 9) (v := .ref (a_mo 6)) (C := RX9) (T := TX9) (N := 37) hx hb hts iwX9_oats_X9 hown hK hP 0 rfl rfl 19 (by decide) (hts _ lkX9_oats_f26) (fun _ h9 => h9) rfl dX9_oats_41 ?_
      refine lv_iload_n hx hb dX9_oats_44 rfl (lv_at hl 1 rfl) ?_
      obtain ⟨b8, hf⟩ := gd_some hf
      refine va_iald hx hb hK hP 6 0 rfl rfl (ixb_in b8) dX9_oats_45 ?_
      refine lv_bipush (v := -4) hx hb dX9_oats_46 (by decide) ?_
      refine lv_icmp_eq (tgt := 53) hx hb dX9_oats_48 (by decide) (fun c9 => ?_) (fun c9 => ?_)
      · rw [if_pos c9] at hf
        obtain ⟨y10, hy10, hf⟩ := nm_ex hf
        refine lv_iinc (v := y10) (lv' := [(2, .int y10), (0, .ref (a_mo 0)), (1, .int x1)]) hx hb dX9_oats_53 hl (k := 2) rfl (by rw [hy10]; rfl) (by decide) rfl (fun ls hl => ?_)
        refine lv_goto (tgt := 16) hx hb dX9_oats_56 (by decide) ?_
        obtain rfl := so_eq hf
        exact HB _ rfl _ _ _ hP hD hS (lv_sub hl [1, 2, 0] rfl)
      · rw [if_neg c9] at hf
        refine lv_iload_n hx hb dX9_oats_51 rfl (lv_at hl 2 rfl) ?_
        obtain rfl := so_eq hf
        obtain ⟨rfl, rfl⟩ := HR _ rfl
        exact g_iret C hP hD hS dX9_oats_52
set_option maxHeartbeats 4000000 in
set_option maxRecDepth 100000 in
theorem cX9_oats_ok {l : Launch} {D : va_G} {t : Nat → ClassId} {κ : Nat → Nat} {a_mo : Nat → Nat} {s_mo : S2} {lam : S6} {p1 : Int32} {out : Int32 × S2} (hf : fX9_oats s_mo p1 = some out) : Ct l D t κ yX9_oats wsX9_oats (rmL 6) [.ref (a_mo 0), .int p1] (wModel t a_mo s_mo lam) (some (.int out.1)) (wModel t a_mo out.2 lam) := by
  refine Ct.ofW (own := RX9) (cc := cX9_oats) (maxL := 3) (ret := (some .int)) (by decide) rfl rfl (Nat.le_of_ble_eq_true rfl) ?_
  intro p e s m below meth c A C hP hD ls hl
  have hS : va_S A s.heap s.heap [] := va_S.rf
  obtain ⟨hx, hb, hr, hml, hown, hts, hC0, hlk, hA⟩ := id C
  have hK := hC0.1
  have hl : lv_has ls 3 [(0, .ref (a_mo 0)), (1, .int p1)] := hl
  unfold fX9_oats at hf
  refine lv_aload_n hx hb dX9_oats_0 rfl (lv_at hl 0 rfl) ?_
  refine lv_iload_n hx hb dX9_oats_1 rfl (lv_at hl 1 rfl) ?_
  obtain ⟨v1, ev1, hf⟩ := bd_some hf
  refine gk_V0 C (As := [.int p1]) (rest := []) (ci := 9) (q := (RX9, TX9, 37)) (q0 := 0) (cX9_isParty_ok (l := l) (D := D) (t := t) (κ := κ) (a_mo := a_mo) (lam := lam) ev1) gX9_oats_X9_isParty rfl ⟨rfl, rfl⟩ hdX9_isParty ⟨Nat.le_of_ble_eq_true rfl, Nat.le_of_ble_eq_true rfl⟩ rfl rfl hP hD hS rfl hl.1 (Nat.le_of_ble_eq_true rfl) dX9_oats_2 (Nat.zero_le _) (Nat.zero_le _) (fun H locs hP hD hS => ?_)
  refine W.eq (g2 := F0 m 5 ls [.int v1]) rfl ?_
  refine lv_if_ne (tgt := 10) hx hb dX9_oats_5 (by decide) (fun c2 => ?_) (fun c2 => ?_)
  · rw [if_neg c2] at hf
    refine lv_aload_n hx hb dX9_oats_10 rfl (lv_at hl 0 rfl) ?_
    obtain ⟨v3, ev3, hf⟩ := bd_some hf
    refine gk_V0 C (As := []) (rest := []) (ci := 9) (q := (RX9, TX9, 37)) (q0 := 0) (cX9_starts_ok (l := l) (D := D) (t := t) (κ := κ) (a_mo := a_mo) (lam := lam) ev3) gX9_oats_X9_starts rfl ⟨rfl, rfl⟩ hdX9_starts ⟨Nat.le_of_ble_eq_true rfl, Nat.le_of_ble_eq_true rfl⟩ rfl rfl hP hD hS rfl hl.1 (Nat.le_of_ble_eq_true rfl) dX9_oats_11 (Nat.zero_le _) (Nat.zero_le _) (fun H locs hP hD hS => ?_)
    refine W.eq (g2 := F0 m 14 ls []) rfl ?_
    refine lv_iconst (v := 0) hx hb dX9_oats_14 (by decide) ?_
    refine lv_istore_n (lv' := [(2, .int (0 : Int32)), (0, .ref (a_mo 0)), (1, .int p1)]) hx hb dX9_oats_15 rfl hl (by decide) rfl (fun ls hl => ?_)
    obtain ⟨x11, ex11, hf⟩ := bd_some hf
    refine wX9_oats_l16 C 5000 (0 : Int32) v3 x11 ex11 (fun q12 h9 H locs ls hP hD hS hl => ?_) (fun r13 h9 => ?_) _ _ _ hP hD hS (lv_sub hl [1, 2, 0] rfl)
    · rw [h9, Sum.elim_inl] at hf
      refine lv_bipush (v := -4) hx hb dX9_oats_59 (by decide) ?_
      obtain rfl := so_eq hf
      exact g_iret C hP hD hS dX9_oats_61
    · rw [h9, Sum.elim_inr] at hf
      obtain rfl := so_eq hf
      exact ⟨rfl, rfl⟩
  · rw [if_pos c2] at hf
    refine lv_iconst (v := -1) hx hb dX9_oats_8 (by decide) ?_
    obtain rfl := so_eq hf
    exact g_iret C hP hD hS dX9_oats_9
/-! CoachCourtModel.leastOf -/
def fX9_leastOf_b20 (s_mo : S2) (x1 : Int32) (x3 : Int32) (x4 : Int32) (x5 : Int32) : Option ((Int32 × S2) ⊕ ((Int32 × S2) ⊕ (Int32 × S2))) :=
  if x3 ≤ x5 then
    (some (.inr (.inl (x5, s_mo))))
  else
    (gd (ixb x1 59) <|
    nm (sE s_mo 2 (Int32.toNatClampNeg x1) x5) fun s8 =>
    (fX9_howMany s8).bind fun v9 =>
    if v9.1 = x4 then
      (some (.inr (.inr (x5, v9.2))))
    else
      (nm (x5 + (1 : Int32)) fun y11 =>
      some (.inl (y11, v9.2))))
def fX9_leastOf (s_mo : S2) (p1 : Int32) (p2 : Int32) (p3 : Int32) : Option (Int32 × S2) :=
  (fX9_starts s_mo).bind fun v1 =>
  gd (ixb p1 59) <|
  nm (sE v1 2 (Int32.toNatClampNeg p1) p3) fun s3 =>
  (fX9_howMany s3).bind fun v4 =>
  nm v4.1 fun y5 =>
  (wh (fun (c : Int32 × S2) => fX9_leastOf_b20 c.2 p1 p3 y5 c.1) 5000 (p2, v4.2)).bind fun x12 =>
  Sum.elim (fun q13 =>
    some (p3, q13.2)) (fun r14 => some r14) x12
theorem hdX9_leastOf : yX9_leastOf.cls = RX9 ∧ yX9_leastOf.cls ≠ "java/lang/invoke/MethodHandle" ∧ yX9_leastOf.cls ≠ "java/lang/invoke/VarHandle" ∧ (parseMethodDescriptor yX9_leastOf.desc).map (fun d => d.parameters.length) = some 3 := by decide +kernel
theorem iwX9_leastOf_X9 : ∀ w ∈ wsX90, w ∈ wsX9_leastOf := by decide +kernel
theorem lkX9_leastOf_f13 : Cond.fieldLink RX9 13 "CoachCourtModel" "now" "[I" ∈ wsX9_leastOf := by decide +kernel
set_option maxHeartbeats 4000000 in
set_option maxRecDepth 100000 in
theorem wX9_leastOf_l20 {p : Program} {l : Launch} {e : Env} {s : State} {m : MethodId} {args : Array Value} {below : List Frame} {meth : Method} {c : Code} {D : va_G} {t : Nat → ClassId} {κ : Nat → Nat} {A : Nat → Prop} {a_mo : Nat → Nat} {lam : S6} {x1 : Int32} {x3 : Int32} {x4 : Int32} {rv : Option Value} {w1 : va_W} (C : Cxt p s m args meth c cX9_leastOf 6 RX9 wsX9_leastOf (some .int) D t κ A) : ∀ (n : Nat) (x5 : Int32) (s_mo : S2) (x : (Int32 × S2) ⊕ (Int32 × S2)), wh (fun (c : Int32 × S2) => fX9_leastOf_b20 c.2 x1 x3 x4 c.1) n (x5, s_mo) = some x → (∀ (z : Int32 × S2), x = .inl z → ∀ (H : Heap) (locs : List Loc) (ls : Array Slot), va_P D vwCl (wModel t a_mo z.2 lam) H → va_D A (wModel t a_mo z.2 lam) → va_S A s.heap H locs → lv_has ls 6 [(3, .int x3)] → W p l e (rmL 7) s m args below meth c H locs 0 0 (MQ below (gQ D rv w1 A) args s 0 0 A) (F0 m 52 ls [])) → (∀ (r : Int32 × S2), x = .inr r → rv = (some (.int r.1)) ∧ w1 = (wModel t a_mo r.2 lam)) → ∀ (H : Heap) (locs : List Loc) (ls : Array Slot), va_P D vwCl (wModel t a_mo s_mo lam) H → va_D A (wModel t a_mo s_mo lam) → va_S A s.heap H locs → lv_has ls 6 [(0, .ref (a_mo 0)), (1, .int x1), (3, .int x3), (4, .int x4), (5, .int x5)] → W p l e (rmL 7) s m args below meth c H locs 0 0 (MQ below (gQ D rv w1 A) args s 0 0 A) (F0 m 20 ls []) := by
  obtain ⟨hx, hb, hr, hml, hown, hts, hC0, hlk, hA⟩ := id C
  have hK := hC0.1
  intro n
  induction n with
  | zero =>
    intro x5 s_mo x h
    exact (wh_0 h).elim
  | succ n ih =>
    intro x5 s_mo x h HX HR H locs ls hP hD hS hl
    obtain ⟨v, hf, hB, hX⟩ := wh_step h
    have hf : fX9_leastOf_b20 s_mo x1 x3 x4 x5 = some v := hf
    have HB : ∀ (z : Int32 × S2), v = .inl z → ∀ (H : Heap) (locs : List Loc) (ls : Array Slot), va_P D vwCl (wModel t a_mo z.2 lam) H → va_D A (wModel t a_mo z.2 lam) → va_S A s.heap H locs → lv_has ls 6 [(0, .ref (a_mo 0)), (1, .int x1), (3, .int x3), (4, .int x4), (5, .int z.1)] → W p l e (rmL 7) s m args below meth c H locs 0 0 (MQ below (gQ D rv w1 A) args s 0 0 A) (F0 m 20 ls []) := fun z hz H locs ls hP hD hS hl => ih z.1 z.2 x (hB z hz) HX HR H locs ls hP hD hS hl
    have HX : ∀ (z : Int32 × S2), v = .inr (.inl z) → ∀ (H : Heap) (locs : List Loc) (ls : Array Slot), va_P D vwCl (wModel t a_mo z.2 lam) H → va_D A (wModel t a_mo z.2 lam) → va_S A s.heap H locs → lv_has ls 6 [(3, .int x3)] → W p l e (rmL 7) s m args below meth c H locs 0 0 (MQ below (gQ D rv w1 A) args s 0 0 A) (F0 m 52 ls []) := fun z hz => HX z (hX _ hz).symm
    have HR : ∀ (r : Int32 × S2), v = .inr (.inr r) → rv = (some (.int r.1)) ∧ w1 = (wModel t a_mo r.2 lam) := fun r hz => HR r (hX _ hz).symm
    unfold fX9_leastOf_b20 at hf
    refine lv_iload hx hb dX9_leastOf_20 (lv_at hl 4 rfl) ?_
    refine lv_iload_n hx hb dX9_leastOf_22 rfl (lv_at hl 2 rfl) ?_
    refine lv_icmp_ge (tgt := 52) hx hb dX9_leastOf_23 (by decide) (fun c6 => ?_) (fun c6 => ?_)
    · rw [if_pos c6] at hf
      obtain rfl := so_eq hf
      exact HX _ rfl _ _ _ hP hD hS (lv_sub hl [2] rfl)
    · rw [if_neg c6] at hf
      refine lv_aload_n hx hb dX9_leastOf_26 rfl (lv_at hl 0 rfl) ?_
      refine va_get (D := D) (ci := 9) (v := .ref (a_mo 2)) (C := RX9) (T := TX9) (N := 37) hx hb hts iwX9_leastOf_X9 hown hK hP 0 rfl rfl 1 (by decide) (hts _ lkX9_leastOf_f13) (fun _ h9 => h9) rfl dX9_leastOf_27 ?_
      refine lv_iload_n hx hb dX9_leastOf_30 rfl (lv_at hl 1 rfl) ?_
      refine lv_iload hx hb dX9_leastOf_31 (lv_at hl 4 rfl) ?_
      obtain ⟨b7, hf⟩ := gd_some hf
      obtain ⟨s8, hs8, hf⟩ := nm_ex hf
      refine va_iast hx hb hK hP hD hS 2 0 rfl rfl (ixb_in b7) dX9_leastOf_33 (fun H locs hP hD hS => ?_)
      have hP : va_P D vwCl (wModel t a_mo s8 lam) H := by rw [hs8]; exact hP
      have hD : va_D A (wModel t a_mo s8 lam) := by rw [hs8]; exact hD
      refine lv_aload_n hx hb dX9_leastOf_34 rfl (lv_at hl 0 rfl) ?_
      obtain ⟨v9, ev9, hf⟩ := bd_some hf
      refine gk_V0 C (As := []) (rest := []) (ci := 9) (q := (RX9, TX9, 37)) (q0 := 0) (cX9_howMany_ok (l := l) (D := D) (t := t) (κ := κ) (a_mo := a_mo) (lam := lam) ev9) gX9_leastOf_X9_howMany rfl ⟨rfl, rfl⟩ hdX9_howMany ⟨Nat.le_of_ble_eq_true rfl, Nat.le_of_ble_eq_true rfl⟩ rfl rfl hP hD hS rfl hl.1 (Nat.le_of_ble_eq_true rfl) dX9_leastOf_35 (Nat.zero_le _) (Nat.zero_le _) (fun H locs hP hD hS => ?_)
      refine W.eq (g2 := F0 m 38 ls [.int v9.1]) rfl ?_
      refine lv_iload hx hb dX9_leastOf_38 (lv_at hl 3 rfl) ?_
      refine lv_icmp_ne (tgt := 46) hx hb dX9_leastOf_40 (by decide) (fun c10 => ?_) (fun c10 => ?_)
      · rw [if_neg c10] at hf
        obtain ⟨y11, hy11, hf⟩ := nm_ex hf
        refine lv_iinc (v := y11) (lv' := [(5, .int y11), (0, .ref (a_mo 0)), (1, .int x1), (3, .int x3), (4, .int x4)]) hx hb dX9_leastOf_46 hl (k := 4) rfl (by rw [hy11]; rfl) (by decide) rfl (fun ls hl => ?_)
        refine lv_goto (tgt := 20) hx hb dX9_leastOf_49 (by decide) ?_
        obtain rfl := so_eq hf
        exact HB _ rfl _ _ _ hP hD hS (lv_sub hl [1, 2, 3, 4, 0] rfl)
      · rw [if_pos c10] at hf
        refine lv_iload hx hb dX9_leastOf_43 (lv_at hl 4 rfl) ?_
        obtain rfl := so_eq hf
        obtain ⟨rfl, rfl⟩ := HR _ rfl
        exact g_iret C hP hD hS dX9_leastOf_45
set_option maxHeartbeats 4000000 in
set_option maxRecDepth 100000 in
theorem cX9_leastOf_ok {l : Launch} {D : va_G} {t : Nat → ClassId} {κ : Nat → Nat} {a_mo : Nat → Nat} {s_mo : S2} {lam : S6} {p1 : Int32} {p2 : Int32} {p3 : Int32} {out : Int32 × S2} (hf : fX9_leastOf s_mo p1 p2 p3 = some out) : Ct l D t κ yX9_leastOf wsX9_leastOf (rmL 7) [.ref (a_mo 0), .int p1, .int p2, .int p3] (wModel t a_mo s_mo lam) (some (.int out.1)) (wModel t a_mo out.2 lam) := by
  refine Ct.ofW (own := RX9) (cc := cX9_leastOf) (maxL := 6) (ret := (some .int)) (by decide) rfl rfl (Nat.le_of_ble_eq_true rfl) ?_
  intro p e s m below meth c A C hP hD ls hl
  have hS : va_S A s.heap s.heap [] := va_S.rf
  obtain ⟨hx, hb, hr, hml, hown, hts, hC0, hlk, hA⟩ := id C
  have hK := hC0.1
  have hl : lv_has ls 6 [(0, .ref (a_mo 0)), (1, .int p1), (2, .int p2), (3, .int p3)] := hl
  unfold fX9_leastOf at hf
  refine lv_aload_n hx hb dX9_leastOf_0 rfl (lv_at hl 0 rfl) ?_
  obtain ⟨v1, ev1, hf⟩ := bd_some hf
  refine gk_V0 C (As := []) (rest := []) (ci := 9) (q := (RX9, TX9, 37)) (q0 := 0) (cX9_starts_ok (l := l) (D := D) (t := t) (κ := κ) (a_mo := a_mo) (lam := lam) ev1) gX9_leastOf_X9_starts rfl ⟨rfl, rfl⟩ hdX9_starts ⟨Nat.le_of_ble_eq_true rfl, Nat.le_of_ble_eq_true rfl⟩ rfl rfl hP hD hS rfl hl.1 (Nat.le_of_ble_eq_true rfl) dX9_leastOf_1 (Nat.zero_le _) (Nat.zero_le _) (fun H locs hP hD hS => ?_)
  refine W.eq (g2 := F0 m 4 ls []) rfl ?_
  refine lv_aload_n hx hb dX9_leastOf_4 rfl (lv_at hl 0 rfl) ?_
  refine va_get (D := D) (ci := 9) (v := .ref (a_mo 2)) (C := RX9) (T := TX9) (N := 37) hx hb hts iwX9_leastOf_X9 hown hK hP 0 rfl rfl 1 (by decide) (hts _ lkX9_leastOf_f13) (fun _ h9 => h9) rfl dX9_leastOf_5 ?_
  refine lv_iload_n hx hb dX9_leastOf_8 rfl (lv_at hl 1 rfl) ?_
  refine lv_iload_n hx hb dX9_leastOf_9 rfl (lv_at hl 3 rfl) ?_
  obtain ⟨b2, hf⟩ := gd_some hf
  obtain ⟨s3, hs3, hf⟩ := nm_ex hf
  refine va_iast hx hb hK hP hD hS 2 0 rfl rfl (ixb_in b2) dX9_leastOf_10 (fun H locs hP hD hS => ?_)
  have hP : va_P D vwCl (wModel t a_mo s3 lam) H := by rw [hs3]; exact hP
  have hD : va_D A (wModel t a_mo s3 lam) := by rw [hs3]; exact hD
  refine lv_aload_n hx hb dX9_leastOf_11 rfl (lv_at hl 0 rfl) ?_
  obtain ⟨v4, ev4, hf⟩ := bd_some hf
  refine gk_V0 C (As := []) (rest := []) (ci := 9) (q := (RX9, TX9, 37)) (q0 := 0) (cX9_howMany_ok (l := l) (D := D) (t := t) (κ := κ) (a_mo := a_mo) (lam := lam) ev4) gX9_leastOf_X9_howMany rfl ⟨rfl, rfl⟩ hdX9_howMany ⟨Nat.le_of_ble_eq_true rfl, Nat.le_of_ble_eq_true rfl⟩ rfl rfl hP hD hS rfl hl.1 (Nat.le_of_ble_eq_true rfl) dX9_leastOf_12 (Nat.zero_le _) (Nat.zero_le _) (fun H locs hP hD hS => ?_)
  refine W.eq (g2 := F0 m 15 ls [.int v4.1]) rfl ?_
  obtain ⟨y5, hy5, hf⟩ := nm_ex hf
  refine W.eq (g2 := F0 m 15 ls [.int y5]) (by rw [hy5]) ?_
  refine lv_istore (lv' := [(4, .int y5), (0, .ref (a_mo 0)), (1, .int p1), (2, .int p2), (3, .int p3)]) hx hb dX9_leastOf_15 hl (by decide) rfl (fun ls hl => ?_)
  refine lv_iload_n hx hb dX9_leastOf_17 rfl (lv_at hl 3 rfl) ?_
  refine lv_istore (lv' := [(5, .int p2), (4, .int y5), (0, .ref (a_mo 0)), (1, .int p1), (2, .int p2), (3, .int p3)]) hx hb dX9_leastOf_18 hl (by decide) rfl (fun ls hl => ?_)
  obtain ⟨x12, ex12, hf⟩ := bd_some hf
  refine wX9_leastOf_l20 C 5000 p2 v4.2 x12 ex12 (fun q13 h9 H locs ls hP hD hS hl => ?_) (fun r14 h9 => ?_) _ _ _ hP hD hS (lv_sub hl [2, 3, 5, 1, 0] rfl)
  · rw [h9, Sum.elim_inl] at hf
    refine lv_iload_n hx hb dX9_leastOf_52 rfl (lv_at hl 0 rfl) ?_
    obtain rfl := so_eq hf
    exact g_iret C hP hD hS dX9_leastOf_53
  · rw [h9, Sum.elim_inr] at hf
    obtain rfl := so_eq hf
    exact ⟨rfl, rfl⟩
/-! CoachCourtModel.room -/
def fX9_room (s_mo : S2) : Option (Int32 × S2) :=
  (fX9_leastOf s_mo (44 : Int32) (1 : Int32) (4 : Int32)).bind fun v1 =>
  some (v1.1, v1.2)
theorem hdX9_room : yX9_room.cls = RX9 ∧ yX9_room.cls ≠ "java/lang/invoke/MethodHandle" ∧ yX9_room.cls ≠ "java/lang/invoke/VarHandle" ∧ (parseMethodDescriptor yX9_room.desc).map (fun d => d.parameters.length) = some 0 := by decide +kernel
set_option maxHeartbeats 4000000 in
set_option maxRecDepth 100000 in
theorem cX9_room_ok {l : Launch} {D : va_G} {t : Nat → ClassId} {κ : Nat → Nat} {a_mo : Nat → Nat} {s_mo : S2} {lam : S6} {out : Int32 × S2} (hf : fX9_room s_mo = some out) : Ct l D t κ yX9_room wsX9_room (rmL 8) [.ref (a_mo 0)] (wModel t a_mo s_mo lam) (some (.int out.1)) (wModel t a_mo out.2 lam) := by
  refine Ct.ofW (own := RX9) (cc := cX9_room) (maxL := 1) (ret := (some .int)) (by decide) rfl rfl (Nat.le_of_ble_eq_true rfl) ?_
  intro p e s m below meth c A C hP hD ls hl
  have hS : va_S A s.heap s.heap [] := va_S.rf
  obtain ⟨hx, hb, hr, hml, hown, hts, hC0, hlk, hA⟩ := id C
  have hK := hC0.1
  have hl : lv_has ls 1 [(0, .ref (a_mo 0))] := hl
  unfold fX9_room at hf
  refine lv_aload_n hx hb dX9_room_0 rfl (lv_at hl 0 rfl) ?_
  refine lv_bipush (v := 44) hx hb dX9_room_1 (by decide) ?_
  refine lv_iconst (v := 1) hx hb dX9_room_3 (by decide) ?_
  refine lv_iconst (v := 4) hx hb dX9_room_4 (by decide) ?_
  obtain ⟨v1, ev1, hf⟩ := bd_some hf
  refine gk_V0 C (As := [.int (44 : Int32), .int (1 : Int32), .int (4 : Int32)]) (rest := []) (ci := 9) (q := (RX9, TX9, 37)) (q0 := 0) (cX9_leastOf_ok (l := l) (D := D) (t := t) (κ := κ) (a_mo := a_mo) (lam := lam) ev1) gX9_room_X9_leastOf rfl ⟨rfl, rfl⟩ hdX9_leastOf ⟨Nat.le_of_ble_eq_true rfl, Nat.le_of_ble_eq_true rfl⟩ rfl rfl hP hD hS rfl hl.1 (Nat.le_of_ble_eq_true rfl) dX9_room_5 (Nat.zero_le _) (Nat.zero_le _) (fun H locs hP hD hS => ?_)
  refine W.eq (g2 := F0 m 8 ls [.int v1.1]) rfl ?_
  obtain rfl := so_eq hf
  exact g_iret C hP hD hS dX9_room_8
/-! CoachCourtModel.snow -/
def fX9_snow (s_mo : S2) : Option (Int32 × S2) :=
  (fX9_leastOf s_mo (45 : Int32) (0 : Int32) (99 : Int32)).bind fun v1 =>
  some (v1.1, v1.2)
theorem hdX9_snow : yX9_snow.cls = RX9 ∧ yX9_snow.cls ≠ "java/lang/invoke/MethodHandle" ∧ yX9_snow.cls ≠ "java/lang/invoke/VarHandle" ∧ (parseMethodDescriptor yX9_snow.desc).map (fun d => d.parameters.length) = some 0 := by decide +kernel
set_option maxHeartbeats 4000000 in
set_option maxRecDepth 100000 in
theorem cX9_snow_ok {l : Launch} {D : va_G} {t : Nat → ClassId} {κ : Nat → Nat} {a_mo : Nat → Nat} {s_mo : S2} {lam : S6} {out : Int32 × S2} (hf : fX9_snow s_mo = some out) : Ct l D t κ yX9_snow wsX9_snow (rmL 8) [.ref (a_mo 0)] (wModel t a_mo s_mo lam) (some (.int out.1)) (wModel t a_mo out.2 lam) := by
  refine Ct.ofW (own := RX9) (cc := cX9_snow) (maxL := 1) (ret := (some .int)) (by decide) rfl rfl (Nat.le_of_ble_eq_true rfl) ?_
  intro p e s m below meth c A C hP hD ls hl
  have hS : va_S A s.heap s.heap [] := va_S.rf
  obtain ⟨hx, hb, hr, hml, hown, hts, hC0, hlk, hA⟩ := id C
  have hK := hC0.1
  have hl : lv_has ls 1 [(0, .ref (a_mo 0))] := hl
  unfold fX9_snow at hf
  refine lv_aload_n hx hb dX9_snow_0 rfl (lv_at hl 0 rfl) ?_
  refine lv_bipush (v := 45) hx hb dX9_snow_1 (by decide) ?_
  refine lv_iconst (v := 0) hx hb dX9_snow_3 (by decide) ?_
  refine lv_bipush (v := 99) hx hb dX9_snow_4 (by decide) ?_
  obtain ⟨v1, ev1, hf⟩ := bd_some hf
  refine gk_V0 C (As := [.int (45 : Int32), .int (0 : Int32), .int (99 : Int32)]) (rest := []) (ci := 9) (q := (RX9, TX9, 37)) (q0 := 0) (cX9_leastOf_ok (l := l) (D := D) (t := t) (κ := κ) (a_mo := a_mo) (lam := lam) ev1) gX9_snow_X9_leastOf rfl ⟨rfl, rfl⟩ hdX9_leastOf ⟨Nat.le_of_ble_eq_true rfl, Nat.le_of_ble_eq_true rfl⟩ rfl rfl hP hD hS rfl hl.1 (Nat.le_of_ble_eq_true rfl) dX9_snow_6 (Nat.zero_le _) (Nat.zero_le _) (fun H locs hP hD hS => ?_)
  refine W.eq (g2 := F0 m 9 ls [.int v1.1]) rfl ?_
  obtain rfl := so_eq hf
  exact g_iret C hP hD hS dX9_snow_9
/-! CoachCourtModel.rain -/
def fX9_rain_75 (s_mo : S2) (x1 : Int32) (x2 : Int32) (x4 : Int32) (x5 : Int32) (k0 : Int32) : Option ((Int32 × Int32 × Int32 × S2) ⊕ (Int32 × Int32 × Int32 × S2)) :=
  if x5 ≤ x2 then
    (nm (x4 + (1 : Int32)) fun y15 =>
    some (.inl (x2, k0, y15, s_mo)))
  else
    (nm (x4 + (1 : Int32)) fun y16 =>
    some (.inl (x5, k0, y16, s_mo)))
def fX9_rain_b24 (s_mo : S2) (x1 : Int32) (x2 : Int32) (x3 : Int32) (x4 : Int32) : Option ((Int32 × Int32 × Int32 × S2) ⊕ (Int32 × Int32 × Int32 × S2)) :=
  if (s_mo 0 0) ≤ x4 then
    (some (.inr (x2, x3, x4, s_mo)))
  else
    ((fX9_starts s_mo).bind fun v7 =>
    (fX9_ofMile v7 x4 (2 : Int32)).bind fun v8 =>
    gd (ixb (((3 : Int32) * x4) + (2 : Int32)) 59) <|
    nm (sE v7 2 (Int32.toNatClampNeg (((3 : Int32) * x4) + (2 : Int32))) ((1 : Int32) - v8)) fun s10 =>
    (fX9_howMany s10).bind fun v11 =>
    nm v11.1 fun y12 =>
    if y12 ≤ x2 then
      (fX9_rain_75 v11.2 x1 x2 x4 y12 x3)
    else
      (fX9_rain_75 v11.2 x1 x2 x4 y12 x4))
def fX9_rain (s_mo : S2) (p1 : Int32) : Option (Int32 × S2) :=
  (fX9_isPart p1).bind fun v1 =>
  if v1 = (0 : Int32) then
    (some ((-1 : Int32), s_mo))
  else
    ((fX9_starts s_mo).bind fun v3 =>
    (fX9_howMany v3).bind fun v4 =>
    nm v4.1 fun y5 =>
    (wh (fun (c : Int32 × Int32 × Int32 × S2) => fX9_rain_b24 c.2.2.2 p1 c.1 c.2.1 c.2.2.1) 5000 (y5, (-4 : Int32), (0 : Int32), v4.2)).bind fun x17 =>
    if x17.2.1 = (-4 : Int32) then
      (some ((-4 : Int32), x17.2.2.2))
    else
      (if p1 = (0 : Int32) then
        (some (x17.2.1, x17.2.2.2))
      else
        (some (x17.1, x17.2.2.2))))
theorem hdX9_rain : yX9_rain.cls = RX9 ∧ yX9_rain.cls ≠ "java/lang/invoke/MethodHandle" ∧ yX9_rain.cls ≠ "java/lang/invoke/VarHandle" ∧ (parseMethodDescriptor yX9_rain.desc).map (fun d => d.parameters.length) = some 1 := by decide +kernel
theorem iwX9_rain_X9 : ∀ w ∈ wsX90, w ∈ wsX9_rain := by decide +kernel
theorem lkX9_rain_f81 : Cond.fieldLink RX9 81 "CoachCourtModel" "miles" "I" ∈ wsX9_rain := by decide +kernel
theorem lkX9_rain_f13 : Cond.fieldLink RX9 13 "CoachCourtModel" "now" "[I" ∈ wsX9_rain := by decide +kernel
set_option maxHeartbeats 4000000 in
set_option maxRecDepth 100000 in
theorem wX9_rain_75 {p : Program} {l : Launch} {e : Env} {s : State} {m : MethodId} {args : Array Value} {below : List Frame} {meth : Method} {c : Code} {D : va_G} {t : Nat → ClassId} {κ : Nat → Nat} {A : Nat → Prop} {a_mo : Nat → Nat} {s_mo : S2} {lam : S6} {x1 : Int32} {x2 : Int32} {x4 : Int32} {x5 : Int32} {k0 : Int32} {rv : Option Value} {w1 : va_W} {v : (Int32 × Int32 × Int32 × S2) ⊕ (Int32 × Int32 × Int32 × S2)} (C : Cxt p s m args meth c cX9_rain 6 RX9 wsX9_rain (some .int) D t κ A) (hf : fX9_rain_75 s_mo x1 x2 x4 x5 k0 = some v) (HB : ∀ (z : Int32 × Int32 × Int32 × S2), v = .inl z → ∀ (H : Heap) (locs : List Loc) (ls : Array Slot), va_P D vwCl (wModel t a_mo z.2.2.2 lam) H → va_D A (wModel t a_mo z.2.2.2 lam) → va_S A s.heap H locs → lv_has ls 6 [(0, .ref (a_mo 0)), (1, .int x1), (2, .int z.1), (3, .int z.2.1), (4, .int z.2.2.1)] → W p l e (rmL 7) s m args below meth c H locs 0 0 (MQ below (gQ D rv w1 A) args s 0 0 A) (F0 m 24 ls [])) : ∀ (H : Heap) (locs : List Loc) (ls : Array Slot), va_P D vwCl (wModel t a_mo s_mo lam) H → va_D A (wModel t a_mo s_mo lam) → va_S A s.heap H locs → lv_has ls 6 [(0, .ref (a_mo 0)), (1, .int x1), (2, .int x2), (4, .int x4), (5, .int x5)] → W p l e (rmL 7) s m args below meth c H locs 0 0 (MQ below (gQ D rv w1 A) args s 0 0 A) (F0 m 75 ls [.int k0]) := by
  obtain ⟨hx, hb, hr, hml, hown, hts, hC0, hlk, hA⟩ := id C
  have hK := hC0.1
  intro H locs ls hP hD hS hl
  unfold fX9_rain_75 at hf
  refine lv_istore_n (lv' := [(3, .int k0), (0, .ref (a_mo 0)), (1, .int x1), (2, .int x2), (4, .int x4), (5, .int x5)]) hx hb dX9_rain_75 rfl hl (by decide) rfl (fun ls hl => ?_)
  refine lv_iload hx hb dX9_rain_76 (lv_at hl 5 rfl) ?_
  refine lv_iload_n hx hb dX9_rain_78 rfl (lv_at hl 3 rfl) ?_
  refine lv_icmp_le (tgt := 87) hx hb dX9_rain_79 (by decide) (fun c14 => ?_) (fun c14 => ?_)
  · rw [if_pos c14] at hf
    refine lv_iload_n hx hb dX9_rain_87 rfl (lv_at hl 3 rfl) ?_
    refine lv_istore_n (lv' := [(2, .int x2), (3, .int k0), (0, .ref (a_mo 0)), (1, .int x1), (4, .int x4), (5, .int x5)]) hx hb dX9_rain_88 rfl hl (by decide) rfl (fun ls hl => ?_)
    obtain ⟨y15, hy15, hf⟩ := nm_ex hf
    refine lv_iinc (v := y15) (lv' := [(4, .int y15), (2, .int x2), (3, .int k0), (0, .ref (a_mo 0)), (1, .int x1), (5, .int x5)]) hx hb dX9_rain_89 hl (k := 4) rfl (by rw [hy15]; rfl) (by decide) rfl (fun ls hl => ?_)
    refine lv_goto (tgt := 24) hx hb dX9_rain_92 (by decide) ?_
    obtain rfl := so_eq hf
    exact HB _ rfl _ _ _ hP hD hS (lv_sub hl [3, 4, 1, 2, 0] rfl)
  · rw [if_neg c14] at hf
    refine lv_iload hx hb dX9_rain_82 (lv_at hl 5 rfl) ?_
    refine lv_goto (tgt := 88) hx hb dX9_rain_84 (by decide) ?_
    refine lv_istore_n (lv' := [(2, .int x5), (3, .int k0), (0, .ref (a_mo 0)), (1, .int x1), (4, .int x4), (5, .int x5)]) hx hb dX9_rain_88 rfl hl (by decide) rfl (fun ls hl => ?_)
    obtain ⟨y16, hy16, hf⟩ := nm_ex hf
    refine lv_iinc (v := y16) (lv' := [(4, .int y16), (2, .int x5), (3, .int k0), (0, .ref (a_mo 0)), (1, .int x1), (5, .int x5)]) hx hb dX9_rain_89 hl (k := 4) rfl (by rw [hy16]; rfl) (by decide) rfl (fun ls hl => ?_)
    refine lv_goto (tgt := 24) hx hb dX9_rain_92 (by decide) ?_
    obtain rfl := so_eq hf
    exact HB _ rfl _ _ _ hP hD hS (lv_sub hl [3, 4, 1, 2, 0] rfl)
set_option maxHeartbeats 4000000 in
set_option maxRecDepth 100000 in
theorem wX9_rain_l24 {p : Program} {l : Launch} {e : Env} {s : State} {m : MethodId} {args : Array Value} {below : List Frame} {meth : Method} {c : Code} {D : va_G} {t : Nat → ClassId} {κ : Nat → Nat} {A : Nat → Prop} {a_mo : Nat → Nat} {lam : S6} {x1 : Int32} {rv : Option Value} {w1 : va_W} (C : Cxt p s m args meth c cX9_rain 6 RX9 wsX9_rain (some .int) D t κ A) : ∀ (n : Nat) (x2 : Int32) (x3 : Int32) (x4 : Int32) (s_mo : S2) (x : Int32 × Int32 × Int32 × S2), wh (fun (c : Int32 × Int32 × Int32 × S2) => fX9_rain_b24 c.2.2.2 x1 c.1 c.2.1 c.2.2.1) n (x2, x3, x4, s_mo) = some x → (∀ (z : Int32 × Int32 × Int32 × S2), x = z → ∀ (H : Heap) (locs : List Loc) (ls : Array Slot), va_P D vwCl (wModel t a_mo z.2.2.2 lam) H → va_D A (wModel t a_mo z.2.2.2 lam) → va_S A s.heap H locs → lv_has ls 6 [(1, .int x1), (2, .int z.1), (3, .int z.2.1)] → W p l e (rmL 7) s m args below meth c H locs 0 0 (MQ below (gQ D rv w1 A) args s 0 0 A) (F0 m 95 ls [])) → ∀ (H : Heap) (locs : List Loc) (ls : Array Slot), va_P D vwCl (wModel t a_mo s_mo lam) H → va_D A (wModel t a_mo s_mo lam) → va_S A s.heap H locs → lv_has ls 6 [(0, .ref (a_mo 0)), (1, .int x1), (2, .int x2), (3, .int x3), (4, .int x4)] → W p l e (rmL 7) s m args below meth c H locs 0 0 (MQ below (gQ D rv w1 A) args s 0 0 A) (F0 m 24 ls []) := by
  obtain ⟨hx, hb, hr, hml, hown, hts, hC0, hlk, hA⟩ := id C
  have hK := hC0.1
  intro n
  induction n with
  | zero =>
    intro x2 x3 x4 s_mo x h
    exact (wh_0 h).elim
  | succ n ih =>
    intro x2 x3 x4 s_mo x h HX H locs ls hP hD hS hl
    obtain ⟨v, hf, hB, hX⟩ := wh_step h
    have hf : fX9_rain_b24 s_mo x1 x2 x3 x4 = some v := hf
    have HB : ∀ (z : Int32 × Int32 × Int32 × S2), v = .inl z → ∀ (H : Heap) (locs : List Loc) (ls : Array Slot), va_P D vwCl (wModel t a_mo z.2.2.2 lam) H → va_D A (wModel t a_mo z.2.2.2 lam) → va_S A s.heap H locs → lv_has ls 6 [(0, .ref (a_mo 0)), (1, .int x1), (2, .int z.1), (3, .int z.2.1), (4, .int z.2.2.1)] → W p l e (rmL 7) s m args below meth c H locs 0 0 (MQ below (gQ D rv w1 A) args s 0 0 A) (F0 m 24 ls []) := fun z hz H locs ls hP hD hS hl => ih z.1 z.2.1 z.2.2.1 z.2.2.2 x (hB z hz) HX H locs ls hP hD hS hl
    have HX : ∀ (z : Int32 × Int32 × Int32 × S2), v = .inr z → ∀ (H : Heap) (locs : List Loc) (ls : Array Slot), va_P D vwCl (wModel t a_mo z.2.2.2 lam) H → va_D A (wModel t a_mo z.2.2.2 lam) → va_S A s.heap H locs → lv_has ls 6 [(1, .int x1), (2, .int z.1), (3, .int z.2.1)] → W p l e (rmL 7) s m args below meth c H locs 0 0 (MQ below (gQ D rv w1 A) args s 0 0 A) (F0 m 95 ls []) := fun z hz => HX z (hX _ hz).symm
    unfold fX9_rain_b24 at hf
    refine lv_iload hx hb dX9_rain_24 (lv_at hl 4 rfl) ?_
    refine lv_aload_n hx hb dX9_rain_26 rfl (lv_at hl 0 rfl) ?_
    refine va_get (D := D) (ci := 9) (v := .int (s_mo 0 0)) (C := RX9) (T := TX9) (N := 37) hx hb hts iwX9_rain_X9 hown hK hP 0 rfl rfl 3 (by decide) (hts _ lkX9_rain_f81) (fun _ h9 => h9) rfl dX9_rain_27 ?_
    refine lv_icmp_ge (tgt := 95) hx hb dX9_rain_30 (by decide) (fun c6 => ?_) (fun c6 => ?_)
    · rw [if_pos c6] at hf
      obtain rfl := so_eq hf
      exact HX _ rfl _ _ _ hP hD hS (lv_sub hl [1, 2, 3] rfl)
    · rw [if_neg c6] at hf
      refine lv_aload_n hx hb dX9_rain_33 rfl (lv_at hl 0 rfl) ?_
      obtain ⟨v7, ev7, hf⟩ := bd_some hf
      refine gk_V0 C (As := []) (rest := []) (ci := 9) (q := (RX9, TX9, 37)) (q0 := 0) (cX9_starts_ok (l := l) (D := D) (t := t) (κ := κ) (a_mo := a_mo) (lam := lam) ev7) gX9_rain_X9_starts rfl ⟨rfl, rfl⟩ hdX9_starts ⟨Nat.le_of_ble_eq_true rfl, Nat.le_of_ble_eq_true rfl⟩ rfl rfl hP hD hS rfl hl.1 (Nat.le_of_ble_eq_true rfl) dX9_rain_34 (Nat.zero_le _) (Nat.zero_le _) (fun H locs hP hD hS => ?_)
      refine W.eq (g2 := F0 m 37 ls []) rfl ?_
      refine lv_aload_n hx hb dX9_rain_37 rfl (lv_at hl 0 rfl) ?_
      refine va_get (D := D) (ci := 9) (v := .ref (a_mo 2)) (C := RX9) (T := TX9) (N := 37) hx hb hts iwX9_rain_X9 hown hK hP 0 rfl rfl 1 (by decide) (hts _ lkX9_rain_f13) (fun _ h9 => h9) rfl dX9_rain_38 ?_
      refine lv_iconst (v := 3) hx hb dX9_rain_41 (by decide) ?_
      refine lv_iload hx hb dX9_rain_42 (lv_at hl 4 rfl) ?_
      refine lv_imul hx hb dX9_rain_44 ?_
      refine lv_iconst (v := 2) hx hb dX9_rain_45 (by decide) ?_
      refine lv_iadd hx hb dX9_rain_46 ?_
      refine lv_iconst (v := 1) hx hb dX9_rain_47 (by decide) ?_
      refine lv_aload_n hx hb dX9_rain_48 rfl (lv_at hl 0 rfl) ?_
      refine lv_iload hx hb dX9_rain_49 (lv_at hl 4 rfl) ?_
      refine lv_iconst (v := 2) hx hb dX9_rain_51 (by decide) ?_
      obtain ⟨v8, ev8, hf⟩ := bd_some hf
      refine gk_V0 C (As := [.int x4, .int (2 : Int32)]) (rest := [.int (1 : Int32), .int (((3 : Int32) * x4) + (2 : Int32)), .ref (a_mo 2)]) (ci := 9) (q := (RX9, TX9, 37)) (q0 := 0) (cX9_ofMile_ok (l := l) (D := D) (t := t) (κ := κ) (a_mo := a_mo) (lam := lam) ev8) gX9_rain_X9_ofMile rfl ⟨rfl, rfl⟩ hdX9_ofMile ⟨Nat.le_of_ble_eq_true rfl, Nat.le_of_ble_eq_true rfl⟩ rfl rfl hP hD hS rfl hl.1 (Nat.le_of_ble_eq_true rfl) dX9_rain_52 (Nat.zero_le _) (Nat.zero_le _) (fun H locs hP hD hS => ?_)
      refine W.eq (g2 := F0 m 55 ls [.int v8, .int (1 : Int32), .int (((3 : Int32) * x4) + (2 : Int32)), .ref (a_mo 2)]) rfl ?_
      refine lv_isub hx hb dX9_rain_55 ?_
      obtain ⟨b9, hf⟩ := gd_some hf
      obtain ⟨s10, hs10, hf⟩ := nm_ex hf
      refine va_iast hx hb hK hP hD hS 2 0 rfl rfl (ixb_in b9) dX9_rain_56 (fun H locs hP hD hS => ?_)
      have hP : va_P D vwCl (wModel t a_mo s10 lam) H := by rw [hs10]; exact hP
      have hD : va_D A (wModel t a_mo s10 lam) := by rw [hs10]; exact hD
      refine lv_aload_n hx hb dX9_rain_57 rfl (lv_at hl 0 rfl) ?_
      obtain ⟨v11, ev11, hf⟩ := bd_some hf
      refine gk_V0 C (As := []) (rest := []) (ci := 9) (q := (RX9, TX9, 37)) (q0 := 0) (cX9_howMany_ok (l := l) (D := D) (t := t) (κ := κ) (a_mo := a_mo) (lam := lam) ev11) gX9_rain_X9_howMany rfl ⟨rfl, rfl⟩ hdX9_howMany ⟨Nat.le_of_ble_eq_true rfl, Nat.le_of_ble_eq_true rfl⟩ rfl rfl hP hD hS rfl hl.1 (Nat.le_of_ble_eq_true rfl) dX9_rain_58 (Nat.zero_le _) (Nat.zero_le _) (fun H locs hP hD hS => ?_)
      refine W.eq (g2 := F0 m 61 ls [.int v11.1]) rfl ?_
      obtain ⟨y12, hy12, hf⟩ := nm_ex hf
      refine W.eq (g2 := F0 m 61 ls [.int y12]) (by rw [hy12]) ?_
      refine lv_istore (lv' := [(5, .int y12), (0, .ref (a_mo 0)), (1, .int x1), (2, .int x2), (3, .int x3), (4, .int x4)]) hx hb dX9_rain_61 hl (by decide) rfl (fun ls hl => ?_)
      refine lv_iload hx hb dX9_rain_63 (lv_at hl 0 rfl) ?_
      refine lv_iload_n hx hb dX9_rain_65 rfl (lv_at hl 3 rfl) ?_
      refine lv_icmp_le (tgt := 74) hx hb dX9_rain_66 (by decide) (fun c13 => ?_) (fun c13 => ?_)
      · rw [if_pos c13] at hf
        refine lv_iload_n hx hb dX9_rain_74 rfl (lv_at hl 4 rfl) ?_
        exact wX9_rain_75 C hf HB _ _ _ hP hD hS (lv_sub hl [1, 2, 3, 5, 0] rfl)
      · rw [if_neg c13] at hf
        refine lv_iload hx hb dX9_rain_69 (lv_at hl 5 rfl) ?_
        refine lv_goto (tgt := 75) hx hb dX9_rain_71 (by decide) ?_
        exact wX9_rain_75 C hf HB _ _ _ hP hD hS (lv_sub hl [1, 2, 3, 5, 0] rfl)
set_option maxHeartbeats 4000000 in
set_option maxRecDepth 100000 in
theorem cX9_rain_ok {l : Launch} {D : va_G} {t : Nat → ClassId} {κ : Nat → Nat} {a_mo : Nat → Nat} {s_mo : S2} {lam : S6} {p1 : Int32} {out : Int32 × S2} (hf : fX9_rain s_mo p1 = some out) : Ct l D t κ yX9_rain wsX9_rain (rmL 7) [.ref (a_mo 0), .int p1] (wModel t a_mo s_mo lam) (some (.int out.1)) (wModel t a_mo out.2 lam) := by
  refine Ct.ofW (own := RX9) (cc := cX9_rain) (maxL := 6) (ret := (some .int)) (by decide) rfl rfl (Nat.le_of_ble_eq_true rfl) ?_
  intro p e s m below meth c A C hP hD ls hl
  have hS : va_S A s.heap s.heap [] := va_S.rf
  obtain ⟨hx, hb, hr, hml, hown, hts, hC0, hlk, hA⟩ := id C
  have hK := hC0.1
  have hl : lv_has ls 6 [(0, .ref (a_mo 0)), (1, .int p1)] := hl
  unfold fX9_rain at hf
  refine lv_iload_n hx hb dX9_rain_0 rfl (lv_at hl 1 rfl) ?_
  obtain ⟨v1, ev1, hf⟩ := bd_some hf
  refine gk_S C (As := [.int p1]) (rest := []) (cX9_isPart_ok (l := l) (D := D) (t := t) (κ := κ) ev1) gX9_rain_X9_isPart rfl ⟨rfl, rfl⟩ hdX9_isPart ⟨Nat.le_of_ble_eq_true rfl, Nat.le_of_ble_eq_true rfl⟩ hP hD hS rfl hl.1 (Nat.le_of_ble_eq_true rfl) dX9_rain_1 (Nat.zero_le _) (Nat.zero_le _) (fun H locs hP hD hS => ?_)
  refine W.eq (g2 := F0 m 4 ls [.int v1]) rfl ?_
  refine lv_if_ne (tgt := 9) hx hb dX9_rain_4 (by decide) (fun c2 => ?_) (fun c2 => ?_)
  · rw [if_neg c2] at hf
    refine lv_aload_n hx hb dX9_rain_9 rfl (lv_at hl 0 rfl) ?_
    obtain ⟨v3, ev3, hf⟩ := bd_some hf
    refine gk_V0 C (As := []) (rest := []) (ci := 9) (q := (RX9, TX9, 37)) (q0 := 0) (cX9_starts_ok (l := l) (D := D) (t := t) (κ := κ) (a_mo := a_mo) (lam := lam) ev3) gX9_rain_X9_starts rfl ⟨rfl, rfl⟩ hdX9_starts ⟨Nat.le_of_ble_eq_true rfl, Nat.le_of_ble_eq_true rfl⟩ rfl rfl hP hD hS rfl hl.1 (Nat.le_of_ble_eq_true rfl) dX9_rain_10 (Nat.zero_le _) (Nat.zero_le _) (fun H locs hP hD hS => ?_)
    refine W.eq (g2 := F0 m 13 ls []) rfl ?_
    refine lv_aload_n hx hb dX9_rain_13 rfl (lv_at hl 0 rfl) ?_
    obtain ⟨v4, ev4, hf⟩ := bd_some hf
    refine gk_V0 C (As := []) (rest := []) (ci := 9) (q := (RX9, TX9, 37)) (q0 := 0) (cX9_howMany_ok (l := l) (D := D) (t := t) (κ := κ) (a_mo := a_mo) (lam := lam) ev4) gX9_rain_X9_howMany rfl ⟨rfl, rfl⟩ hdX9_howMany ⟨Nat.le_of_ble_eq_true rfl, Nat.le_of_ble_eq_true rfl⟩ rfl rfl hP hD hS rfl hl.1 (Nat.le_of_ble_eq_true rfl) dX9_rain_14 (Nat.zero_le _) (Nat.zero_le _) (fun H locs hP hD hS => ?_)
    refine W.eq (g2 := F0 m 17 ls [.int v4.1]) rfl ?_
    obtain ⟨y5, hy5, hf⟩ := nm_ex hf
    refine W.eq (g2 := F0 m 17 ls [.int y5]) (by rw [hy5]) ?_
    refine lv_istore_n (lv' := [(2, .int y5), (0, .ref (a_mo 0)), (1, .int p1)]) hx hb dX9_rain_17 rfl hl (by decide) rfl (fun ls hl => ?_)
    refine lv_bipush (v := -4) hx hb dX9_rain_18 (by decide) ?_
    refine lv_istore_n (lv' := [(3, .int (-4 : Int32)), (2, .int y5), (0, .ref (a_mo 0)), (1, .int p1)]) hx hb dX9_rain_20 rfl hl (by decide) rfl (fun ls hl => ?_)
    refine lv_iconst (v := 0) hx hb dX9_rain_21 (by decide) ?_
    refine lv_istore (lv' := [(4, .int (0 : Int32)), (3, .int (-4 : Int32)), (2, .int y5), (0, .ref (a_mo 0)), (1, .int p1)]) hx hb dX9_rain_22 hl (by decide) rfl (fun ls hl => ?_)
    obtain ⟨x17, ex17, hf⟩ := bd_some hf
    refine wX9_rain_l24 C 5000 y5 (-4 : Int32) (0 : Int32) v4.2 x17 ex17 (fun c9 h9 H locs ls hP hD hS hl => ?_) _ _ _ hP hD hS (lv_sub hl [3, 4, 2, 1, 0] rfl)
    subst h9
    refine lv_iload_n hx hb dX9_rain_95 rfl (lv_at hl 2 rfl) ?_
    refine lv_bipush (v := -4) hx hb dX9_rain_96 (by decide) ?_
    refine lv_icmp_ne (tgt := 106) hx hb dX9_rain_98 (by decide) (fun c18 => ?_) (fun c18 => ?_)
    · rw [if_neg c18] at hf
      refine lv_iload_n hx hb dX9_rain_106 rfl (lv_at hl 0 rfl) ?_
      refine lv_if_ne (tgt := 114) hx hb dX9_rain_107 (by decide) (fun c19 => ?_) (fun c19 => ?_)
      · rw [if_neg c19] at hf
        refine lv_iload_n hx hb dX9_rain_114 rfl (lv_at hl 1 rfl) ?_
        obtain rfl := so_eq hf
        exact g_iret C hP hD hS dX9_rain_115
      · rw [if_pos c19] at hf
        refine lv_iload_n hx hb dX9_rain_110 rfl (lv_at hl 2 rfl) ?_
        refine lv_goto (tgt := 115) hx hb dX9_rain_111 (by decide) ?_
        obtain rfl := so_eq hf
        exact g_iret C hP hD hS dX9_rain_115
    · rw [if_pos c18] at hf
      refine lv_bipush (v := -4) hx hb dX9_rain_101 (by decide) ?_
      refine lv_goto (tgt := 115) hx hb dX9_rain_103 (by decide) ?_
      obtain rfl := so_eq hf
      exact g_iret C hP hD hS dX9_rain_115
  · rw [if_pos c2] at hf
    refine lv_iconst (v := -1) hx hb dX9_rain_7 (by decide) ?_
    obtain rfl := so_eq hf
    exact g_iret C hP hD hS dX9_rain_8
/-! CoachCourtModel.common -/
def fX9_common_b6 (x4 : Int64) (x6 : Int64) : Option ((Int64 × Int64) ⊕ (Int64 × Int64)) :=
  if (lg_cmp x6 (0 : Int64)) = (0 : Int32) then
    (some (.inr (x4, x6)))
  else
    (gd (nzl x6) <|
    nm (x4 - x4 / x6 * x6) fun y3 =>
    some (.inl (x6, y3)))
def fX9_common (p1 : Int64) (p2 : Int64) : Option (Int64) :=
  (wh (fun (c : Int64 × Int64) => fX9_common_b6 c.1 c.2) 5000 (p1, p2)).bind fun x4 =>
  some x4.1
theorem hdX9_common : yX9_common.cls ≠ "java/lang/invoke/MethodHandle" ∧ yX9_common.cls ≠ "java/lang/invoke/VarHandle" ∧ (parseMethodDescriptor yX9_common.desc).map (fun d => d.parameters.length) = some 2 := by decide +kernel
set_option maxHeartbeats 4000000 in
set_option maxRecDepth 100000 in
theorem wX9_common_l6 {p : Program} {l : Launch} {e : Env} {s : State} {m : MethodId} {args : Array Value} {below : List Frame} {meth : Method} {c : Code} {D : va_G} {t : Nat → ClassId} {κ : Nat → Nat} {A : Nat → Prop} {rv : Option Value} {w1 : va_W} (C : Cxt p s m args meth c cX9_common 10 RX9 wsX9_common (some .long) D t κ A) : ∀ (n : Nat) (x4 : Int64) (x6 : Int64) (x : Int64 × Int64), wh (fun (c : Int64 × Int64) => fX9_common_b6 c.1 c.2) n (x4, x6) = some x → (∀ (z : Int64 × Int64), x = z → ∀ (H : Heap) (locs : List Loc) (ls : Array Slot), va_P D vwCl ([] : va_W) H → va_D A ([] : va_W) → va_S A s.heap H locs → lv_has ls 10 [(4, .long z.1)] → W p l e (rmL 0) s m args below meth c H locs 0 0 (MQ below (gQ D rv w1 A) args s 0 0 A) (F0 m 31 ls [])) → ∀ (H : Heap) (locs : List Loc) (ls : Array Slot), va_P D vwCl ([] : va_W) H → va_D A ([] : va_W) → va_S A s.heap H locs → lv_has ls 10 [(4, .long x4), (6, .long x6)] → W p l e (rmL 0) s m args below meth c H locs 0 0 (MQ below (gQ D rv w1 A) args s 0 0 A) (F0 m 6 ls []) := by
  obtain ⟨hx, hb, hr, hml, hown, hts, hC0, hlk, hA⟩ := id C
  have hK := hC0.1
  intro n
  induction n with
  | zero =>
    intro x4 x6 x h
    exact (wh_0 h).elim
  | succ n ih =>
    intro x4 x6 x h HX H locs ls hP hD hS hl
    obtain ⟨v, hf, hB, hX⟩ := wh_step h
    have hf : fX9_common_b6 x4 x6 = some v := hf
    have HB : ∀ (z : Int64 × Int64), v = .inl z → ∀ (H : Heap) (locs : List Loc) (ls : Array Slot), va_P D vwCl ([] : va_W) H → va_D A ([] : va_W) → va_S A s.heap H locs → lv_has ls 10 [(4, .long z.1), (6, .long z.2)] → W p l e (rmL 0) s m args below meth c H locs 0 0 (MQ below (gQ D rv w1 A) args s 0 0 A) (F0 m 6 ls []) := fun z hz H locs ls hP hD hS hl => ih z.1 z.2 x (hB z hz) HX H locs ls hP hD hS hl
    have HX : ∀ (z : Int64 × Int64), v = .inr z → ∀ (H : Heap) (locs : List Loc) (ls : Array Slot), va_P D vwCl ([] : va_W) H → va_D A ([] : va_W) → va_S A s.heap H locs → lv_has ls 10 [(4, .long z.1)] → W p l e (rmL 0) s m args below meth c H locs 0 0 (MQ below (gQ D rv w1 A) args s 0 0 A) (F0 m 31 ls []) := fun z hz => HX z (hX _ hz).symm
    unfold fX9_common_b6 at hf
    refine lv_lload hx hb dX9_common_6 (lv_at hl 1 rfl) ?_
    refine lv_lconst (v := 0) hx hb dX9_common_8 (by decide) ?_
    refine W.lcmp hx hb dX9_common_9 ?_
    refine lv_if_eq (tgt := 31) hx hb dX9_common_10 (by decide) (fun c1 => ?_) (fun c1 => ?_)
    · rw [if_pos c1] at hf
      obtain rfl := so_eq hf
      exact HX _ rfl _ _ _ hP hD hS (lv_sub hl [0] rfl)
    · rw [if_neg c1] at hf
      refine lv_lload hx hb dX9_common_13 (lv_at hl 0 rfl) ?_
      refine lv_lload hx hb dX9_common_15 (lv_at hl 1 rfl) ?_
      obtain ⟨b2, hf⟩ := gd_some hf
      refine lv_lrem hx hb dX9_common_17 (nzl_ne b2) ?_
      obtain ⟨y3, hy3, hf⟩ := nm_ex hf
      refine W.eq (g2 := F0 m 18 ls [.long y3]) (by rw [hy3]) ?_
      refine lv_lstore (lv' := [(8, .long y3), (4, .long x4), (6, .long x6)]) hx hb dX9_common_18 hl (by decide) rfl (fun ls hl => ?_)
      refine lv_lload hx hb dX9_common_20 (lv_at hl 2 rfl) ?_
      refine lv_lstore (lv' := [(4, .long x6), (8, .long y3), (6, .long x6)]) hx hb dX9_common_22 hl (by decide) rfl (fun ls hl => ?_)
      refine lv_lload hx hb dX9_common_24 (lv_at hl 1 rfl) ?_
      refine lv_lstore (lv' := [(6, .long y3), (4, .long x6), (8, .long y3)]) hx hb dX9_common_26 hl (by decide) rfl (fun ls hl => ?_)
      refine lv_goto (tgt := 6) hx hb dX9_common_28 (by decide) ?_
      obtain rfl := so_eq hf
      exact HB _ rfl _ _ _ hP hD hS (lv_sub hl [1, 0] rfl)
set_option maxHeartbeats 4000000 in
set_option maxRecDepth 100000 in
theorem cX9_common_ok {l : Launch} {D : va_G} {t : Nat → ClassId} {κ : Nat → Nat} {p1 : Int64} {p2 : Int64} {out : Int64} (hf : fX9_common p1 p2 = some out) : Ct l D t κ yX9_common wsX9_common (rmL 0) [.long p1, .long p2] ([] : va_W) (some (.long out)) ([] : va_W) := by
  refine Ct.ofW (own := RX9) (cc := cX9_common) (maxL := 10) (ret := (some .long)) (by decide) rfl rfl (Nat.le_of_ble_eq_true rfl) ?_
  intro p e s m below meth c A C hP hD ls hl
  have hS : va_S A s.heap s.heap [] := va_S.rf
  obtain ⟨hx, hb, hr, hml, hown, hts, hC0, hlk, hA⟩ := id C
  have hK := hC0.1
  have hl : lv_has ls 10 [(0, .long p1), (2, .long p2)] := hl
  unfold fX9_common at hf
  refine lv_lload_n hx hb dX9_common_0 rfl (lv_at hl 0 rfl) ?_
  refine lv_lstore (lv' := [(4, .long p1), (0, .long p1), (2, .long p2)]) hx hb dX9_common_1 hl (by decide) rfl (fun ls hl => ?_)
  refine lv_lload_n hx hb dX9_common_3 rfl (lv_at hl 2 rfl) ?_
  refine lv_lstore (lv' := [(6, .long p2), (4, .long p1), (0, .long p1), (2, .long p2)]) hx hb dX9_common_4 hl (by decide) rfl (fun ls hl => ?_)
  obtain ⟨x4, ex4, hf⟩ := bd_some hf
  refine wX9_common_l6 C 5000 p1 p2 x4 ex4 (fun c9 h9 H locs ls hP hD hS hl => ?_) _ _ _ hP hD hS (lv_sub hl [1, 0] rfl)
  subst h9
  refine lv_lload hx hb dX9_common_31 (lv_at hl 0 rfl) ?_
  obtain rfl := so_eq hf
  exact g_lret C hP hD hS dX9_common_33
/-! CoachCourtModel.told -/
def fX9_told (p1 : Int64) (p2 : Int64) (p3 : Int32) : Option (Int64) :=
  (fX9_common p2 p1).bind fun v1 =>
  if p3 = (0 : Int32) then
    (gd (nzl v1) <|
    some (p1 / v1))
  else
    (gd (nzl v1) <|
    some (p2 / v1))
theorem hdX9_told : yX9_told.cls ≠ "java/lang/invoke/MethodHandle" ∧ yX9_told.cls ≠ "java/lang/invoke/VarHandle" ∧ (parseMethodDescriptor yX9_told.desc).map (fun d => d.parameters.length) = some 3 := by decide +kernel
set_option maxHeartbeats 4000000 in
set_option maxRecDepth 100000 in
theorem cX9_told_ok {l : Launch} {D : va_G} {t : Nat → ClassId} {κ : Nat → Nat} {p1 : Int64} {p2 : Int64} {p3 : Int32} {out : Int64} (hf : fX9_told p1 p2 p3 = some out) : Ct l D t κ yX9_told wsX9_told (rmL 1) [.long p1, .long p2, .int p3] ([] : va_W) (some (.long out)) ([] : va_W) := by
  refine Ct.ofW (own := RX9) (cc := cX9_told) (maxL := 7) (ret := (some .long)) (by decide) rfl rfl (Nat.le_of_ble_eq_true rfl) ?_
  intro p e s m below meth c A C hP hD ls hl
  have hS : va_S A s.heap s.heap [] := va_S.rf
  obtain ⟨hx, hb, hr, hml, hown, hts, hC0, hlk, hA⟩ := id C
  have hK := hC0.1
  have hl : lv_has ls 7 [(0, .long p1), (2, .long p2), (4, .int p3)] := hl
  unfold fX9_told at hf
  refine lv_lload_n hx hb dX9_told_0 rfl (lv_at hl 1 rfl) ?_
  refine lv_lload_n hx hb dX9_told_1 rfl (lv_at hl 0 rfl) ?_
  obtain ⟨v1, ev1, hf⟩ := bd_some hf
  refine gk_S C (As := [.long p2, .long p1]) (rest := []) (cX9_common_ok (l := l) (D := D) (t := t) (κ := κ) ev1) gX9_told_X9_common rfl ⟨rfl, rfl⟩ hdX9_common ⟨Nat.le_of_ble_eq_true rfl, Nat.le_of_ble_eq_true rfl⟩ hP hD hS rfl hl.1 (Nat.le_of_ble_eq_true rfl) dX9_told_2 (Nat.zero_le _) (Nat.zero_le _) (fun H locs hP hD hS => ?_)
  refine W.eq (g2 := F0 m 5 ls [.long v1]) rfl ?_
  refine lv_lstore (lv' := [(5, .long v1), (0, .long p1), (2, .long p2), (4, .int p3)]) hx hb dX9_told_5 hl (by decide) rfl (fun ls hl => ?_)
  refine lv_iload hx hb dX9_told_7 (lv_at hl 3 rfl) ?_
  refine lv_if_ne (tgt := 19) hx hb dX9_told_9 (by decide) (fun c2 => ?_) (fun c2 => ?_)
  · rw [if_neg c2] at hf
    refine lv_lload_n hx hb dX9_told_19 rfl (lv_at hl 2 rfl) ?_
    refine lv_lload hx hb dX9_told_20 (lv_at hl 0 rfl) ?_
    obtain ⟨b3, hf⟩ := gd_some hf
    refine lv_ldiv hx hb dX9_told_22 (nzl_ne b3) ?_
    obtain rfl := so_eq hf
    exact g_lret C hP hD hS dX9_told_23
  · rw [if_pos c2] at hf
    refine lv_lload_n hx hb dX9_told_12 rfl (lv_at hl 1 rfl) ?_
    refine lv_lload hx hb dX9_told_13 (lv_at hl 0 rfl) ?_
    obtain ⟨b4, hf⟩ := gd_some hf
    refine lv_ldiv hx hb dX9_told_15 (nzl_ne b4) ?_
    refine lv_goto (tgt := 23) hx hb dX9_told_16 (by decide) ?_
    obtain rfl := so_eq hf
    exact g_lret C hP hD hS dX9_told_23
/-! CoachCourtModel.findOdds -/
def fX9_findOdds_b17 (s_mo : S2) (lam : S6) (x1 : Int32) (x2 : Int32) (x3 : Int32) : Option ((Int32 × S2 × S6) ⊕ (Int32 × S2 × S6)) :=
  if (s_mo 0 0) ≤ x3 then
    (some (.inr (x3, s_mo, lam)))
  else
    (nm (vp_updL lam 2 ((lam 2) * (10 : Int64))) fun s5 =>
    nm (x3 + (1 : Int32)) fun y6 =>
    some (.inl (y6, s_mo, s5)))
def fX9_findOdds_b65 (s_mo : S2) (lam : S6) (x1 : Int32) (x2 : Int32) (x3 : Int32) (x4 : Int64) (x6 : Int32) : Option ((Int64 × Int32 × S2 × S6) ⊕ (Int64 × Int32 × S2 × S6)) :=
  if (s_mo 0 0) ≤ x6 then
    (some (.inr (x4, x6, s_mo, lam)))
  else
    (gd (ixb (((3 : Int32) * x6) + (2 : Int32)) 59) <|
    nm (sE s_mo 2 (Int32.toNatClampNeg (((3 : Int32) * x6) + (2 : Int32))) ((x3 >>> (x6 &&& 31)) &&& (1 : Int32))) fun s12 =>
    if ((x3 >>> (x6 &&& 31)) &&& (1 : Int32)) = (1 : Int32) then
      (nm (x4 * (Int32.toInt64 x1)) fun y16 =>
      nm (x6 + (1 : Int32)) fun y17 =>
      some (.inl (y16, y17, s12, lam)))
    else
      (nm (x4 * (Int32.toInt64 ((10 : Int32) - x1))) fun y14 =>
      nm (x6 + (1 : Int32)) fun y15 =>
      some (.inl (y14, y15, s12, lam))))
def fX9_findOdds_148 (s_mo : S2) (lam : S6) (x1 : Int32) (x2 : Int32) (x3 : Int32) (x4 : Int64) (k0 : Int64) (k1 : Int64) : Option ((Int32 × S2 × S6) ⊕ (Int32 × S2 × S6)) :=
  nm (vp_updL lam 0 (k1 + k0)) fun s22 =>
  (fX9_verdicts s_mo).bind fun v23 =>
  (fX9_bitsOf v23).bind fun v24 =>
  nm (vp_updL s22 1 ((s22 1) + (x4 * (Int32.toInt64 v24)))) fun s25 =>
  nm (x3 + (1 : Int32)) fun y26 =>
  some (.inl (y26, s_mo, s25))
def fX9_findOdds_b49 (s_mo : S2) (lam : S6) (x1 : Int32) (x2 : Int32) (x3 : Int32) : Option ((Int32 × S2 × S6) ⊕ (Int32 × S2 × S6)) :=
  if ((1 : Int32) <<< ((s_mo 0 0) &&& 31)) ≤ x3 then
    (some (.inr (x3, s_mo, lam)))
  else
    ((wh (fun (c : Int64 × Int32 × S2 × S6) => fX9_findOdds_b65 c.2.2.1 c.2.2.2 x1 x2 x3 c.1 c.2.1) 5000 ((1 : Int64), (0 : Int32), s_mo, lam)).bind fun x18 =>
    (fX9_drives x18.2.2.1).bind fun v19 =>
    gd (ixb x2 4) <|
    if (v19 6 (Int32.toNatClampNeg x2)) = (-4 : Int32) then
      (fX9_findOdds_148 v19 x18.2.2.2 x1 x2 x3 x18.1 (0 : Int64) (x18.2.2.2 0))
    else
      (fX9_findOdds_148 v19 x18.2.2.2 x1 x2 x3 x18.1 x18.1 (x18.2.2.2 0)))
def fX9_findOdds (s_mo : S2) (lam : S6) (p1 : Int32) (p2 : Int32) : Option (S2 × S6) :=
  nm (vp_updL lam 0 (0 : Int64)) fun s1 =>
  nm (vp_updL s1 1 (0 : Int64)) fun s2 =>
  nm (vp_updL s2 2 (1 : Int64)) fun s3 =>
  (wh (fun (c : Int32 × S2 × S6) => fX9_findOdds_b17 c.2.1 c.2.2 p1 p2 c.1) 5000 ((0 : Int32), s_mo, s3)).bind fun x7 =>
  (fX9_starts x7.2.1).bind fun v8 =>
  (wh (fun (c : Int32 × S2 × S6) => fX9_findOdds_b49 c.2.1 c.2.2 p1 p2 c.1) 5000 ((0 : Int32), v8, x7.2.2)).bind fun x27 =>
  some (x27.2.1, x27.2.2)
theorem hdX9_findOdds : yX9_findOdds.cls = RX9 ∧ yX9_findOdds.cls ≠ "java/lang/invoke/MethodHandle" ∧ yX9_findOdds.cls ≠ "java/lang/invoke/VarHandle" ∧ (parseMethodDescriptor yX9_findOdds.desc).map (fun d => d.parameters.length) = some 2 := by decide +kernel
theorem iwX9_findOdds_X9 : ∀ w ∈ wsX90, w ∈ wsX9_findOdds := by decide +kernel
theorem lkX9_findOdds_f254 : Cond.fieldLink RX9 254 "CoachCourtModel" "wonSum" "J" ∈ wsX9_findOdds := by decide +kernel
theorem lkX9_findOdds_f258 : Cond.fieldLink RX9 258 "CoachCourtModel" "manySum" "J" ∈ wsX9_findOdds := by decide +kernel
theorem lkX9_findOdds_f261 : Cond.fieldLink RX9 261 "CoachCourtModel" "allWays" "J" ∈ wsX9_findOdds := by decide +kernel
theorem lkX9_findOdds_f81 : Cond.fieldLink RX9 81 "CoachCourtModel" "miles" "I" ∈ wsX9_findOdds := by decide +kernel
theorem lkX9_findOdds_l264 : Cond.constantLong RX9 264 (10) ∈ wsX9_findOdds := by decide +kernel
theorem lkX9_findOdds_f13 : Cond.fieldLink RX9 13 "CoachCourtModel" "now" "[I" ∈ wsX9_findOdds := by decide +kernel
theorem lkX9_findOdds_f26 : Cond.fieldLink RX9 26 "CoachCourtModel" "verdict" "[I" ∈ wsX9_findOdds := by decide +kernel
set_option maxHeartbeats 4000000 in
set_option maxRecDepth 100000 in
theorem wX9_findOdds_l17 {p : Program} {l : Launch} {e : Env} {s : State} {m : MethodId} {args : Array Value} {below : List Frame} {meth : Method} {c : Code} {D : va_G} {t : Nat → ClassId} {κ : Nat → Nat} {A : Nat → Prop} {a_mo : Nat → Nat} {x1 : Int32} {x2 : Int32} {rv : Option Value} {w1 : va_W} (C : Cxt p s m args meth c cX9_findOdds 7 RX9 wsX9_findOdds none D t κ A) : ∀ (n : Nat) (x3 : Int32) (s_mo : S2) (lam : S6) (x : Int32 × S2 × S6), wh (fun (c : Int32 × S2 × S6) => fX9_findOdds_b17 c.2.1 c.2.2 x1 x2 c.1) n (x3, s_mo, lam) = some x → (∀ (z : Int32 × S2 × S6), x = z → ∀ (H : Heap) (locs : List Loc) (ls : Array Slot), va_P D vwCl (wModel t a_mo z.2.1 z.2.2) H → va_D A (wModel t a_mo z.2.1 z.2.2) → va_S A s.heap H locs → lv_has ls 7 [(0, .ref (a_mo 0)), (1, .int x1), (2, .int x2)] → W p l e (rmL 6) s m args below meth c H locs 0 0 (MQ below (gQ D rv w1 A) args s 0 0 A) (F0 m 43 ls [])) → ∀ (H : Heap) (locs : List Loc) (ls : Array Slot), va_P D vwCl (wModel t a_mo s_mo lam) H → va_D A (wModel t a_mo s_mo lam) → va_S A s.heap H locs → lv_has ls 7 [(0, .ref (a_mo 0)), (1, .int x1), (2, .int x2), (3, .int x3)] → W p l e (rmL 6) s m args below meth c H locs 0 0 (MQ below (gQ D rv w1 A) args s 0 0 A) (F0 m 17 ls []) := by
  obtain ⟨hx, hb, hr, hml, hown, hts, hC0, hlk, hA⟩ := id C
  have hK := hC0.1
  intro n
  induction n with
  | zero =>
    intro x3 s_mo lam x h
    exact (wh_0 h).elim
  | succ n ih =>
    intro x3 s_mo lam x h HX H locs ls hP hD hS hl
    obtain ⟨v, hf, hB, hX⟩ := wh_step h
    have hf : fX9_findOdds_b17 s_mo lam x1 x2 x3 = some v := hf
    have HB : ∀ (z : Int32 × S2 × S6), v = .inl z → ∀ (H : Heap) (locs : List Loc) (ls : Array Slot), va_P D vwCl (wModel t a_mo z.2.1 z.2.2) H → va_D A (wModel t a_mo z.2.1 z.2.2) → va_S A s.heap H locs → lv_has ls 7 [(0, .ref (a_mo 0)), (1, .int x1), (2, .int x2), (3, .int z.1)] → W p l e (rmL 6) s m args below meth c H locs 0 0 (MQ below (gQ D rv w1 A) args s 0 0 A) (F0 m 17 ls []) := fun z hz H locs ls hP hD hS hl => ih z.1 z.2.1 z.2.2 x (hB z hz) HX H locs ls hP hD hS hl
    have HX : ∀ (z : Int32 × S2 × S6), v = .inr z → ∀ (H : Heap) (locs : List Loc) (ls : Array Slot), va_P D vwCl (wModel t a_mo z.2.1 z.2.2) H → va_D A (wModel t a_mo z.2.1 z.2.2) → va_S A s.heap H locs → lv_has ls 7 [(0, .ref (a_mo 0)), (1, .int x1), (2, .int x2)] → W p l e (rmL 6) s m args below meth c H locs 0 0 (MQ below (gQ D rv w1 A) args s 0 0 A) (F0 m 43 ls []) := fun z hz => HX z (hX _ hz).symm
    unfold fX9_findOdds_b17 at hf
    refine lv_iload_n hx hb dX9_findOdds_17 rfl (lv_at hl 3 rfl) ?_
    refine lv_aload_n hx hb dX9_findOdds_18 rfl (lv_at hl 0 rfl) ?_
    refine va_get (D := D) (ci := 9) (v := .int (s_mo 0 0)) (C := RX9) (T := TX9) (N := 37) hx hb hts iwX9_findOdds_X9 hown hK hP 0 rfl rfl 3 (by decide) (hts _ lkX9_findOdds_f81) (fun _ h9 => h9) rfl dX9_findOdds_19 ?_
    refine lv_icmp_ge (tgt := 43) hx hb dX9_findOdds_22 (by decide) (fun c4 => ?_) (fun c4 => ?_)
    · rw [if_pos c4] at hf
      obtain rfl := so_eq hf
      exact HX _ rfl _ _ _ hP hD hS (lv_sub hl [0, 1, 2] rfl)
    · rw [if_neg c4] at hf
      refine lv_aload_n hx hb dX9_findOdds_25 rfl (lv_at hl 0 rfl) ?_
      refine lv_dup hx hb dX9_findOdds_26 rfl ?_
      refine va_get (D := D) (ci := 9) (v := .long (lam 2)) (C := RX9) (T := TX9) (N := 37) hx hb hts iwX9_findOdds_X9 hown hK hP 0 rfl rfl 30 (by decide) (hts _ lkX9_findOdds_f261) (fun _ h9 => h9) rfl dX9_findOdds_27 ?_
      refine lv_ldc2 hx hb hown (hts _ lkX9_findOdds_l264) dX9_findOdds_30 ?_
      refine lv_lmul hx hb dX9_findOdds_33 ?_
      obtain ⟨s5, hs5, hf⟩ := nm_ex hf
      refine va_put (D := D) (ci := 9) (v := .long ((lam 2) * (10 : Int64))) (ty := .long) (C := RX9) (T := TX9) (N := 37) hx hb hts iwX9_findOdds_X9 tyX9 tyX9_ok nmX9 hown hK hP hD hS 0 rfl rfl 30 (by decide) (hts _ lkX9_findOdds_f261) (fun _ h9 => h9) rfl (by decide +kernel) rfl rfl (Nat.le_of_ble_eq_true rfl) dX9_findOdds_34 (fun H locs hP hD hS => ?_)
      have hP : va_P D vwCl (wModel t a_mo s_mo s5) H := by rw [hs5]; exact hP
      have hD : va_D A (wModel t a_mo s_mo s5) := by rw [hs5]; exact hD
      obtain ⟨y6, hy6, hf⟩ := nm_ex hf
      refine lv_iinc (v := y6) (lv' := [(3, .int y6), (0, .ref (a_mo 0)), (1, .int x1), (2, .int x2)]) hx hb dX9_findOdds_37 hl (k := 3) rfl (by rw [hy6]; rfl) (by decide) rfl (fun ls hl => ?_)
      refine lv_goto (tgt := 17) hx hb dX9_findOdds_40 (by decide) ?_
      obtain rfl := so_eq hf
      exact HB _ rfl _ _ _ hP hD hS (lv_sub hl [1, 2, 3, 0] rfl)
set_option maxHeartbeats 4000000 in
set_option maxRecDepth 100000 in
theorem wX9_findOdds_l65 {p : Program} {l : Launch} {e : Env} {s : State} {m : MethodId} {args : Array Value} {below : List Frame} {meth : Method} {c : Code} {D : va_G} {t : Nat → ClassId} {κ : Nat → Nat} {A : Nat → Prop} {a_mo : Nat → Nat} {x1 : Int32} {x2 : Int32} {x3 : Int32} {rv : Option Value} {w1 : va_W} (C : Cxt p s m args meth c cX9_findOdds 7 RX9 wsX9_findOdds none D t κ A) : ∀ (n : Nat) (x4 : Int64) (x6 : Int32) (s_mo : S2) (lam : S6) (x : Int64 × Int32 × S2 × S6), wh (fun (c : Int64 × Int32 × S2 × S6) => fX9_findOdds_b65 c.2.2.1 c.2.2.2 x1 x2 x3 c.1 c.2.1) n (x4, x6, s_mo, lam) = some x → (∀ (z : Int64 × Int32 × S2 × S6), x = z → ∀ (H : Heap) (locs : List Loc) (ls : Array Slot), va_P D vwCl (wModel t a_mo z.2.2.1 z.2.2.2) H → va_D A (wModel t a_mo z.2.2.1 z.2.2.2) → va_S A s.heap H locs → lv_has ls 7 [(0, .ref (a_mo 0)), (1, .int x1), (2, .int x2), (3, .int x3), (4, .long z.1)] → W p l e (rmL 6) s m args below meth c H locs 0 0 (MQ below (gQ D rv w1 A) args s 0 0 A) (F0 m 122 ls [])) → ∀ (H : Heap) (locs : List Loc) (ls : Array Slot), va_P D vwCl (wModel t a_mo s_mo lam) H → va_D A (wModel t a_mo s_mo lam) → va_S A s.heap H locs → lv_has ls 7 [(0, .ref (a_mo 0)), (1, .int x1), (2, .int x2), (3, .int x3), (4, .long x4), (6, .int x6)] → W p l e (rmL 6) s m args below meth c H locs 0 0 (MQ below (gQ D rv w1 A) args s 0 0 A) (F0 m 65 ls []) := by
  obtain ⟨hx, hb, hr, hml, hown, hts, hC0, hlk, hA⟩ := id C
  have hK := hC0.1
  intro n
  induction n with
  | zero =>
    intro x4 x6 s_mo lam x h
    exact (wh_0 h).elim
  | succ n ih =>
    intro x4 x6 s_mo lam x h HX H locs ls hP hD hS hl
    obtain ⟨v, hf, hB, hX⟩ := wh_step h
    have hf : fX9_findOdds_b65 s_mo lam x1 x2 x3 x4 x6 = some v := hf
    have HB : ∀ (z : Int64 × Int32 × S2 × S6), v = .inl z → ∀ (H : Heap) (locs : List Loc) (ls : Array Slot), va_P D vwCl (wModel t a_mo z.2.2.1 z.2.2.2) H → va_D A (wModel t a_mo z.2.2.1 z.2.2.2) → va_S A s.heap H locs → lv_has ls 7 [(0, .ref (a_mo 0)), (1, .int x1), (2, .int x2), (3, .int x3), (4, .long z.1), (6, .int z.2.1)] → W p l e (rmL 6) s m args below meth c H locs 0 0 (MQ below (gQ D rv w1 A) args s 0 0 A) (F0 m 65 ls []) := fun z hz H locs ls hP hD hS hl => ih z.1 z.2.1 z.2.2.1 z.2.2.2 x (hB z hz) HX H locs ls hP hD hS hl
    have HX : ∀ (z : Int64 × Int32 × S2 × S6), v = .inr z → ∀ (H : Heap) (locs : List Loc) (ls : Array Slot), va_P D vwCl (wModel t a_mo z.2.2.1 z.2.2.2) H → va_D A (wModel t a_mo z.2.2.1 z.2.2.2) → va_S A s.heap H locs → lv_has ls 7 [(0, .ref (a_mo 0)), (1, .int x1), (2, .int x2), (3, .int x3), (4, .long z.1)] → W p l e (rmL 6) s m args below meth c H locs 0 0 (MQ below (gQ D rv w1 A) args s 0 0 A) (F0 m 122 ls []) := fun z hz => HX z (hX _ hz).symm
    unfold fX9_findOdds_b65 at hf
    refine lv_iload hx hb dX9_findOdds_65 (lv_at hl 5 rfl) ?_
    refine lv_aload_n hx hb dX9_findOdds_67 rfl (lv_at hl 0 rfl) ?_
    refine va_get (D := D) (ci := 9) (v := .int (s_mo 0 0)) (C := RX9) (T := TX9) (N := 37) hx hb hts iwX9_findOdds_X9 hown hK hP 0 rfl rfl 3 (by decide) (hts _ lkX9_findOdds_f81) (fun _ h9 => h9) rfl dX9_findOdds_68 ?_
    refine lv_icmp_ge (tgt := 122) hx hb dX9_findOdds_71 (by decide) (fun c10 => ?_) (fun c10 => ?_)
    · rw [if_pos c10] at hf
      obtain rfl := so_eq hf
      exact HX _ rfl _ _ _ hP hD hS (lv_sub hl [0, 1, 2, 3, 4] rfl)
    · rw [if_neg c10] at hf
      refine lv_aload_n hx hb dX9_findOdds_74 rfl (lv_at hl 0 rfl) ?_
      refine va_get (D := D) (ci := 9) (v := .ref (a_mo 2)) (C := RX9) (T := TX9) (N := 37) hx hb hts iwX9_findOdds_X9 hown hK hP 0 rfl rfl 1 (by decide) (hts _ lkX9_findOdds_f13) (fun _ h9 => h9) rfl dX9_findOdds_75 ?_
      refine lv_iconst (v := 3) hx hb dX9_findOdds_78 (by decide) ?_
      refine lv_iload hx hb dX9_findOdds_79 (lv_at hl 5 rfl) ?_
      refine lv_imul hx hb dX9_findOdds_81 ?_
      refine lv_iconst (v := 2) hx hb dX9_findOdds_82 (by decide) ?_
      refine lv_iadd hx hb dX9_findOdds_83 ?_
      refine lv_iload_n hx hb dX9_findOdds_84 rfl (lv_at hl 3 rfl) ?_
      refine lv_iload hx hb dX9_findOdds_85 (lv_at hl 5 rfl) ?_
      refine lv_ishr hx hb dX9_findOdds_87 ?_
      refine lv_iconst (v := 1) hx hb dX9_findOdds_88 (by decide) ?_
      refine lv_iand hx hb dX9_findOdds_89 ?_
      obtain ⟨b11, hf⟩ := gd_some hf
      obtain ⟨s12, hs12, hf⟩ := nm_ex hf
      refine va_iast hx hb hK hP hD hS 2 0 rfl rfl (ixb_in b11) dX9_findOdds_90 (fun H locs hP hD hS => ?_)
      have hP : va_P D vwCl (wModel t a_mo s12 lam) H := by rw [hs12]; exact hP
      have hD : va_D A (wModel t a_mo s12 lam) := by rw [hs12]; exact hD
      refine lv_lload hx hb dX9_findOdds_91 (lv_at hl 4 rfl) ?_
      refine lv_iload_n hx hb dX9_findOdds_93 rfl (lv_at hl 3 rfl) ?_
      refine lv_iload hx hb dX9_findOdds_94 (lv_at hl 5 rfl) ?_
      refine lv_ishr hx hb dX9_findOdds_96 ?_
      refine lv_iconst (v := 1) hx hb dX9_findOdds_97 (by decide) ?_
      refine lv_iand hx hb dX9_findOdds_98 ?_
      refine lv_iconst (v := 1) hx hb dX9_findOdds_99 (by decide) ?_
      refine lv_icmp_ne (tgt := 108) hx hb dX9_findOdds_100 (by decide) (fun c13 => ?_) (fun c13 => ?_)
      · rw [if_neg c13] at hf
        refine lv_bipush (v := 10) hx hb dX9_findOdds_108 (by decide) ?_
        refine lv_iload_n hx hb dX9_findOdds_110 rfl (lv_at hl 1 rfl) ?_
        refine lv_isub hx hb dX9_findOdds_111 ?_
        refine lv_i2l hx hb dX9_findOdds_112 rfl ?_
        refine lv_lmul hx hb dX9_findOdds_113 ?_
        obtain ⟨y14, hy14, hf⟩ := nm_ex hf
        refine W.eq (g2 := F0 m 114 ls [.long y14]) (by rw [hy14]) ?_
        refine lv_lstore (lv' := [(4, .long y14), (0, .ref (a_mo 0)), (1, .int x1), (2, .int x2), (3, .int x3), (6, .int x6)]) hx hb dX9_findOdds_114 hl (by decide) rfl (fun ls hl => ?_)
        obtain ⟨y15, hy15, hf⟩ := nm_ex hf
        refine lv_iinc (v := y15) (lv' := [(6, .int y15), (4, .long y14), (0, .ref (a_mo 0)), (1, .int x1), (2, .int x2), (3, .int x3)]) hx hb dX9_findOdds_116 hl (k := 5) rfl (by rw [hy15]; rfl) (by decide) rfl (fun ls hl => ?_)
        refine lv_goto (tgt := 65) hx hb dX9_findOdds_119 (by decide) ?_
        obtain rfl := so_eq hf
        exact HB _ rfl _ _ _ hP hD hS (lv_sub hl [2, 3, 4, 5, 1, 0] rfl)
      · rw [if_pos c13] at hf
        refine lv_iload_n hx hb dX9_findOdds_103 rfl (lv_at hl 1 rfl) ?_
        refine lv_i2l hx hb dX9_findOdds_104 rfl ?_
        refine lv_goto (tgt := 113) hx hb dX9_findOdds_105 (by decide) ?_
        refine lv_lmul hx hb dX9_findOdds_113 ?_
        obtain ⟨y16, hy16, hf⟩ := nm_ex hf
        refine W.eq (g2 := F0 m 114 ls [.long y16]) (by rw [hy16]) ?_
        refine lv_lstore (lv' := [(4, .long y16), (0, .ref (a_mo 0)), (1, .int x1), (2, .int x2), (3, .int x3), (6, .int x6)]) hx hb dX9_findOdds_114 hl (by decide) rfl (fun ls hl => ?_)
        obtain ⟨y17, hy17, hf⟩ := nm_ex hf
        refine lv_iinc (v := y17) (lv' := [(6, .int y17), (4, .long y16), (0, .ref (a_mo 0)), (1, .int x1), (2, .int x2), (3, .int x3)]) hx hb dX9_findOdds_116 hl (k := 5) rfl (by rw [hy17]; rfl) (by decide) rfl (fun ls hl => ?_)
        refine lv_goto (tgt := 65) hx hb dX9_findOdds_119 (by decide) ?_
        obtain rfl := so_eq hf
        exact HB _ rfl _ _ _ hP hD hS (lv_sub hl [2, 3, 4, 5, 1, 0] rfl)
set_option maxHeartbeats 4000000 in
set_option maxRecDepth 100000 in
theorem wX9_findOdds_148 {p : Program} {l : Launch} {e : Env} {s : State} {m : MethodId} {args : Array Value} {below : List Frame} {meth : Method} {c : Code} {D : va_G} {t : Nat → ClassId} {κ : Nat → Nat} {A : Nat → Prop} {a_mo : Nat → Nat} {s_mo : S2} {lam : S6} {x1 : Int32} {x2 : Int32} {x3 : Int32} {x4 : Int64} {k0 : Int64} {k1 : Int64} {rv : Option Value} {w1 : va_W} {v : (Int32 × S2 × S6) ⊕ (Int32 × S2 × S6)} (C : Cxt p s m args meth c cX9_findOdds 7 RX9 wsX9_findOdds none D t κ A) (hf : fX9_findOdds_148 s_mo lam x1 x2 x3 x4 k0 k1 = some v) (HB : ∀ (z : Int32 × S2 × S6), v = .inl z → ∀ (H : Heap) (locs : List Loc) (ls : Array Slot), va_P D vwCl (wModel t a_mo z.2.1 z.2.2) H → va_D A (wModel t a_mo z.2.1 z.2.2) → va_S A s.heap H locs → lv_has ls 7 [(0, .ref (a_mo 0)), (1, .int x1), (2, .int x2), (3, .int z.1)] → W p l e (rmL 6) s m args below meth c H locs 0 0 (MQ below (gQ D rv w1 A) args s 0 0 A) (F0 m 49 ls [])) : ∀ (H : Heap) (locs : List Loc) (ls : Array Slot), va_P D vwCl (wModel t a_mo s_mo lam) H → va_D A (wModel t a_mo s_mo lam) → va_S A s.heap H locs → lv_has ls 7 [(0, .ref (a_mo 0)), (1, .int x1), (2, .int x2), (3, .int x3), (4, .long x4)] → W p l e (rmL 6) s m args below meth c H locs 0 0 (MQ below (gQ D rv w1 A) args s 0 0 A) (F0 m 148 ls [.long k0, .long k1, .ref (a_mo 0)]) := by
  obtain ⟨hx, hb, hr, hml, hown, hts, hC0, hlk, hA⟩ := id C
  have hK := hC0.1
  intro H locs ls hP hD hS hl
  unfold fX9_findOdds_148 at hf
  refine lv_ladd hx hb dX9_findOdds_148 ?_
  obtain ⟨s22, hs22, hf⟩ := nm_ex hf
  refine va_put (D := D) (ci := 9) (v := .long (k1 + k0)) (ty := .long) (C := RX9) (T := TX9) (N := 37) hx hb hts iwX9_findOdds_X9 tyX9 tyX9_ok nmX9 hown hK hP hD hS 0 rfl rfl 28 (by decide) (hts _ lkX9_findOdds_f254) (fun _ h9 => h9) rfl (by decide +kernel) rfl rfl (Nat.le_of_ble_eq_true rfl) dX9_findOdds_149 (fun H locs hP hD hS => ?_)
  have hP : va_P D vwCl (wModel t a_mo s_mo s22) H := by rw [hs22]; exact hP
  have hD : va_D A (wModel t a_mo s_mo s22) := by rw [hs22]; exact hD
  refine lv_aload_n hx hb dX9_findOdds_152 rfl (lv_at hl 0 rfl) ?_
  refine lv_dup hx hb dX9_findOdds_153 rfl ?_
  refine va_get (D := D) (ci := 9) (v := .long (s22 1)) (C := RX9) (T := TX9) (N := 37) hx hb hts iwX9_findOdds_X9 hown hK hP 0 rfl rfl 29 (by decide) (hts _ lkX9_findOdds_f258) (fun _ h9 => h9) rfl dX9_findOdds_154 ?_
  refine lv_lload hx hb dX9_findOdds_157 (lv_at hl 4 rfl) ?_
  refine lv_aload_n hx hb dX9_findOdds_159 rfl (lv_at hl 0 rfl) ?_
  obtain ⟨v23, ev23, hf⟩ := bd_some hf
  refine gk_V0 C (As := []) (rest := [.long x4, .long (s22 1), .ref (a_mo 0)]) (ci := 9) (q := (RX9, TX9, 37)) (q0 := 0) (cX9_verdicts_ok (l := l) (D := D) (t := t) (κ := κ) (a_mo := a_mo) (lam := s22) ev23) gX9_findOdds_X9_verdicts rfl ⟨rfl, rfl⟩ hdX9_verdicts ⟨Nat.le_of_ble_eq_true rfl, Nat.le_of_ble_eq_true rfl⟩ rfl rfl hP hD hS rfl hl.1 (Nat.le_of_ble_eq_true rfl) dX9_findOdds_160 (Nat.zero_le _) (Nat.zero_le _) (fun H locs hP hD hS => ?_)
  refine W.eq (g2 := F0 m 163 ls [.int v23, .long x4, .long (s22 1), .ref (a_mo 0)]) rfl ?_
  obtain ⟨v24, ev24, hf⟩ := bd_some hf
  refine gk_S C (As := [.int v23]) (rest := [.long x4, .long (s22 1), .ref (a_mo 0)]) (cX9_bitsOf_ok (l := l) (D := D) (t := t) (κ := κ) ev24) gX9_findOdds_X9_bitsOf rfl ⟨rfl, rfl⟩ hdX9_bitsOf ⟨Nat.le_of_ble_eq_true rfl, Nat.le_of_ble_eq_true rfl⟩ hP hD hS rfl hl.1 (Nat.le_of_ble_eq_true rfl) dX9_findOdds_163 (Nat.zero_le _) (Nat.zero_le _) (fun H locs hP hD hS => ?_)
  refine W.eq (g2 := F0 m 166 ls [.int v24, .long x4, .long (s22 1), .ref (a_mo 0)]) rfl ?_
  refine lv_i2l hx hb dX9_findOdds_166 rfl ?_
  refine lv_lmul hx hb dX9_findOdds_167 ?_
  refine lv_ladd hx hb dX9_findOdds_168 ?_
  obtain ⟨s25, hs25, hf⟩ := nm_ex hf
  refine va_put (D := D) (ci := 9) (v := .long ((s22 1) + (x4 * (Int32.toInt64 v24)))) (ty := .long) (C := RX9) (T := TX9) (N := 37) hx hb hts iwX9_findOdds_X9 tyX9 tyX9_ok nmX9 hown hK hP hD hS 0 rfl rfl 29 (by decide) (hts _ lkX9_findOdds_f258) (fun _ h9 => h9) rfl (by decide +kernel) rfl rfl (Nat.le_of_ble_eq_true rfl) dX9_findOdds_169 (fun H locs hP hD hS => ?_)
  have hP : va_P D vwCl (wModel t a_mo s_mo s25) H := by rw [hs25]; exact hP
  have hD : va_D A (wModel t a_mo s_mo s25) := by rw [hs25]; exact hD
  obtain ⟨y26, hy26, hf⟩ := nm_ex hf
  refine lv_iinc (v := y26) (lv' := [(3, .int y26), (0, .ref (a_mo 0)), (1, .int x1), (2, .int x2), (4, .long x4)]) hx hb dX9_findOdds_172 hl (k := 3) rfl (by rw [hy26]; rfl) (by decide) rfl (fun ls hl => ?_)
  refine lv_goto (tgt := 49) hx hb dX9_findOdds_175 (by decide) ?_
  obtain rfl := so_eq hf
  exact HB _ rfl _ _ _ hP hD hS (lv_sub hl [1, 2, 3, 0] rfl)
set_option maxHeartbeats 4000000 in
set_option maxRecDepth 100000 in
theorem wX9_findOdds_l49 {p : Program} {l : Launch} {e : Env} {s : State} {m : MethodId} {args : Array Value} {below : List Frame} {meth : Method} {c : Code} {D : va_G} {t : Nat → ClassId} {κ : Nat → Nat} {A : Nat → Prop} {a_mo : Nat → Nat} {x1 : Int32} {x2 : Int32} {rv : Option Value} {w1 : va_W} (C : Cxt p s m args meth c cX9_findOdds 7 RX9 wsX9_findOdds none D t κ A) : ∀ (n : Nat) (x3 : Int32) (s_mo : S2) (lam : S6) (x : Int32 × S2 × S6), wh (fun (c : Int32 × S2 × S6) => fX9_findOdds_b49 c.2.1 c.2.2 x1 x2 c.1) n (x3, s_mo, lam) = some x → (∀ (z : Int32 × S2 × S6), x = z → ∀ (H : Heap) (locs : List Loc) (ls : Array Slot), va_P D vwCl (wModel t a_mo z.2.1 z.2.2) H → va_D A (wModel t a_mo z.2.1 z.2.2) → va_S A s.heap H locs → lv_has ls 7 [] → W p l e (rmL 6) s m args below meth c H locs 0 0 (MQ below (gQ D rv w1 A) args s 0 0 A) (F0 m 178 ls [])) → ∀ (H : Heap) (locs : List Loc) (ls : Array Slot), va_P D vwCl (wModel t a_mo s_mo lam) H → va_D A (wModel t a_mo s_mo lam) → va_S A s.heap H locs → lv_has ls 7 [(0, .ref (a_mo 0)), (1, .int x1), (2, .int x2), (3, .int x3)] → W p l e (rmL 6) s m args below meth c H locs 0 0 (MQ below (gQ D rv w1 A) args s 0 0 A) (F0 m 49 ls []) := by
  obtain ⟨hx, hb, hr, hml, hown, hts, hC0, hlk, hA⟩ := id C
  have hK := hC0.1
  intro n
  induction n with
  | zero =>
    intro x3 s_mo lam x h
    exact (wh_0 h).elim
  | succ n ih =>
    intro x3 s_mo lam x h HX H locs ls hP hD hS hl
    obtain ⟨v, hf, hB, hX⟩ := wh_step h
    have hf : fX9_findOdds_b49 s_mo lam x1 x2 x3 = some v := hf
    have HB : ∀ (z : Int32 × S2 × S6), v = .inl z → ∀ (H : Heap) (locs : List Loc) (ls : Array Slot), va_P D vwCl (wModel t a_mo z.2.1 z.2.2) H → va_D A (wModel t a_mo z.2.1 z.2.2) → va_S A s.heap H locs → lv_has ls 7 [(0, .ref (a_mo 0)), (1, .int x1), (2, .int x2), (3, .int z.1)] → W p l e (rmL 6) s m args below meth c H locs 0 0 (MQ below (gQ D rv w1 A) args s 0 0 A) (F0 m 49 ls []) := fun z hz H locs ls hP hD hS hl => ih z.1 z.2.1 z.2.2 x (hB z hz) HX H locs ls hP hD hS hl
    have HX : ∀ (z : Int32 × S2 × S6), v = .inr z → ∀ (H : Heap) (locs : List Loc) (ls : Array Slot), va_P D vwCl (wModel t a_mo z.2.1 z.2.2) H → va_D A (wModel t a_mo z.2.1 z.2.2) → va_S A s.heap H locs → lv_has ls 7 [] → W p l e (rmL 6) s m args below meth c H locs 0 0 (MQ below (gQ D rv w1 A) args s 0 0 A) (F0 m 178 ls []) := fun z hz => HX z (hX _ hz).symm
    unfold fX9_findOdds_b49 at hf
    refine lv_iload_n hx hb dX9_findOdds_49 rfl (lv_at hl 3 rfl) ?_
    refine lv_iconst (v := 1) hx hb dX9_findOdds_50 (by decide) ?_
    refine lv_aload_n hx hb dX9_findOdds_51 rfl (lv_at hl 0 rfl) ?_
    refine va_get (D := D) (ci := 9) (v := .int (s_mo 0 0)) (C := RX9) (T := TX9) (N := 37) hx hb hts iwX9_findOdds_X9 hown hK hP 0 rfl rfl 3 (by decide) (hts _ lkX9_findOdds_f81) (fun _ h9 => h9) rfl dX9_findOdds_52 ?_
    refine lv_ishl hx hb dX9_findOdds_55 ?_
    refine lv_icmp_ge (tgt := 178) hx hb dX9_findOdds_56 (by decide) (fun c9 => ?_) (fun c9 => ?_)
    · rw [if_pos c9] at hf
      obtain rfl := so_eq hf
      exact HX _ rfl _ _ _ hP hD hS (lv_sub hl [] rfl)
    · rw [if_neg c9] at hf
      refine lv_lconst (v := 1) hx hb dX9_findOdds_59 (by decide) ?_
      refine lv_lstore (lv' := [(4, .long (1 : Int64)), (0, .ref (a_mo 0)), (1, .int x1), (2, .int x2), (3, .int x3)]) hx hb dX9_findOdds_60 hl (by decide) rfl (fun ls hl => ?_)
      refine lv_iconst (v := 0) hx hb dX9_findOdds_62 (by decide) ?_
      refine lv_istore (lv' := [(6, .int (0 : Int32)), (4, .long (1 : Int64)), (0, .ref (a_mo 0)), (1, .int x1), (2, .int x2), (3, .int x3)]) hx hb dX9_findOdds_63 hl (by decide) rfl (fun ls hl => ?_)
      obtain ⟨x18, ex18, hf⟩ := bd_some hf
      refine wX9_findOdds_l65 C 5000 (1 : Int64) (0 : Int32) s_mo lam x18 ex18 (fun c9 h9 H locs ls hP hD hS hl => ?_) _ _ _ hP hD hS (lv_sub hl [2, 3, 4, 5, 1, 0] rfl)
      subst h9
      refine lv_aload_n hx hb dX9_findOdds_122 rfl (lv_at hl 0 rfl) ?_
      obtain ⟨v19, ev19, hf⟩ := bd_some hf
      refine gk_V0 C (As := []) (rest := []) (ci := 9) (q := (RX9, TX9, 37)) (q0 := 0) (cX9_drives_ok (l := l) (D := D) (t := t) (κ := κ) (a_mo := a_mo) (lam := x18.2.2.2) ev19) gX9_findOdds_X9_drives rfl ⟨rfl, rfl⟩ hdX9_drives ⟨Nat.le_of_ble_eq_true rfl, Nat.le_of_ble_eq_true rfl⟩ rfl rfl hP hD hS rfl hl.1 (Nat.le_of_ble_eq_true rfl) dX9_findOdds_123 (Nat.zero_le _) (Nat.zero_le _) (fun H locs hP hD hS => ?_)
      refine W.eq (g2 := F0 m 126 ls []) rfl ?_
      refine lv_aload_n hx hb dX9_findOdds_126 rfl (lv_at hl 0 rfl) ?_
      refine lv_dup hx hb dX9_findOdds_127 rfl ?_
      refine va_get (D := D) (ci := 9) (v := .long (x18.2.2.2 0)) (C := RX9) (T := TX9) (N := 37) hx hb hts iwX9_findOdds_X9 hown hK hP 0 rfl rfl 28 (by decide) (hts _ lkX9_findOdds_f254) (fun _ h9 => h9) rfl dX9_findOdds_128 ?_
      refine lv_aload_n hx hb dX9_findOdds_131 rfl (lv_at hl 0 rfl) ?_
      refine va_get (D := D) (ci := 9) (v := .ref (a_mo 6)) (C := RX9) (T := TX9) (N := 37) hx hb hts iwX9_findOdds_X9 hown hK hP 0 rfl rfl 19 (by decide) (hts _ lkX9_findOdds_f26) (fun _ h9 => h9) rfl dX9_findOdds_132 ?_
      refine lv_iload_n hx hb dX9_findOdds_135 rfl (lv_at hl 2 rfl) ?_
      obtain ⟨b20, hf⟩ := gd_some hf
      refine va_iald hx hb hK hP 6 0 rfl rfl (ixb_in b20) dX9_findOdds_136 ?_
      refine lv_bipush (v := -4) hx hb dX9_findOdds_137 (by decide) ?_
      refine lv_icmp_eq (tgt := 147) hx hb dX9_findOdds_139 (by decide) (fun c21 => ?_) (fun c21 => ?_)
      · rw [if_pos c21] at hf
        refine lv_lconst (v := 0) hx hb dX9_findOdds_147 (by decide) ?_
        exact wX9_findOdds_148 C hf HB _ _ _ hP hD hS (lv_sub hl [0, 1, 2, 3, 4] rfl)
      · rw [if_neg c21] at hf
        refine lv_lload hx hb dX9_findOdds_142 (lv_at hl 4 rfl) ?_
        refine lv_goto (tgt := 148) hx hb dX9_findOdds_144 (by decide) ?_
        exact wX9_findOdds_148 C hf HB _ _ _ hP hD hS (lv_sub hl [0, 1, 2, 3, 4] rfl)
set_option maxHeartbeats 4000000 in
set_option maxRecDepth 100000 in
theorem cX9_findOdds_ok {l : Launch} {D : va_G} {t : Nat → ClassId} {κ : Nat → Nat} {a_mo : Nat → Nat} {s_mo : S2} {lam : S6} {p1 : Int32} {p2 : Int32} {out : S2 × S6} (hf : fX9_findOdds s_mo lam p1 p2 = some out) : Ct l D t κ yX9_findOdds wsX9_findOdds (rmL 6) [.ref (a_mo 0), .int p1, .int p2] (wModel t a_mo s_mo lam) none (wModel t a_mo out.1 out.2) := by
  refine Ct.ofW (own := RX9) (cc := cX9_findOdds) (maxL := 7) (ret := none) (by decide) rfl rfl (Nat.le_of_ble_eq_true rfl) ?_
  intro p e s m below meth c A C hP hD ls hl
  have hS : va_S A s.heap s.heap [] := va_S.rf
  obtain ⟨hx, hb, hr, hml, hown, hts, hC0, hlk, hA⟩ := id C
  have hK := hC0.1
  have hl : lv_has ls 7 [(0, .ref (a_mo 0)), (1, .int p1), (2, .int p2)] := hl
  unfold fX9_findOdds at hf
  refine lv_aload_n hx hb dX9_findOdds_0 rfl (lv_at hl 0 rfl) ?_
  refine lv_lconst (v := 0) hx hb dX9_findOdds_1 (by decide) ?_
  obtain ⟨s1, hs1, hf⟩ := nm_ex hf
  refine va_put (D := D) (ci := 9) (v := .long (0 : Int64)) (ty := .long) (C := RX9) (T := TX9) (N := 37) hx hb hts iwX9_findOdds_X9 tyX9 tyX9_ok nmX9 hown hK hP hD hS 0 rfl rfl 28 (by decide) (hts _ lkX9_findOdds_f254) (fun _ h9 => h9) rfl (by decide +kernel) rfl rfl (Nat.le_of_ble_eq_true rfl) dX9_findOdds_2 (fun H locs hP hD hS => ?_)
  have hP : va_P D vwCl (wModel t a_mo s_mo s1) H := by rw [hs1]; exact hP
  have hD : va_D A (wModel t a_mo s_mo s1) := by rw [hs1]; exact hD
  refine lv_aload_n hx hb dX9_findOdds_5 rfl (lv_at hl 0 rfl) ?_
  refine lv_lconst (v := 0) hx hb dX9_findOdds_6 (by decide) ?_
  obtain ⟨s2, hs2, hf⟩ := nm_ex hf
  refine va_put (D := D) (ci := 9) (v := .long (0 : Int64)) (ty := .long) (C := RX9) (T := TX9) (N := 37) hx hb hts iwX9_findOdds_X9 tyX9 tyX9_ok nmX9 hown hK hP hD hS 0 rfl rfl 29 (by decide) (hts _ lkX9_findOdds_f258) (fun _ h9 => h9) rfl (by decide +kernel) rfl rfl (Nat.le_of_ble_eq_true rfl) dX9_findOdds_7 (fun H locs hP hD hS => ?_)
  have hP : va_P D vwCl (wModel t a_mo s_mo s2) H := by rw [hs2]; exact hP
  have hD : va_D A (wModel t a_mo s_mo s2) := by rw [hs2]; exact hD
  refine lv_aload_n hx hb dX9_findOdds_10 rfl (lv_at hl 0 rfl) ?_
  refine lv_lconst (v := 1) hx hb dX9_findOdds_11 (by decide) ?_
  obtain ⟨s3, hs3, hf⟩ := nm_ex hf
  refine va_put (D := D) (ci := 9) (v := .long (1 : Int64)) (ty := .long) (C := RX9) (T := TX9) (N := 37) hx hb hts iwX9_findOdds_X9 tyX9 tyX9_ok nmX9 hown hK hP hD hS 0 rfl rfl 30 (by decide) (hts _ lkX9_findOdds_f261) (fun _ h9 => h9) rfl (by decide +kernel) rfl rfl (Nat.le_of_ble_eq_true rfl) dX9_findOdds_12 (fun H locs hP hD hS => ?_)
  have hP : va_P D vwCl (wModel t a_mo s_mo s3) H := by rw [hs3]; exact hP
  have hD : va_D A (wModel t a_mo s_mo s3) := by rw [hs3]; exact hD
  refine lv_iconst (v := 0) hx hb dX9_findOdds_15 (by decide) ?_
  refine lv_istore_n (lv' := [(3, .int (0 : Int32)), (0, .ref (a_mo 0)), (1, .int p1), (2, .int p2)]) hx hb dX9_findOdds_16 rfl hl (by decide) rfl (fun ls hl => ?_)
  obtain ⟨x7, ex7, hf⟩ := bd_some hf
  refine wX9_findOdds_l17 C 5000 (0 : Int32) s_mo s3 x7 ex7 (fun c9 h9 H locs ls hP hD hS hl => ?_) _ _ _ hP hD hS (lv_sub hl [1, 2, 3, 0] rfl)
  subst h9
  refine lv_aload_n hx hb dX9_findOdds_43 rfl (lv_at hl 0 rfl) ?_
  obtain ⟨v8, ev8, hf⟩ := bd_some hf
  refine gk_V0 C (As := []) (rest := []) (ci := 9) (q := (RX9, TX9, 37)) (q0 := 0) (cX9_starts_ok (l := l) (D := D) (t := t) (κ := κ) (a_mo := a_mo) (lam := x7.2.2) ev8) gX9_findOdds_X9_starts rfl ⟨rfl, rfl⟩ hdX9_starts ⟨Nat.le_of_ble_eq_true rfl, Nat.le_of_ble_eq_true rfl⟩ rfl rfl hP hD hS rfl hl.1 (Nat.le_of_ble_eq_true rfl) dX9_findOdds_44 (Nat.zero_le _) (Nat.zero_le _) (fun H locs hP hD hS => ?_)
  refine W.eq (g2 := F0 m 47 ls []) rfl ?_
  refine lv_iconst (v := 0) hx hb dX9_findOdds_47 (by decide) ?_
  refine lv_istore_n (lv' := [(3, .int (0 : Int32)), (0, .ref (a_mo 0)), (1, .int p1), (2, .int p2)]) hx hb dX9_findOdds_48 rfl hl (by decide) rfl (fun ls hl => ?_)
  obtain ⟨x27, ex27, hf⟩ := bd_some hf
  refine wX9_findOdds_l49 C 5000 (0 : Int32) v8 x7.2.2 x27 ex27 (fun c9 h9 H locs ls hP hD hS hl => ?_) _ _ _ hP hD hS (lv_sub hl [1, 2, 3, 0] rfl)
  subst h9
  obtain rfl := so_eq hf
  exact g_vret C hP hD hS dX9_findOdds_178
/-! CoachCourtModel.luck -/
def fX9_luck (s_mo : S2) (lam : S6) (p1 : Int32) (p2 : Int32) (p3 : Int32) : Option (Int64 × S2 × S6) :=
  (fX9_in (Int32.toInt64 p1) (0 : Int64) (10 : Int64)).bind fun v1 =>
  if v1 = (0 : Int32) then
    (some ((-1 : Int64), s_mo, lam))
  else
    ((fX9_isParty s_mo p2).bind fun v3 =>
    if v3 = (0 : Int32) then
      (some ((-1 : Int64), s_mo, lam))
    else
      ((fX9_isPart p3).bind fun v5 =>
      if v5 = (0 : Int32) then
        (some ((-1 : Int64), s_mo, lam))
      else
        ((fX9_findOdds s_mo lam p1 p2).bind fun v7 =>
        (fX9_told (v7.2 0) (v7.2 2) p3).bind fun v8 =>
        some (v8, v7.1, v7.2))))
theorem hdX9_luck : yX9_luck.cls = RX9 ∧ yX9_luck.cls ≠ "java/lang/invoke/MethodHandle" ∧ yX9_luck.cls ≠ "java/lang/invoke/VarHandle" ∧ (parseMethodDescriptor yX9_luck.desc).map (fun d => d.parameters.length) = some 3 := by decide +kernel
theorem lkX9_luck_l264 : Cond.constantLong RX9 264 (10) ∈ wsX9_luck := by decide +kernel
theorem lkX9_luck_l266 : Cond.constantLong RX9 266 (-1) ∈ wsX9_luck := by decide +kernel
theorem iwX9_luck_X9 : ∀ w ∈ wsX90, w ∈ wsX9_luck := by decide +kernel
theorem lkX9_luck_f254 : Cond.fieldLink RX9 254 "CoachCourtModel" "wonSum" "J" ∈ wsX9_luck := by decide +kernel
theorem lkX9_luck_f261 : Cond.fieldLink RX9 261 "CoachCourtModel" "allWays" "J" ∈ wsX9_luck := by decide +kernel
set_option maxHeartbeats 4000000 in
set_option maxRecDepth 100000 in
theorem cX9_luck_ok {l : Launch} {D : va_G} {t : Nat → ClassId} {κ : Nat → Nat} {a_mo : Nat → Nat} {s_mo : S2} {lam : S6} {p1 : Int32} {p2 : Int32} {p3 : Int32} {out : Int64 × S2 × S6} (hf : fX9_luck s_mo lam p1 p2 p3 = some out) : Ct l D t κ yX9_luck wsX9_luck (rmL 7) [.ref (a_mo 0), .int p1, .int p2, .int p3] (wModel t a_mo s_mo lam) (some (.long out.1)) (wModel t a_mo out.2.1 out.2.2) := by
  refine Ct.ofW (own := RX9) (cc := cX9_luck) (maxL := 4) (ret := (some .long)) (by decide) rfl rfl (Nat.le_of_ble_eq_true rfl) ?_
  intro p e s m below meth c A C hP hD ls hl
  have hS : va_S A s.heap s.heap [] := va_S.rf
  obtain ⟨hx, hb, hr, hml, hown, hts, hC0, hlk, hA⟩ := id C
  have hK := hC0.1
  have hl : lv_has ls 4 [(0, .ref (a_mo 0)), (1, .int p1), (2, .int p2), (3, .int p3)] := hl
  unfold fX9_luck at hf
  refine lv_iload_n hx hb dX9_luck_0 rfl (lv_at hl 1 rfl) ?_
  refine lv_i2l hx hb dX9_luck_1 rfl ?_
  refine lv_lconst (v := 0) hx hb dX9_luck_2 (by decide) ?_
  refine lv_ldc2 hx hb hown (hts _ lkX9_luck_l264) dX9_luck_3 ?_
  obtain ⟨v1, ev1, hf⟩ := bd_some hf
  refine gk_S C (As := [.long (Int32.toInt64 p1), .long (0 : Int64), .long (10 : Int64)]) (rest := []) (cX9_in_ok (l := l) (D := D) (t := t) (κ := κ) ev1) gX9_luck_X9_in rfl ⟨rfl, rfl⟩ hdX9_in ⟨Nat.le_of_ble_eq_true rfl, Nat.le_of_ble_eq_true rfl⟩ hP hD hS rfl hl.1 (Nat.le_of_ble_eq_true rfl) dX9_luck_6 (Nat.zero_le _) (Nat.zero_le _) (fun H locs hP hD hS => ?_)
  refine W.eq (g2 := F0 m 9 ls [.int v1]) rfl ?_
  refine lv_if_eq (tgt := 27) hx hb dX9_luck_9 (by decide) (fun c2 => ?_) (fun c2 => ?_)
  · rw [if_pos c2] at hf
    refine lv_ldc2 hx hb hown (hts _ lkX9_luck_l266) dX9_luck_27 ?_
    obtain rfl := so_eq hf
    exact g_lret C hP hD hS dX9_luck_30
  · rw [if_neg c2] at hf
    refine lv_aload_n hx hb dX9_luck_12 rfl (lv_at hl 0 rfl) ?_
    refine lv_iload_n hx hb dX9_luck_13 rfl (lv_at hl 2 rfl) ?_
    obtain ⟨v3, ev3, hf⟩ := bd_some hf
    refine gk_V0 C (As := [.int p2]) (rest := []) (ci := 9) (q := (RX9, TX9, 37)) (q0 := 0) (cX9_isParty_ok (l := l) (D := D) (t := t) (κ := κ) (a_mo := a_mo) (lam := lam) ev3) gX9_luck_X9_isParty rfl ⟨rfl, rfl⟩ hdX9_isParty ⟨Nat.le_of_ble_eq_true rfl, Nat.le_of_ble_eq_true rfl⟩ rfl rfl hP hD hS rfl hl.1 (Nat.le_of_ble_eq_true rfl) dX9_luck_14 (Nat.zero_le _) (Nat.zero_le _) (fun H locs hP hD hS => ?_)
    refine W.eq (g2 := F0 m 17 ls [.int v3]) rfl ?_
    refine lv_if_eq (tgt := 27) hx hb dX9_luck_17 (by decide) (fun c4 => ?_) (fun c4 => ?_)
    · rw [if_pos c4] at hf
      refine lv_ldc2 hx hb hown (hts _ lkX9_luck_l266) dX9_luck_27 ?_
      obtain rfl := so_eq hf
      exact g_lret C hP hD hS dX9_luck_30
    · rw [if_neg c4] at hf
      refine lv_iload_n hx hb dX9_luck_20 rfl (lv_at hl 3 rfl) ?_
      obtain ⟨v5, ev5, hf⟩ := bd_some hf
      refine gk_S C (As := [.int p3]) (rest := []) (cX9_isPart_ok (l := l) (D := D) (t := t) (κ := κ) ev5) gX9_luck_X9_isPart rfl ⟨rfl, rfl⟩ hdX9_isPart ⟨Nat.le_of_ble_eq_true rfl, Nat.le_of_ble_eq_true rfl⟩ hP hD hS rfl hl.1 (Nat.le_of_ble_eq_true rfl) dX9_luck_21 (Nat.zero_le _) (Nat.zero_le _) (fun H locs hP hD hS => ?_)
      refine W.eq (g2 := F0 m 24 ls [.int v5]) rfl ?_
      refine lv_if_ne (tgt := 31) hx hb dX9_luck_24 (by decide) (fun c6 => ?_) (fun c6 => ?_)
      · rw [if_neg c6] at hf
        refine lv_aload_n hx hb dX9_luck_31 rfl (lv_at hl 0 rfl) ?_
        refine lv_iload_n hx hb dX9_luck_32 rfl (lv_at hl 1 rfl) ?_
        refine lv_iload_n hx hb dX9_luck_33 rfl (lv_at hl 2 rfl) ?_
        obtain ⟨v7, ev7, hf⟩ := bd_some hf
        refine gk_V0 C (As := [.int p1, .int p2]) (rest := []) (ci := 9) (q := (RX9, TX9, 37)) (q0 := 0) (cX9_findOdds_ok (l := l) (D := D) (t := t) (κ := κ) (a_mo := a_mo) ev7) gX9_luck_X9_findOdds rfl ⟨rfl, rfl⟩ hdX9_findOdds ⟨Nat.le_of_ble_eq_true rfl, Nat.le_of_ble_eq_true rfl⟩ rfl rfl hP hD hS rfl hl.1 (Nat.le_of_ble_eq_true rfl) dX9_luck_34 (Nat.zero_le _) (Nat.zero_le _) (fun H locs hP hD hS => ?_)
        refine W.eq (g2 := F0 m 37 ls []) rfl ?_
        refine lv_aload_n hx hb dX9_luck_37 rfl (lv_at hl 0 rfl) ?_
        refine va_get (D := D) (ci := 9) (v := .long (v7.2 0)) (C := RX9) (T := TX9) (N := 37) hx hb hts iwX9_luck_X9 hown hK hP 0 rfl rfl 28 (by decide) (hts _ lkX9_luck_f254) (fun _ h9 => h9) rfl dX9_luck_38 ?_
        refine lv_aload_n hx hb dX9_luck_41 rfl (lv_at hl 0 rfl) ?_
        refine va_get (D := D) (ci := 9) (v := .long (v7.2 2)) (C := RX9) (T := TX9) (N := 37) hx hb hts iwX9_luck_X9 hown hK hP 0 rfl rfl 30 (by decide) (hts _ lkX9_luck_f261) (fun _ h9 => h9) rfl dX9_luck_42 ?_
        refine lv_iload_n hx hb dX9_luck_45 rfl (lv_at hl 3 rfl) ?_
        obtain ⟨v8, ev8, hf⟩ := bd_some hf
        refine gk_S C (As := [.long (v7.2 0), .long (v7.2 2), .int p3]) (rest := []) (cX9_told_ok (l := l) (D := D) (t := t) (κ := κ) ev8) gX9_luck_X9_told rfl ⟨rfl, rfl⟩ hdX9_told ⟨Nat.le_of_ble_eq_true rfl, Nat.le_of_ble_eq_true rfl⟩ hP hD hS rfl hl.1 (Nat.le_of_ble_eq_true rfl) dX9_luck_46 (Nat.zero_le _) (Nat.zero_le _) (fun H locs hP hD hS => ?_)
        refine W.eq (g2 := F0 m 49 ls [.long v8]) rfl ?_
        obtain rfl := so_eq hf
        exact g_lret C hP hD hS dX9_luck_49
      · rw [if_pos c6] at hf
        refine lv_ldc2 hx hb hown (hts _ lkX9_luck_l266) dX9_luck_27 ?_
        obtain rfl := so_eq hf
        exact g_lret C hP hD hS dX9_luck_30
/-! CoachCourtModel.mean -/
def fX9_mean (s_mo : S2) (lam : S6) (p1 : Int32) (p2 : Int32) : Option (Int64 × S2 × S6) :=
  (fX9_in (Int32.toInt64 p1) (0 : Int64) (10 : Int64)).bind fun v1 =>
  if v1 = (0 : Int32) then
    (some ((-1 : Int64), s_mo, lam))
  else
    ((fX9_isPart p2).bind fun v3 =>
    if v3 = (0 : Int32) then
      (some ((-1 : Int64), s_mo, lam))
    else
      ((fX9_findOdds s_mo lam p1 (0 : Int32)).bind fun v5 =>
      (fX9_told (v5.2 1) (v5.2 2) p2).bind fun v6 =>
      some (v6, v5.1, v5.2)))
theorem hdX9_mean : yX9_mean.cls = RX9 ∧ yX9_mean.cls ≠ "java/lang/invoke/MethodHandle" ∧ yX9_mean.cls ≠ "java/lang/invoke/VarHandle" ∧ (parseMethodDescriptor yX9_mean.desc).map (fun d => d.parameters.length) = some 2 := by decide +kernel
theorem lkX9_mean_l264 : Cond.constantLong RX9 264 (10) ∈ wsX9_mean := by decide +kernel
theorem lkX9_mean_l266 : Cond.constantLong RX9 266 (-1) ∈ wsX9_mean := by decide +kernel
theorem iwX9_mean_X9 : ∀ w ∈ wsX90, w ∈ wsX9_mean := by decide +kernel
theorem lkX9_mean_f258 : Cond.fieldLink RX9 258 "CoachCourtModel" "manySum" "J" ∈ wsX9_mean := by decide +kernel
theorem lkX9_mean_f261 : Cond.fieldLink RX9 261 "CoachCourtModel" "allWays" "J" ∈ wsX9_mean := by decide +kernel
set_option maxHeartbeats 4000000 in
set_option maxRecDepth 100000 in
theorem cX9_mean_ok {l : Launch} {D : va_G} {t : Nat → ClassId} {κ : Nat → Nat} {a_mo : Nat → Nat} {s_mo : S2} {lam : S6} {p1 : Int32} {p2 : Int32} {out : Int64 × S2 × S6} (hf : fX9_mean s_mo lam p1 p2 = some out) : Ct l D t κ yX9_mean wsX9_mean (rmL 7) [.ref (a_mo 0), .int p1, .int p2] (wModel t a_mo s_mo lam) (some (.long out.1)) (wModel t a_mo out.2.1 out.2.2) := by
  refine Ct.ofW (own := RX9) (cc := cX9_mean) (maxL := 3) (ret := (some .long)) (by decide) rfl rfl (Nat.le_of_ble_eq_true rfl) ?_
  intro p e s m below meth c A C hP hD ls hl
  have hS : va_S A s.heap s.heap [] := va_S.rf
  obtain ⟨hx, hb, hr, hml, hown, hts, hC0, hlk, hA⟩ := id C
  have hK := hC0.1
  have hl : lv_has ls 3 [(0, .ref (a_mo 0)), (1, .int p1), (2, .int p2)] := hl
  unfold fX9_mean at hf
  refine lv_iload_n hx hb dX9_mean_0 rfl (lv_at hl 1 rfl) ?_
  refine lv_i2l hx hb dX9_mean_1 rfl ?_
  refine lv_lconst (v := 0) hx hb dX9_mean_2 (by decide) ?_
  refine lv_ldc2 hx hb hown (hts _ lkX9_mean_l264) dX9_mean_3 ?_
  obtain ⟨v1, ev1, hf⟩ := bd_some hf
  refine gk_S C (As := [.long (Int32.toInt64 p1), .long (0 : Int64), .long (10 : Int64)]) (rest := []) (cX9_in_ok (l := l) (D := D) (t := t) (κ := κ) ev1) gX9_mean_X9_in rfl ⟨rfl, rfl⟩ hdX9_in ⟨Nat.le_of_ble_eq_true rfl, Nat.le_of_ble_eq_true rfl⟩ hP hD hS rfl hl.1 (Nat.le_of_ble_eq_true rfl) dX9_mean_6 (Nat.zero_le _) (Nat.zero_le _) (fun H locs hP hD hS => ?_)
  refine W.eq (g2 := F0 m 9 ls [.int v1]) rfl ?_
  refine lv_if_eq (tgt := 19) hx hb dX9_mean_9 (by decide) (fun c2 => ?_) (fun c2 => ?_)
  · rw [if_pos c2] at hf
    refine lv_ldc2 hx hb hown (hts _ lkX9_mean_l266) dX9_mean_19 ?_
    obtain rfl := so_eq hf
    exact g_lret C hP hD hS dX9_mean_22
  · rw [if_neg c2] at hf
    refine lv_iload_n hx hb dX9_mean_12 rfl (lv_at hl 2 rfl) ?_
    obtain ⟨v3, ev3, hf⟩ := bd_some hf
    refine gk_S C (As := [.int p2]) (rest := []) (cX9_isPart_ok (l := l) (D := D) (t := t) (κ := κ) ev3) gX9_mean_X9_isPart rfl ⟨rfl, rfl⟩ hdX9_isPart ⟨Nat.le_of_ble_eq_true rfl, Nat.le_of_ble_eq_true rfl⟩ hP hD hS rfl hl.1 (Nat.le_of_ble_eq_true rfl) dX9_mean_13 (Nat.zero_le _) (Nat.zero_le _) (fun H locs hP hD hS => ?_)
    refine W.eq (g2 := F0 m 16 ls [.int v3]) rfl ?_
    refine lv_if_ne (tgt := 23) hx hb dX9_mean_16 (by decide) (fun c4 => ?_) (fun c4 => ?_)
    · rw [if_neg c4] at hf
      refine lv_aload_n hx hb dX9_mean_23 rfl (lv_at hl 0 rfl) ?_
      refine lv_iload_n hx hb dX9_mean_24 rfl (lv_at hl 1 rfl) ?_
      refine lv_iconst (v := 0) hx hb dX9_mean_25 (by decide) ?_
      obtain ⟨v5, ev5, hf⟩ := bd_some hf
      refine gk_V0 C (As := [.int p1, .int (0 : Int32)]) (rest := []) (ci := 9) (q := (RX9, TX9, 37)) (q0 := 0) (cX9_findOdds_ok (l := l) (D := D) (t := t) (κ := κ) (a_mo := a_mo) ev5) gX9_mean_X9_findOdds rfl ⟨rfl, rfl⟩ hdX9_findOdds ⟨Nat.le_of_ble_eq_true rfl, Nat.le_of_ble_eq_true rfl⟩ rfl rfl hP hD hS rfl hl.1 (Nat.le_of_ble_eq_true rfl) dX9_mean_26 (Nat.zero_le _) (Nat.zero_le _) (fun H locs hP hD hS => ?_)
      refine W.eq (g2 := F0 m 29 ls []) rfl ?_
      refine lv_aload_n hx hb dX9_mean_29 rfl (lv_at hl 0 rfl) ?_
      refine va_get (D := D) (ci := 9) (v := .long (v5.2 1)) (C := RX9) (T := TX9) (N := 37) hx hb hts iwX9_mean_X9 hown hK hP 0 rfl rfl 29 (by decide) (hts _ lkX9_mean_f258) (fun _ h9 => h9) rfl dX9_mean_30 ?_
      refine lv_aload_n hx hb dX9_mean_33 rfl (lv_at hl 0 rfl) ?_
      refine va_get (D := D) (ci := 9) (v := .long (v5.2 2)) (C := RX9) (T := TX9) (N := 37) hx hb hts iwX9_mean_X9 hown hK hP 0 rfl rfl 30 (by decide) (hts _ lkX9_mean_f261) (fun _ h9 => h9) rfl dX9_mean_34 ?_
      refine lv_iload_n hx hb dX9_mean_37 rfl (lv_at hl 2 rfl) ?_
      obtain ⟨v6, ev6, hf⟩ := bd_some hf
      refine gk_S C (As := [.long (v5.2 1), .long (v5.2 2), .int p2]) (rest := []) (cX9_told_ok (l := l) (D := D) (t := t) (κ := κ) ev6) gX9_mean_X9_told rfl ⟨rfl, rfl⟩ hdX9_told ⟨Nat.le_of_ble_eq_true rfl, Nat.le_of_ble_eq_true rfl⟩ hP hD hS rfl hl.1 (Nat.le_of_ble_eq_true rfl) dX9_mean_38 (Nat.zero_le _) (Nat.zero_le _) (fun H locs hP hD hS => ?_)
      refine W.eq (g2 := F0 m 41 ls [.long v6]) rfl ?_
      obtain rfl := so_eq hf
      exact g_lret C hP hD hS dX9_mean_41
    · rw [if_pos c4] at hf
      refine lv_ldc2 hx hb hown (hts _ lkX9_mean_l266) dX9_mean_19 ?_
      obtain rfl := so_eq hf
      exact g_lret C hP hD hS dX9_mean_22
/-! CoachCourtModel.see -/
def fX9_see_28 (s_mo : S2) (x1 : Int32) (x2 : Int32) : Option (Int32 × S2) :=
  if (s_mo 1 (Int32.toNatClampNeg (46 : Int32))) = (6 : Int32) then
    (some ((-3 : Int32), s_mo))
  else
    (gd (ixb ((47 : Int32) + ((2 : Int32) * (s_mo 1 (Int32.toNatClampNeg (46 : Int32))))) 177) <|
    nm (sE s_mo 1 (Int32.toNatClampNeg ((47 : Int32) + ((2 : Int32) * (s_mo 1 (Int32.toNatClampNeg (46 : Int32)))))) x1) fun s6 =>
    gd (ixb (((47 : Int32) + ((2 : Int32) * (s6 1 (Int32.toNatClampNeg (46 : Int32))))) + (1 : Int32)) 177) <|
    nm (sE s6 1 (Int32.toNatClampNeg (((47 : Int32) + ((2 : Int32) * (s6 1 (Int32.toNatClampNeg (46 : Int32))))) + (1 : Int32))) x2) fun s8 =>
    nm (sE s8 1 (Int32.toNatClampNeg (46 : Int32)) ((s8 1 (Int32.toNatClampNeg (46 : Int32))) + (1 : Int32))) fun s9 =>
    some (s9 1 (Int32.toNatClampNeg (46 : Int32)), s9))
def fX9_see (s_mo : S2) (p1 : Int32) (p2 : Int32) : Option (Int32 × S2) :=
  (fX9_isParty s_mo p1).bind fun v1 =>
  if v1 = (0 : Int32) then
    (some ((-1 : Int32), s_mo))
  else
    (if p2 = (-4 : Int32) then
      (fX9_see_28 s_mo p1 p2)
    else
      ((fX9_in (Int32.toInt64 p2) (0 : Int64) (7 : Int64)).bind fun v10 =>
      if v10 = (0 : Int32) then
        (some ((-1 : Int32), s_mo))
      else
        (fX9_see_28 s_mo p1 p2)))
theorem hdX9_see : yX9_see.cls = RX9 ∧ yX9_see.cls ≠ "java/lang/invoke/MethodHandle" ∧ yX9_see.cls ≠ "java/lang/invoke/VarHandle" ∧ (parseMethodDescriptor yX9_see.desc).map (fun d => d.parameters.length) = some 2 := by decide +kernel
theorem iwX9_see_X9 : ∀ w ∈ wsX90, w ∈ wsX9_see := by decide +kernel
theorem lkX9_see_f7 : Cond.fieldLink RX9 7 "CoachCourtModel" "st" "[I" ∈ wsX9_see := by decide +kernel
theorem lkX9_see_l275 : Cond.constantLong RX9 275 (7) ∈ wsX9_see := by decide +kernel
set_option maxHeartbeats 4000000 in
set_option maxRecDepth 100000 in
theorem wX9_see_28 {p : Program} {l : Launch} {e : Env} {s : State} {m : MethodId} {args : Array Value} {below : List Frame} {meth : Method} {c : Code} {D : va_G} {t : Nat → ClassId} {κ : Nat → Nat} {A : Nat → Prop} {a_mo : Nat → Nat} {s_mo : S2} {lam : S6} {x1 : Int32} {x2 : Int32} {out : Int32 × S2} (C : Cxt p s m args meth c cX9_see 3 RX9 wsX9_see (some .int) D t κ A) (hf : fX9_see_28 s_mo x1 x2 = some out) : ∀ (H : Heap) (locs : List Loc) (ls : Array Slot), va_P D vwCl (wModel t a_mo s_mo lam) H → va_D A (wModel t a_mo s_mo lam) → va_S A s.heap H locs → lv_has ls 3 [(0, .ref (a_mo 0)), (1, .int x1), (2, .int x2)] → W p l e (rmL 2) s m args below meth c H locs 0 0 (MQ below (gQ D (some (.int out.1)) (wModel t a_mo out.2 lam) A) args s 0 0 A) (F0 m 28 ls []) := by
  obtain ⟨hx, hb, hr, hml, hown, hts, hC0, hlk, hA⟩ := id C
  have hK := hC0.1
  intro H locs ls hP hD hS hl
  unfold fX9_see_28 at hf
  refine lv_aload_n hx hb dX9_see_28 rfl (lv_at hl 0 rfl) ?_
  refine va_get (D := D) (ci := 9) (v := .ref (a_mo 1)) (C := RX9) (T := TX9) (N := 37) hx hb hts iwX9_see_X9 hown hK hP 0 rfl rfl 0 (by decide) (hts _ lkX9_see_f7) (fun _ h9 => h9) rfl dX9_see_29 ?_
  refine lv_bipush (v := 46) hx hb dX9_see_32 (by decide) ?_
  refine va_iald hx hb hK hP 1 0 rfl rfl (ixb_in (by decide)) dX9_see_34 ?_
  refine lv_bipush (v := 6) hx hb dX9_see_35 (by decide) ?_
  refine lv_icmp_ne (tgt := 43) hx hb dX9_see_37 (by decide) (fun c4 => ?_) (fun c4 => ?_)
  · rw [if_neg c4] at hf
    refine lv_aload_n hx hb dX9_see_43 rfl (lv_at hl 0 rfl) ?_
    refine va_get (D := D) (ci := 9) (v := .ref (a_mo 1)) (C := RX9) (T := TX9) (N := 37) hx hb hts iwX9_see_X9 hown hK hP 0 rfl rfl 0 (by decide) (hts _ lkX9_see_f7) (fun _ h9 => h9) rfl dX9_see_44 ?_
    refine lv_bipush (v := 47) hx hb dX9_see_47 (by decide) ?_
    refine lv_iconst (v := 2) hx hb dX9_see_49 (by decide) ?_
    refine lv_aload_n hx hb dX9_see_50 rfl (lv_at hl 0 rfl) ?_
    refine va_get (D := D) (ci := 9) (v := .ref (a_mo 1)) (C := RX9) (T := TX9) (N := 37) hx hb hts iwX9_see_X9 hown hK hP 0 rfl rfl 0 (by decide) (hts _ lkX9_see_f7) (fun _ h9 => h9) rfl dX9_see_51 ?_
    refine lv_bipush (v := 46) hx hb dX9_see_54 (by decide) ?_
    refine va_iald hx hb hK hP 1 0 rfl rfl (ixb_in (by decide)) dX9_see_56 ?_
    refine lv_imul hx hb dX9_see_57 ?_
    refine lv_iadd hx hb dX9_see_58 ?_
    refine lv_iload_n hx hb dX9_see_59 rfl (lv_at hl 1 rfl) ?_
    obtain ⟨b5, hf⟩ := gd_some hf
    obtain ⟨s6, hs6, hf⟩ := nm_ex hf
    refine va_iast hx hb hK hP hD hS 1 0 rfl rfl (ixb_in b5) dX9_see_60 (fun H locs hP hD hS => ?_)
    have hP : va_P D vwCl (wModel t a_mo s6 lam) H := by rw [hs6]; exact hP
    have hD : va_D A (wModel t a_mo s6 lam) := by rw [hs6]; exact hD
    refine lv_aload_n hx hb dX9_see_61 rfl (lv_at hl 0 rfl) ?_
    refine va_get (D := D) (ci := 9) (v := .ref (a_mo 1)) (C := RX9) (T := TX9) (N := 37) hx hb hts iwX9_see_X9 hown hK hP 0 rfl rfl 0 (by decide) (hts _ lkX9_see_f7) (fun _ h9 => h9) rfl dX9_see_62 ?_
    refine lv_bipush (v := 47) hx hb dX9_see_65 (by decide) ?_
    refine lv_iconst (v := 2) hx hb dX9_see_67 (by decide) ?_
    refine lv_aload_n hx hb dX9_see_68 rfl (lv_at hl 0 rfl) ?_
    refine va_get (D := D) (ci := 9) (v := .ref (a_mo 1)) (C := RX9) (T := TX9) (N := 37) hx hb hts iwX9_see_X9 hown hK hP 0 rfl rfl 0 (by decide) (hts _ lkX9_see_f7) (fun _ h9 => h9) rfl dX9_see_69 ?_
    refine lv_bipush (v := 46) hx hb dX9_see_72 (by decide) ?_
    refine va_iald hx hb hK hP 1 0 rfl rfl (ixb_in (by decide)) dX9_see_74 ?_
    refine lv_imul hx hb dX9_see_75 ?_
    refine lv_iadd hx hb dX9_see_76 ?_
    refine lv_iconst (v := 1) hx hb dX9_see_77 (by decide) ?_
    refine lv_iadd hx hb dX9_see_78 ?_
    refine lv_iload_n hx hb dX9_see_79 rfl (lv_at hl 2 rfl) ?_
    obtain ⟨b7, hf⟩ := gd_some hf
    obtain ⟨s8, hs8, hf⟩ := nm_ex hf
    refine va_iast hx hb hK hP hD hS 1 0 rfl rfl (ixb_in b7) dX9_see_80 (fun H locs hP hD hS => ?_)
    have hP : va_P D vwCl (wModel t a_mo s8 lam) H := by rw [hs8]; exact hP
    have hD : va_D A (wModel t a_mo s8 lam) := by rw [hs8]; exact hD
    refine lv_aload_n hx hb dX9_see_81 rfl (lv_at hl 0 rfl) ?_
    refine va_get (D := D) (ci := 9) (v := .ref (a_mo 1)) (C := RX9) (T := TX9) (N := 37) hx hb hts iwX9_see_X9 hown hK hP 0 rfl rfl 0 (by decide) (hts _ lkX9_see_f7) (fun _ h9 => h9) rfl dX9_see_82 ?_
    refine lv_bipush (v := 46) hx hb dX9_see_85 (by decide) ?_
    refine lv_dup2_11 hx hb dX9_see_87 rfl rfl ?_
    refine va_iald hx hb hK hP 1 0 rfl rfl (ixb_in (by decide)) dX9_see_88 ?_
    refine lv_iconst (v := 1) hx hb dX9_see_89 (by decide) ?_
    refine lv_iadd hx hb dX9_see_90 ?_
    obtain ⟨s9, hs9, hf⟩ := nm_ex hf
    refine va_iast hx hb hK hP hD hS 1 0 rfl rfl (ixb_in (by decide)) dX9_see_91 (fun H locs hP hD hS => ?_)
    have hP : va_P D vwCl (wModel t a_mo s9 lam) H := by rw [hs9]; exact hP
    have hD : va_D A (wModel t a_mo s9 lam) := by rw [hs9]; exact hD
    refine lv_aload_n hx hb dX9_see_92 rfl (lv_at hl 0 rfl) ?_
    refine va_get (D := D) (ci := 9) (v := .ref (a_mo 1)) (C := RX9) (T := TX9) (N := 37) hx hb hts iwX9_see_X9 hown hK hP 0 rfl rfl 0 (by decide) (hts _ lkX9_see_f7) (fun _ h9 => h9) rfl dX9_see_93 ?_
    refine lv_bipush (v := 46) hx hb dX9_see_96 (by decide) ?_
    refine va_iald hx hb hK hP 1 0 rfl rfl (ixb_in (by decide)) dX9_see_98 ?_
    obtain rfl := so_eq hf
    exact g_iret C hP hD hS dX9_see_99
  · rw [if_pos c4] at hf
    refine lv_bipush (v := -3) hx hb dX9_see_40 (by decide) ?_
    obtain rfl := so_eq hf
    exact g_iret C hP hD hS dX9_see_42
set_option maxHeartbeats 4000000 in
set_option maxRecDepth 100000 in
theorem cX9_see_ok {l : Launch} {D : va_G} {t : Nat → ClassId} {κ : Nat → Nat} {a_mo : Nat → Nat} {s_mo : S2} {lam : S6} {p1 : Int32} {p2 : Int32} {out : Int32 × S2} (hf : fX9_see s_mo p1 p2 = some out) : Ct l D t κ yX9_see wsX9_see (rmL 2) [.ref (a_mo 0), .int p1, .int p2] (wModel t a_mo s_mo lam) (some (.int out.1)) (wModel t a_mo out.2 lam) := by
  refine Ct.ofW (own := RX9) (cc := cX9_see) (maxL := 3) (ret := (some .int)) (by decide) rfl rfl (Nat.le_of_ble_eq_true rfl) ?_
  intro p e s m below meth c A C hP hD ls hl
  have hS : va_S A s.heap s.heap [] := va_S.rf
  obtain ⟨hx, hb, hr, hml, hown, hts, hC0, hlk, hA⟩ := id C
  have hK := hC0.1
  have hl : lv_has ls 3 [(0, .ref (a_mo 0)), (1, .int p1), (2, .int p2)] := hl
  unfold fX9_see at hf
  refine lv_aload_n hx hb dX9_see_0 rfl (lv_at hl 0 rfl) ?_
  refine lv_iload_n hx hb dX9_see_1 rfl (lv_at hl 1 rfl) ?_
  obtain ⟨v1, ev1, hf⟩ := bd_some hf
  refine gk_V0 C (As := [.int p1]) (rest := []) (ci := 9) (q := (RX9, TX9, 37)) (q0 := 0) (cX9_isParty_ok (l := l) (D := D) (t := t) (κ := κ) (a_mo := a_mo) (lam := lam) ev1) gX9_see_X9_isParty rfl ⟨rfl, rfl⟩ hdX9_isParty ⟨Nat.le_of_ble_eq_true rfl, Nat.le_of_ble_eq_true rfl⟩ rfl rfl hP hD hS rfl hl.1 (Nat.le_of_ble_eq_true rfl) dX9_see_2 (Nat.zero_le _) (Nat.zero_le _) (fun H locs hP hD hS => ?_)
  refine W.eq (g2 := F0 m 5 ls [.int v1]) rfl ?_
  refine lv_if_eq (tgt := 26) hx hb dX9_see_5 (by decide) (fun c2 => ?_) (fun c2 => ?_)
  · rw [if_pos c2] at hf
    refine lv_iconst (v := -1) hx hb dX9_see_26 (by decide) ?_
    obtain rfl := so_eq hf
    exact g_iret C hP hD hS dX9_see_27
  · rw [if_neg c2] at hf
    refine lv_iload_n hx hb dX9_see_8 rfl (lv_at hl 2 rfl) ?_
    refine lv_bipush (v := -4) hx hb dX9_see_9 (by decide) ?_
    refine lv_icmp_eq (tgt := 28) hx hb dX9_see_11 (by decide) (fun c3 => ?_) (fun c3 => ?_)
    · rw [if_pos c3] at hf
      exact wX9_see_28 C hf _ _ _ hP hD hS (lv_sub hl [0, 1, 2] rfl)
    · rw [if_neg c3] at hf
      refine lv_iload_n hx hb dX9_see_14 rfl (lv_at hl 2 rfl) ?_
      refine lv_i2l hx hb dX9_see_15 rfl ?_
      refine lv_lconst (v := 0) hx hb dX9_see_16 (by decide) ?_
      refine lv_ldc2 hx hb hown (hts _ lkX9_see_l275) dX9_see_17 ?_
      obtain ⟨v10, ev10, hf⟩ := bd_some hf
      refine gk_S C (As := [.long (Int32.toInt64 p2), .long (0 : Int64), .long (7 : Int64)]) (rest := []) (cX9_in_ok (l := l) (D := D) (t := t) (κ := κ) ev10) gX9_see_X9_in rfl ⟨rfl, rfl⟩ hdX9_in ⟨Nat.le_of_ble_eq_true rfl, Nat.le_of_ble_eq_true rfl⟩ hP hD hS rfl hl.1 (Nat.le_of_ble_eq_true rfl) dX9_see_20 (Nat.zero_le _) (Nat.zero_le _) (fun H locs hP hD hS => ?_)
      refine W.eq (g2 := F0 m 23 ls [.int v10]) rfl ?_
      refine lv_if_ne (tgt := 28) hx hb dX9_see_23 (by decide) (fun c11 => ?_) (fun c11 => ?_)
      · rw [if_neg c11] at hf
        exact wX9_see_28 C hf _ _ _ hP hD hS (lv_sub hl [0, 1, 2] rfl)
      · rw [if_pos c11] at hf
        refine lv_iconst (v := -1) hx hb dX9_see_26 (by decide) ?_
        obtain rfl := so_eq hf
        exact g_iret C hP hD hS dX9_see_27
/-! CoachCourtModel.forget -/
def fX9_forget (s_mo : S2) (p1 : Int32) : Option (Int32 × S2) :=
  (fX9_in (Int32.toInt64 p1) (0 : Int64) (Int32.toInt64 (s_mo 1 (Int32.toNatClampNeg (46 : Int32))))).bind fun v1 =>
  if v1 = (0 : Int32) then
    (some ((-1 : Int32), s_mo))
  else
    ((fX9_becomes s_mo (46 : Int32) p1).bind fun v3 =>
    some (v3.1, v3.2))
theorem hdX9_forget : yX9_forget.cls = RX9 ∧ yX9_forget.cls ≠ "java/lang/invoke/MethodHandle" ∧ yX9_forget.cls ≠ "java/lang/invoke/VarHandle" ∧ (parseMethodDescriptor yX9_forget.desc).map (fun d => d.parameters.length) = some 1 := by decide +kernel
theorem iwX9_forget_X9 : ∀ w ∈ wsX90, w ∈ wsX9_forget := by decide +kernel
theorem lkX9_forget_f7 : Cond.fieldLink RX9 7 "CoachCourtModel" "st" "[I" ∈ wsX9_forget := by decide +kernel
set_option maxHeartbeats 4000000 in
set_option maxRecDepth 100000 in
theorem cX9_forget_ok {l : Launch} {D : va_G} {t : Nat → ClassId} {κ : Nat → Nat} {a_mo : Nat → Nat} {s_mo : S2} {lam : S6} {p1 : Int32} {out : Int32 × S2} (hf : fX9_forget s_mo p1 = some out) : Ct l D t κ yX9_forget wsX9_forget (rmL 1) [.ref (a_mo 0), .int p1] (wModel t a_mo s_mo lam) (some (.int out.1)) (wModel t a_mo out.2 lam) := by
  refine Ct.ofW (own := RX9) (cc := cX9_forget) (maxL := 2) (ret := (some .int)) (by decide) rfl rfl (Nat.le_of_ble_eq_true rfl) ?_
  intro p e s m below meth c A C hP hD ls hl
  have hS : va_S A s.heap s.heap [] := va_S.rf
  obtain ⟨hx, hb, hr, hml, hown, hts, hC0, hlk, hA⟩ := id C
  have hK := hC0.1
  have hl : lv_has ls 2 [(0, .ref (a_mo 0)), (1, .int p1)] := hl
  unfold fX9_forget at hf
  refine lv_iload_n hx hb dX9_forget_0 rfl (lv_at hl 1 rfl) ?_
  refine lv_i2l hx hb dX9_forget_1 rfl ?_
  refine lv_lconst (v := 0) hx hb dX9_forget_2 (by decide) ?_
  refine lv_aload_n hx hb dX9_forget_3 rfl (lv_at hl 0 rfl) ?_
  refine va_get (D := D) (ci := 9) (v := .ref (a_mo 1)) (C := RX9) (T := TX9) (N := 37) hx hb hts iwX9_forget_X9 hown hK hP 0 rfl rfl 0 (by decide) (hts _ lkX9_forget_f7) (fun _ h9 => h9) rfl dX9_forget_4 ?_
  refine lv_bipush (v := 46) hx hb dX9_forget_7 (by decide) ?_
  refine va_iald hx hb hK hP 1 0 rfl rfl (ixb_in (by decide)) dX9_forget_9 ?_
  refine lv_i2l hx hb dX9_forget_10 rfl ?_
  obtain ⟨v1, ev1, hf⟩ := bd_some hf
  refine gk_S C (As := [.long (Int32.toInt64 p1), .long (0 : Int64), .long (Int32.toInt64 (s_mo 1 (Int32.toNatClampNeg (46 : Int32))))]) (rest := []) (cX9_in_ok (l := l) (D := D) (t := t) (κ := κ) ev1) gX9_forget_X9_in rfl ⟨rfl, rfl⟩ hdX9_in ⟨Nat.le_of_ble_eq_true rfl, Nat.le_of_ble_eq_true rfl⟩ hP hD hS rfl hl.1 (Nat.le_of_ble_eq_true rfl) dX9_forget_11 (Nat.zero_le _) (Nat.zero_le _) (fun H locs hP hD hS => ?_)
  refine W.eq (g2 := F0 m 14 ls [.int v1]) rfl ?_
  refine lv_if_eq (tgt := 27) hx hb dX9_forget_14 (by decide) (fun c2 => ?_) (fun c2 => ?_)
  · rw [if_pos c2] at hf
    refine lv_iconst (v := -1) hx hb dX9_forget_27 (by decide) ?_
    obtain rfl := so_eq hf
    exact g_iret C hP hD hS dX9_forget_28
  · rw [if_neg c2] at hf
    refine lv_aload_n hx hb dX9_forget_17 rfl (lv_at hl 0 rfl) ?_
    refine lv_bipush (v := 46) hx hb dX9_forget_18 (by decide) ?_
    refine lv_iload_n hx hb dX9_forget_20 rfl (lv_at hl 1 rfl) ?_
    obtain ⟨v3, ev3, hf⟩ := bd_some hf
    refine gk_V0 C (As := [.int (46 : Int32), .int p1]) (rest := []) (ci := 9) (q := (RX9, TX9, 37)) (q0 := 0) (cX9_becomes_ok (l := l) (D := D) (t := t) (κ := κ) (a_mo := a_mo) (lam := lam) ev3) gX9_forget_X9_becomes rfl ⟨rfl, rfl⟩ hdX9_becomes ⟨Nat.le_of_ble_eq_true rfl, Nat.le_of_ble_eq_true rfl⟩ rfl rfl hP hD hS rfl hl.1 (Nat.le_of_ble_eq_true rfl) dX9_forget_21 (Nat.zero_le _) (Nat.zero_le _) (fun H locs hP hD hS => ?_)
    refine W.eq (g2 := F0 m 24 ls [.int v3.1]) rfl ?_
    refine lv_goto (tgt := 28) hx hb dX9_forget_24 (by decide) ?_
    obtain rfl := so_eq hf
    exact g_iret C hP hD hS dX9_forget_28
/-! CoachCourtModel.isSo -/
def fX9_isSo_b8 (s_mo : S2) (x1 : Int32) (x2 : Int32) : Option ((Int32 × Int32 × S2) ⊕ (Int32 × Int32 × S2)) :=
  if (s_mo 1 (Int32.toNatClampNeg (46 : Int32))) ≤ x2 then
    (some (.inr (x1, x2, s_mo)))
  else
    (if x1 = (0 : Int32) then
      (nm (x2 + (1 : Int32)) fun y4 =>
      some (.inl ((0 : Int32), y4, s_mo)))
    else
      (gd (ixb ((47 : Int32) + ((2 : Int32) * x2)) 177) <|
      gd (ixb (s_mo 1 (Int32.toNatClampNeg ((47 : Int32) + ((2 : Int32) * x2)))) 4) <|
      gd (ixb (((47 : Int32) + ((2 : Int32) * x2)) + (1 : Int32)) 177) <|
      if (s_mo 6 (Int32.toNatClampNeg (s_mo 1 (Int32.toNatClampNeg ((47 : Int32) + ((2 : Int32) * x2)))))) = (s_mo 1 (Int32.toNatClampNeg (((47 : Int32) + ((2 : Int32) * x2)) + (1 : Int32)))) then
        (nm (x2 + (1 : Int32)) fun y10 =>
        some (.inl ((1 : Int32), y10, s_mo)))
      else
        (nm (x2 + (1 : Int32)) fun y9 =>
        some (.inl ((0 : Int32), y9, s_mo)))))
def fX9_isSo (s_mo : S2) : Option (Int32 × S2) :=
  (fX9_drives s_mo).bind fun v1 =>
  (wh (fun (c : Int32 × Int32 × S2) => fX9_isSo_b8 c.2.2 c.1 c.2.1) 5000 ((1 : Int32), (0 : Int32), v1)).bind fun x11 =>
  gd (bzb x11.1) <|
  some (x11.1, x11.2.2)
theorem hdX9_isSo : yX9_isSo.cls = RX9 ∧ yX9_isSo.cls ≠ "java/lang/invoke/MethodHandle" ∧ yX9_isSo.cls ≠ "java/lang/invoke/VarHandle" ∧ (parseMethodDescriptor yX9_isSo.desc).map (fun d => d.parameters.length) = some 0 := by decide +kernel
theorem iwX9_isSo_X9 : ∀ w ∈ wsX90, w ∈ wsX9_isSo := by decide +kernel
theorem lkX9_isSo_f7 : Cond.fieldLink RX9 7 "CoachCourtModel" "st" "[I" ∈ wsX9_isSo := by decide +kernel
theorem lkX9_isSo_f26 : Cond.fieldLink RX9 26 "CoachCourtModel" "verdict" "[I" ∈ wsX9_isSo := by decide +kernel
set_option maxHeartbeats 4000000 in
set_option maxRecDepth 100000 in
theorem wX9_isSo_l8 {p : Program} {l : Launch} {e : Env} {s : State} {m : MethodId} {args : Array Value} {below : List Frame} {meth : Method} {c : Code} {D : va_G} {t : Nat → ClassId} {κ : Nat → Nat} {A : Nat → Prop} {a_mo : Nat → Nat} {lam : S6} {rv : Option Value} {w1 : va_W} (C : Cxt p s m args meth c cX9_isSo 3 RX9 wsX9_isSo (some .boolean) D t κ A) : ∀ (n : Nat) (x1 : Int32) (x2 : Int32) (s_mo : S2) (x : Int32 × Int32 × S2), wh (fun (c : Int32 × Int32 × S2) => fX9_isSo_b8 c.2.2 c.1 c.2.1) n (x1, x2, s_mo) = some x → (∀ (z : Int32 × Int32 × S2), x = z → ∀ (H : Heap) (locs : List Loc) (ls : Array Slot), va_P D vwCl (wModel t a_mo z.2.2 lam) H → va_D A (wModel t a_mo z.2.2 lam) → va_S A s.heap H locs → lv_has ls 3 [(1, .int z.1)] → W p l e (rmL 6) s m args below meth c H locs 0 0 (MQ below (gQ D rv w1 A) args s 0 0 A) (F0 m 67 ls [])) → ∀ (H : Heap) (locs : List Loc) (ls : Array Slot), va_P D vwCl (wModel t a_mo s_mo lam) H → va_D A (wModel t a_mo s_mo lam) → va_S A s.heap H locs → lv_has ls 3 [(0, .ref (a_mo 0)), (1, .int x1), (2, .int x2)] → W p l e (rmL 6) s m args below meth c H locs 0 0 (MQ below (gQ D rv w1 A) args s 0 0 A) (F0 m 8 ls []) := by
  obtain ⟨hx, hb, hr, hml, hown, hts, hC0, hlk, hA⟩ := id C
  have hK := hC0.1
  intro n
  induction n with
  | zero =>
    intro x1 x2 s_mo x h
    exact (wh_0 h).elim
  | succ n ih =>
    intro x1 x2 s_mo x h HX H locs ls hP hD hS hl
    obtain ⟨v, hf, hB, hX⟩ := wh_step h
    have hf : fX9_isSo_b8 s_mo x1 x2 = some v := hf
    have HB : ∀ (z : Int32 × Int32 × S2), v = .inl z → ∀ (H : Heap) (locs : List Loc) (ls : Array Slot), va_P D vwCl (wModel t a_mo z.2.2 lam) H → va_D A (wModel t a_mo z.2.2 lam) → va_S A s.heap H locs → lv_has ls 3 [(0, .ref (a_mo 0)), (1, .int z.1), (2, .int z.2.1)] → W p l e (rmL 6) s m args below meth c H locs 0 0 (MQ below (gQ D rv w1 A) args s 0 0 A) (F0 m 8 ls []) := fun z hz H locs ls hP hD hS hl => ih z.1 z.2.1 z.2.2 x (hB z hz) HX H locs ls hP hD hS hl
    have HX : ∀ (z : Int32 × Int32 × S2), v = .inr z → ∀ (H : Heap) (locs : List Loc) (ls : Array Slot), va_P D vwCl (wModel t a_mo z.2.2 lam) H → va_D A (wModel t a_mo z.2.2 lam) → va_S A s.heap H locs → lv_has ls 3 [(1, .int z.1)] → W p l e (rmL 6) s m args below meth c H locs 0 0 (MQ below (gQ D rv w1 A) args s 0 0 A) (F0 m 67 ls []) := fun z hz => HX z (hX _ hz).symm
    unfold fX9_isSo_b8 at hf
    refine lv_iload_n hx hb dX9_isSo_8 rfl (lv_at hl 2 rfl) ?_
    refine lv_aload_n hx hb dX9_isSo_9 rfl (lv_at hl 0 rfl) ?_
    refine va_get (D := D) (ci := 9) (v := .ref (a_mo 1)) (C := RX9) (T := TX9) (N := 37) hx hb hts iwX9_isSo_X9 hown hK hP 0 rfl rfl 0 (by decide) (hts _ lkX9_isSo_f7) (fun _ h9 => h9) rfl dX9_isSo_10 ?_
    refine lv_bipush (v := 46) hx hb dX9_isSo_13 (by decide) ?_
    refine va_iald hx hb hK hP 1 0 rfl rfl (ixb_in (by decide)) dX9_isSo_15 ?_
    refine lv_icmp_ge (tgt := 67) hx hb dX9_isSo_16 (by decide) (fun c2 => ?_) (fun c2 => ?_)
    · rw [if_pos c2] at hf
      obtain rfl := so_eq hf
      exact HX _ rfl _ _ _ hP hD hS (lv_sub hl [1] rfl)
    · rw [if_neg c2] at hf
      refine lv_iload_n hx hb dX9_isSo_19 rfl (lv_at hl 1 rfl) ?_
      refine lv_if_eq (tgt := 59) hx hb dX9_isSo_20 (by decide) (fun c3 => ?_) (fun c3 => ?_)
      · rw [if_pos c3] at hf
        refine lv_iconst (v := 0) hx hb dX9_isSo_59 (by decide) ?_
        refine lv_istore_n (lv' := [(1, .int (0 : Int32)), (0, .ref (a_mo 0)), (2, .int x2)]) hx hb dX9_isSo_60 rfl hl (by decide) rfl (fun ls hl => ?_)
        obtain ⟨y4, hy4, hf⟩ := nm_ex hf
        refine lv_iinc (v := y4) (lv' := [(2, .int y4), (1, .int (0 : Int32)), (0, .ref (a_mo 0))]) hx hb dX9_isSo_61 hl (k := 2) rfl (by rw [hy4]; rfl) (by decide) rfl (fun ls hl => ?_)
        refine lv_goto (tgt := 8) hx hb dX9_isSo_64 (by decide) ?_
        obtain rfl := so_eq hf
        exact HB _ rfl _ _ _ hP hD hS (lv_sub hl [2, 1, 0] rfl)
      · rw [if_neg c3] at hf
        refine lv_aload_n hx hb dX9_isSo_23 rfl (lv_at hl 0 rfl) ?_
        refine va_get (D := D) (ci := 9) (v := .ref (a_mo 6)) (C := RX9) (T := TX9) (N := 37) hx hb hts iwX9_isSo_X9 hown hK hP 0 rfl rfl 19 (by decide) (hts _ lkX9_isSo_f26) (fun _ h9 => h9) rfl dX9_isSo_24 ?_
        refine lv_aload_n hx hb dX9_isSo_27 rfl (lv_at hl 0 rfl) ?_
        refine va_get (D := D) (ci := 9) (v := .ref (a_mo 1)) (C := RX9) (T := TX9) (N := 37) hx hb hts iwX9_isSo_X9 hown hK hP 0 rfl rfl 0 (by decide) (hts _ lkX9_isSo_f7) (fun _ h9 => h9) rfl dX9_isSo_28 ?_
        refine lv_bipush (v := 47) hx hb dX9_isSo_31 (by decide) ?_
        refine lv_iconst (v := 2) hx hb dX9_isSo_33 (by decide) ?_
        refine lv_iload_n hx hb dX9_isSo_34 rfl (lv_at hl 2 rfl) ?_
        refine lv_imul hx hb dX9_isSo_35 ?_
        refine lv_iadd hx hb dX9_isSo_36 ?_
        obtain ⟨b5, hf⟩ := gd_some hf
        refine va_iald hx hb hK hP 1 0 rfl rfl (ixb_in b5) dX9_isSo_37 ?_
        obtain ⟨b6, hf⟩ := gd_some hf
        refine va_iald hx hb hK hP 6 0 rfl rfl (ixb_in b6) dX9_isSo_38 ?_
        refine lv_aload_n hx hb dX9_isSo_39 rfl (lv_at hl 0 rfl) ?_
        refine va_get (D := D) (ci := 9) (v := .ref (a_mo 1)) (C := RX9) (T := TX9) (N := 37) hx hb hts iwX9_isSo_X9 hown hK hP 0 rfl rfl 0 (by decide) (hts _ lkX9_isSo_f7) (fun _ h9 => h9) rfl dX9_isSo_40 ?_
        refine lv_bipush (v := 47) hx hb dX9_isSo_43 (by decide) ?_
        refine lv_iconst (v := 2) hx hb dX9_isSo_45 (by decide) ?_
        refine lv_iload_n hx hb dX9_isSo_46 rfl (lv_at hl 2 rfl) ?_
        refine lv_imul hx hb dX9_isSo_47 ?_
        refine lv_iadd hx hb dX9_isSo_48 ?_
        refine lv_iconst (v := 1) hx hb dX9_isSo_49 (by decide) ?_
        refine lv_iadd hx hb dX9_isSo_50 ?_
        obtain ⟨b7, hf⟩ := gd_some hf
        refine va_iald hx hb hK hP 1 0 rfl rfl (ixb_in b7) dX9_isSo_51 ?_
        refine lv_icmp_ne (tgt := 59) hx hb dX9_isSo_52 (by decide) (fun c8 => ?_) (fun c8 => ?_)
        · rw [if_neg c8] at hf
          refine lv_iconst (v := 0) hx hb dX9_isSo_59 (by decide) ?_
          refine lv_istore_n (lv' := [(1, .int (0 : Int32)), (0, .ref (a_mo 0)), (2, .int x2)]) hx hb dX9_isSo_60 rfl hl (by decide) rfl (fun ls hl => ?_)
          obtain ⟨y9, hy9, hf⟩ := nm_ex hf
          refine lv_iinc (v := y9) (lv' := [(2, .int y9), (1, .int (0 : Int32)), (0, .ref (a_mo 0))]) hx hb dX9_isSo_61 hl (k := 2) rfl (by rw [hy9]; rfl) (by decide) rfl (fun ls hl => ?_)
          refine lv_goto (tgt := 8) hx hb dX9_isSo_64 (by decide) ?_
          obtain rfl := so_eq hf
          exact HB _ rfl _ _ _ hP hD hS (lv_sub hl [2, 1, 0] rfl)
        · rw [if_pos c8] at hf
          refine lv_iconst (v := 1) hx hb dX9_isSo_55 (by decide) ?_
          refine lv_goto (tgt := 60) hx hb dX9_isSo_56 (by decide) ?_
          refine lv_istore_n (lv' := [(1, .int (1 : Int32)), (0, .ref (a_mo 0)), (2, .int x2)]) hx hb dX9_isSo_60 rfl hl (by decide) rfl (fun ls hl => ?_)
          obtain ⟨y10, hy10, hf⟩ := nm_ex hf
          refine lv_iinc (v := y10) (lv' := [(2, .int y10), (1, .int (1 : Int32)), (0, .ref (a_mo 0))]) hx hb dX9_isSo_61 hl (k := 2) rfl (by rw [hy10]; rfl) (by decide) rfl (fun ls hl => ?_)
          refine lv_goto (tgt := 8) hx hb dX9_isSo_64 (by decide) ?_
          obtain rfl := so_eq hf
          exact HB _ rfl _ _ _ hP hD hS (lv_sub hl [2, 1, 0] rfl)
set_option maxHeartbeats 4000000 in
set_option maxRecDepth 100000 in
theorem cX9_isSo_ok {l : Launch} {D : va_G} {t : Nat → ClassId} {κ : Nat → Nat} {a_mo : Nat → Nat} {s_mo : S2} {lam : S6} {out : Int32 × S2} (hf : fX9_isSo s_mo = some out) : Ct l D t κ yX9_isSo wsX9_isSo (rmL 6) [.ref (a_mo 0)] (wModel t a_mo s_mo lam) (some (.int out.1)) (wModel t a_mo out.2 lam) := by
  refine Ct.ofW (own := RX9) (cc := cX9_isSo) (maxL := 3) (ret := (some .boolean)) (by decide) rfl rfl (Nat.le_of_ble_eq_true rfl) ?_
  intro p e s m below meth c A C hP hD ls hl
  have hS : va_S A s.heap s.heap [] := va_S.rf
  obtain ⟨hx, hb, hr, hml, hown, hts, hC0, hlk, hA⟩ := id C
  have hK := hC0.1
  have hl : lv_has ls 3 [(0, .ref (a_mo 0))] := hl
  unfold fX9_isSo at hf
  refine lv_iconst (v := 1) hx hb dX9_isSo_0 (by decide) ?_
  refine lv_istore_n (lv' := [(1, .int (1 : Int32)), (0, .ref (a_mo 0))]) hx hb dX9_isSo_1 rfl hl (by decide) rfl (fun ls hl => ?_)
  refine lv_aload_n hx hb dX9_isSo_2 rfl (lv_at hl 1 rfl) ?_
  obtain ⟨v1, ev1, hf⟩ := bd_some hf
  refine gk_V0 C (As := []) (rest := []) (ci := 9) (q := (RX9, TX9, 37)) (q0 := 0) (cX9_drives_ok (l := l) (D := D) (t := t) (κ := κ) (a_mo := a_mo) (lam := lam) ev1) gX9_isSo_X9_drives rfl ⟨rfl, rfl⟩ hdX9_drives ⟨Nat.le_of_ble_eq_true rfl, Nat.le_of_ble_eq_true rfl⟩ rfl rfl hP hD hS rfl hl.1 (Nat.le_of_ble_eq_true rfl) dX9_isSo_3 (Nat.zero_le _) (Nat.zero_le _) (fun H locs hP hD hS => ?_)
  refine W.eq (g2 := F0 m 6 ls []) rfl ?_
  refine lv_iconst (v := 0) hx hb dX9_isSo_6 (by decide) ?_
  refine lv_istore_n (lv' := [(2, .int (0 : Int32)), (1, .int (1 : Int32)), (0, .ref (a_mo 0))]) hx hb dX9_isSo_7 rfl hl (by decide) rfl (fun ls hl => ?_)
  obtain ⟨x11, ex11, hf⟩ := bd_some hf
  refine wX9_isSo_l8 C 5000 (1 : Int32) (0 : Int32) v1 x11 ex11 (fun c9 h9 H locs ls hP hD hS hl => ?_) _ _ _ hP hD hS (lv_sub hl [2, 1, 0] rfl)
  subst h9
  refine lv_iload_n hx hb dX9_isSo_67 rfl (lv_at hl 0 rfl) ?_
  obtain ⟨b12, hf⟩ := gd_some hf
  obtain rfl := so_eq hf
  exact g_zret C (bzb_nar b12) hP hD hS dX9_isSo_68
/-! CoachCourtModel.signs -/
def fX9_signs (s_mo : S2) : Option (Int32) :=
  if (s_mo 0 0) ≤ (0 : Int32) then
    (some (1 : Int32))
  else
    (some (s_mo 0 0))
theorem hdX9_signs : yX9_signs.cls = RX9 ∧ yX9_signs.cls ≠ "java/lang/invoke/MethodHandle" ∧ yX9_signs.cls ≠ "java/lang/invoke/VarHandle" ∧ (parseMethodDescriptor yX9_signs.desc).map (fun d => d.parameters.length) = some 0 := by decide +kernel
theorem iwX9_signs_X9 : ∀ w ∈ wsX90, w ∈ wsX9_signs := by decide +kernel
theorem lkX9_signs_f81 : Cond.fieldLink RX9 81 "CoachCourtModel" "miles" "I" ∈ wsX9_signs := by decide +kernel
set_option maxHeartbeats 4000000 in
set_option maxRecDepth 100000 in
theorem cX9_signs_ok {l : Launch} {D : va_G} {t : Nat → ClassId} {κ : Nat → Nat} {a_mo : Nat → Nat} {s_mo : S2} {lam : S6} {out : Int32} (hf : fX9_signs s_mo = some out) : Ct l D t κ yX9_signs wsX9_signs (rmL 0) [.ref (a_mo 0)] (wModel t a_mo s_mo lam) (some (.int out)) (wModel t a_mo s_mo lam) := by
  refine Ct.ofW (own := RX9) (cc := cX9_signs) (maxL := 1) (ret := (some .int)) (by decide) rfl rfl (Nat.le_of_ble_eq_true rfl) ?_
  intro p e s m below meth c A C hP hD ls hl
  have hS : va_S A s.heap s.heap [] := va_S.rf
  obtain ⟨hx, hb, hr, hml, hown, hts, hC0, hlk, hA⟩ := id C
  have hK := hC0.1
  have hl : lv_has ls 1 [(0, .ref (a_mo 0))] := hl
  unfold fX9_signs at hf
  refine lv_aload_n hx hb dX9_signs_0 rfl (lv_at hl 0 rfl) ?_
  refine va_get (D := D) (ci := 9) (v := .int (s_mo 0 0)) (C := RX9) (T := TX9) (N := 37) hx hb hts iwX9_signs_X9 hown hK hP 0 rfl rfl 3 (by decide) (hts _ lkX9_signs_f81) (fun _ h9 => h9) rfl dX9_signs_1 ?_
  refine lv_if_le (tgt := 14) hx hb dX9_signs_4 (by decide) (fun c1 => ?_) (fun c1 => ?_)
  · rw [if_pos c1] at hf
    refine lv_iconst (v := 1) hx hb dX9_signs_14 (by decide) ?_
    obtain rfl := so_eq hf
    exact g_iret C hP hD hS dX9_signs_15
  · rw [if_neg c1] at hf
    refine lv_aload_n hx hb dX9_signs_7 rfl (lv_at hl 0 rfl) ?_
    refine va_get (D := D) (ci := 9) (v := .int (s_mo 0 0)) (C := RX9) (T := TX9) (N := 37) hx hb hts iwX9_signs_X9 hown hK hP 0 rfl rfl 3 (by decide) (hts _ lkX9_signs_f81) (fun _ h9 => h9) rfl dX9_signs_8 ?_
    refine lv_goto (tgt := 15) hx hb dX9_signs_11 (by decide) ?_
    obtain rfl := so_eq hf
    exact g_iret C hP hD hS dX9_signs_15
/-! CoachCourtModel.startsTurned -/
def fX9_startsTurned (s_mo : S2) (p1 : Int32) : Option (S2) :=
  (fX9_starts s_mo).bind fun v1 =>
  if ((v1 0 0) - (1 : Int32)) ≤ p1 then
    (some v1)
  else
    (nm (((3 : Int32) * p1) + (0 : Int32)) fun y3 =>
    gd (ixb y3 59) <|
    nm (v1 2 (Int32.toNatClampNeg y3)) fun y5 =>
    gd (ixb (y3 + (3 : Int32)) 59) <|
    nm (sE v1 2 (Int32.toNatClampNeg y3) (v1 2 (Int32.toNatClampNeg (y3 + (3 : Int32))))) fun s7 =>
    nm (sE s7 2 (Int32.toNatClampNeg (y3 + (3 : Int32))) y5) fun s8 =>
    some s8)
theorem hdX9_startsTurned : yX9_startsTurned.cls = RX9 ∧ yX9_startsTurned.cls ≠ "java/lang/invoke/MethodHandle" ∧ yX9_startsTurned.cls ≠ "java/lang/invoke/VarHandle" ∧ (parseMethodDescriptor yX9_startsTurned.desc).map (fun d => d.parameters.length) = some 1 := by decide +kernel
theorem iwX9_startsTurned_X9 : ∀ w ∈ wsX90, w ∈ wsX9_startsTurned := by decide +kernel
theorem lkX9_startsTurned_f81 : Cond.fieldLink RX9 81 "CoachCourtModel" "miles" "I" ∈ wsX9_startsTurned := by decide +kernel
theorem lkX9_startsTurned_f13 : Cond.fieldLink RX9 13 "CoachCourtModel" "now" "[I" ∈ wsX9_startsTurned := by decide +kernel
set_option maxHeartbeats 4000000 in
set_option maxRecDepth 100000 in
theorem cX9_startsTurned_ok {l : Launch} {D : va_G} {t : Nat → ClassId} {κ : Nat → Nat} {a_mo : Nat → Nat} {s_mo : S2} {lam : S6} {p1 : Int32} {out : S2} (hf : fX9_startsTurned s_mo p1 = some out) : Ct l D t κ yX9_startsTurned wsX9_startsTurned (rmL 1) [.ref (a_mo 0), .int p1] (wModel t a_mo s_mo lam) none (wModel t a_mo out lam) := by
  refine Ct.ofW (own := RX9) (cc := cX9_startsTurned) (maxL := 4) (ret := none) (by decide) rfl rfl (Nat.le_of_ble_eq_true rfl) ?_
  intro p e s m below meth c A C hP hD ls hl
  have hS : va_S A s.heap s.heap [] := va_S.rf
  obtain ⟨hx, hb, hr, hml, hown, hts, hC0, hlk, hA⟩ := id C
  have hK := hC0.1
  have hl : lv_has ls 4 [(0, .ref (a_mo 0)), (1, .int p1)] := hl
  unfold fX9_startsTurned at hf
  refine lv_aload_n hx hb dX9_startsTurned_0 rfl (lv_at hl 0 rfl) ?_
  obtain ⟨v1, ev1, hf⟩ := bd_some hf
  refine gk_V0 C (As := []) (rest := []) (ci := 9) (q := (RX9, TX9, 37)) (q0 := 0) (cX9_starts_ok (l := l) (D := D) (t := t) (κ := κ) (a_mo := a_mo) (lam := lam) ev1) gX9_startsTurned_X9_starts rfl ⟨rfl, rfl⟩ hdX9_starts ⟨Nat.le_of_ble_eq_true rfl, Nat.le_of_ble_eq_true rfl⟩ rfl rfl hP hD hS rfl hl.1 (Nat.le_of_ble_eq_true rfl) dX9_startsTurned_1 (Nat.zero_le _) (Nat.zero_le _) (fun H locs hP hD hS => ?_)
  refine W.eq (g2 := F0 m 4 ls []) rfl ?_
  refine lv_iload_n hx hb dX9_startsTurned_4 rfl (lv_at hl 1 rfl) ?_
  refine lv_aload_n hx hb dX9_startsTurned_5 rfl (lv_at hl 0 rfl) ?_
  refine va_get (D := D) (ci := 9) (v := .int (v1 0 0)) (C := RX9) (T := TX9) (N := 37) hx hb hts iwX9_startsTurned_X9 hown hK hP 0 rfl rfl 3 (by decide) (hts _ lkX9_startsTurned_f81) (fun _ h9 => h9) rfl dX9_startsTurned_6 ?_
  refine lv_iconst (v := 1) hx hb dX9_startsTurned_9 (by decide) ?_
  refine lv_isub hx hb dX9_startsTurned_10 ?_
  refine lv_icmp_ge (tgt := 50) hx hb dX9_startsTurned_11 (by decide) (fun c2 => ?_) (fun c2 => ?_)
  · rw [if_pos c2] at hf
    obtain rfl := so_eq hf
    exact g_vret C hP hD hS dX9_startsTurned_50
  · rw [if_neg c2] at hf
    refine lv_iconst (v := 3) hx hb dX9_startsTurned_14 (by decide) ?_
    refine lv_iload_n hx hb dX9_startsTurned_15 rfl (lv_at hl 1 rfl) ?_
    refine lv_imul hx hb dX9_startsTurned_16 ?_
    refine lv_iconst (v := 0) hx hb dX9_startsTurned_17 (by decide) ?_
    refine lv_iadd hx hb dX9_startsTurned_18 ?_
    obtain ⟨y3, hy3, hf⟩ := nm_ex hf
    refine W.eq (g2 := F0 m 19 ls [.int y3]) (by rw [hy3]) ?_
    refine lv_istore_n (lv' := [(2, .int y3), (0, .ref (a_mo 0)), (1, .int p1)]) hx hb dX9_startsTurned_19 rfl hl (by decide) rfl (fun ls hl => ?_)
    refine lv_aload_n hx hb dX9_startsTurned_20 rfl (lv_at hl 1 rfl) ?_
    refine va_get (D := D) (ci := 9) (v := .ref (a_mo 2)) (C := RX9) (T := TX9) (N := 37) hx hb hts iwX9_startsTurned_X9 hown hK hP 0 rfl rfl 1 (by decide) (hts _ lkX9_startsTurned_f13) (fun _ h9 => h9) rfl dX9_startsTurned_21 ?_
    refine lv_iload_n hx hb dX9_startsTurned_24 rfl (lv_at hl 0 rfl) ?_
    obtain ⟨b4, hf⟩ := gd_some hf
    refine va_iald hx hb hK hP 2 0 rfl rfl (ixb_in b4) dX9_startsTurned_25 ?_
    obtain ⟨y5, hy5, hf⟩ := nm_ex hf
    refine W.eq (g2 := F0 m 26 ls [.int y5]) (by rw [hy5]) ?_
    refine lv_istore_n (lv' := [(3, .int y5), (2, .int y3), (0, .ref (a_mo 0)), (1, .int p1)]) hx hb dX9_startsTurned_26 rfl hl (by decide) rfl (fun ls hl => ?_)
    refine lv_aload_n hx hb dX9_startsTurned_27 rfl (lv_at hl 2 rfl) ?_
    refine va_get (D := D) (ci := 9) (v := .ref (a_mo 2)) (C := RX9) (T := TX9) (N := 37) hx hb hts iwX9_startsTurned_X9 hown hK hP 0 rfl rfl 1 (by decide) (hts _ lkX9_startsTurned_f13) (fun _ h9 => h9) rfl dX9_startsTurned_28 ?_
    refine lv_iload_n hx hb dX9_startsTurned_31 rfl (lv_at hl 1 rfl) ?_
    refine lv_aload_n hx hb dX9_startsTurned_32 rfl (lv_at hl 2 rfl) ?_
    refine va_get (D := D) (ci := 9) (v := .ref (a_mo 2)) (C := RX9) (T := TX9) (N := 37) hx hb hts iwX9_startsTurned_X9 hown hK hP 0 rfl rfl 1 (by decide) (hts _ lkX9_startsTurned_f13) (fun _ h9 => h9) rfl dX9_startsTurned_33 ?_
    refine lv_iload_n hx hb dX9_startsTurned_36 rfl (lv_at hl 1 rfl) ?_
    refine lv_iconst (v := 3) hx hb dX9_startsTurned_37 (by decide) ?_
    refine lv_iadd hx hb dX9_startsTurned_38 ?_
    obtain ⟨b6, hf⟩ := gd_some hf
    refine va_iald hx hb hK hP 2 0 rfl rfl (ixb_in b6) dX9_startsTurned_39 ?_
    obtain ⟨s7, hs7, hf⟩ := nm_ex hf
    refine va_iast hx hb hK hP hD hS 2 0 rfl rfl (ixb_in b4) dX9_startsTurned_40 (fun H locs hP hD hS => ?_)
    have hP : va_P D vwCl (wModel t a_mo s7 lam) H := by rw [hs7]; exact hP
    have hD : va_D A (wModel t a_mo s7 lam) := by rw [hs7]; exact hD
    refine lv_aload_n hx hb dX9_startsTurned_41 rfl (lv_at hl 2 rfl) ?_
    refine va_get (D := D) (ci := 9) (v := .ref (a_mo 2)) (C := RX9) (T := TX9) (N := 37) hx hb hts iwX9_startsTurned_X9 hown hK hP 0 rfl rfl 1 (by decide) (hts _ lkX9_startsTurned_f13) (fun _ h9 => h9) rfl dX9_startsTurned_42 ?_
    refine lv_iload_n hx hb dX9_startsTurned_45 rfl (lv_at hl 1 rfl) ?_
    refine lv_iconst (v := 3) hx hb dX9_startsTurned_46 (by decide) ?_
    refine lv_iadd hx hb dX9_startsTurned_47 ?_
    refine lv_iload_n hx hb dX9_startsTurned_48 rfl (lv_at hl 0 rfl) ?_
    obtain ⟨s8, hs8, hf⟩ := nm_ex hf
    refine va_iast hx hb hK hP hD hS 2 0 rfl rfl (ixb_in b6) dX9_startsTurned_49 (fun H locs hP hD hS => ?_)
    have hP : va_P D vwCl (wModel t a_mo s8 lam) H := by rw [hs8]; exact hP
    have hD : va_D A (wModel t a_mo s8 lam) := by rw [hs8]; exact hD
    obtain rfl := so_eq hf
    exact g_vret C hP hD hS dX9_startsTurned_50
/-! CoachCourtModel.signBit -/
def fX9_signBit (s_mo : S2) (p1 : Int32) : Option (Int32) :=
  if ((s_mo 0 0) - (1 : Int32)) ≤ p1 then
    (some (256 : Int32))
  else
    (some ((1 : Int32) <<< (p1 &&& 31)))
theorem hdX9_signBit : yX9_signBit.cls = RX9 ∧ yX9_signBit.cls ≠ "java/lang/invoke/MethodHandle" ∧ yX9_signBit.cls ≠ "java/lang/invoke/VarHandle" ∧ (parseMethodDescriptor yX9_signBit.desc).map (fun d => d.parameters.length) = some 1 := by decide +kernel
theorem iwX9_signBit_X9 : ∀ w ∈ wsX90, w ∈ wsX9_signBit := by decide +kernel
theorem lkX9_signBit_f81 : Cond.fieldLink RX9 81 "CoachCourtModel" "miles" "I" ∈ wsX9_signBit := by decide +kernel
set_option maxHeartbeats 4000000 in
set_option maxRecDepth 100000 in
theorem cX9_signBit_ok {l : Launch} {D : va_G} {t : Nat → ClassId} {κ : Nat → Nat} {a_mo : Nat → Nat} {s_mo : S2} {lam : S6} {p1 : Int32} {out : Int32} (hf : fX9_signBit s_mo p1 = some out) : Ct l D t κ yX9_signBit wsX9_signBit (rmL 0) [.ref (a_mo 0), .int p1] (wModel t a_mo s_mo lam) (some (.int out)) (wModel t a_mo s_mo lam) := by
  refine Ct.ofW (own := RX9) (cc := cX9_signBit) (maxL := 2) (ret := (some .int)) (by decide) rfl rfl (Nat.le_of_ble_eq_true rfl) ?_
  intro p e s m below meth c A C hP hD ls hl
  have hS : va_S A s.heap s.heap [] := va_S.rf
  obtain ⟨hx, hb, hr, hml, hown, hts, hC0, hlk, hA⟩ := id C
  have hK := hC0.1
  have hl : lv_has ls 2 [(0, .ref (a_mo 0)), (1, .int p1)] := hl
  unfold fX9_signBit at hf
  refine lv_iload_n hx hb dX9_signBit_0 rfl (lv_at hl 1 rfl) ?_
  refine lv_aload_n hx hb dX9_signBit_1 rfl (lv_at hl 0 rfl) ?_
  refine va_get (D := D) (ci := 9) (v := .int (s_mo 0 0)) (C := RX9) (T := TX9) (N := 37) hx hb hts iwX9_signBit_X9 hown hK hP 0 rfl rfl 3 (by decide) (hts _ lkX9_signBit_f81) (fun _ h9 => h9) rfl dX9_signBit_2 ?_
  refine lv_iconst (v := 1) hx hb dX9_signBit_5 (by decide) ?_
  refine lv_isub hx hb dX9_signBit_6 ?_
  refine lv_icmp_ge (tgt := 16) hx hb dX9_signBit_7 (by decide) (fun c1 => ?_) (fun c1 => ?_)
  · rw [if_pos c1] at hf
    refine lv_sipush (v := 256) hx hb dX9_signBit_16 (by decide) ?_
    obtain rfl := so_eq hf
    exact g_iret C hP hD hS dX9_signBit_19
  · rw [if_neg c1] at hf
    refine lv_iconst (v := 1) hx hb dX9_signBit_10 (by decide) ?_
    refine lv_iload_n hx hb dX9_signBit_11 rfl (lv_at hl 1 rfl) ?_
    refine lv_ishl hx hb dX9_signBit_12 ?_
    refine lv_goto (tgt := 19) hx hb dX9_signBit_13 (by decide) ?_
    obtain rfl := so_eq hf
    exact g_iret C hP hD hS dX9_signBit_19
/-! CoachCourtModel.turned -/
def fX9_turned_b4 (s_mo : S2) (x1 : Int32) (x2 : Int32) : Option ((Int32 × Int32 × S2) ⊕ (Int32 × Int32 × S2)) :=
  (fX9_signs s_mo).bind fun v1 =>
  if v1 ≤ x2 then
    (some (.inr (x1, x2, s_mo)))
  else
    ((fX9_startsTurned s_mo x2).bind fun v3 =>
    (fX9_isSo v3).bind fun v4 =>
    if v4.1 = (0 : Int32) then
      (nm (x1 ||| (0 : Int32)) fun y6 =>
      nm (x2 + (1 : Int32)) fun y7 =>
      some (.inl (y6, y7, v4.2)))
    else
      ((fX9_signBit v4.2 x2).bind fun v8 =>
      nm (x1 ||| v8) fun y9 =>
      nm (x2 + (1 : Int32)) fun y10 =>
      some (.inl (y9, y10, v4.2))))
def fX9_turned (s_mo : S2) : Option (Int32 × S2) :=
  (wh (fun (c : Int32 × Int32 × S2) => fX9_turned_b4 c.2.2 c.1 c.2.1) 5000 ((0 : Int32), (0 : Int32), s_mo)).bind fun x11 =>
  some (x11.1, x11.2.2)
theorem hdX9_turned : yX9_turned.cls = RX9 ∧ yX9_turned.cls ≠ "java/lang/invoke/MethodHandle" ∧ yX9_turned.cls ≠ "java/lang/invoke/VarHandle" ∧ (parseMethodDescriptor yX9_turned.desc).map (fun d => d.parameters.length) = some 0 := by decide +kernel
set_option maxHeartbeats 4000000 in
set_option maxRecDepth 100000 in
theorem wX9_turned_l4 {p : Program} {l : Launch} {e : Env} {s : State} {m : MethodId} {args : Array Value} {below : List Frame} {meth : Method} {c : Code} {D : va_G} {t : Nat → ClassId} {κ : Nat → Nat} {A : Nat → Prop} {a_mo : Nat → Nat} {lam : S6} {rv : Option Value} {w1 : va_W} (C : Cxt p s m args meth c cX9_turned 3 RX9 wsX9_turned (some .int) D t κ A) : ∀ (n : Nat) (x1 : Int32) (x2 : Int32) (s_mo : S2) (x : Int32 × Int32 × S2), wh (fun (c : Int32 × Int32 × S2) => fX9_turned_b4 c.2.2 c.1 c.2.1) n (x1, x2, s_mo) = some x → (∀ (z : Int32 × Int32 × S2), x = z → ∀ (H : Heap) (locs : List Loc) (ls : Array Slot), va_P D vwCl (wModel t a_mo z.2.2 lam) H → va_D A (wModel t a_mo z.2.2 lam) → va_S A s.heap H locs → lv_has ls 3 [(1, .int z.1)] → W p l e (rmL 7) s m args below meth c H locs 0 0 (MQ below (gQ D rv w1 A) args s 0 0 A) (F0 m 42 ls [])) → ∀ (H : Heap) (locs : List Loc) (ls : Array Slot), va_P D vwCl (wModel t a_mo s_mo lam) H → va_D A (wModel t a_mo s_mo lam) → va_S A s.heap H locs → lv_has ls 3 [(0, .ref (a_mo 0)), (1, .int x1), (2, .int x2)] → W p l e (rmL 7) s m args below meth c H locs 0 0 (MQ below (gQ D rv w1 A) args s 0 0 A) (F0 m 4 ls []) := by
  obtain ⟨hx, hb, hr, hml, hown, hts, hC0, hlk, hA⟩ := id C
  have hK := hC0.1
  intro n
  induction n with
  | zero =>
    intro x1 x2 s_mo x h
    exact (wh_0 h).elim
  | succ n ih =>
    intro x1 x2 s_mo x h HX H locs ls hP hD hS hl
    obtain ⟨v, hf, hB, hX⟩ := wh_step h
    have hf : fX9_turned_b4 s_mo x1 x2 = some v := hf
    have HB : ∀ (z : Int32 × Int32 × S2), v = .inl z → ∀ (H : Heap) (locs : List Loc) (ls : Array Slot), va_P D vwCl (wModel t a_mo z.2.2 lam) H → va_D A (wModel t a_mo z.2.2 lam) → va_S A s.heap H locs → lv_has ls 3 [(0, .ref (a_mo 0)), (1, .int z.1), (2, .int z.2.1)] → W p l e (rmL 7) s m args below meth c H locs 0 0 (MQ below (gQ D rv w1 A) args s 0 0 A) (F0 m 4 ls []) := fun z hz H locs ls hP hD hS hl => ih z.1 z.2.1 z.2.2 x (hB z hz) HX H locs ls hP hD hS hl
    have HX : ∀ (z : Int32 × Int32 × S2), v = .inr z → ∀ (H : Heap) (locs : List Loc) (ls : Array Slot), va_P D vwCl (wModel t a_mo z.2.2 lam) H → va_D A (wModel t a_mo z.2.2 lam) → va_S A s.heap H locs → lv_has ls 3 [(1, .int z.1)] → W p l e (rmL 7) s m args below meth c H locs 0 0 (MQ below (gQ D rv w1 A) args s 0 0 A) (F0 m 42 ls []) := fun z hz => HX z (hX _ hz).symm
    unfold fX9_turned_b4 at hf
    refine lv_iload_n hx hb dX9_turned_4 rfl (lv_at hl 2 rfl) ?_
    refine lv_aload_n hx hb dX9_turned_5 rfl (lv_at hl 0 rfl) ?_
    obtain ⟨v1, ev1, hf⟩ := bd_some hf
    refine gk_V0 C (As := []) (rest := [.int x2]) (ci := 9) (q := (RX9, TX9, 37)) (q0 := 0) (cX9_signs_ok (l := l) (D := D) (t := t) (κ := κ) (a_mo := a_mo) (lam := lam) ev1) gX9_turned_X9_signs rfl ⟨rfl, rfl⟩ hdX9_signs ⟨Nat.le_of_ble_eq_true rfl, Nat.le_of_ble_eq_true rfl⟩ rfl rfl hP hD hS rfl hl.1 (Nat.le_of_ble_eq_true rfl) dX9_turned_6 (Nat.zero_le _) (Nat.zero_le _) (fun H locs hP hD hS => ?_)
    refine W.eq (g2 := F0 m 9 ls [.int v1, .int x2]) rfl ?_
    refine lv_icmp_ge (tgt := 42) hx hb dX9_turned_9 (by decide) (fun c2 => ?_) (fun c2 => ?_)
    · rw [if_pos c2] at hf
      obtain rfl := so_eq hf
      exact HX _ rfl _ _ _ hP hD hS (lv_sub hl [1] rfl)
    · rw [if_neg c2] at hf
      refine lv_aload_n hx hb dX9_turned_12 rfl (lv_at hl 0 rfl) ?_
      refine lv_iload_n hx hb dX9_turned_13 rfl (lv_at hl 2 rfl) ?_
      obtain ⟨v3, ev3, hf⟩ := bd_some hf
      refine gk_V0 C (As := [.int x2]) (rest := []) (ci := 9) (q := (RX9, TX9, 37)) (q0 := 0) (cX9_startsTurned_ok (l := l) (D := D) (t := t) (κ := κ) (a_mo := a_mo) (lam := lam) ev3) gX9_turned_X9_startsTurned rfl ⟨rfl, rfl⟩ hdX9_startsTurned ⟨Nat.le_of_ble_eq_true rfl, Nat.le_of_ble_eq_true rfl⟩ rfl rfl hP hD hS rfl hl.1 (Nat.le_of_ble_eq_true rfl) dX9_turned_14 (Nat.zero_le _) (Nat.zero_le _) (fun H locs hP hD hS => ?_)
      refine W.eq (g2 := F0 m 17 ls []) rfl ?_
      refine lv_iload_n hx hb dX9_turned_17 rfl (lv_at hl 1 rfl) ?_
      refine lv_aload_n hx hb dX9_turned_18 rfl (lv_at hl 0 rfl) ?_
      obtain ⟨v4, ev4, hf⟩ := bd_some hf
      refine gk_V0 C (As := []) (rest := [.int x1]) (ci := 9) (q := (RX9, TX9, 37)) (q0 := 0) (cX9_isSo_ok (l := l) (D := D) (t := t) (κ := κ) (a_mo := a_mo) (lam := lam) ev4) gX9_turned_X9_isSo rfl ⟨rfl, rfl⟩ hdX9_isSo ⟨Nat.le_of_ble_eq_true rfl, Nat.le_of_ble_eq_true rfl⟩ rfl rfl hP hD hS rfl hl.1 (Nat.le_of_ble_eq_true rfl) dX9_turned_19 (Nat.zero_le _) (Nat.zero_le _) (fun H locs hP hD hS => ?_)
      refine W.eq (g2 := F0 m 22 ls [.int v4.1, .int x1]) rfl ?_
      refine lv_if_eq (tgt := 33) hx hb dX9_turned_22 (by decide) (fun c5 => ?_) (fun c5 => ?_)
      · rw [if_pos c5] at hf
        refine lv_iconst (v := 0) hx hb dX9_turned_33 (by decide) ?_
        refine lv_ior hx hb dX9_turned_34 ?_
        obtain ⟨y6, hy6, hf⟩ := nm_ex hf
        refine W.eq (g2 := F0 m 35 ls [.int y6]) (by rw [hy6]) ?_
        refine lv_istore_n (lv' := [(1, .int y6), (0, .ref (a_mo 0)), (2, .int x2)]) hx hb dX9_turned_35 rfl hl (by decide) rfl (fun ls hl => ?_)
        obtain ⟨y7, hy7, hf⟩ := nm_ex hf
        refine lv_iinc (v := y7) (lv' := [(2, .int y7), (1, .int y6), (0, .ref (a_mo 0))]) hx hb dX9_turned_36 hl (k := 2) rfl (by rw [hy7]; rfl) (by decide) rfl (fun ls hl => ?_)
        refine lv_goto (tgt := 4) hx hb dX9_turned_39 (by decide) ?_
        obtain rfl := so_eq hf
        exact HB _ rfl _ _ _ hP hD hS (lv_sub hl [2, 1, 0] rfl)
      · rw [if_neg c5] at hf
        refine lv_aload_n hx hb dX9_turned_25 rfl (lv_at hl 0 rfl) ?_
        refine lv_iload_n hx hb dX9_turned_26 rfl (lv_at hl 2 rfl) ?_
        obtain ⟨v8, ev8, hf⟩ := bd_some hf
        refine gk_V0 C (As := [.int x2]) (rest := [.int x1]) (ci := 9) (q := (RX9, TX9, 37)) (q0 := 0) (cX9_signBit_ok (l := l) (D := D) (t := t) (κ := κ) (a_mo := a_mo) (lam := lam) ev8) gX9_turned_X9_signBit rfl ⟨rfl, rfl⟩ hdX9_signBit ⟨Nat.le_of_ble_eq_true rfl, Nat.le_of_ble_eq_true rfl⟩ rfl rfl hP hD hS rfl hl.1 (Nat.le_of_ble_eq_true rfl) dX9_turned_27 (Nat.zero_le _) (Nat.zero_le _) (fun H locs hP hD hS => ?_)
        refine W.eq (g2 := F0 m 30 ls [.int v8, .int x1]) rfl ?_
        refine lv_goto (tgt := 34) hx hb dX9_turned_30 (by decide) ?_
        refine lv_ior hx hb dX9_turned_34 ?_
        obtain ⟨y9, hy9, hf⟩ := nm_ex hf
        refine W.eq (g2 := F0 m 35 ls [.int y9]) (by rw [hy9]) ?_
        refine lv_istore_n (lv' := [(1, .int y9), (0, .ref (a_mo 0)), (2, .int x2)]) hx hb dX9_turned_35 rfl hl (by decide) rfl (fun ls hl => ?_)
        obtain ⟨y10, hy10, hf⟩ := nm_ex hf
        refine lv_iinc (v := y10) (lv' := [(2, .int y10), (1, .int y9), (0, .ref (a_mo 0))]) hx hb dX9_turned_36 hl (k := 2) rfl (by rw [hy10]; rfl) (by decide) rfl (fun ls hl => ?_)
        refine lv_goto (tgt := 4) hx hb dX9_turned_39 (by decide) ?_
        obtain rfl := so_eq hf
        exact HB _ rfl _ _ _ hP hD hS (lv_sub hl [2, 1, 0] rfl)
set_option maxHeartbeats 4000000 in
set_option maxRecDepth 100000 in
theorem cX9_turned_ok {l : Launch} {D : va_G} {t : Nat → ClassId} {κ : Nat → Nat} {a_mo : Nat → Nat} {s_mo : S2} {lam : S6} {out : Int32 × S2} (hf : fX9_turned s_mo = some out) : Ct l D t κ yX9_turned wsX9_turned (rmL 7) [.ref (a_mo 0)] (wModel t a_mo s_mo lam) (some (.int out.1)) (wModel t a_mo out.2 lam) := by
  refine Ct.ofW (own := RX9) (cc := cX9_turned) (maxL := 3) (ret := (some .int)) (by decide) rfl rfl (Nat.le_of_ble_eq_true rfl) ?_
  intro p e s m below meth c A C hP hD ls hl
  have hS : va_S A s.heap s.heap [] := va_S.rf
  obtain ⟨hx, hb, hr, hml, hown, hts, hC0, hlk, hA⟩ := id C
  have hK := hC0.1
  have hl : lv_has ls 3 [(0, .ref (a_mo 0))] := hl
  unfold fX9_turned at hf
  refine lv_iconst (v := 0) hx hb dX9_turned_0 (by decide) ?_
  refine lv_istore_n (lv' := [(1, .int (0 : Int32)), (0, .ref (a_mo 0))]) hx hb dX9_turned_1 rfl hl (by decide) rfl (fun ls hl => ?_)
  refine lv_iconst (v := 0) hx hb dX9_turned_2 (by decide) ?_
  refine lv_istore_n (lv' := [(2, .int (0 : Int32)), (1, .int (0 : Int32)), (0, .ref (a_mo 0))]) hx hb dX9_turned_3 rfl hl (by decide) rfl (fun ls hl => ?_)
  obtain ⟨x11, ex11, hf⟩ := bd_some hf
  refine wX9_turned_l4 C 5000 (0 : Int32) (0 : Int32) s_mo x11 ex11 (fun c9 h9 H locs ls hP hD hS hl => ?_) _ _ _ hP hD hS (lv_sub hl [2, 1, 0] rfl)
  subst h9
  refine lv_iload_n hx hb dX9_turned_42 rfl (lv_at hl 0 rfl) ?_
  obtain rfl := so_eq hf
  exact g_iret C hP hD hS dX9_turned_43
/-! CoachCourtModel.laws -/
def fX9_laws_b18 (s_mo : S2) (x1 : Int32) (x2 : Int32) (x3 : Int32) : Option ((Int32 × Int32 × S2) ⊕ (Int32 × Int32 × S2)) :=
  if (4 : Int32) ≤ x3 then
    (some (.inr (x2, x3, s_mo)))
  else
    (gd (ixb (((24 : Int32) + ((5 : Int32) * x1)) + (3 : Int32)) 59) <|
    nm (sE s_mo 2 (Int32.toNatClampNeg (((24 : Int32) + ((5 : Int32) * x1)) + (3 : Int32))) x3) fun s6 =>
    (fX9_isSo s6).bind fun v7 =>
    (fX9_flag v7.1).bind fun v8 =>
    nm (x2 ||| (v8 <<< (x3 &&& 31))) fun y9 =>
    nm (x3 + (1 : Int32)) fun y10 =>
    some (.inl (y9, y10, v7.2)))
def fX9_laws (s_mo : S2) (p1 : Int32) : Option (Int32 × S2) :=
  (fX9_isParty s_mo p1).bind fun v1 =>
  if v1 = (0 : Int32) then
    (some ((-1 : Int32), s_mo))
  else
    ((fX9_starts s_mo).bind fun v3 =>
    (wh (fun (c : Int32 × Int32 × S2) => fX9_laws_b18 c.2.2 p1 c.1 c.2.1) 5000 ((0 : Int32), (0 : Int32), v3)).bind fun x11 =>
    some (x11.1, x11.2.2))
theorem hdX9_laws : yX9_laws.cls = RX9 ∧ yX9_laws.cls ≠ "java/lang/invoke/MethodHandle" ∧ yX9_laws.cls ≠ "java/lang/invoke/VarHandle" ∧ (parseMethodDescriptor yX9_laws.desc).map (fun d => d.parameters.length) = some 1 := by decide +kernel
theorem iwX9_laws_X9 : ∀ w ∈ wsX90, w ∈ wsX9_laws := by decide +kernel
theorem lkX9_laws_f13 : Cond.fieldLink RX9 13 "CoachCourtModel" "now" "[I" ∈ wsX9_laws := by decide +kernel
set_option maxHeartbeats 4000000 in
set_option maxRecDepth 100000 in
theorem wX9_laws_l18 {p : Program} {l : Launch} {e : Env} {s : State} {m : MethodId} {args : Array Value} {below : List Frame} {meth : Method} {c : Code} {D : va_G} {t : Nat → ClassId} {κ : Nat → Nat} {A : Nat → Prop} {a_mo : Nat → Nat} {lam : S6} {x1 : Int32} {rv : Option Value} {w1 : va_W} (C : Cxt p s m args meth c cX9_laws 4 RX9 wsX9_laws (some .int) D t κ A) : ∀ (n : Nat) (x2 : Int32) (x3 : Int32) (s_mo : S2) (x : Int32 × Int32 × S2), wh (fun (c : Int32 × Int32 × S2) => fX9_laws_b18 c.2.2 x1 c.1 c.2.1) n (x2, x3, s_mo) = some x → (∀ (z : Int32 × Int32 × S2), x = z → ∀ (H : Heap) (locs : List Loc) (ls : Array Slot), va_P D vwCl (wModel t a_mo z.2.2 lam) H → va_D A (wModel t a_mo z.2.2 lam) → va_S A s.heap H locs → lv_has ls 4 [(2, .int z.1)] → W p l e (rmL 7) s m args below meth c H locs 0 0 (MQ below (gQ D rv w1 A) args s 0 0 A) (F0 m 55 ls [])) → ∀ (H : Heap) (locs : List Loc) (ls : Array Slot), va_P D vwCl (wModel t a_mo s_mo lam) H → va_D A (wModel t a_mo s_mo lam) → va_S A s.heap H locs → lv_has ls 4 [(0, .ref (a_mo 0)), (1, .int x1), (2, .int x2), (3, .int x3)] → W p l e (rmL 7) s m args below meth c H locs 0 0 (MQ below (gQ D rv w1 A) args s 0 0 A) (F0 m 18 ls []) := by
  obtain ⟨hx, hb, hr, hml, hown, hts, hC0, hlk, hA⟩ := id C
  have hK := hC0.1
  intro n
  induction n with
  | zero =>
    intro x2 x3 s_mo x h
    exact (wh_0 h).elim
  | succ n ih =>
    intro x2 x3 s_mo x h HX H locs ls hP hD hS hl
    obtain ⟨v, hf, hB, hX⟩ := wh_step h
    have hf : fX9_laws_b18 s_mo x1 x2 x3 = some v := hf
    have HB : ∀ (z : Int32 × Int32 × S2), v = .inl z → ∀ (H : Heap) (locs : List Loc) (ls : Array Slot), va_P D vwCl (wModel t a_mo z.2.2 lam) H → va_D A (wModel t a_mo z.2.2 lam) → va_S A s.heap H locs → lv_has ls 4 [(0, .ref (a_mo 0)), (1, .int x1), (2, .int z.1), (3, .int z.2.1)] → W p l e (rmL 7) s m args below meth c H locs 0 0 (MQ below (gQ D rv w1 A) args s 0 0 A) (F0 m 18 ls []) := fun z hz H locs ls hP hD hS hl => ih z.1 z.2.1 z.2.2 x (hB z hz) HX H locs ls hP hD hS hl
    have HX : ∀ (z : Int32 × Int32 × S2), v = .inr z → ∀ (H : Heap) (locs : List Loc) (ls : Array Slot), va_P D vwCl (wModel t a_mo z.2.2 lam) H → va_D A (wModel t a_mo z.2.2 lam) → va_S A s.heap H locs → lv_has ls 4 [(2, .int z.1)] → W p l e (rmL 7) s m args below meth c H locs 0 0 (MQ below (gQ D rv w1 A) args s 0 0 A) (F0 m 55 ls []) := fun z hz => HX z (hX _ hz).symm
    unfold fX9_laws_b18 at hf
    refine lv_iload_n hx hb dX9_laws_18 rfl (lv_at hl 3 rfl) ?_
    refine lv_iconst (v := 4) hx hb dX9_laws_19 (by decide) ?_
    refine lv_icmp_ge (tgt := 55) hx hb dX9_laws_20 (by decide) (fun c4 => ?_) (fun c4 => ?_)
    · rw [if_pos c4] at hf
      obtain rfl := so_eq hf
      exact HX _ rfl _ _ _ hP hD hS (lv_sub hl [2] rfl)
    · rw [if_neg c4] at hf
      refine lv_aload_n hx hb dX9_laws_23 rfl (lv_at hl 0 rfl) ?_
      refine va_get (D := D) (ci := 9) (v := .ref (a_mo 2)) (C := RX9) (T := TX9) (N := 37) hx hb hts iwX9_laws_X9 hown hK hP 0 rfl rfl 1 (by decide) (hts _ lkX9_laws_f13) (fun _ h9 => h9) rfl dX9_laws_24 ?_
      refine lv_bipush (v := 24) hx hb dX9_laws_27 (by decide) ?_
      refine lv_iconst (v := 5) hx hb dX9_laws_29 (by decide) ?_
      refine lv_iload_n hx hb dX9_laws_30 rfl (lv_at hl 1 rfl) ?_
      refine lv_imul hx hb dX9_laws_31 ?_
      refine lv_iadd hx hb dX9_laws_32 ?_
      refine lv_iconst (v := 3) hx hb dX9_laws_33 (by decide) ?_
      refine lv_iadd hx hb dX9_laws_34 ?_
      refine lv_iload_n hx hb dX9_laws_35 rfl (lv_at hl 3 rfl) ?_
      obtain ⟨b5, hf⟩ := gd_some hf
      obtain ⟨s6, hs6, hf⟩ := nm_ex hf
      refine va_iast hx hb hK hP hD hS 2 0 rfl rfl (ixb_in b5) dX9_laws_36 (fun H locs hP hD hS => ?_)
      have hP : va_P D vwCl (wModel t a_mo s6 lam) H := by rw [hs6]; exact hP
      have hD : va_D A (wModel t a_mo s6 lam) := by rw [hs6]; exact hD
      refine lv_iload_n hx hb dX9_laws_37 rfl (lv_at hl 2 rfl) ?_
      refine lv_aload_n hx hb dX9_laws_38 rfl (lv_at hl 0 rfl) ?_
      obtain ⟨v7, ev7, hf⟩ := bd_some hf
      refine gk_V0 C (As := []) (rest := [.int x2]) (ci := 9) (q := (RX9, TX9, 37)) (q0 := 0) (cX9_isSo_ok (l := l) (D := D) (t := t) (κ := κ) (a_mo := a_mo) (lam := lam) ev7) gX9_laws_X9_isSo rfl ⟨rfl, rfl⟩ hdX9_isSo ⟨Nat.le_of_ble_eq_true rfl, Nat.le_of_ble_eq_true rfl⟩ rfl rfl hP hD hS rfl hl.1 (Nat.le_of_ble_eq_true rfl) dX9_laws_39 (Nat.zero_le _) (Nat.zero_le _) (fun H locs hP hD hS => ?_)
      refine W.eq (g2 := F0 m 42 ls [.int v7.1, .int x2]) rfl ?_
      obtain ⟨v8, ev8, hf⟩ := bd_some hf
      refine gk_S C (As := [.int v7.1]) (rest := [.int x2]) (cX9_flag_ok (l := l) (D := D) (t := t) (κ := κ) ev8) gX9_laws_X9_flag rfl ⟨rfl, rfl⟩ hdX9_flag ⟨Nat.le_of_ble_eq_true rfl, Nat.le_of_ble_eq_true rfl⟩ hP hD hS rfl hl.1 (Nat.le_of_ble_eq_true rfl) dX9_laws_42 (Nat.zero_le _) (Nat.zero_le _) (fun H locs hP hD hS => ?_)
      refine W.eq (g2 := F0 m 45 ls [.int v8, .int x2]) rfl ?_
      refine lv_iload_n hx hb dX9_laws_45 rfl (lv_at hl 3 rfl) ?_
      refine lv_ishl hx hb dX9_laws_46 ?_
      refine lv_ior hx hb dX9_laws_47 ?_
      obtain ⟨y9, hy9, hf⟩ := nm_ex hf
      refine W.eq (g2 := F0 m 48 ls [.int y9]) (by rw [hy9]) ?_
      refine lv_istore_n (lv' := [(2, .int y9), (0, .ref (a_mo 0)), (1, .int x1), (3, .int x3)]) hx hb dX9_laws_48 rfl hl (by decide) rfl (fun ls hl => ?_)
      obtain ⟨y10, hy10, hf⟩ := nm_ex hf
      refine lv_iinc (v := y10) (lv' := [(3, .int y10), (2, .int y9), (0, .ref (a_mo 0)), (1, .int x1)]) hx hb dX9_laws_49 hl (k := 3) rfl (by rw [hy10]; rfl) (by decide) rfl (fun ls hl => ?_)
      refine lv_goto (tgt := 18) hx hb dX9_laws_52 (by decide) ?_
      obtain rfl := so_eq hf
      exact HB _ rfl _ _ _ hP hD hS (lv_sub hl [2, 3, 1, 0] rfl)
set_option maxHeartbeats 4000000 in
set_option maxRecDepth 100000 in
theorem cX9_laws_ok {l : Launch} {D : va_G} {t : Nat → ClassId} {κ : Nat → Nat} {a_mo : Nat → Nat} {s_mo : S2} {lam : S6} {p1 : Int32} {out : Int32 × S2} (hf : fX9_laws s_mo p1 = some out) : Ct l D t κ yX9_laws wsX9_laws (rmL 7) [.ref (a_mo 0), .int p1] (wModel t a_mo s_mo lam) (some (.int out.1)) (wModel t a_mo out.2 lam) := by
  refine Ct.ofW (own := RX9) (cc := cX9_laws) (maxL := 4) (ret := (some .int)) (by decide) rfl rfl (Nat.le_of_ble_eq_true rfl) ?_
  intro p e s m below meth c A C hP hD ls hl
  have hS : va_S A s.heap s.heap [] := va_S.rf
  obtain ⟨hx, hb, hr, hml, hown, hts, hC0, hlk, hA⟩ := id C
  have hK := hC0.1
  have hl : lv_has ls 4 [(0, .ref (a_mo 0)), (1, .int p1)] := hl
  unfold fX9_laws at hf
  refine lv_aload_n hx hb dX9_laws_0 rfl (lv_at hl 0 rfl) ?_
  refine lv_iload_n hx hb dX9_laws_1 rfl (lv_at hl 1 rfl) ?_
  obtain ⟨v1, ev1, hf⟩ := bd_some hf
  refine gk_V0 C (As := [.int p1]) (rest := []) (ci := 9) (q := (RX9, TX9, 37)) (q0 := 0) (cX9_isParty_ok (l := l) (D := D) (t := t) (κ := κ) (a_mo := a_mo) (lam := lam) ev1) gX9_laws_X9_isParty rfl ⟨rfl, rfl⟩ hdX9_isParty ⟨Nat.le_of_ble_eq_true rfl, Nat.le_of_ble_eq_true rfl⟩ rfl rfl hP hD hS rfl hl.1 (Nat.le_of_ble_eq_true rfl) dX9_laws_2 (Nat.zero_le _) (Nat.zero_le _) (fun H locs hP hD hS => ?_)
  refine W.eq (g2 := F0 m 5 ls [.int v1]) rfl ?_
  refine lv_if_ne (tgt := 10) hx hb dX9_laws_5 (by decide) (fun c2 => ?_) (fun c2 => ?_)
  · rw [if_neg c2] at hf
    refine lv_iconst (v := 0) hx hb dX9_laws_10 (by decide) ?_
    refine lv_istore_n (lv' := [(2, .int (0 : Int32)), (0, .ref (a_mo 0)), (1, .int p1)]) hx hb dX9_laws_11 rfl hl (by decide) rfl (fun ls hl => ?_)
    refine lv_aload_n hx hb dX9_laws_12 rfl (lv_at hl 1 rfl) ?_
    obtain ⟨v3, ev3, hf⟩ := bd_some hf
    refine gk_V0 C (As := []) (rest := []) (ci := 9) (q := (RX9, TX9, 37)) (q0 := 0) (cX9_starts_ok (l := l) (D := D) (t := t) (κ := κ) (a_mo := a_mo) (lam := lam) ev3) gX9_laws_X9_starts rfl ⟨rfl, rfl⟩ hdX9_starts ⟨Nat.le_of_ble_eq_true rfl, Nat.le_of_ble_eq_true rfl⟩ rfl rfl hP hD hS rfl hl.1 (Nat.le_of_ble_eq_true rfl) dX9_laws_13 (Nat.zero_le _) (Nat.zero_le _) (fun H locs hP hD hS => ?_)
    refine W.eq (g2 := F0 m 16 ls []) rfl ?_
    refine lv_iconst (v := 0) hx hb dX9_laws_16 (by decide) ?_
    refine lv_istore_n (lv' := [(3, .int (0 : Int32)), (2, .int (0 : Int32)), (0, .ref (a_mo 0)), (1, .int p1)]) hx hb dX9_laws_17 rfl hl (by decide) rfl (fun ls hl => ?_)
    obtain ⟨x11, ex11, hf⟩ := bd_some hf
    refine wX9_laws_l18 C 5000 (0 : Int32) (0 : Int32) v3 x11 ex11 (fun c9 h9 H locs ls hP hD hS hl => ?_) _ _ _ hP hD hS (lv_sub hl [2, 3, 1, 0] rfl)
    subst h9
    refine lv_iload_n hx hb dX9_laws_55 rfl (lv_at hl 0 rfl) ?_
    obtain rfl := so_eq hf
    exact g_iret C hP hD hS dX9_laws_56
  · rw [if_pos c2] at hf
    refine lv_iconst (v := -1) hx hb dX9_laws_8 (by decide) ?_
    obtain rfl := so_eq hf
    exact g_iret C hP hD hS dX9_laws_9
/-! CoachCourtModel.look -/
def fX9_look_b17 (s_mo : S2) (x1 : Int32) (x2 : Int32) (x3 : Int32) (x4 : Int32) : Option ((Int32 × S2) ⊕ (Int32 × S2)) :=
  if (36 : Int32) ≤ x4 then
    (some (.inr (x4, s_mo)))
  else
    (gd (ixb x4 36) <|
    nm (sE s_mo 12 (Int32.toNatClampNeg x4) (0 : Int32)) fun s5 =>
    nm (x4 + (1 : Int32)) fun y6 =>
    some (.inl (y6, s5)))
def fX9_look_111 (s_mo : S2) (x1 : Int32) (x2 : Int32) (x3 : Int32) (x4 : Int32) (x5 : Int32) (k0 : Int32) (k1 : Int32) : Option ((Int32 × S2) ⊕ (Int32 × S2)) :=
  gd (ixb (k1 + k0) 36) <|
  nm (sE s_mo 12 (Int32.toNatClampNeg (k1 + k0)) ((s_mo 12 (Int32.toNatClampNeg (k1 + k0))) + (1 : Int32))) fun s19 =>
  nm (x5 + (1 : Int32)) fun y20 =>
  some (.inl (y20, s19))
def fX9_look_b69 (s_mo : S2) (x1 : Int32) (x2 : Int32) (x3 : Int32) (x4 : Int32) (x5 : Int32) : Option ((Int32 × S2) ⊕ (Int32 × S2)) :=
  if (s_mo 0 1) ≤ x5 then
    (some (.inr (x5, s_mo)))
  else
    (gd (ixb x5 4) <|
    if (s_mo 6 (Int32.toNatClampNeg x5)) = (-4 : Int32) then
      (fX9_look_111 s_mo x1 x2 x3 x4 x5 (8 : Int32) ((9 : Int32) * x5))
    else
      (fX9_look_111 s_mo x1 x2 x3 x4 x5 (s_mo 6 (Int32.toNatClampNeg x5)) ((9 : Int32) * x5)))
def fX9_look_b41 (s_mo : S2) (x1 : Int32) (x2 : Int32) (x3 : Int32) (x4 : Int32) : Option ((Int32 × Int32 × S2) ⊕ (Int32 × Int32 × S2)) :=
  (fX9_signs s_mo).bind fun v8 =>
  if v8 ≤ x4 then
    (some (.inr (x2, x4, s_mo)))
  else
    ((fX9_startsTurned s_mo x4).bind fun v10 =>
    (fX9_isSo v10).bind fun v11 =>
    if v11.1 = (0 : Int32) then
      (nm (x4 + (1 : Int32)) fun y13 =>
      some (.inl (x2, y13, v11.2)))
    else
      (nm (x2 + (1 : Int32)) fun y14 =>
      (wh (fun (c : Int32 × S2) => fX9_look_b69 c.2 x1 y14 x3 x4 c.1) 5000 ((0 : Int32), v11.2)).bind fun x21 =>
      nm (x4 + (1 : Int32)) fun y22 =>
      some (.inl (y14, y22, x21.2))))
def fX9_look_b147 (s_mo : S2) (x1 : Int32) (x2 : Int32) (x3 : Int32) (x4 : Int32) (x5 : Int32) (x6 : Int32) : Option ((Int32 × Int32 × S2) ⊕ (Int32 × Int32 × S2)) :=
  if (8 : Int32) < x6 then
    (some (.inr (x5, x6, s_mo)))
  else
    (gd (ixb (((9 : Int32) * x4) + x6) 36) <|
    if (s_mo 12 (Int32.toNatClampNeg (((9 : Int32) * x4) + x6))) ≤ x5 then
      (nm (x6 + (1 : Int32)) fun y28 =>
      some (.inl (x5, y28, s_mo)))
    else
      (nm (s_mo 12 (Int32.toNatClampNeg (((9 : Int32) * x4) + x6))) fun y29 =>
      nm (x6 + (1 : Int32)) fun y30 =>
      some (.inl (y29, y30, s_mo))))
def fX9_look_210 (s_mo : S2) (x1 : Int32) (x2 : Int32) (x4 : Int32) (x5 : Int32) (k0 : Int32) : Option ((Int32 × Int32 × Int32 × S2) ⊕ (Int32 × Int32 × Int32 × S2)) :=
  if x2 ≤ x5 then
    (nm (x4 + (1 : Int32)) fun y34 =>
    some (.inl (x2, k0, y34, s_mo)))
  else
    (nm (x4 + (1 : Int32)) fun y35 =>
    some (.inl (x5, k0, y35, s_mo)))
def fX9_look_b132 (s_mo : S2) (x1 : Int32) (x2 : Int32) (x3 : Int32) (x4 : Int32) : Option ((Int32 × Int32 × Int32 × S2) ⊕ (Int32 × Int32 × Int32 × S2)) :=
  if (s_mo 0 1) ≤ x4 then
    (some (.inr (x2, x3, x4, s_mo)))
  else
    ((wh (fun (c : Int32 × Int32 × S2) => fX9_look_b147 c.2.2 x1 x2 x3 x4 c.1 c.2.1) 5000 ((0 : Int32), (0 : Int32), s_mo)).bind fun x31 =>
    if x2 ≤ x31.1 then
      (fX9_look_210 x31.2.2 x1 x2 x4 x31.1 x3)
    else
      (fX9_look_210 x31.2.2 x1 x2 x4 x31.1 x4))
def fX9_look (s_mo : S2) (p1 : Int32) : Option (Int32 × S2) :=
  (fX9_isPart p1).bind fun v1 =>
  if v1 = (0 : Int32) then
    (some ((-1 : Int32), s_mo))
  else
    ((wh (fun (c : Int32 × S2) => fX9_look_b17 c.2 p1 (0 : Int32) (-4 : Int32) c.1) 5000 ((0 : Int32), s_mo)).bind fun x7 =>
    (wh (fun (c : Int32 × Int32 × S2) => fX9_look_b41 c.2.2 p1 c.1 (-4 : Int32) c.2.1) 5000 ((0 : Int32), (0 : Int32), x7.2)).bind fun x23 =>
    (wh (fun (c : Int32 × Int32 × Int32 × S2) => fX9_look_b132 c.2.2.2 p1 c.1 c.2.1 c.2.2.1) 5000 (x23.1, (-4 : Int32), (0 : Int32), x23.2.2)).bind fun x36 =>
    if x36.2.1 = (-4 : Int32) then
      (some ((-4 : Int32), x36.2.2.2))
    else
      (if p1 = (0 : Int32) then
        (some (x36.2.1, x36.2.2.2))
      else
        (some (x36.1, x36.2.2.2))))
theorem hdX9_look : yX9_look.cls = RX9 ∧ yX9_look.cls ≠ "java/lang/invoke/MethodHandle" ∧ yX9_look.cls ≠ "java/lang/invoke/VarHandle" ∧ (parseMethodDescriptor yX9_look.desc).map (fun d => d.parameters.length) = some 1 := by decide +kernel
theorem iwX9_look_X9 : ∀ w ∈ wsX90, w ∈ wsX9_look := by decide +kernel
theorem lkX9_look_f44 : Cond.fieldLink RX9 44 "CoachCourtModel" "ways" "[I" ∈ wsX9_look := by decide +kernel
theorem lkX9_look_f84 : Cond.fieldLink RX9 84 "CoachCourtModel" "parties" "I" ∈ wsX9_look := by decide +kernel
theorem lkX9_look_f26 : Cond.fieldLink RX9 26 "CoachCourtModel" "verdict" "[I" ∈ wsX9_look := by decide +kernel
set_option maxHeartbeats 4000000 in
set_option maxRecDepth 100000 in
theorem wX9_look_l17 {p : Program} {l : Launch} {e : Env} {s : State} {m : MethodId} {args : Array Value} {below : List Frame} {meth : Method} {c : Code} {D : va_G} {t : Nat → ClassId} {κ : Nat → Nat} {A : Nat → Prop} {a_mo : Nat → Nat} {lam : S6} {x1 : Int32} {x2 : Int32} {x3 : Int32} {rv : Option Value} {w1 : va_W} (C : Cxt p s m args meth c cX9_look 7 RX9 wsX9_look (some .int) D t κ A) : ∀ (n : Nat) (x4 : Int32) (s_mo : S2) (x : Int32 × S2), wh (fun (c : Int32 × S2) => fX9_look_b17 c.2 x1 x2 x3 c.1) n (x4, s_mo) = some x → (∀ (z : Int32 × S2), x = z → ∀ (H : Heap) (locs : List Loc) (ls : Array Slot), va_P D vwCl (wModel t a_mo z.2 lam) H → va_D A (wModel t a_mo z.2 lam) → va_S A s.heap H locs → lv_has ls 7 [(0, .ref (a_mo 0)), (1, .int x1), (2, .int x2), (3, .int x3)] → W p l e (rmL 7) s m args below meth c H locs 0 0 (MQ below (gQ D rv w1 A) args s 0 0 A) (F0 m 38 ls [])) → ∀ (H : Heap) (locs : List Loc) (ls : Array Slot), va_P D vwCl (wModel t a_mo s_mo lam) H → va_D A (wModel t a_mo s_mo lam) → va_S A s.heap H locs → lv_has ls 7 [(0, .ref (a_mo 0)), (1, .int x1), (2, .int x2), (3, .int x3), (4, .int x4)] → W p l e (rmL 7) s m args below meth c H locs 0 0 (MQ below (gQ D rv w1 A) args s 0 0 A) (F0 m 17 ls []) := by
  obtain ⟨hx, hb, hr, hml, hown, hts, hC0, hlk, hA⟩ := id C
  have hK := hC0.1
  intro n
  induction n with
  | zero =>
    intro x4 s_mo x h
    exact (wh_0 h).elim
  | succ n ih =>
    intro x4 s_mo x h HX H locs ls hP hD hS hl
    obtain ⟨v, hf, hB, hX⟩ := wh_step h
    have hf : fX9_look_b17 s_mo x1 x2 x3 x4 = some v := hf
    have HB : ∀ (z : Int32 × S2), v = .inl z → ∀ (H : Heap) (locs : List Loc) (ls : Array Slot), va_P D vwCl (wModel t a_mo z.2 lam) H → va_D A (wModel t a_mo z.2 lam) → va_S A s.heap H locs → lv_has ls 7 [(0, .ref (a_mo 0)), (1, .int x1), (2, .int x2), (3, .int x3), (4, .int z.1)] → W p l e (rmL 7) s m args below meth c H locs 0 0 (MQ below (gQ D rv w1 A) args s 0 0 A) (F0 m 17 ls []) := fun z hz H locs ls hP hD hS hl => ih z.1 z.2 x (hB z hz) HX H locs ls hP hD hS hl
    have HX : ∀ (z : Int32 × S2), v = .inr z → ∀ (H : Heap) (locs : List Loc) (ls : Array Slot), va_P D vwCl (wModel t a_mo z.2 lam) H → va_D A (wModel t a_mo z.2 lam) → va_S A s.heap H locs → lv_has ls 7 [(0, .ref (a_mo 0)), (1, .int x1), (2, .int x2), (3, .int x3)] → W p l e (rmL 7) s m args below meth c H locs 0 0 (MQ below (gQ D rv w1 A) args s 0 0 A) (F0 m 38 ls []) := fun z hz => HX z (hX _ hz).symm
    unfold fX9_look_b17 at hf
    refine lv_iload hx hb dX9_look_17 (lv_at hl 4 rfl) ?_
    refine lv_bipush (v := 36) hx hb dX9_look_19 (by decide) ?_
    refine lv_icmp_ge (tgt := 38) hx hb dX9_look_21 (by decide) (fun c3 => ?_) (fun c3 => ?_)
    · rw [if_pos c3] at hf
      obtain rfl := so_eq hf
      exact HX _ rfl _ _ _ hP hD hS (lv_sub hl [0, 1, 2, 3] rfl)
    · rw [if_neg c3] at hf
      refine lv_aload_n hx hb dX9_look_24 rfl (lv_at hl 0 rfl) ?_
      refine va_get (D := D) (ci := 9) (v := .ref (a_mo 12)) (C := RX9) (T := TX9) (N := 37) hx hb hts iwX9_look_X9 hown hK hP 0 rfl rfl 31 (by decide) (hts _ lkX9_look_f44) (fun _ h9 => h9) rfl dX9_look_25 ?_
      refine lv_iload hx hb dX9_look_28 (lv_at hl 4 rfl) ?_
      refine lv_iconst (v := 0) hx hb dX9_look_30 (by decide) ?_
      obtain ⟨b4, hf⟩ := gd_some hf
      obtain ⟨s5, hs5, hf⟩ := nm_ex hf
      refine va_iast hx hb hK hP hD hS 12 0 rfl rfl (ixb_in b4) dX9_look_31 (fun H locs hP hD hS => ?_)
      have hP : va_P D vwCl (wModel t a_mo s5 lam) H := by rw [hs5]; exact hP
      have hD : va_D A (wModel t a_mo s5 lam) := by rw [hs5]; exact hD
      obtain ⟨y6, hy6, hf⟩ := nm_ex hf
      refine lv_iinc (v := y6) (lv' := [(4, .int y6), (0, .ref (a_mo 0)), (1, .int x1), (2, .int x2), (3, .int x3)]) hx hb dX9_look_32 hl (k := 4) rfl (by rw [hy6]; rfl) (by decide) rfl (fun ls hl => ?_)
      refine lv_goto (tgt := 17) hx hb dX9_look_35 (by decide) ?_
      obtain rfl := so_eq hf
      exact HB _ rfl _ _ _ hP hD hS (lv_sub hl [1, 2, 3, 4, 0] rfl)
set_option maxHeartbeats 4000000 in
set_option maxRecDepth 100000 in
theorem wX9_look_111 {p : Program} {l : Launch} {e : Env} {s : State} {m : MethodId} {args : Array Value} {below : List Frame} {meth : Method} {c : Code} {D : va_G} {t : Nat → ClassId} {κ : Nat → Nat} {A : Nat → Prop} {a_mo : Nat → Nat} {s_mo : S2} {lam : S6} {x1 : Int32} {x2 : Int32} {x3 : Int32} {x4 : Int32} {x5 : Int32} {k0 : Int32} {k1 : Int32} {rv : Option Value} {w1 : va_W} {v : (Int32 × S2) ⊕ (Int32 × S2)} (C : Cxt p s m args meth c cX9_look 7 RX9 wsX9_look (some .int) D t κ A) (hf : fX9_look_111 s_mo x1 x2 x3 x4 x5 k0 k1 = some v) (HB : ∀ (z : Int32 × S2), v = .inl z → ∀ (H : Heap) (locs : List Loc) (ls : Array Slot), va_P D vwCl (wModel t a_mo z.2 lam) H → va_D A (wModel t a_mo z.2 lam) → va_S A s.heap H locs → lv_has ls 7 [(0, .ref (a_mo 0)), (1, .int x1), (2, .int x2), (3, .int x3), (4, .int x4), (5, .int z.1)] → W p l e (rmL 7) s m args below meth c H locs 0 0 (MQ below (gQ D rv w1 A) args s 0 0 A) (F0 m 69 ls [])) : ∀ (H : Heap) (locs : List Loc) (ls : Array Slot), va_P D vwCl (wModel t a_mo s_mo lam) H → va_D A (wModel t a_mo s_mo lam) → va_S A s.heap H locs → lv_has ls 7 [(0, .ref (a_mo 0)), (1, .int x1), (2, .int x2), (3, .int x3), (4, .int x4), (5, .int x5)] → W p l e (rmL 7) s m args below meth c H locs 0 0 (MQ below (gQ D rv w1 A) args s 0 0 A) (F0 m 111 ls [.int k0, .int k1, .ref (a_mo 12)]) := by
  obtain ⟨hx, hb, hr, hml, hown, hts, hC0, hlk, hA⟩ := id C
  have hK := hC0.1
  intro H locs ls hP hD hS hl
  unfold fX9_look_111 at hf
  refine lv_iadd hx hb dX9_look_111 ?_
  refine lv_dup2_11 hx hb dX9_look_112 rfl rfl ?_
  obtain ⟨b18, hf⟩ := gd_some hf
  refine va_iald hx hb hK hP 12 0 rfl rfl (ixb_in b18) dX9_look_113 ?_
  refine lv_iconst (v := 1) hx hb dX9_look_114 (by decide) ?_
  refine lv_iadd hx hb dX9_look_115 ?_
  obtain ⟨s19, hs19, hf⟩ := nm_ex hf
  refine va_iast hx hb hK hP hD hS 12 0 rfl rfl (ixb_in b18) dX9_look_116 (fun H locs hP hD hS => ?_)
  have hP : va_P D vwCl (wModel t a_mo s19 lam) H := by rw [hs19]; exact hP
  have hD : va_D A (wModel t a_mo s19 lam) := by rw [hs19]; exact hD
  obtain ⟨y20, hy20, hf⟩ := nm_ex hf
  refine lv_iinc (v := y20) (lv' := [(5, .int y20), (0, .ref (a_mo 0)), (1, .int x1), (2, .int x2), (3, .int x3), (4, .int x4)]) hx hb dX9_look_117 hl (k := 5) rfl (by rw [hy20]; rfl) (by decide) rfl (fun ls hl => ?_)
  refine lv_goto (tgt := 69) hx hb dX9_look_120 (by decide) ?_
  obtain rfl := so_eq hf
  exact HB _ rfl _ _ _ hP hD hS (lv_sub hl [1, 2, 3, 4, 5, 0] rfl)
set_option maxHeartbeats 4000000 in
set_option maxRecDepth 100000 in
theorem wX9_look_l69 {p : Program} {l : Launch} {e : Env} {s : State} {m : MethodId} {args : Array Value} {below : List Frame} {meth : Method} {c : Code} {D : va_G} {t : Nat → ClassId} {κ : Nat → Nat} {A : Nat → Prop} {a_mo : Nat → Nat} {lam : S6} {x1 : Int32} {x2 : Int32} {x3 : Int32} {x4 : Int32} {rv : Option Value} {w1 : va_W} (C : Cxt p s m args meth c cX9_look 7 RX9 wsX9_look (some .int) D t κ A) : ∀ (n : Nat) (x5 : Int32) (s_mo : S2) (x : Int32 × S2), wh (fun (c : Int32 × S2) => fX9_look_b69 c.2 x1 x2 x3 x4 c.1) n (x5, s_mo) = some x → (∀ (z : Int32 × S2), x = z → ∀ (H : Heap) (locs : List Loc) (ls : Array Slot), va_P D vwCl (wModel t a_mo z.2 lam) H → va_D A (wModel t a_mo z.2 lam) → va_S A s.heap H locs → lv_has ls 7 [(0, .ref (a_mo 0)), (1, .int x1), (2, .int x2), (3, .int x3), (4, .int x4)] → W p l e (rmL 7) s m args below meth c H locs 0 0 (MQ below (gQ D rv w1 A) args s 0 0 A) (F0 m 123 ls [])) → ∀ (H : Heap) (locs : List Loc) (ls : Array Slot), va_P D vwCl (wModel t a_mo s_mo lam) H → va_D A (wModel t a_mo s_mo lam) → va_S A s.heap H locs → lv_has ls 7 [(0, .ref (a_mo 0)), (1, .int x1), (2, .int x2), (3, .int x3), (4, .int x4), (5, .int x5)] → W p l e (rmL 7) s m args below meth c H locs 0 0 (MQ below (gQ D rv w1 A) args s 0 0 A) (F0 m 69 ls []) := by
  obtain ⟨hx, hb, hr, hml, hown, hts, hC0, hlk, hA⟩ := id C
  have hK := hC0.1
  intro n
  induction n with
  | zero =>
    intro x5 s_mo x h
    exact (wh_0 h).elim
  | succ n ih =>
    intro x5 s_mo x h HX H locs ls hP hD hS hl
    obtain ⟨v, hf, hB, hX⟩ := wh_step h
    have hf : fX9_look_b69 s_mo x1 x2 x3 x4 x5 = some v := hf
    have HB : ∀ (z : Int32 × S2), v = .inl z → ∀ (H : Heap) (locs : List Loc) (ls : Array Slot), va_P D vwCl (wModel t a_mo z.2 lam) H → va_D A (wModel t a_mo z.2 lam) → va_S A s.heap H locs → lv_has ls 7 [(0, .ref (a_mo 0)), (1, .int x1), (2, .int x2), (3, .int x3), (4, .int x4), (5, .int z.1)] → W p l e (rmL 7) s m args below meth c H locs 0 0 (MQ below (gQ D rv w1 A) args s 0 0 A) (F0 m 69 ls []) := fun z hz H locs ls hP hD hS hl => ih z.1 z.2 x (hB z hz) HX H locs ls hP hD hS hl
    have HX : ∀ (z : Int32 × S2), v = .inr z → ∀ (H : Heap) (locs : List Loc) (ls : Array Slot), va_P D vwCl (wModel t a_mo z.2 lam) H → va_D A (wModel t a_mo z.2 lam) → va_S A s.heap H locs → lv_has ls 7 [(0, .ref (a_mo 0)), (1, .int x1), (2, .int x2), (3, .int x3), (4, .int x4)] → W p l e (rmL 7) s m args below meth c H locs 0 0 (MQ below (gQ D rv w1 A) args s 0 0 A) (F0 m 123 ls []) := fun z hz => HX z (hX _ hz).symm
    unfold fX9_look_b69 at hf
    refine lv_iload hx hb dX9_look_69 (lv_at hl 5 rfl) ?_
    refine lv_aload_n hx hb dX9_look_71 rfl (lv_at hl 0 rfl) ?_
    refine va_get (D := D) (ci := 9) (v := .int (s_mo 0 1)) (C := RX9) (T := TX9) (N := 37) hx hb hts iwX9_look_X9 hown hK hP 0 rfl rfl 4 (by decide) (hts _ lkX9_look_f84) (fun _ h9 => h9) rfl dX9_look_72 ?_
    refine lv_icmp_ge (tgt := 123) hx hb dX9_look_75 (by decide) (fun c15 => ?_) (fun c15 => ?_)
    · rw [if_pos c15] at hf
      obtain rfl := so_eq hf
      exact HX _ rfl _ _ _ hP hD hS (lv_sub hl [0, 1, 2, 3, 4] rfl)
    · rw [if_neg c15] at hf
      refine lv_aload_n hx hb dX9_look_78 rfl (lv_at hl 0 rfl) ?_
      refine va_get (D := D) (ci := 9) (v := .ref (a_mo 12)) (C := RX9) (T := TX9) (N := 37) hx hb hts iwX9_look_X9 hown hK hP 0 rfl rfl 31 (by decide) (hts _ lkX9_look_f44) (fun _ h9 => h9) rfl dX9_look_79 ?_
      refine lv_bipush (v := 9) hx hb dX9_look_82 (by decide) ?_
      refine lv_iload hx hb dX9_look_84 (lv_at hl 5 rfl) ?_
      refine lv_imul hx hb dX9_look_86 ?_
      refine lv_aload_n hx hb dX9_look_87 rfl (lv_at hl 0 rfl) ?_
      refine va_get (D := D) (ci := 9) (v := .ref (a_mo 6)) (C := RX9) (T := TX9) (N := 37) hx hb hts iwX9_look_X9 hown hK hP 0 rfl rfl 19 (by decide) (hts _ lkX9_look_f26) (fun _ h9 => h9) rfl dX9_look_88 ?_
      refine lv_iload hx hb dX9_look_91 (lv_at hl 5 rfl) ?_
      obtain ⟨b16, hf⟩ := gd_some hf
      refine va_iald hx hb hK hP 6 0 rfl rfl (ixb_in b16) dX9_look_93 ?_
      refine lv_bipush (v := -4) hx hb dX9_look_94 (by decide) ?_
      refine lv_icmp_ne (tgt := 104) hx hb dX9_look_96 (by decide) (fun c17 => ?_) (fun c17 => ?_)
      · rw [if_neg c17] at hf
        refine lv_aload_n hx hb dX9_look_104 rfl (lv_at hl 0 rfl) ?_
        refine va_get (D := D) (ci := 9) (v := .ref (a_mo 6)) (C := RX9) (T := TX9) (N := 37) hx hb hts iwX9_look_X9 hown hK hP 0 rfl rfl 19 (by decide) (hts _ lkX9_look_f26) (fun _ h9 => h9) rfl dX9_look_105 ?_
        refine lv_iload hx hb dX9_look_108 (lv_at hl 5 rfl) ?_
        refine va_iald hx hb hK hP 6 0 rfl rfl (ixb_in b16) dX9_look_110 ?_
        exact wX9_look_111 C hf HB _ _ _ hP hD hS (lv_sub hl [0, 1, 2, 3, 4, 5] rfl)
      · rw [if_pos c17] at hf
        refine lv_bipush (v := 8) hx hb dX9_look_99 (by decide) ?_
        refine lv_goto (tgt := 111) hx hb dX9_look_101 (by decide) ?_
        exact wX9_look_111 C hf HB _ _ _ hP hD hS (lv_sub hl [0, 1, 2, 3, 4, 5] rfl)
set_option maxHeartbeats 4000000 in
set_option maxRecDepth 100000 in
theorem wX9_look_l41 {p : Program} {l : Launch} {e : Env} {s : State} {m : MethodId} {args : Array Value} {below : List Frame} {meth : Method} {c : Code} {D : va_G} {t : Nat → ClassId} {κ : Nat → Nat} {A : Nat → Prop} {a_mo : Nat → Nat} {lam : S6} {x1 : Int32} {x3 : Int32} {rv : Option Value} {w1 : va_W} (C : Cxt p s m args meth c cX9_look 7 RX9 wsX9_look (some .int) D t κ A) : ∀ (n : Nat) (x2 : Int32) (x4 : Int32) (s_mo : S2) (x : Int32 × Int32 × S2), wh (fun (c : Int32 × Int32 × S2) => fX9_look_b41 c.2.2 x1 c.1 x3 c.2.1) n (x2, x4, s_mo) = some x → (∀ (z : Int32 × Int32 × S2), x = z → ∀ (H : Heap) (locs : List Loc) (ls : Array Slot), va_P D vwCl (wModel t a_mo z.2.2 lam) H → va_D A (wModel t a_mo z.2.2 lam) → va_S A s.heap H locs → lv_has ls 7 [(0, .ref (a_mo 0)), (1, .int x1), (2, .int z.1), (3, .int x3)] → W p l e (rmL 7) s m args below meth c H locs 0 0 (MQ below (gQ D rv w1 A) args s 0 0 A) (F0 m 129 ls [])) → ∀ (H : Heap) (locs : List Loc) (ls : Array Slot), va_P D vwCl (wModel t a_mo s_mo lam) H → va_D A (wModel t a_mo s_mo lam) → va_S A s.heap H locs → lv_has ls 7 [(0, .ref (a_mo 0)), (1, .int x1), (2, .int x2), (3, .int x3), (4, .int x4)] → W p l e (rmL 7) s m args below meth c H locs 0 0 (MQ below (gQ D rv w1 A) args s 0 0 A) (F0 m 41 ls []) := by
  obtain ⟨hx, hb, hr, hml, hown, hts, hC0, hlk, hA⟩ := id C
  have hK := hC0.1
  intro n
  induction n with
  | zero =>
    intro x2 x4 s_mo x h
    exact (wh_0 h).elim
  | succ n ih =>
    intro x2 x4 s_mo x h HX H locs ls hP hD hS hl
    obtain ⟨v, hf, hB, hX⟩ := wh_step h
    have hf : fX9_look_b41 s_mo x1 x2 x3 x4 = some v := hf
    have HB : ∀ (z : Int32 × Int32 × S2), v = .inl z → ∀ (H : Heap) (locs : List Loc) (ls : Array Slot), va_P D vwCl (wModel t a_mo z.2.2 lam) H → va_D A (wModel t a_mo z.2.2 lam) → va_S A s.heap H locs → lv_has ls 7 [(0, .ref (a_mo 0)), (1, .int x1), (2, .int z.1), (3, .int x3), (4, .int z.2.1)] → W p l e (rmL 7) s m args below meth c H locs 0 0 (MQ below (gQ D rv w1 A) args s 0 0 A) (F0 m 41 ls []) := fun z hz H locs ls hP hD hS hl => ih z.1 z.2.1 z.2.2 x (hB z hz) HX H locs ls hP hD hS hl
    have HX : ∀ (z : Int32 × Int32 × S2), v = .inr z → ∀ (H : Heap) (locs : List Loc) (ls : Array Slot), va_P D vwCl (wModel t a_mo z.2.2 lam) H → va_D A (wModel t a_mo z.2.2 lam) → va_S A s.heap H locs → lv_has ls 7 [(0, .ref (a_mo 0)), (1, .int x1), (2, .int z.1), (3, .int x3)] → W p l e (rmL 7) s m args below meth c H locs 0 0 (MQ below (gQ D rv w1 A) args s 0 0 A) (F0 m 129 ls []) := fun z hz => HX z (hX _ hz).symm
    unfold fX9_look_b41 at hf
    refine lv_iload hx hb dX9_look_41 (lv_at hl 4 rfl) ?_
    refine lv_aload_n hx hb dX9_look_43 rfl (lv_at hl 0 rfl) ?_
    obtain ⟨v8, ev8, hf⟩ := bd_some hf
    refine gk_V0 C (As := []) (rest := [.int x4]) (ci := 9) (q := (RX9, TX9, 37)) (q0 := 0) (cX9_signs_ok (l := l) (D := D) (t := t) (κ := κ) (a_mo := a_mo) (lam := lam) ev8) gX9_look_X9_signs rfl ⟨rfl, rfl⟩ hdX9_signs ⟨Nat.le_of_ble_eq_true rfl, Nat.le_of_ble_eq_true rfl⟩ rfl rfl hP hD hS rfl hl.1 (Nat.le_of_ble_eq_true rfl) dX9_look_44 (Nat.zero_le _) (Nat.zero_le _) (fun H locs hP hD hS => ?_)
    refine W.eq (g2 := F0 m 47 ls [.int v8, .int x4]) rfl ?_
    refine lv_icmp_ge (tgt := 129) hx hb dX9_look_47 (by decide) (fun c9 => ?_) (fun c9 => ?_)
    · rw [if_pos c9] at hf
      obtain rfl := so_eq hf
      exact HX _ rfl _ _ _ hP hD hS (lv_sub hl [0, 1, 2, 3] rfl)
    · rw [if_neg c9] at hf
      refine lv_aload_n hx hb dX9_look_50 rfl (lv_at hl 0 rfl) ?_
      refine lv_iload hx hb dX9_look_51 (lv_at hl 4 rfl) ?_
      obtain ⟨v10, ev10, hf⟩ := bd_some hf
      refine gk_V0 C (As := [.int x4]) (rest := []) (ci := 9) (q := (RX9, TX9, 37)) (q0 := 0) (cX9_startsTurned_ok (l := l) (D := D) (t := t) (κ := κ) (a_mo := a_mo) (lam := lam) ev10) gX9_look_X9_startsTurned rfl ⟨rfl, rfl⟩ hdX9_startsTurned ⟨Nat.le_of_ble_eq_true rfl, Nat.le_of_ble_eq_true rfl⟩ rfl rfl hP hD hS rfl hl.1 (Nat.le_of_ble_eq_true rfl) dX9_look_53 (Nat.zero_le _) (Nat.zero_le _) (fun H locs hP hD hS => ?_)
      refine W.eq (g2 := F0 m 56 ls []) rfl ?_
      refine lv_aload_n hx hb dX9_look_56 rfl (lv_at hl 0 rfl) ?_
      obtain ⟨v11, ev11, hf⟩ := bd_some hf
      refine gk_V0 C (As := []) (rest := []) (ci := 9) (q := (RX9, TX9, 37)) (q0 := 0) (cX9_isSo_ok (l := l) (D := D) (t := t) (κ := κ) (a_mo := a_mo) (lam := lam) ev11) gX9_look_X9_isSo rfl ⟨rfl, rfl⟩ hdX9_isSo ⟨Nat.le_of_ble_eq_true rfl, Nat.le_of_ble_eq_true rfl⟩ rfl rfl hP hD hS rfl hl.1 (Nat.le_of_ble_eq_true rfl) dX9_look_57 (Nat.zero_le _) (Nat.zero_le _) (fun H locs hP hD hS => ?_)
      refine W.eq (g2 := F0 m 60 ls [.int v11.1]) rfl ?_
      refine lv_if_eq (tgt := 123) hx hb dX9_look_60 (by decide) (fun c12 => ?_) (fun c12 => ?_)
      · rw [if_pos c12] at hf
        obtain ⟨y13, hy13, hf⟩ := nm_ex hf
        refine lv_iinc (v := y13) (lv' := [(4, .int y13), (0, .ref (a_mo 0)), (1, .int x1), (2, .int x2), (3, .int x3)]) hx hb dX9_look_123 hl (k := 4) rfl (by rw [hy13]; rfl) (by decide) rfl (fun ls hl => ?_)
        refine lv_goto (tgt := 41) hx hb dX9_look_126 (by decide) ?_
        obtain rfl := so_eq hf
        exact HB _ rfl _ _ _ hP hD hS (lv_sub hl [1, 2, 3, 4, 0] rfl)
      · rw [if_neg c12] at hf
        obtain ⟨y14, hy14, hf⟩ := nm_ex hf
        refine lv_iinc (v := y14) (lv' := [(2, .int y14), (0, .ref (a_mo 0)), (1, .int x1), (3, .int x3), (4, .int x4)]) hx hb dX9_look_63 hl (k := 2) rfl (by rw [hy14]; rfl) (by decide) rfl (fun ls hl => ?_)
        refine lv_iconst (v := 0) hx hb dX9_look_66 (by decide) ?_
        refine lv_istore (lv' := [(5, .int (0 : Int32)), (2, .int y14), (0, .ref (a_mo 0)), (1, .int x1), (3, .int x3), (4, .int x4)]) hx hb dX9_look_67 hl (by decide) rfl (fun ls hl => ?_)
        obtain ⟨x21, ex21, hf⟩ := bd_some hf
        refine wX9_look_l69 C 5000 (0 : Int32) v11.2 x21 ex21 (fun c9 h9 H locs ls hP hD hS hl => ?_) _ _ _ hP hD hS (lv_sub hl [2, 3, 1, 4, 5, 0] rfl)
        subst h9
        obtain ⟨y22, hy22, hf⟩ := nm_ex hf
        refine lv_iinc (v := y22) (lv' := [(4, .int y22), (0, .ref (a_mo 0)), (1, .int x1), (2, .int y14), (3, .int x3)]) hx hb dX9_look_123 hl (k := 4) rfl (by rw [hy22]; rfl) (by decide) rfl (fun ls hl => ?_)
        refine lv_goto (tgt := 41) hx hb dX9_look_126 (by decide) ?_
        obtain rfl := so_eq hf
        exact HB _ rfl _ _ _ hP hD hS (lv_sub hl [1, 2, 3, 4, 0] rfl)
set_option maxHeartbeats 4000000 in
set_option maxRecDepth 100000 in
theorem wX9_look_l147 {p : Program} {l : Launch} {e : Env} {s : State} {m : MethodId} {args : Array Value} {below : List Frame} {meth : Method} {c : Code} {D : va_G} {t : Nat → ClassId} {κ : Nat → Nat} {A : Nat → Prop} {a_mo : Nat → Nat} {lam : S6} {x1 : Int32} {x2 : Int32} {x3 : Int32} {x4 : Int32} {rv : Option Value} {w1 : va_W} (C : Cxt p s m args meth c cX9_look 7 RX9 wsX9_look (some .int) D t κ A) : ∀ (n : Nat) (x5 : Int32) (x6 : Int32) (s_mo : S2) (x : Int32 × Int32 × S2), wh (fun (c : Int32 × Int32 × S2) => fX9_look_b147 c.2.2 x1 x2 x3 x4 c.1 c.2.1) n (x5, x6, s_mo) = some x → (∀ (z : Int32 × Int32 × S2), x = z → ∀ (H : Heap) (locs : List Loc) (ls : Array Slot), va_P D vwCl (wModel t a_mo z.2.2 lam) H → va_D A (wModel t a_mo z.2.2 lam) → va_S A s.heap H locs → lv_has ls 7 [(0, .ref (a_mo 0)), (1, .int x1), (2, .int x2), (3, .int x3), (4, .int x4), (5, .int z.1)] → W p l e (rmL 7) s m args below meth c H locs 0 0 (MQ below (gQ D rv w1 A) args s 0 0 A) (F0 m 198 ls [])) → ∀ (H : Heap) (locs : List Loc) (ls : Array Slot), va_P D vwCl (wModel t a_mo s_mo lam) H → va_D A (wModel t a_mo s_mo lam) → va_S A s.heap H locs → lv_has ls 7 [(0, .ref (a_mo 0)), (1, .int x1), (2, .int x2), (3, .int x3), (4, .int x4), (5, .int x5), (6, .int x6)] → W p l e (rmL 7) s m args below meth c H locs 0 0 (MQ below (gQ D rv w1 A) args s 0 0 A) (F0 m 147 ls []) := by
  obtain ⟨hx, hb, hr, hml, hown, hts, hC0, hlk, hA⟩ := id C
  have hK := hC0.1
  intro n
  induction n with
  | zero =>
    intro x5 x6 s_mo x h
    exact (wh_0 h).elim
  | succ n ih =>
    intro x5 x6 s_mo x h HX H locs ls hP hD hS hl
    obtain ⟨v, hf, hB, hX⟩ := wh_step h
    have hf : fX9_look_b147 s_mo x1 x2 x3 x4 x5 x6 = some v := hf
    have HB : ∀ (z : Int32 × Int32 × S2), v = .inl z → ∀ (H : Heap) (locs : List Loc) (ls : Array Slot), va_P D vwCl (wModel t a_mo z.2.2 lam) H → va_D A (wModel t a_mo z.2.2 lam) → va_S A s.heap H locs → lv_has ls 7 [(0, .ref (a_mo 0)), (1, .int x1), (2, .int x2), (3, .int x3), (4, .int x4), (5, .int z.1), (6, .int z.2.1)] → W p l e (rmL 7) s m args below meth c H locs 0 0 (MQ below (gQ D rv w1 A) args s 0 0 A) (F0 m 147 ls []) := fun z hz H locs ls hP hD hS hl => ih z.1 z.2.1 z.2.2 x (hB z hz) HX H locs ls hP hD hS hl
    have HX : ∀ (z : Int32 × Int32 × S2), v = .inr z → ∀ (H : Heap) (locs : List Loc) (ls : Array Slot), va_P D vwCl (wModel t a_mo z.2.2 lam) H → va_D A (wModel t a_mo z.2.2 lam) → va_S A s.heap H locs → lv_has ls 7 [(0, .ref (a_mo 0)), (1, .int x1), (2, .int x2), (3, .int x3), (4, .int x4), (5, .int z.1)] → W p l e (rmL 7) s m args below meth c H locs 0 0 (MQ below (gQ D rv w1 A) args s 0 0 A) (F0 m 198 ls []) := fun z hz => HX z (hX _ hz).symm
    unfold fX9_look_b147 at hf
    refine lv_iload hx hb dX9_look_147 (lv_at hl 6 rfl) ?_
    refine lv_bipush (v := 8) hx hb dX9_look_149 (by decide) ?_
    refine lv_icmp_gt (tgt := 198) hx hb dX9_look_151 (by decide) (fun c25 => ?_) (fun c25 => ?_)
    · rw [if_pos c25] at hf
      obtain rfl := so_eq hf
      exact HX _ rfl _ _ _ hP hD hS (lv_sub hl [0, 1, 2, 3, 4, 5] rfl)
    · rw [if_neg c25] at hf
      refine lv_aload_n hx hb dX9_look_154 rfl (lv_at hl 0 rfl) ?_
      refine va_get (D := D) (ci := 9) (v := .ref (a_mo 12)) (C := RX9) (T := TX9) (N := 37) hx hb hts iwX9_look_X9 hown hK hP 0 rfl rfl 31 (by decide) (hts _ lkX9_look_f44) (fun _ h9 => h9) rfl dX9_look_155 ?_
      refine lv_bipush (v := 9) hx hb dX9_look_158 (by decide) ?_
      refine lv_iload hx hb dX9_look_160 (lv_at hl 4 rfl) ?_
      refine lv_imul hx hb dX9_look_162 ?_
      refine lv_iload hx hb dX9_look_163 (lv_at hl 6 rfl) ?_
      refine lv_iadd hx hb dX9_look_165 ?_
      obtain ⟨b26, hf⟩ := gd_some hf
      refine va_iald hx hb hK hP 12 0 rfl rfl (ixb_in b26) dX9_look_166 ?_
      refine lv_iload hx hb dX9_look_167 (lv_at hl 5 rfl) ?_
      refine lv_icmp_le (tgt := 188) hx hb dX9_look_169 (by decide) (fun c27 => ?_) (fun c27 => ?_)
      · rw [if_pos c27] at hf
        refine lv_iload hx hb dX9_look_188 (lv_at hl 5 rfl) ?_
        refine lv_istore (lv' := [(5, .int x5), (0, .ref (a_mo 0)), (1, .int x1), (2, .int x2), (3, .int x3), (4, .int x4), (6, .int x6)]) hx hb dX9_look_190 hl (by decide) rfl (fun ls hl => ?_)
        obtain ⟨y28, hy28, hf⟩ := nm_ex hf
        refine lv_iinc (v := y28) (lv' := [(6, .int y28), (5, .int x5), (0, .ref (a_mo 0)), (1, .int x1), (2, .int x2), (3, .int x3), (4, .int x4)]) hx hb dX9_look_192 hl (k := 6) rfl (by rw [hy28]; rfl) (by decide) rfl (fun ls hl => ?_)
        refine lv_goto (tgt := 147) hx hb dX9_look_195 (by decide) ?_
        obtain rfl := so_eq hf
        exact HB _ rfl _ _ _ hP hD hS (lv_sub hl [2, 3, 4, 5, 6, 1, 0] rfl)
      · rw [if_neg c27] at hf
        refine lv_aload_n hx hb dX9_look_172 rfl (lv_at hl 0 rfl) ?_
        refine va_get (D := D) (ci := 9) (v := .ref (a_mo 12)) (C := RX9) (T := TX9) (N := 37) hx hb hts iwX9_look_X9 hown hK hP 0 rfl rfl 31 (by decide) (hts _ lkX9_look_f44) (fun _ h9 => h9) rfl dX9_look_173 ?_
        refine lv_bipush (v := 9) hx hb dX9_look_176 (by decide) ?_
        refine lv_iload hx hb dX9_look_178 (lv_at hl 4 rfl) ?_
        refine lv_imul hx hb dX9_look_180 ?_
        refine lv_iload hx hb dX9_look_181 (lv_at hl 6 rfl) ?_
        refine lv_iadd hx hb dX9_look_183 ?_
        refine va_iald hx hb hK hP 12 0 rfl rfl (ixb_in b26) dX9_look_184 ?_
        refine lv_goto (tgt := 190) hx hb dX9_look_185 (by decide) ?_
        obtain ⟨y29, hy29, hf⟩ := nm_ex hf
        refine W.eq (g2 := F0 m 190 ls [.int y29]) (by rw [hy29]) ?_
        refine lv_istore (lv' := [(5, .int y29), (0, .ref (a_mo 0)), (1, .int x1), (2, .int x2), (3, .int x3), (4, .int x4), (6, .int x6)]) hx hb dX9_look_190 hl (by decide) rfl (fun ls hl => ?_)
        obtain ⟨y30, hy30, hf⟩ := nm_ex hf
        refine lv_iinc (v := y30) (lv' := [(6, .int y30), (5, .int y29), (0, .ref (a_mo 0)), (1, .int x1), (2, .int x2), (3, .int x3), (4, .int x4)]) hx hb dX9_look_192 hl (k := 6) rfl (by rw [hy30]; rfl) (by decide) rfl (fun ls hl => ?_)
        refine lv_goto (tgt := 147) hx hb dX9_look_195 (by decide) ?_
        obtain rfl := so_eq hf
        exact HB _ rfl _ _ _ hP hD hS (lv_sub hl [2, 3, 4, 5, 6, 1, 0] rfl)
set_option maxHeartbeats 4000000 in
set_option maxRecDepth 100000 in
theorem wX9_look_210 {p : Program} {l : Launch} {e : Env} {s : State} {m : MethodId} {args : Array Value} {below : List Frame} {meth : Method} {c : Code} {D : va_G} {t : Nat → ClassId} {κ : Nat → Nat} {A : Nat → Prop} {a_mo : Nat → Nat} {s_mo : S2} {lam : S6} {x1 : Int32} {x2 : Int32} {x4 : Int32} {x5 : Int32} {k0 : Int32} {rv : Option Value} {w1 : va_W} {v : (Int32 × Int32 × Int32 × S2) ⊕ (Int32 × Int32 × Int32 × S2)} (C : Cxt p s m args meth c cX9_look 7 RX9 wsX9_look (some .int) D t κ A) (hf : fX9_look_210 s_mo x1 x2 x4 x5 k0 = some v) (HB : ∀ (z : Int32 × Int32 × Int32 × S2), v = .inl z → ∀ (H : Heap) (locs : List Loc) (ls : Array Slot), va_P D vwCl (wModel t a_mo z.2.2.2 lam) H → va_D A (wModel t a_mo z.2.2.2 lam) → va_S A s.heap H locs → lv_has ls 7 [(0, .ref (a_mo 0)), (1, .int x1), (2, .int z.1), (3, .int z.2.1), (4, .int z.2.2.1)] → W p l e (rmL 7) s m args below meth c H locs 0 0 (MQ below (gQ D rv w1 A) args s 0 0 A) (F0 m 132 ls [])) : ∀ (H : Heap) (locs : List Loc) (ls : Array Slot), va_P D vwCl (wModel t a_mo s_mo lam) H → va_D A (wModel t a_mo s_mo lam) → va_S A s.heap H locs → lv_has ls 7 [(0, .ref (a_mo 0)), (1, .int x1), (2, .int x2), (4, .int x4), (5, .int x5)] → W p l e (rmL 7) s m args below meth c H locs 0 0 (MQ below (gQ D rv w1 A) args s 0 0 A) (F0 m 210 ls [.int k0]) := by
  obtain ⟨hx, hb, hr, hml, hown, hts, hC0, hlk, hA⟩ := id C
  have hK := hC0.1
  intro H locs ls hP hD hS hl
  unfold fX9_look_210 at hf
  refine lv_istore_n (lv' := [(3, .int k0), (0, .ref (a_mo 0)), (1, .int x1), (2, .int x2), (4, .int x4), (5, .int x5)]) hx hb dX9_look_210 rfl hl (by decide) rfl (fun ls hl => ?_)
  refine lv_iload hx hb dX9_look_211 (lv_at hl 5 rfl) ?_
  refine lv_iload_n hx hb dX9_look_213 rfl (lv_at hl 3 rfl) ?_
  refine lv_icmp_ge (tgt := 222) hx hb dX9_look_214 (by decide) (fun c33 => ?_) (fun c33 => ?_)
  · rw [if_pos c33] at hf
    refine lv_iload_n hx hb dX9_look_222 rfl (lv_at hl 3 rfl) ?_
    refine lv_istore_n (lv' := [(2, .int x2), (3, .int k0), (0, .ref (a_mo 0)), (1, .int x1), (4, .int x4), (5, .int x5)]) hx hb dX9_look_223 rfl hl (by decide) rfl (fun ls hl => ?_)
    obtain ⟨y34, hy34, hf⟩ := nm_ex hf
    refine lv_iinc (v := y34) (lv' := [(4, .int y34), (2, .int x2), (3, .int k0), (0, .ref (a_mo 0)), (1, .int x1), (5, .int x5)]) hx hb dX9_look_224 hl (k := 4) rfl (by rw [hy34]; rfl) (by decide) rfl (fun ls hl => ?_)
    refine lv_goto (tgt := 132) hx hb dX9_look_227 (by decide) ?_
    obtain rfl := so_eq hf
    exact HB _ rfl _ _ _ hP hD hS (lv_sub hl [3, 4, 1, 2, 0] rfl)
  · rw [if_neg c33] at hf
    refine lv_iload hx hb dX9_look_217 (lv_at hl 5 rfl) ?_
    refine lv_goto (tgt := 223) hx hb dX9_look_219 (by decide) ?_
    refine lv_istore_n (lv' := [(2, .int x5), (3, .int k0), (0, .ref (a_mo 0)), (1, .int x1), (4, .int x4), (5, .int x5)]) hx hb dX9_look_223 rfl hl (by decide) rfl (fun ls hl => ?_)
    obtain ⟨y35, hy35, hf⟩ := nm_ex hf
    refine lv_iinc (v := y35) (lv' := [(4, .int y35), (2, .int x5), (3, .int k0), (0, .ref (a_mo 0)), (1, .int x1), (5, .int x5)]) hx hb dX9_look_224 hl (k := 4) rfl (by rw [hy35]; rfl) (by decide) rfl (fun ls hl => ?_)
    refine lv_goto (tgt := 132) hx hb dX9_look_227 (by decide) ?_
    obtain rfl := so_eq hf
    exact HB _ rfl _ _ _ hP hD hS (lv_sub hl [3, 4, 1, 2, 0] rfl)
set_option maxHeartbeats 4000000 in
set_option maxRecDepth 100000 in
theorem wX9_look_l132 {p : Program} {l : Launch} {e : Env} {s : State} {m : MethodId} {args : Array Value} {below : List Frame} {meth : Method} {c : Code} {D : va_G} {t : Nat → ClassId} {κ : Nat → Nat} {A : Nat → Prop} {a_mo : Nat → Nat} {lam : S6} {x1 : Int32} {rv : Option Value} {w1 : va_W} (C : Cxt p s m args meth c cX9_look 7 RX9 wsX9_look (some .int) D t κ A) : ∀ (n : Nat) (x2 : Int32) (x3 : Int32) (x4 : Int32) (s_mo : S2) (x : Int32 × Int32 × Int32 × S2), wh (fun (c : Int32 × Int32 × Int32 × S2) => fX9_look_b132 c.2.2.2 x1 c.1 c.2.1 c.2.2.1) n (x2, x3, x4, s_mo) = some x → (∀ (z : Int32 × Int32 × Int32 × S2), x = z → ∀ (H : Heap) (locs : List Loc) (ls : Array Slot), va_P D vwCl (wModel t a_mo z.2.2.2 lam) H → va_D A (wModel t a_mo z.2.2.2 lam) → va_S A s.heap H locs → lv_has ls 7 [(1, .int x1), (2, .int z.1), (3, .int z.2.1)] → W p l e (rmL 7) s m args below meth c H locs 0 0 (MQ below (gQ D rv w1 A) args s 0 0 A) (F0 m 230 ls [])) → ∀ (H : Heap) (locs : List Loc) (ls : Array Slot), va_P D vwCl (wModel t a_mo s_mo lam) H → va_D A (wModel t a_mo s_mo lam) → va_S A s.heap H locs → lv_has ls 7 [(0, .ref (a_mo 0)), (1, .int x1), (2, .int x2), (3, .int x3), (4, .int x4)] → W p l e (rmL 7) s m args below meth c H locs 0 0 (MQ below (gQ D rv w1 A) args s 0 0 A) (F0 m 132 ls []) := by
  obtain ⟨hx, hb, hr, hml, hown, hts, hC0, hlk, hA⟩ := id C
  have hK := hC0.1
  intro n
  induction n with
  | zero =>
    intro x2 x3 x4 s_mo x h
    exact (wh_0 h).elim
  | succ n ih =>
    intro x2 x3 x4 s_mo x h HX H locs ls hP hD hS hl
    obtain ⟨v, hf, hB, hX⟩ := wh_step h
    have hf : fX9_look_b132 s_mo x1 x2 x3 x4 = some v := hf
    have HB : ∀ (z : Int32 × Int32 × Int32 × S2), v = .inl z → ∀ (H : Heap) (locs : List Loc) (ls : Array Slot), va_P D vwCl (wModel t a_mo z.2.2.2 lam) H → va_D A (wModel t a_mo z.2.2.2 lam) → va_S A s.heap H locs → lv_has ls 7 [(0, .ref (a_mo 0)), (1, .int x1), (2, .int z.1), (3, .int z.2.1), (4, .int z.2.2.1)] → W p l e (rmL 7) s m args below meth c H locs 0 0 (MQ below (gQ D rv w1 A) args s 0 0 A) (F0 m 132 ls []) := fun z hz H locs ls hP hD hS hl => ih z.1 z.2.1 z.2.2.1 z.2.2.2 x (hB z hz) HX H locs ls hP hD hS hl
    have HX : ∀ (z : Int32 × Int32 × Int32 × S2), v = .inr z → ∀ (H : Heap) (locs : List Loc) (ls : Array Slot), va_P D vwCl (wModel t a_mo z.2.2.2 lam) H → va_D A (wModel t a_mo z.2.2.2 lam) → va_S A s.heap H locs → lv_has ls 7 [(1, .int x1), (2, .int z.1), (3, .int z.2.1)] → W p l e (rmL 7) s m args below meth c H locs 0 0 (MQ below (gQ D rv w1 A) args s 0 0 A) (F0 m 230 ls []) := fun z hz => HX z (hX _ hz).symm
    unfold fX9_look_b132 at hf
    refine lv_iload hx hb dX9_look_132 (lv_at hl 4 rfl) ?_
    refine lv_aload_n hx hb dX9_look_134 rfl (lv_at hl 0 rfl) ?_
    refine va_get (D := D) (ci := 9) (v := .int (s_mo 0 1)) (C := RX9) (T := TX9) (N := 37) hx hb hts iwX9_look_X9 hown hK hP 0 rfl rfl 4 (by decide) (hts _ lkX9_look_f84) (fun _ h9 => h9) rfl dX9_look_135 ?_
    refine lv_icmp_ge (tgt := 230) hx hb dX9_look_138 (by decide) (fun c24 => ?_) (fun c24 => ?_)
    · rw [if_pos c24] at hf
      obtain rfl := so_eq hf
      exact HX _ rfl _ _ _ hP hD hS (lv_sub hl [1, 2, 3] rfl)
    · rw [if_neg c24] at hf
      refine lv_iconst (v := 0) hx hb dX9_look_141 (by decide) ?_
      refine lv_istore (lv' := [(5, .int (0 : Int32)), (0, .ref (a_mo 0)), (1, .int x1), (2, .int x2), (3, .int x3), (4, .int x4)]) hx hb dX9_look_142 hl (by decide) rfl (fun ls hl => ?_)
      refine lv_iconst (v := 0) hx hb dX9_look_144 (by decide) ?_
      refine lv_istore (lv' := [(6, .int (0 : Int32)), (5, .int (0 : Int32)), (0, .ref (a_mo 0)), (1, .int x1), (2, .int x2), (3, .int x3), (4, .int x4)]) hx hb dX9_look_145 hl (by decide) rfl (fun ls hl => ?_)
      obtain ⟨x31, ex31, hf⟩ := bd_some hf
      refine wX9_look_l147 C 5000 (0 : Int32) (0 : Int32) s_mo x31 ex31 (fun c9 h9 H locs ls hP hD hS hl => ?_) _ _ _ hP hD hS (lv_sub hl [2, 3, 4, 5, 6, 1, 0] rfl)
      subst h9
      refine lv_iload hx hb dX9_look_198 (lv_at hl 5 rfl) ?_
      refine lv_iload_n hx hb dX9_look_200 rfl (lv_at hl 2 rfl) ?_
      refine lv_icmp_ge (tgt := 209) hx hb dX9_look_201 (by decide) (fun c32 => ?_) (fun c32 => ?_)
      · rw [if_pos c32] at hf
        refine lv_iload_n hx hb dX9_look_209 rfl (lv_at hl 3 rfl) ?_
        exact wX9_look_210 C hf HB _ _ _ hP hD hS (lv_sub hl [0, 1, 2, 4, 5] rfl)
      · rw [if_neg c32] at hf
        refine lv_iload hx hb dX9_look_204 (lv_at hl 4 rfl) ?_
        refine lv_goto (tgt := 210) hx hb dX9_look_206 (by decide) ?_
        exact wX9_look_210 C hf HB _ _ _ hP hD hS (lv_sub hl [0, 1, 2, 4, 5] rfl)
set_option maxHeartbeats 4000000 in
set_option maxRecDepth 100000 in
theorem cX9_look_ok {l : Launch} {D : va_G} {t : Nat → ClassId} {κ : Nat → Nat} {a_mo : Nat → Nat} {s_mo : S2} {lam : S6} {p1 : Int32} {out : Int32 × S2} (hf : fX9_look s_mo p1 = some out) : Ct l D t κ yX9_look wsX9_look (rmL 7) [.ref (a_mo 0), .int p1] (wModel t a_mo s_mo lam) (some (.int out.1)) (wModel t a_mo out.2 lam) := by
  refine Ct.ofW (own := RX9) (cc := cX9_look) (maxL := 7) (ret := (some .int)) (by decide) rfl rfl (Nat.le_of_ble_eq_true rfl) ?_
  intro p e s m below meth c A C hP hD ls hl
  have hS : va_S A s.heap s.heap [] := va_S.rf
  obtain ⟨hx, hb, hr, hml, hown, hts, hC0, hlk, hA⟩ := id C
  have hK := hC0.1
  have hl : lv_has ls 7 [(0, .ref (a_mo 0)), (1, .int p1)] := hl
  unfold fX9_look at hf
  refine lv_iload_n hx hb dX9_look_0 rfl (lv_at hl 1 rfl) ?_
  obtain ⟨v1, ev1, hf⟩ := bd_some hf
  refine gk_S C (As := [.int p1]) (rest := []) (cX9_isPart_ok (l := l) (D := D) (t := t) (κ := κ) ev1) gX9_look_X9_isPart rfl ⟨rfl, rfl⟩ hdX9_isPart ⟨Nat.le_of_ble_eq_true rfl, Nat.le_of_ble_eq_true rfl⟩ hP hD hS rfl hl.1 (Nat.le_of_ble_eq_true rfl) dX9_look_1 (Nat.zero_le _) (Nat.zero_le _) (fun H locs hP hD hS => ?_)
  refine W.eq (g2 := F0 m 4 ls [.int v1]) rfl ?_
  refine lv_if_ne (tgt := 9) hx hb dX9_look_4 (by decide) (fun c2 => ?_) (fun c2 => ?_)
  · rw [if_neg c2] at hf
    refine lv_iconst (v := 0) hx hb dX9_look_9 (by decide) ?_
    refine lv_istore_n (lv' := [(2, .int (0 : Int32)), (0, .ref (a_mo 0)), (1, .int p1)]) hx hb dX9_look_10 rfl hl (by decide) rfl (fun ls hl => ?_)
    refine lv_bipush (v := -4) hx hb dX9_look_11 (by decide) ?_
    refine lv_istore_n (lv' := [(3, .int (-4 : Int32)), (2, .int (0 : Int32)), (0, .ref (a_mo 0)), (1, .int p1)]) hx hb dX9_look_13 rfl hl (by decide) rfl (fun ls hl => ?_)
    refine lv_iconst (v := 0) hx hb dX9_look_14 (by decide) ?_
    refine lv_istore (lv' := [(4, .int (0 : Int32)), (3, .int (-4 : Int32)), (2, .int (0 : Int32)), (0, .ref (a_mo 0)), (1, .int p1)]) hx hb dX9_look_15 hl (by decide) rfl (fun ls hl => ?_)
    obtain ⟨x7, ex7, hf⟩ := bd_some hf
    refine wX9_look_l17 C 5000 (0 : Int32) s_mo x7 ex7 (fun c9 h9 H locs ls hP hD hS hl => ?_) _ _ _ hP hD hS (lv_sub hl [3, 4, 2, 1, 0] rfl)
    subst h9
    refine lv_iconst (v := 0) hx hb dX9_look_38 (by decide) ?_
    refine lv_istore (lv' := [(4, .int (0 : Int32)), (0, .ref (a_mo 0)), (1, .int p1), (2, .int (0 : Int32)), (3, .int (-4 : Int32))]) hx hb dX9_look_39 hl (by decide) rfl (fun ls hl => ?_)
    obtain ⟨x23, ex23, hf⟩ := bd_some hf
    refine wX9_look_l41 C 5000 (0 : Int32) (0 : Int32) x7.2 x23 ex23 (fun c9 h9 H locs ls hP hD hS hl => ?_) _ _ _ hP hD hS (lv_sub hl [1, 2, 3, 4, 0] rfl)
    subst h9
    refine lv_iconst (v := 0) hx hb dX9_look_129 (by decide) ?_
    refine lv_istore (lv' := [(4, .int (0 : Int32)), (0, .ref (a_mo 0)), (1, .int p1), (2, .int x23.1), (3, .int (-4 : Int32))]) hx hb dX9_look_130 hl (by decide) rfl (fun ls hl => ?_)
    obtain ⟨x36, ex36, hf⟩ := bd_some hf
    refine wX9_look_l132 C 5000 x23.1 (-4 : Int32) (0 : Int32) x23.2.2 x36 ex36 (fun c9 h9 H locs ls hP hD hS hl => ?_) _ _ _ hP hD hS (lv_sub hl [1, 2, 3, 4, 0] rfl)
    subst h9
    refine lv_iload_n hx hb dX9_look_230 rfl (lv_at hl 2 rfl) ?_
    refine lv_bipush (v := -4) hx hb dX9_look_231 (by decide) ?_
    refine lv_icmp_ne (tgt := 241) hx hb dX9_look_233 (by decide) (fun c37 => ?_) (fun c37 => ?_)
    · rw [if_neg c37] at hf
      refine lv_iload_n hx hb dX9_look_241 rfl (lv_at hl 0 rfl) ?_
      refine lv_if_ne (tgt := 249) hx hb dX9_look_242 (by decide) (fun c38 => ?_) (fun c38 => ?_)
      · rw [if_neg c38] at hf
        refine lv_iload_n hx hb dX9_look_249 rfl (lv_at hl 1 rfl) ?_
        obtain rfl := so_eq hf
        exact g_iret C hP hD hS dX9_look_250
      · rw [if_pos c38] at hf
        refine lv_iload_n hx hb dX9_look_245 rfl (lv_at hl 2 rfl) ?_
        refine lv_goto (tgt := 250) hx hb dX9_look_246 (by decide) ?_
        obtain rfl := so_eq hf
        exact g_iret C hP hD hS dX9_look_250
    · rw [if_pos c37] at hf
      refine lv_bipush (v := -4) hx hb dX9_look_236 (by decide) ?_
      refine lv_goto (tgt := 250) hx hb dX9_look_238 (by decide) ?_
      obtain rfl := so_eq hf
      exact g_iret C hP hD hS dX9_look_250
  · rw [if_pos c2] at hf
    refine lv_iconst (v := -1) hx hb dX9_look_7 (by decide) ?_
    obtain rfl := so_eq hf
    exact g_iret C hP hD hS dX9_look_8
/-! CoachCourtModel.drift -/
def fX9_drift_b51 (s_mo : S2) (x2 : Int32) (x3 : Int32) (x4 : Int32) (x5 : Int32) (x6 : Int32) : Option ((Int32 × Int32 × Int32 × S2) ⊕ (Int32 × Int32 × Int32 × S2)) :=
  if x2 ≤ x6 then
    (some (.inr (x4, x5, x6, s_mo)))
  else
    (nm ((x4 * (1103515245 : Int32)) + (12345 : Int32)) fun y9 =>
    gd (nzb (s_mo 0 1)) <|
    nm (((y9 >>> ((16 : Int32) &&& 31)) &&& (32767 : Int32)) - ((y9 >>> ((16 : Int32) &&& 31)) &&& (32767 : Int32)) / (s_mo 0 1) * (s_mo 0 1)) fun y11 =>
    nm ((y9 * (1103515245 : Int32)) + (12345 : Int32)) fun y12 =>
    gd (nzb (s_mo 0 0)) <|
    gd (ixb (((24 : Int32) + ((5 : Int32) * y11)) + (4 : Int32)) 59) <|
    nm (sE s_mo 2 (Int32.toNatClampNeg (((24 : Int32) + ((5 : Int32) * y11)) + (4 : Int32))) (((y12 >>> ((16 : Int32) &&& 31)) &&& (32767 : Int32)) - ((y12 >>> ((16 : Int32) &&& 31)) &&& (32767 : Int32)) / (s_mo 0 0) * (s_mo 0 0))) fun s15 =>
    (fX9_howMany s15).bind fun v16 =>
    nm (x5 + v16.1) fun y17 =>
    nm (x6 + (1 : Int32)) fun y18 =>
    some (.inl (y12, y17, y18, v16.2)))
def fX9_drift (s_mo : S2) (p1 : Int32) (p2 : Int32) (p3 : Int32) : Option (Int32 × S2) :=
  (fX9_in (Int32.toInt64 p2) (1 : Int64) (60 : Int64)).bind fun v1 =>
  if v1 = (0 : Int32) then
    (some ((-1 : Int32), s_mo))
  else
    ((fX9_isPart p3).bind fun v3 =>
    if v3 = (0 : Int32) then
      (some ((-1 : Int32), s_mo))
    else
      (if (s_mo 0 0) = (0 : Int32) then
        (some ((-2 : Int32), s_mo))
      else
        (if (s_mo 0 1) = (0 : Int32) then
          (some ((-2 : Int32), s_mo))
        else
          ((fX9_starts s_mo).bind fun v7 =>
          (wh (fun (c : Int32 × Int32 × Int32 × S2) => fX9_drift_b51 c.2.2.2 p2 p3 c.1 c.2.1 c.2.2.1) 5000 (p1, (0 : Int32), (0 : Int32), v7)).bind fun x19 =>
          if p3 = (0 : Int32) then
            (some (x19.2.1, x19.2.2.2))
          else
            ((fX9_verdicts x19.2.2.2).bind fun v21 =>
            some (v21, x19.2.2.2))))))
theorem hdX9_drift : yX9_drift.cls = RX9 ∧ yX9_drift.cls ≠ "java/lang/invoke/MethodHandle" ∧ yX9_drift.cls ≠ "java/lang/invoke/VarHandle" ∧ (parseMethodDescriptor yX9_drift.desc).map (fun d => d.parameters.length) = some 3 := by decide +kernel
theorem lkX9_drift_l290 : Cond.constantLong RX9 290 (60) ∈ wsX9_drift := by decide +kernel
theorem iwX9_drift_X9 : ∀ w ∈ wsX90, w ∈ wsX9_drift := by decide +kernel
theorem lkX9_drift_f81 : Cond.fieldLink RX9 81 "CoachCourtModel" "miles" "I" ∈ wsX9_drift := by decide +kernel
theorem lkX9_drift_f84 : Cond.fieldLink RX9 84 "CoachCourtModel" "parties" "I" ∈ wsX9_drift := by decide +kernel
theorem lkX9_drift_c292 : Cond.constant RX9 292 (1103515245) ∈ wsX9_drift := by decide +kernel
theorem lkX9_drift_f13 : Cond.fieldLink RX9 13 "CoachCourtModel" "now" "[I" ∈ wsX9_drift := by decide +kernel
set_option maxHeartbeats 4000000 in
set_option maxRecDepth 100000 in
theorem wX9_drift_l51 {p : Program} {l : Launch} {e : Env} {s : State} {m : MethodId} {args : Array Value} {below : List Frame} {meth : Method} {c : Code} {D : va_G} {t : Nat → ClassId} {κ : Nat → Nat} {A : Nat → Prop} {a_mo : Nat → Nat} {lam : S6} {x2 : Int32} {x3 : Int32} {rv : Option Value} {w1 : va_W} (C : Cxt p s m args meth c cX9_drift 8 RX9 wsX9_drift (some .int) D t κ A) : ∀ (n : Nat) (x4 : Int32) (x5 : Int32) (x6 : Int32) (s_mo : S2) (x : Int32 × Int32 × Int32 × S2), wh (fun (c : Int32 × Int32 × Int32 × S2) => fX9_drift_b51 c.2.2.2 x2 x3 c.1 c.2.1 c.2.2.1) n (x4, x5, x6, s_mo) = some x → (∀ (z : Int32 × Int32 × Int32 × S2), x = z → ∀ (H : Heap) (locs : List Loc) (ls : Array Slot), va_P D vwCl (wModel t a_mo z.2.2.2 lam) H → va_D A (wModel t a_mo z.2.2.2 lam) → va_S A s.heap H locs → lv_has ls 8 [(0, .ref (a_mo 0)), (3, .int x3), (5, .int z.2.1)] → W p l e (rmL 7) s m args below meth c H locs 0 0 (MQ below (gQ D rv w1 A) args s 0 0 A) (F0 m 140 ls [])) → ∀ (H : Heap) (locs : List Loc) (ls : Array Slot), va_P D vwCl (wModel t a_mo s_mo lam) H → va_D A (wModel t a_mo s_mo lam) → va_S A s.heap H locs → lv_has ls 8 [(0, .ref (a_mo 0)), (2, .int x2), (3, .int x3), (4, .int x4), (5, .int x5), (6, .int x6)] → W p l e (rmL 7) s m args below meth c H locs 0 0 (MQ below (gQ D rv w1 A) args s 0 0 A) (F0 m 51 ls []) := by
  obtain ⟨hx, hb, hr, hml, hown, hts, hC0, hlk, hA⟩ := id C
  have hK := hC0.1
  intro n
  induction n with
  | zero =>
    intro x4 x5 x6 s_mo x h
    exact (wh_0 h).elim
  | succ n ih =>
    intro x4 x5 x6 s_mo x h HX H locs ls hP hD hS hl
    obtain ⟨v, hf, hB, hX⟩ := wh_step h
    have hf : fX9_drift_b51 s_mo x2 x3 x4 x5 x6 = some v := hf
    have HB : ∀ (z : Int32 × Int32 × Int32 × S2), v = .inl z → ∀ (H : Heap) (locs : List Loc) (ls : Array Slot), va_P D vwCl (wModel t a_mo z.2.2.2 lam) H → va_D A (wModel t a_mo z.2.2.2 lam) → va_S A s.heap H locs → lv_has ls 8 [(0, .ref (a_mo 0)), (2, .int x2), (3, .int x3), (4, .int z.1), (5, .int z.2.1), (6, .int z.2.2.1)] → W p l e (rmL 7) s m args below meth c H locs 0 0 (MQ below (gQ D rv w1 A) args s 0 0 A) (F0 m 51 ls []) := fun z hz H locs ls hP hD hS hl => ih z.1 z.2.1 z.2.2.1 z.2.2.2 x (hB z hz) HX H locs ls hP hD hS hl
    have HX : ∀ (z : Int32 × Int32 × Int32 × S2), v = .inr z → ∀ (H : Heap) (locs : List Loc) (ls : Array Slot), va_P D vwCl (wModel t a_mo z.2.2.2 lam) H → va_D A (wModel t a_mo z.2.2.2 lam) → va_S A s.heap H locs → lv_has ls 8 [(0, .ref (a_mo 0)), (3, .int x3), (5, .int z.2.1)] → W p l e (rmL 7) s m args below meth c H locs 0 0 (MQ below (gQ D rv w1 A) args s 0 0 A) (F0 m 140 ls []) := fun z hz => HX z (hX _ hz).symm
    unfold fX9_drift_b51 at hf
    refine lv_iload hx hb dX9_drift_51 (lv_at hl 5 rfl) ?_
    refine lv_iload_n hx hb dX9_drift_53 rfl (lv_at hl 1 rfl) ?_
    refine lv_icmp_ge (tgt := 140) hx hb dX9_drift_54 (by decide) (fun c8 => ?_) (fun c8 => ?_)
    · rw [if_pos c8] at hf
      obtain rfl := so_eq hf
      exact HX _ rfl _ _ _ hP hD hS (lv_sub hl [0, 2, 4] rfl)
    · rw [if_neg c8] at hf
      refine lv_iload hx hb dX9_drift_57 (lv_at hl 3 rfl) ?_
      refine lv_ldcw hx hb hown (hts _ lkX9_drift_c292) dX9_drift_59 ?_
      refine lv_imul hx hb dX9_drift_62 ?_
      refine lv_sipush (v := 12345) hx hb dX9_drift_63 (by decide) ?_
      refine lv_iadd hx hb dX9_drift_66 ?_
      obtain ⟨y9, hy9, hf⟩ := nm_ex hf
      refine W.eq (g2 := F0 m 67 ls [.int y9]) (by rw [hy9]) ?_
      refine lv_istore (lv' := [(4, .int y9), (0, .ref (a_mo 0)), (2, .int x2), (3, .int x3), (5, .int x5), (6, .int x6)]) hx hb dX9_drift_67 hl (by decide) rfl (fun ls hl => ?_)
      refine lv_iload hx hb dX9_drift_69 (lv_at hl 0 rfl) ?_
      refine lv_bipush (v := 16) hx hb dX9_drift_71 (by decide) ?_
      refine lv_ishr hx hb dX9_drift_73 ?_
      refine lv_sipush (v := 32767) hx hb dX9_drift_74 (by decide) ?_
      refine lv_iand hx hb dX9_drift_77 ?_
      refine lv_aload_n hx hb dX9_drift_78 rfl (lv_at hl 1 rfl) ?_
      refine va_get (D := D) (ci := 9) (v := .int (s_mo 0 1)) (C := RX9) (T := TX9) (N := 37) hx hb hts iwX9_drift_X9 hown hK hP 0 rfl rfl 4 (by decide) (hts _ lkX9_drift_f84) (fun _ h9 => h9) rfl dX9_drift_79 ?_
      obtain ⟨b10, hf⟩ := gd_some hf
      refine lv_irem hx hb dX9_drift_82 (nzb_ne b10) ?_
      obtain ⟨y11, hy11, hf⟩ := nm_ex hf
      refine W.eq (g2 := F0 m 83 ls [.int y11]) (by rw [hy11]) ?_
      refine lv_istore (lv' := [(7, .int y11), (4, .int y9), (0, .ref (a_mo 0)), (2, .int x2), (3, .int x3), (5, .int x5), (6, .int x6)]) hx hb dX9_drift_83 hl (by decide) rfl (fun ls hl => ?_)
      refine lv_iload hx hb dX9_drift_85 (lv_at hl 1 rfl) ?_
      refine lv_ldcw hx hb hown (hts _ lkX9_drift_c292) dX9_drift_87 ?_
      refine lv_imul hx hb dX9_drift_90 ?_
      refine lv_sipush (v := 12345) hx hb dX9_drift_91 (by decide) ?_
      refine lv_iadd hx hb dX9_drift_94 ?_
      obtain ⟨y12, hy12, hf⟩ := nm_ex hf
      refine W.eq (g2 := F0 m 95 ls [.int y12]) (by rw [hy12]) ?_
      refine lv_istore (lv' := [(4, .int y12), (7, .int y11), (0, .ref (a_mo 0)), (2, .int x2), (3, .int x3), (5, .int x5), (6, .int x6)]) hx hb dX9_drift_95 hl (by decide) rfl (fun ls hl => ?_)
      refine lv_aload_n hx hb dX9_drift_97 rfl (lv_at hl 2 rfl) ?_
      refine va_get (D := D) (ci := 9) (v := .ref (a_mo 2)) (C := RX9) (T := TX9) (N := 37) hx hb hts iwX9_drift_X9 hown hK hP 0 rfl rfl 1 (by decide) (hts _ lkX9_drift_f13) (fun _ h9 => h9) rfl dX9_drift_98 ?_
      refine lv_bipush (v := 24) hx hb dX9_drift_101 (by decide) ?_
      refine lv_iconst (v := 5) hx hb dX9_drift_103 (by decide) ?_
      refine lv_iload hx hb dX9_drift_104 (lv_at hl 1 rfl) ?_
      refine lv_imul hx hb dX9_drift_106 ?_
      refine lv_iadd hx hb dX9_drift_107 ?_
      refine lv_iconst (v := 4) hx hb dX9_drift_108 (by decide) ?_
      refine lv_iadd hx hb dX9_drift_109 ?_
      refine lv_iload hx hb dX9_drift_110 (lv_at hl 0 rfl) ?_
      refine lv_bipush (v := 16) hx hb dX9_drift_112 (by decide) ?_
      refine lv_ishr hx hb dX9_drift_114 ?_
      refine lv_sipush (v := 32767) hx hb dX9_drift_115 (by decide) ?_
      refine lv_iand hx hb dX9_drift_118 ?_
      refine lv_aload_n hx hb dX9_drift_119 rfl (lv_at hl 2 rfl) ?_
      refine va_get (D := D) (ci := 9) (v := .int (s_mo 0 0)) (C := RX9) (T := TX9) (N := 37) hx hb hts iwX9_drift_X9 hown hK hP 0 rfl rfl 3 (by decide) (hts _ lkX9_drift_f81) (fun _ h9 => h9) rfl dX9_drift_120 ?_
      obtain ⟨b13, hf⟩ := gd_some hf
      refine lv_irem hx hb dX9_drift_123 (nzb_ne b13) ?_
      obtain ⟨b14, hf⟩ := gd_some hf
      obtain ⟨s15, hs15, hf⟩ := nm_ex hf
      refine va_iast hx hb hK hP hD hS 2 0 rfl rfl (ixb_in b14) dX9_drift_124 (fun H locs hP hD hS => ?_)
      have hP : va_P D vwCl (wModel t a_mo s15 lam) H := by rw [hs15]; exact hP
      have hD : va_D A (wModel t a_mo s15 lam) := by rw [hs15]; exact hD
      refine lv_iload hx hb dX9_drift_125 (lv_at hl 5 rfl) ?_
      refine lv_aload_n hx hb dX9_drift_127 rfl (lv_at hl 2 rfl) ?_
      obtain ⟨v16, ev16, hf⟩ := bd_some hf
      refine gk_V0 C (As := []) (rest := [.int x5]) (ci := 9) (q := (RX9, TX9, 37)) (q0 := 0) (cX9_howMany_ok (l := l) (D := D) (t := t) (κ := κ) (a_mo := a_mo) (lam := lam) ev16) gX9_drift_X9_howMany rfl ⟨rfl, rfl⟩ hdX9_howMany ⟨Nat.le_of_ble_eq_true rfl, Nat.le_of_ble_eq_true rfl⟩ rfl rfl hP hD hS rfl hl.1 (Nat.le_of_ble_eq_true rfl) dX9_drift_128 (Nat.zero_le _) (Nat.zero_le _) (fun H locs hP hD hS => ?_)
      refine W.eq (g2 := F0 m 131 ls [.int v16.1, .int x5]) rfl ?_
      refine lv_iadd hx hb dX9_drift_131 ?_
      obtain ⟨y17, hy17, hf⟩ := nm_ex hf
      refine W.eq (g2 := F0 m 132 ls [.int y17]) (by rw [hy17]) ?_
      refine lv_istore (lv' := [(5, .int y17), (4, .int y12), (7, .int y11), (0, .ref (a_mo 0)), (2, .int x2), (3, .int x3), (6, .int x6)]) hx hb dX9_drift_132 hl (by decide) rfl (fun ls hl => ?_)
      obtain ⟨y18, hy18, hf⟩ := nm_ex hf
      refine lv_iinc (v := y18) (lv' := [(6, .int y18), (5, .int y17), (4, .int y12), (7, .int y11), (0, .ref (a_mo 0)), (2, .int x2), (3, .int x3)]) hx hb dX9_drift_134 hl (k := 6) rfl (by rw [hy18]; rfl) (by decide) rfl (fun ls hl => ?_)
      refine lv_goto (tgt := 51) hx hb dX9_drift_137 (by decide) ?_
      obtain rfl := so_eq hf
      exact HB _ rfl _ _ _ hP hD hS (lv_sub hl [4, 5, 6, 2, 1, 0] rfl)
set_option maxHeartbeats 4000000 in
set_option maxRecDepth 100000 in
theorem cX9_drift_ok {l : Launch} {D : va_G} {t : Nat → ClassId} {κ : Nat → Nat} {a_mo : Nat → Nat} {s_mo : S2} {lam : S6} {p1 : Int32} {p2 : Int32} {p3 : Int32} {out : Int32 × S2} (hf : fX9_drift s_mo p1 p2 p3 = some out) : Ct l D t κ yX9_drift wsX9_drift (rmL 7) [.ref (a_mo 0), .int p1, .int p2, .int p3] (wModel t a_mo s_mo lam) (some (.int out.1)) (wModel t a_mo out.2 lam) := by
  refine Ct.ofW (own := RX9) (cc := cX9_drift) (maxL := 8) (ret := (some .int)) (by decide) rfl rfl (Nat.le_of_ble_eq_true rfl) ?_
  intro p e s m below meth c A C hP hD ls hl
  have hS : va_S A s.heap s.heap [] := va_S.rf
  obtain ⟨hx, hb, hr, hml, hown, hts, hC0, hlk, hA⟩ := id C
  have hK := hC0.1
  have hl : lv_has ls 8 [(0, .ref (a_mo 0)), (1, .int p1), (2, .int p2), (3, .int p3)] := hl
  unfold fX9_drift at hf
  refine lv_iload_n hx hb dX9_drift_0 rfl (lv_at hl 2 rfl) ?_
  refine lv_i2l hx hb dX9_drift_1 rfl ?_
  refine lv_lconst (v := 1) hx hb dX9_drift_2 (by decide) ?_
  refine lv_ldc2 hx hb hown (hts _ lkX9_drift_l290) dX9_drift_3 ?_
  obtain ⟨v1, ev1, hf⟩ := bd_some hf
  refine gk_S C (As := [.long (Int32.toInt64 p2), .long (1 : Int64), .long (60 : Int64)]) (rest := []) (cX9_in_ok (l := l) (D := D) (t := t) (κ := κ) ev1) gX9_drift_X9_in rfl ⟨rfl, rfl⟩ hdX9_in ⟨Nat.le_of_ble_eq_true rfl, Nat.le_of_ble_eq_true rfl⟩ hP hD hS rfl hl.1 (Nat.le_of_ble_eq_true rfl) dX9_drift_6 (Nat.zero_le _) (Nat.zero_le _) (fun H locs hP hD hS => ?_)
  refine W.eq (g2 := F0 m 9 ls [.int v1]) rfl ?_
  refine lv_if_eq (tgt := 19) hx hb dX9_drift_9 (by decide) (fun c2 => ?_) (fun c2 => ?_)
  · rw [if_pos c2] at hf
    refine lv_iconst (v := -1) hx hb dX9_drift_19 (by decide) ?_
    obtain rfl := so_eq hf
    exact g_iret C hP hD hS dX9_drift_20
  · rw [if_neg c2] at hf
    refine lv_iload_n hx hb dX9_drift_12 rfl (lv_at hl 3 rfl) ?_
    obtain ⟨v3, ev3, hf⟩ := bd_some hf
    refine gk_S C (As := [.int p3]) (rest := []) (cX9_isPart_ok (l := l) (D := D) (t := t) (κ := κ) ev3) gX9_drift_X9_isPart rfl ⟨rfl, rfl⟩ hdX9_isPart ⟨Nat.le_of_ble_eq_true rfl, Nat.le_of_ble_eq_true rfl⟩ hP hD hS rfl hl.1 (Nat.le_of_ble_eq_true rfl) dX9_drift_13 (Nat.zero_le _) (Nat.zero_le _) (fun H locs hP hD hS => ?_)
    refine W.eq (g2 := F0 m 16 ls [.int v3]) rfl ?_
    refine lv_if_ne (tgt := 21) hx hb dX9_drift_16 (by decide) (fun c4 => ?_) (fun c4 => ?_)
    · rw [if_neg c4] at hf
      refine lv_aload_n hx hb dX9_drift_21 rfl (lv_at hl 0 rfl) ?_
      refine va_get (D := D) (ci := 9) (v := .int (s_mo 0 0)) (C := RX9) (T := TX9) (N := 37) hx hb hts iwX9_drift_X9 hown hK hP 0 rfl rfl 3 (by decide) (hts _ lkX9_drift_f81) (fun _ h9 => h9) rfl dX9_drift_22 ?_
      refine lv_if_eq (tgt := 35) hx hb dX9_drift_25 (by decide) (fun c5 => ?_) (fun c5 => ?_)
      · rw [if_pos c5] at hf
        refine lv_bipush (v := -2) hx hb dX9_drift_35 (by decide) ?_
        obtain rfl := so_eq hf
        exact g_iret C hP hD hS dX9_drift_37
      · rw [if_neg c5] at hf
        refine lv_aload_n hx hb dX9_drift_28 rfl (lv_at hl 0 rfl) ?_
        refine va_get (D := D) (ci := 9) (v := .int (s_mo 0 1)) (C := RX9) (T := TX9) (N := 37) hx hb hts iwX9_drift_X9 hown hK hP 0 rfl rfl 4 (by decide) (hts _ lkX9_drift_f84) (fun _ h9 => h9) rfl dX9_drift_29 ?_
        refine lv_if_ne (tgt := 38) hx hb dX9_drift_32 (by decide) (fun c6 => ?_) (fun c6 => ?_)
        · rw [if_neg c6] at hf
          refine lv_iload_n hx hb dX9_drift_38 rfl (lv_at hl 1 rfl) ?_
          refine lv_istore (lv' := [(4, .int p1), (0, .ref (a_mo 0)), (1, .int p1), (2, .int p2), (3, .int p3)]) hx hb dX9_drift_39 hl (by decide) rfl (fun ls hl => ?_)
          refine lv_iconst (v := 0) hx hb dX9_drift_41 (by decide) ?_
          refine lv_istore (lv' := [(5, .int (0 : Int32)), (4, .int p1), (0, .ref (a_mo 0)), (1, .int p1), (2, .int p2), (3, .int p3)]) hx hb dX9_drift_42 hl (by decide) rfl (fun ls hl => ?_)
          refine lv_aload_n hx hb dX9_drift_44 rfl (lv_at hl 2 rfl) ?_
          obtain ⟨v7, ev7, hf⟩ := bd_some hf
          refine gk_V0 C (As := []) (rest := []) (ci := 9) (q := (RX9, TX9, 37)) (q0 := 0) (cX9_starts_ok (l := l) (D := D) (t := t) (κ := κ) (a_mo := a_mo) (lam := lam) ev7) gX9_drift_X9_starts rfl ⟨rfl, rfl⟩ hdX9_starts ⟨Nat.le_of_ble_eq_true rfl, Nat.le_of_ble_eq_true rfl⟩ rfl rfl hP hD hS rfl hl.1 (Nat.le_of_ble_eq_true rfl) dX9_drift_45 (Nat.zero_le _) (Nat.zero_le _) (fun H locs hP hD hS => ?_)
          refine W.eq (g2 := F0 m 48 ls []) rfl ?_
          refine lv_iconst (v := 0) hx hb dX9_drift_48 (by decide) ?_
          refine lv_istore (lv' := [(6, .int (0 : Int32)), (5, .int (0 : Int32)), (4, .int p1), (0, .ref (a_mo 0)), (1, .int p1), (2, .int p2), (3, .int p3)]) hx hb dX9_drift_49 hl (by decide) rfl (fun ls hl => ?_)
          obtain ⟨x19, ex19, hf⟩ := bd_some hf
          refine wX9_drift_l51 C 5000 p1 (0 : Int32) (0 : Int32) v7 x19 ex19 (fun c9 h9 H locs ls hP hD hS hl => ?_) _ _ _ hP hD hS (lv_sub hl [3, 5, 6, 2, 1, 0] rfl)
          subst h9
          refine lv_iload_n hx hb dX9_drift_140 rfl (lv_at hl 1 rfl) ?_
          refine lv_if_ne (tgt := 149) hx hb dX9_drift_141 (by decide) (fun c20 => ?_) (fun c20 => ?_)
          · rw [if_neg c20] at hf
            refine lv_aload_n hx hb dX9_drift_149 rfl (lv_at hl 0 rfl) ?_
            obtain ⟨v21, ev21, hf⟩ := bd_some hf
            refine gk_V0 C (As := []) (rest := []) (ci := 9) (q := (RX9, TX9, 37)) (q0 := 0) (cX9_verdicts_ok (l := l) (D := D) (t := t) (κ := κ) (a_mo := a_mo) (lam := lam) ev21) gX9_drift_X9_verdicts rfl ⟨rfl, rfl⟩ hdX9_verdicts ⟨Nat.le_of_ble_eq_true rfl, Nat.le_of_ble_eq_true rfl⟩ rfl rfl hP hD hS rfl hl.1 (Nat.le_of_ble_eq_true rfl) dX9_drift_150 (Nat.zero_le _) (Nat.zero_le _) (fun H locs hP hD hS => ?_)
            refine W.eq (g2 := F0 m 153 ls [.int v21]) rfl ?_
            obtain rfl := so_eq hf
            exact g_iret C hP hD hS dX9_drift_153
          · rw [if_pos c20] at hf
            refine lv_iload hx hb dX9_drift_144 (lv_at hl 2 rfl) ?_
            refine lv_goto (tgt := 153) hx hb dX9_drift_146 (by decide) ?_
            obtain rfl := so_eq hf
            exact g_iret C hP hD hS dX9_drift_153
        · rw [if_pos c6] at hf
          refine lv_bipush (v := -2) hx hb dX9_drift_35 (by decide) ?_
          obtain rfl := so_eq hf
          exact g_iret C hP hD hS dX9_drift_37
    · rw [if_pos c4] at hf
      refine lv_iconst (v := -1) hx hb dX9_drift_19 (by decide) ?_
      obtain rfl := so_eq hf
      exact g_iret C hP hD hS dX9_drift_20
/-! CoachCourtModel.copies -/
def fX9_copies_b2 (s_mo : S2) (x1 : Int32) (x2 : Int32) (x3 : Int32) : Option ((Int32 × S2) ⊕ (Int32 × S2)) :=
  if (59 : Int32) ≤ x3 then
    (some (.inr (x3, s_mo)))
  else
    (gd (ixb (x2 + x3) 177) <|
    gd (ixb (x1 + x3) 177) <|
    nm (sE s_mo 1 (Int32.toNatClampNeg (x1 + x3)) (s_mo 1 (Int32.toNatClampNeg (x2 + x3)))) fun s4 =>
    nm (x3 + (1 : Int32)) fun y5 =>
    some (.inl (y5, s4)))
def fX9_copies (s_mo : S2) (p1 : Int32) (p2 : Int32) : Option (S2) :=
  (wh (fun (c : Int32 × S2) => fX9_copies_b2 c.2 p1 p2 c.1) 5000 ((0 : Int32), s_mo)).bind fun x6 =>
  some x6.2
theorem hdX9_copies : yX9_copies.cls = RX9 ∧ yX9_copies.cls ≠ "java/lang/invoke/MethodHandle" ∧ yX9_copies.cls ≠ "java/lang/invoke/VarHandle" ∧ (parseMethodDescriptor yX9_copies.desc).map (fun d => d.parameters.length) = some 2 := by decide +kernel
theorem iwX9_copies_X9 : ∀ w ∈ wsX90, w ∈ wsX9_copies := by decide +kernel
theorem lkX9_copies_f7 : Cond.fieldLink RX9 7 "CoachCourtModel" "st" "[I" ∈ wsX9_copies := by decide +kernel
set_option maxHeartbeats 4000000 in
set_option maxRecDepth 100000 in
theorem wX9_copies_l2 {p : Program} {l : Launch} {e : Env} {s : State} {m : MethodId} {args : Array Value} {below : List Frame} {meth : Method} {c : Code} {D : va_G} {t : Nat → ClassId} {κ : Nat → Nat} {A : Nat → Prop} {a_mo : Nat → Nat} {lam : S6} {x1 : Int32} {x2 : Int32} {rv : Option Value} {w1 : va_W} (C : Cxt p s m args meth c cX9_copies 4 RX9 wsX9_copies none D t κ A) : ∀ (n : Nat) (x3 : Int32) (s_mo : S2) (x : Int32 × S2), wh (fun (c : Int32 × S2) => fX9_copies_b2 c.2 x1 x2 c.1) n (x3, s_mo) = some x → (∀ (z : Int32 × S2), x = z → ∀ (H : Heap) (locs : List Loc) (ls : Array Slot), va_P D vwCl (wModel t a_mo z.2 lam) H → va_D A (wModel t a_mo z.2 lam) → va_S A s.heap H locs → lv_has ls 4 [] → W p l e (rmL 0) s m args below meth c H locs 0 0 (MQ below (gQ D rv w1 A) args s 0 0 A) (F0 m 30 ls [])) → ∀ (H : Heap) (locs : List Loc) (ls : Array Slot), va_P D vwCl (wModel t a_mo s_mo lam) H → va_D A (wModel t a_mo s_mo lam) → va_S A s.heap H locs → lv_has ls 4 [(0, .ref (a_mo 0)), (1, .int x1), (2, .int x2), (3, .int x3)] → W p l e (rmL 0) s m args below meth c H locs 0 0 (MQ below (gQ D rv w1 A) args s 0 0 A) (F0 m 2 ls []) := by
  obtain ⟨hx, hb, hr, hml, hown, hts, hC0, hlk, hA⟩ := id C
  have hK := hC0.1
  intro n
  induction n with
  | zero =>
    intro x3 s_mo x h
    exact (wh_0 h).elim
  | succ n ih =>
    intro x3 s_mo x h HX H locs ls hP hD hS hl
    obtain ⟨v, hf, hB, hX⟩ := wh_step h
    have hf : fX9_copies_b2 s_mo x1 x2 x3 = some v := hf
    have HB : ∀ (z : Int32 × S2), v = .inl z → ∀ (H : Heap) (locs : List Loc) (ls : Array Slot), va_P D vwCl (wModel t a_mo z.2 lam) H → va_D A (wModel t a_mo z.2 lam) → va_S A s.heap H locs → lv_has ls 4 [(0, .ref (a_mo 0)), (1, .int x1), (2, .int x2), (3, .int z.1)] → W p l e (rmL 0) s m args below meth c H locs 0 0 (MQ below (gQ D rv w1 A) args s 0 0 A) (F0 m 2 ls []) := fun z hz H locs ls hP hD hS hl => ih z.1 z.2 x (hB z hz) HX H locs ls hP hD hS hl
    have HX : ∀ (z : Int32 × S2), v = .inr z → ∀ (H : Heap) (locs : List Loc) (ls : Array Slot), va_P D vwCl (wModel t a_mo z.2 lam) H → va_D A (wModel t a_mo z.2 lam) → va_S A s.heap H locs → lv_has ls 4 [] → W p l e (rmL 0) s m args below meth c H locs 0 0 (MQ below (gQ D rv w1 A) args s 0 0 A) (F0 m 30 ls []) := fun z hz => HX z (hX _ hz).symm
    unfold fX9_copies_b2 at hf
    refine lv_iload_n hx hb dX9_copies_2 rfl (lv_at hl 3 rfl) ?_
    refine lv_bipush (v := 59) hx hb dX9_copies_3 (by decide) ?_
    refine lv_icmp_ge (tgt := 30) hx hb dX9_copies_5 (by decide) (fun c1 => ?_) (fun c1 => ?_)
    · rw [if_pos c1] at hf
      obtain rfl := so_eq hf
      exact HX _ rfl _ _ _ hP hD hS (lv_sub hl [] rfl)
    · rw [if_neg c1] at hf
      refine lv_aload_n hx hb dX9_copies_8 rfl (lv_at hl 0 rfl) ?_
      refine va_get (D := D) (ci := 9) (v := .ref (a_mo 1)) (C := RX9) (T := TX9) (N := 37) hx hb hts iwX9_copies_X9 hown hK hP 0 rfl rfl 0 (by decide) (hts _ lkX9_copies_f7) (fun _ h9 => h9) rfl dX9_copies_9 ?_
      refine lv_iload_n hx hb dX9_copies_12 rfl (lv_at hl 1 rfl) ?_
      refine lv_iload_n hx hb dX9_copies_13 rfl (lv_at hl 3 rfl) ?_
      refine lv_iadd hx hb dX9_copies_14 ?_
      refine lv_aload_n hx hb dX9_copies_15 rfl (lv_at hl 0 rfl) ?_
      refine va_get (D := D) (ci := 9) (v := .ref (a_mo 1)) (C := RX9) (T := TX9) (N := 37) hx hb hts iwX9_copies_X9 hown hK hP 0 rfl rfl 0 (by decide) (hts _ lkX9_copies_f7) (fun _ h9 => h9) rfl dX9_copies_16 ?_
      refine lv_iload_n hx hb dX9_copies_19 rfl (lv_at hl 2 rfl) ?_
      refine lv_iload_n hx hb dX9_copies_20 rfl (lv_at hl 3 rfl) ?_
      refine lv_iadd hx hb dX9_copies_21 ?_
      obtain ⟨b2, hf⟩ := gd_some hf
      refine va_iald hx hb hK hP 1 0 rfl rfl (ixb_in b2) dX9_copies_22 ?_
      obtain ⟨b3, hf⟩ := gd_some hf
      obtain ⟨s4, hs4, hf⟩ := nm_ex hf
      refine va_iast hx hb hK hP hD hS 1 0 rfl rfl (ixb_in b3) dX9_copies_23 (fun H locs hP hD hS => ?_)
      have hP : va_P D vwCl (wModel t a_mo s4 lam) H := by rw [hs4]; exact hP
      have hD : va_D A (wModel t a_mo s4 lam) := by rw [hs4]; exact hD
      obtain ⟨y5, hy5, hf⟩ := nm_ex hf
      refine lv_iinc (v := y5) (lv' := [(3, .int y5), (0, .ref (a_mo 0)), (1, .int x1), (2, .int x2)]) hx hb dX9_copies_24 hl (k := 3) rfl (by rw [hy5]; rfl) (by decide) rfl (fun ls hl => ?_)
      refine lv_goto (tgt := 2) hx hb dX9_copies_27 (by decide) ?_
      obtain rfl := so_eq hf
      exact HB _ rfl _ _ _ hP hD hS (lv_sub hl [1, 2, 3, 0] rfl)
set_option maxHeartbeats 4000000 in
set_option maxRecDepth 100000 in
theorem cX9_copies_ok {l : Launch} {D : va_G} {t : Nat → ClassId} {κ : Nat → Nat} {a_mo : Nat → Nat} {s_mo : S2} {lam : S6} {p1 : Int32} {p2 : Int32} {out : S2} (hf : fX9_copies s_mo p1 p2 = some out) : Ct l D t κ yX9_copies wsX9_copies (rmL 0) [.ref (a_mo 0), .int p1, .int p2] (wModel t a_mo s_mo lam) none (wModel t a_mo out lam) := by
  refine Ct.ofW (own := RX9) (cc := cX9_copies) (maxL := 4) (ret := none) (by decide) rfl rfl (Nat.le_of_ble_eq_true rfl) ?_
  intro p e s m below meth c A C hP hD ls hl
  have hS : va_S A s.heap s.heap [] := va_S.rf
  obtain ⟨hx, hb, hr, hml, hown, hts, hC0, hlk, hA⟩ := id C
  have hK := hC0.1
  have hl : lv_has ls 4 [(0, .ref (a_mo 0)), (1, .int p1), (2, .int p2)] := hl
  unfold fX9_copies at hf
  refine lv_iconst (v := 0) hx hb dX9_copies_0 (by decide) ?_
  refine lv_istore_n (lv' := [(3, .int (0 : Int32)), (0, .ref (a_mo 0)), (1, .int p1), (2, .int p2)]) hx hb dX9_copies_1 rfl hl (by decide) rfl (fun ls hl => ?_)
  obtain ⟨x6, ex6, hf⟩ := bd_some hf
  refine wX9_copies_l2 C 5000 (0 : Int32) s_mo x6 ex6 (fun c9 h9 H locs ls hP hD hS hl => ?_) _ _ _ hP hD hS (lv_sub hl [1, 2, 3, 0] rfl)
  subst h9
  obtain rfl := so_eq hf
  exact g_vret C hP hD hS dX9_copies_30
/-! CoachCourtModel.keep -/
def fX9_keep (s_mo : S2) (p1 : Int32) : Option (Int32 × S2) :=
  (fX9_in (Int32.toInt64 p1) (0 : Int64) (1 : Int64)).bind fun v1 =>
  if v1 = (0 : Int32) then
    (some ((-1 : Int32), s_mo))
  else
    (gd (ixb p1 2) <|
    (fX9_flag (s_mo 3 (Int32.toNatClampNeg p1))).bind fun v4 =>
    nm (sE s_mo 3 (Int32.toNatClampNeg p1) (vp_nar .boolean (1 : Int32))) fun s5 =>
    (fX9_copies s5 ((59 : Int32) * (p1 + (1 : Int32))) (0 : Int32)).bind fun v6 =>
    some (v4, v6))
theorem hdX9_keep : yX9_keep.cls = RX9 ∧ yX9_keep.cls ≠ "java/lang/invoke/MethodHandle" ∧ yX9_keep.cls ≠ "java/lang/invoke/VarHandle" ∧ (parseMethodDescriptor yX9_keep.desc).map (fun d => d.parameters.length) = some 1 := by decide +kernel
theorem iwX9_keep_X9 : ∀ w ∈ wsX90, w ∈ wsX9_keep := by decide +kernel
theorem lkX9_keep_f16 : Cond.fieldLink RX9 16 "CoachCourtModel" "isKept" "[Z" ∈ wsX9_keep := by decide +kernel
set_option maxHeartbeats 4000000 in
set_option maxRecDepth 100000 in
theorem cX9_keep_ok {l : Launch} {D : va_G} {t : Nat → ClassId} {κ : Nat → Nat} {a_mo : Nat → Nat} {s_mo : S2} {lam : S6} {p1 : Int32} {out : Int32 × S2} (hf : fX9_keep s_mo p1 = some out) : Ct l D t κ yX9_keep wsX9_keep (rmL 1) [.ref (a_mo 0), .int p1] (wModel t a_mo s_mo lam) (some (.int out.1)) (wModel t a_mo out.2 lam) := by
  refine Ct.ofW (own := RX9) (cc := cX9_keep) (maxL := 3) (ret := (some .int)) (by decide) rfl rfl (Nat.le_of_ble_eq_true rfl) ?_
  intro p e s m below meth c A C hP hD ls hl
  have hS : va_S A s.heap s.heap [] := va_S.rf
  obtain ⟨hx, hb, hr, hml, hown, hts, hC0, hlk, hA⟩ := id C
  have hK := hC0.1
  have hl : lv_has ls 3 [(0, .ref (a_mo 0)), (1, .int p1)] := hl
  unfold fX9_keep at hf
  refine lv_iload_n hx hb dX9_keep_0 rfl (lv_at hl 1 rfl) ?_
  refine lv_i2l hx hb dX9_keep_1 rfl ?_
  refine lv_lconst (v := 0) hx hb dX9_keep_2 (by decide) ?_
  refine lv_lconst (v := 1) hx hb dX9_keep_3 (by decide) ?_
  obtain ⟨v1, ev1, hf⟩ := bd_some hf
  refine gk_S C (As := [.long (Int32.toInt64 p1), .long (0 : Int64), .long (1 : Int64)]) (rest := []) (cX9_in_ok (l := l) (D := D) (t := t) (κ := κ) ev1) gX9_keep_X9_in rfl ⟨rfl, rfl⟩ hdX9_in ⟨Nat.le_of_ble_eq_true rfl, Nat.le_of_ble_eq_true rfl⟩ hP hD hS rfl hl.1 (Nat.le_of_ble_eq_true rfl) dX9_keep_4 (Nat.zero_le _) (Nat.zero_le _) (fun H locs hP hD hS => ?_)
  refine W.eq (g2 := F0 m 7 ls [.int v1]) rfl ?_
  refine lv_if_ne (tgt := 12) hx hb dX9_keep_7 (by decide) (fun c2 => ?_) (fun c2 => ?_)
  · rw [if_neg c2] at hf
    refine lv_aload_n hx hb dX9_keep_12 rfl (lv_at hl 0 rfl) ?_
    refine va_get (D := D) (ci := 9) (v := .ref (a_mo 3)) (C := RX9) (T := TX9) (N := 37) hx hb hts iwX9_keep_X9 hown hK hP 0 rfl rfl 2 (by decide) (hts _ lkX9_keep_f16) (fun _ h9 => h9) rfl dX9_keep_13 ?_
    refine lv_iload_n hx hb dX9_keep_16 rfl (lv_at hl 1 rfl) ?_
    obtain ⟨b3, hf⟩ := gd_some hf
    refine va_zald hx hb hK hP 3 2 rfl rfl (ixb_in b3) dX9_keep_17 ?_
    obtain ⟨v4, ev4, hf⟩ := bd_some hf
    refine gk_S C (As := [.int (s_mo 3 (Int32.toNatClampNeg p1))]) (rest := []) (cX9_flag_ok (l := l) (D := D) (t := t) (κ := κ) ev4) gX9_keep_X9_flag rfl ⟨rfl, rfl⟩ hdX9_flag ⟨Nat.le_of_ble_eq_true rfl, Nat.le_of_ble_eq_true rfl⟩ hP hD hS rfl hl.1 (Nat.le_of_ble_eq_true rfl) dX9_keep_18 (Nat.zero_le _) (Nat.zero_le _) (fun H locs hP hD hS => ?_)
    refine W.eq (g2 := F0 m 21 ls [.int v4]) rfl ?_
    refine lv_istore_n (lv' := [(2, .int v4), (0, .ref (a_mo 0)), (1, .int p1)]) hx hb dX9_keep_21 rfl hl (by decide) rfl (fun ls hl => ?_)
    refine lv_aload_n hx hb dX9_keep_22 rfl (lv_at hl 1 rfl) ?_
    refine va_get (D := D) (ci := 9) (v := .ref (a_mo 3)) (C := RX9) (T := TX9) (N := 37) hx hb hts iwX9_keep_X9 hown hK hP 0 rfl rfl 2 (by decide) (hts _ lkX9_keep_f16) (fun _ h9 => h9) rfl dX9_keep_23 ?_
    refine lv_iload_n hx hb dX9_keep_26 rfl (lv_at hl 2 rfl) ?_
    refine lv_iconst (v := 1) hx hb dX9_keep_27 (by decide) ?_
    obtain ⟨s5, hs5, hf⟩ := nm_ex hf
    refine va_zast hx hb hK hP hD hS 3 2 rfl rfl (ixb_in b3) dX9_keep_28 (fun H locs hP hD hS => ?_)
    have hP : va_P D vwCl (wModel t a_mo s5 lam) H := by rw [hs5]; exact hP
    have hD : va_D A (wModel t a_mo s5 lam) := by rw [hs5]; exact hD
    refine lv_aload_n hx hb dX9_keep_29 rfl (lv_at hl 1 rfl) ?_
    refine lv_bipush (v := 59) hx hb dX9_keep_30 (by decide) ?_
    refine lv_iload_n hx hb dX9_keep_32 rfl (lv_at hl 2 rfl) ?_
    refine lv_iconst (v := 1) hx hb dX9_keep_33 (by decide) ?_
    refine lv_iadd hx hb dX9_keep_34 ?_
    refine lv_imul hx hb dX9_keep_35 ?_
    refine lv_iconst (v := 0) hx hb dX9_keep_36 (by decide) ?_
    obtain ⟨v6, ev6, hf⟩ := bd_some hf
    refine gk_V0 C (As := [.int ((59 : Int32) * (p1 + (1 : Int32))), .int (0 : Int32)]) (rest := []) (ci := 9) (q := (RX9, TX9, 37)) (q0 := 0) (cX9_copies_ok (l := l) (D := D) (t := t) (κ := κ) (a_mo := a_mo) (lam := lam) ev6) gX9_keep_X9_copies rfl ⟨rfl, rfl⟩ hdX9_copies ⟨Nat.le_of_ble_eq_true rfl, Nat.le_of_ble_eq_true rfl⟩ rfl rfl hP hD hS rfl hl.1 (Nat.le_of_ble_eq_true rfl) dX9_keep_37 (Nat.zero_le _) (Nat.zero_le _) (fun H locs hP hD hS => ?_)
    refine W.eq (g2 := F0 m 40 ls []) rfl ?_
    refine lv_iload_n hx hb dX9_keep_40 rfl (lv_at hl 0 rfl) ?_
    obtain rfl := so_eq hf
    exact g_iret C hP hD hS dX9_keep_41
  · rw [if_pos c2] at hf
    refine lv_iconst (v := -1) hx hb dX9_keep_10 (by decide) ?_
    obtain rfl := so_eq hf
    exact g_iret C hP hD hS dX9_keep_11
/-! CoachCourtModel.back -/
def fX9_back (s_mo : S2) (p1 : Int32) : Option (Int32 × S2) :=
  (fX9_in (Int32.toInt64 p1) (0 : Int64) (1 : Int64)).bind fun v1 =>
  if v1 = (0 : Int32) then
    (some ((-1 : Int32), s_mo))
  else
    (gd (ixb p1 2) <|
    if (s_mo 3 (Int32.toNatClampNeg p1)) = (0 : Int32) then
      (some ((-2 : Int32), s_mo))
    else
      ((fX9_copies s_mo (0 : Int32) ((59 : Int32) * (p1 + (1 : Int32)))).bind fun v5 =>
      (fX9_starts v5).bind fun v6 =>
      (fX9_howMany v6).bind fun v7 =>
      some (v7.1, v7.2)))
theorem hdX9_back : yX9_back.cls = RX9 ∧ yX9_back.cls ≠ "java/lang/invoke/MethodHandle" ∧ yX9_back.cls ≠ "java/lang/invoke/VarHandle" ∧ (parseMethodDescriptor yX9_back.desc).map (fun d => d.parameters.length) = some 1 := by decide +kernel
theorem iwX9_back_X9 : ∀ w ∈ wsX90, w ∈ wsX9_back := by decide +kernel
theorem lkX9_back_f16 : Cond.fieldLink RX9 16 "CoachCourtModel" "isKept" "[Z" ∈ wsX9_back := by decide +kernel
set_option maxHeartbeats 4000000 in
set_option maxRecDepth 100000 in
theorem cX9_back_ok {l : Launch} {D : va_G} {t : Nat → ClassId} {κ : Nat → Nat} {a_mo : Nat → Nat} {s_mo : S2} {lam : S6} {p1 : Int32} {out : Int32 × S2} (hf : fX9_back s_mo p1 = some out) : Ct l D t κ yX9_back wsX9_back (rmL 7) [.ref (a_mo 0), .int p1] (wModel t a_mo s_mo lam) (some (.int out.1)) (wModel t a_mo out.2 lam) := by
  refine Ct.ofW (own := RX9) (cc := cX9_back) (maxL := 2) (ret := (some .int)) (by decide) rfl rfl (Nat.le_of_ble_eq_true rfl) ?_
  intro p e s m below meth c A C hP hD ls hl
  have hS : va_S A s.heap s.heap [] := va_S.rf
  obtain ⟨hx, hb, hr, hml, hown, hts, hC0, hlk, hA⟩ := id C
  have hK := hC0.1
  have hl : lv_has ls 2 [(0, .ref (a_mo 0)), (1, .int p1)] := hl
  unfold fX9_back at hf
  refine lv_iload_n hx hb dX9_back_0 rfl (lv_at hl 1 rfl) ?_
  refine lv_i2l hx hb dX9_back_1 rfl ?_
  refine lv_lconst (v := 0) hx hb dX9_back_2 (by decide) ?_
  refine lv_lconst (v := 1) hx hb dX9_back_3 (by decide) ?_
  obtain ⟨v1, ev1, hf⟩ := bd_some hf
  refine gk_S C (As := [.long (Int32.toInt64 p1), .long (0 : Int64), .long (1 : Int64)]) (rest := []) (cX9_in_ok (l := l) (D := D) (t := t) (κ := κ) ev1) gX9_back_X9_in rfl ⟨rfl, rfl⟩ hdX9_in ⟨Nat.le_of_ble_eq_true rfl, Nat.le_of_ble_eq_true rfl⟩ hP hD hS rfl hl.1 (Nat.le_of_ble_eq_true rfl) dX9_back_4 (Nat.zero_le _) (Nat.zero_le _) (fun H locs hP hD hS => ?_)
  refine W.eq (g2 := F0 m 7 ls [.int v1]) rfl ?_
  refine lv_if_ne (tgt := 12) hx hb dX9_back_7 (by decide) (fun c2 => ?_) (fun c2 => ?_)
  · rw [if_neg c2] at hf
    refine lv_aload_n hx hb dX9_back_12 rfl (lv_at hl 0 rfl) ?_
    refine va_get (D := D) (ci := 9) (v := .ref (a_mo 3)) (C := RX9) (T := TX9) (N := 37) hx hb hts iwX9_back_X9 hown hK hP 0 rfl rfl 2 (by decide) (hts _ lkX9_back_f16) (fun _ h9 => h9) rfl dX9_back_13 ?_
    refine lv_iload_n hx hb dX9_back_16 rfl (lv_at hl 1 rfl) ?_
    obtain ⟨b3, hf⟩ := gd_some hf
    refine va_zald hx hb hK hP 3 2 rfl rfl (ixb_in b3) dX9_back_17 ?_
    refine lv_if_ne (tgt := 24) hx hb dX9_back_18 (by decide) (fun c4 => ?_) (fun c4 => ?_)
    · rw [if_neg c4] at hf
      refine lv_aload_n hx hb dX9_back_24 rfl (lv_at hl 0 rfl) ?_
      refine lv_iconst (v := 0) hx hb dX9_back_25 (by decide) ?_
      refine lv_bipush (v := 59) hx hb dX9_back_26 (by decide) ?_
      refine lv_iload_n hx hb dX9_back_28 rfl (lv_at hl 1 rfl) ?_
      refine lv_iconst (v := 1) hx hb dX9_back_29 (by decide) ?_
      refine lv_iadd hx hb dX9_back_30 ?_
      refine lv_imul hx hb dX9_back_31 ?_
      obtain ⟨v5, ev5, hf⟩ := bd_some hf
      refine gk_V0 C (As := [.int (0 : Int32), .int ((59 : Int32) * (p1 + (1 : Int32)))]) (rest := []) (ci := 9) (q := (RX9, TX9, 37)) (q0 := 0) (cX9_copies_ok (l := l) (D := D) (t := t) (κ := κ) (a_mo := a_mo) (lam := lam) ev5) gX9_back_X9_copies rfl ⟨rfl, rfl⟩ hdX9_copies ⟨Nat.le_of_ble_eq_true rfl, Nat.le_of_ble_eq_true rfl⟩ rfl rfl hP hD hS rfl hl.1 (Nat.le_of_ble_eq_true rfl) dX9_back_32 (Nat.zero_le _) (Nat.zero_le _) (fun H locs hP hD hS => ?_)
      refine W.eq (g2 := F0 m 35 ls []) rfl ?_
      refine lv_aload_n hx hb dX9_back_35 rfl (lv_at hl 0 rfl) ?_
      obtain ⟨v6, ev6, hf⟩ := bd_some hf
      refine gk_V0 C (As := []) (rest := []) (ci := 9) (q := (RX9, TX9, 37)) (q0 := 0) (cX9_starts_ok (l := l) (D := D) (t := t) (κ := κ) (a_mo := a_mo) (lam := lam) ev6) gX9_back_X9_starts rfl ⟨rfl, rfl⟩ hdX9_starts ⟨Nat.le_of_ble_eq_true rfl, Nat.le_of_ble_eq_true rfl⟩ rfl rfl hP hD hS rfl hl.1 (Nat.le_of_ble_eq_true rfl) dX9_back_36 (Nat.zero_le _) (Nat.zero_le _) (fun H locs hP hD hS => ?_)
      refine W.eq (g2 := F0 m 39 ls []) rfl ?_
      refine lv_aload_n hx hb dX9_back_39 rfl (lv_at hl 0 rfl) ?_
      obtain ⟨v7, ev7, hf⟩ := bd_some hf
      refine gk_V0 C (As := []) (rest := []) (ci := 9) (q := (RX9, TX9, 37)) (q0 := 0) (cX9_howMany_ok (l := l) (D := D) (t := t) (κ := κ) (a_mo := a_mo) (lam := lam) ev7) gX9_back_X9_howMany rfl ⟨rfl, rfl⟩ hdX9_howMany ⟨Nat.le_of_ble_eq_true rfl, Nat.le_of_ble_eq_true rfl⟩ rfl rfl hP hD hS rfl hl.1 (Nat.le_of_ble_eq_true rfl) dX9_back_40 (Nat.zero_le _) (Nat.zero_le _) (fun H locs hP hD hS => ?_)
      refine W.eq (g2 := F0 m 43 ls [.int v7.1]) rfl ?_
      obtain rfl := so_eq hf
      exact g_iret C hP hD hS dX9_back_43
    · rw [if_pos c4] at hf
      refine lv_bipush (v := -2) hx hb dX9_back_21 (by decide) ?_
      obtain rfl := so_eq hf
      exact g_iret C hP hD hS dX9_back_23
  · rw [if_pos c2] at hf
    refine lv_iconst (v := -1) hx hb dX9_back_10 (by decide) ?_
    obtain rfl := so_eq hf
    exact g_iret C hP hD hS dX9_back_11
/-! CoachCourtModel.isSheet -/
def fX9_isSheet (p1 : Int32) (p2 : Int32) : Option (Int32) :=
  (fX9_in (Int32.toInt64 p1) (0 : Int64) (3 : Int64)).bind fun v1 =>
  if v1 = (0 : Int32) then
    (some (0 : Int32))
  else
    ((fX9_in (Int32.toInt64 p2) (0 : Int64) (2 : Int64)).bind fun v3 =>
    if v3 = (0 : Int32) then
      (some (0 : Int32))
    else
      (some (1 : Int32)))
theorem hdX9_isSheet : yX9_isSheet.cls ≠ "java/lang/invoke/MethodHandle" ∧ yX9_isSheet.cls ≠ "java/lang/invoke/VarHandle" ∧ (parseMethodDescriptor yX9_isSheet.desc).map (fun d => d.parameters.length) = some 2 := by decide +kernel
theorem lkX9_isSheet_l218 : Cond.constantLong RX9 218 (3) ∈ wsX9_isSheet := by decide +kernel
theorem lkX9_isSheet_l296 : Cond.constantLong RX9 296 (2) ∈ wsX9_isSheet := by decide +kernel
set_option maxHeartbeats 4000000 in
set_option maxRecDepth 100000 in
theorem cX9_isSheet_ok {l : Launch} {D : va_G} {t : Nat → ClassId} {κ : Nat → Nat} {p1 : Int32} {p2 : Int32} {out : Int32} (hf : fX9_isSheet p1 p2 = some out) : Ct l D t κ yX9_isSheet wsX9_isSheet (rmL 1) [.int p1, .int p2] ([] : va_W) (some (.int out)) ([] : va_W) := by
  refine Ct.ofW (own := RX9) (cc := cX9_isSheet) (maxL := 2) (ret := (some .boolean)) (by decide) rfl rfl (Nat.le_of_ble_eq_true rfl) ?_
  intro p e s m below meth c A C hP hD ls hl
  have hS : va_S A s.heap s.heap [] := va_S.rf
  obtain ⟨hx, hb, hr, hml, hown, hts, hC0, hlk, hA⟩ := id C
  have hK := hC0.1
  have hl : lv_has ls 2 [(0, .int p1), (1, .int p2)] := hl
  unfold fX9_isSheet at hf
  refine lv_iload_n hx hb dX9_isSheet_0 rfl (lv_at hl 0 rfl) ?_
  refine lv_i2l hx hb dX9_isSheet_1 rfl ?_
  refine lv_lconst (v := 0) hx hb dX9_isSheet_2 (by decide) ?_
  refine lv_ldc2 hx hb hown (hts _ lkX9_isSheet_l218) dX9_isSheet_3 ?_
  obtain ⟨v1, ev1, hf⟩ := bd_some hf
  refine gk_S C (As := [.long (Int32.toInt64 p1), .long (0 : Int64), .long (3 : Int64)]) (rest := []) (cX9_in_ok (l := l) (D := D) (t := t) (κ := κ) ev1) gX9_isSheet_X9_in rfl ⟨rfl, rfl⟩ hdX9_in ⟨Nat.le_of_ble_eq_true rfl, Nat.le_of_ble_eq_true rfl⟩ hP hD hS rfl hl.1 (Nat.le_of_ble_eq_true rfl) dX9_isSheet_6 (Nat.zero_le _) (Nat.zero_le _) (fun H locs hP hD hS => ?_)
  refine W.eq (g2 := F0 m 9 ls [.int v1]) rfl ?_
  refine lv_if_eq (tgt := 28) hx hb dX9_isSheet_9 (by decide) (fun c2 => ?_) (fun c2 => ?_)
  · rw [if_pos c2] at hf
    refine lv_iconst (v := 0) hx hb dX9_isSheet_28 (by decide) ?_
    obtain rfl := so_eq hf
    exact g_zret (v := 0) C rfl hP hD hS dX9_isSheet_29
  · rw [if_neg c2] at hf
    refine lv_iload_n hx hb dX9_isSheet_12 rfl (lv_at hl 1 rfl) ?_
    refine lv_i2l hx hb dX9_isSheet_13 rfl ?_
    refine lv_lconst (v := 0) hx hb dX9_isSheet_14 (by decide) ?_
    refine lv_ldc2 hx hb hown (hts _ lkX9_isSheet_l296) dX9_isSheet_15 ?_
    obtain ⟨v3, ev3, hf⟩ := bd_some hf
    refine gk_S C (As := [.long (Int32.toInt64 p2), .long (0 : Int64), .long (2 : Int64)]) (rest := []) (cX9_in_ok (l := l) (D := D) (t := t) (κ := κ) ev3) gX9_isSheet_X9_in rfl ⟨rfl, rfl⟩ hdX9_in ⟨Nat.le_of_ble_eq_true rfl, Nat.le_of_ble_eq_true rfl⟩ hP hD hS rfl hl.1 (Nat.le_of_ble_eq_true rfl) dX9_isSheet_18 (Nat.zero_le _) (Nat.zero_le _) (fun H locs hP hD hS => ?_)
    refine W.eq (g2 := F0 m 21 ls [.int v3]) rfl ?_
    refine lv_if_eq (tgt := 28) hx hb dX9_isSheet_21 (by decide) (fun c4 => ?_) (fun c4 => ?_)
    · rw [if_pos c4] at hf
      refine lv_iconst (v := 0) hx hb dX9_isSheet_28 (by decide) ?_
      obtain rfl := so_eq hf
      exact g_zret (v := 0) C rfl hP hD hS dX9_isSheet_29
    · rw [if_neg c4] at hf
      refine lv_iconst (v := 1) hx hb dX9_isSheet_24 (by decide) ?_
      refine lv_goto (tgt := 29) hx hb dX9_isSheet_25 (by decide) ?_
      obtain rfl := so_eq hf
      exact g_zret (v := 1) C rfl hP hD hS dX9_isSheet_29
/-! CoachCourtModel.sheet -/
def fX9_sheet_b40 (s_mo : S2) (x1 : Int32) (x4 : Int32) : Option ((Int32 × S2) ⊕ (Int32 × S2)) :=
  if (40 : Int32) ≤ x4 then
    (some (.inr (x4, s_mo)))
  else
    (gd (ixb (((40 : Int32) * x1) + x4) 160) <|
    nm (sE s_mo 15 (Int32.toNatClampNeg (((40 : Int32) * x1) + x4)) (0 : Int32)) fun s10 =>
    nm (x4 + (1 : Int32)) fun y11 =>
    some (.inl (y11, s10)))
def fX9_sheet (s_mo : S2) (p1 : Int32) (p2 : Int32) (p3 : Int32) : Option (Int32 × S2) :=
  (fX9_isSheet p1 p2).bind fun v1 =>
  if v1 = (0 : Int32) then
    (some ((-1 : Int32), s_mo))
  else
    (if p3 ≤ (40 : Int32) then
      (if (0 : Int32) ≤ p3 then
        (gd (ixb p1 4) <|
        nm (sE s_mo 13 (Int32.toNatClampNeg p1) p2) fun s6 =>
        nm (sE s6 14 (Int32.toNatClampNeg p1) p3) fun s7 =>
        (wh (fun (c : Int32 × S2) => fX9_sheet_b40 c.2 p1 c.1) 5000 ((0 : Int32), s7)).bind fun x12 =>
        some ((1 : Int32), x12.2))
      else
        (some ((-14 : Int32), s_mo)))
    else
      (some ((-1 : Int32), s_mo)))
theorem hdX9_sheet : yX9_sheet.cls = RX9 ∧ yX9_sheet.cls ≠ "java/lang/invoke/MethodHandle" ∧ yX9_sheet.cls ≠ "java/lang/invoke/VarHandle" ∧ (parseMethodDescriptor yX9_sheet.desc).map (fun d => d.parameters.length) = some 3 := by decide +kernel
theorem iwX9_sheet_X9 : ∀ w ∈ wsX90, w ∈ wsX9_sheet := by decide +kernel
theorem lkX9_sheet_f47 : Cond.fieldLink RX9 47 "CoachCourtModel" "lanes" "[I" ∈ wsX9_sheet := by decide +kernel
theorem lkX9_sheet_f50 : Cond.fieldLink RX9 50 "CoachCourtModel" "sizes" "[I" ∈ wsX9_sheet := by decide +kernel
theorem lkX9_sheet_f53 : Cond.fieldLink RX9 53 "CoachCourtModel" "cells" "[I" ∈ wsX9_sheet := by decide +kernel
set_option maxHeartbeats 4000000 in
set_option maxRecDepth 100000 in
theorem wX9_sheet_l40 {p : Program} {l : Launch} {e : Env} {s : State} {m : MethodId} {args : Array Value} {below : List Frame} {meth : Method} {c : Code} {D : va_G} {t : Nat → ClassId} {κ : Nat → Nat} {A : Nat → Prop} {a_mo : Nat → Nat} {lam : S6} {x1 : Int32} {rv : Option Value} {w1 : va_W} (C : Cxt p s m args meth c cX9_sheet 5 RX9 wsX9_sheet (some .int) D t κ A) : ∀ (n : Nat) (x4 : Int32) (s_mo : S2) (x : Int32 × S2), wh (fun (c : Int32 × S2) => fX9_sheet_b40 c.2 x1 c.1) n (x4, s_mo) = some x → (∀ (z : Int32 × S2), x = z → ∀ (H : Heap) (locs : List Loc) (ls : Array Slot), va_P D vwCl (wModel t a_mo z.2 lam) H → va_D A (wModel t a_mo z.2 lam) → va_S A s.heap H locs → lv_has ls 5 [] → W p l e (rmL 2) s m args below meth c H locs 0 0 (MQ below (gQ D rv w1 A) args s 0 0 A) (F0 m 66 ls [])) → ∀ (H : Heap) (locs : List Loc) (ls : Array Slot), va_P D vwCl (wModel t a_mo s_mo lam) H → va_D A (wModel t a_mo s_mo lam) → va_S A s.heap H locs → lv_has ls 5 [(0, .ref (a_mo 0)), (1, .int x1), (4, .int x4)] → W p l e (rmL 2) s m args below meth c H locs 0 0 (MQ below (gQ D rv w1 A) args s 0 0 A) (F0 m 40 ls []) := by
  obtain ⟨hx, hb, hr, hml, hown, hts, hC0, hlk, hA⟩ := id C
  have hK := hC0.1
  intro n
  induction n with
  | zero =>
    intro x4 s_mo x h
    exact (wh_0 h).elim
  | succ n ih =>
    intro x4 s_mo x h HX H locs ls hP hD hS hl
    obtain ⟨v, hf, hB, hX⟩ := wh_step h
    have hf : fX9_sheet_b40 s_mo x1 x4 = some v := hf
    have HB : ∀ (z : Int32 × S2), v = .inl z → ∀ (H : Heap) (locs : List Loc) (ls : Array Slot), va_P D vwCl (wModel t a_mo z.2 lam) H → va_D A (wModel t a_mo z.2 lam) → va_S A s.heap H locs → lv_has ls 5 [(0, .ref (a_mo 0)), (1, .int x1), (4, .int z.1)] → W p l e (rmL 2) s m args below meth c H locs 0 0 (MQ below (gQ D rv w1 A) args s 0 0 A) (F0 m 40 ls []) := fun z hz H locs ls hP hD hS hl => ih z.1 z.2 x (hB z hz) HX H locs ls hP hD hS hl
    have HX : ∀ (z : Int32 × S2), v = .inr z → ∀ (H : Heap) (locs : List Loc) (ls : Array Slot), va_P D vwCl (wModel t a_mo z.2 lam) H → va_D A (wModel t a_mo z.2 lam) → va_S A s.heap H locs → lv_has ls 5 [] → W p l e (rmL 2) s m args below meth c H locs 0 0 (MQ below (gQ D rv w1 A) args s 0 0 A) (F0 m 66 ls []) := fun z hz => HX z (hX _ hz).symm
    unfold fX9_sheet_b40 at hf
    refine lv_iload hx hb dX9_sheet_40 (lv_at hl 2 rfl) ?_
    refine lv_bipush (v := 40) hx hb dX9_sheet_42 (by decide) ?_
    refine lv_icmp_ge (tgt := 66) hx hb dX9_sheet_44 (by decide) (fun c8 => ?_) (fun c8 => ?_)
    · rw [if_pos c8] at hf
      obtain rfl := so_eq hf
      exact HX _ rfl _ _ _ hP hD hS (lv_sub hl [] rfl)
    · rw [if_neg c8] at hf
      refine lv_aload_n hx hb dX9_sheet_47 rfl (lv_at hl 0 rfl) ?_
      refine va_get (D := D) (ci := 9) (v := .ref (a_mo 15)) (C := RX9) (T := TX9) (N := 37) hx hb hts iwX9_sheet_X9 hown hK hP 0 rfl rfl 34 (by decide) (hts _ lkX9_sheet_f53) (fun _ h9 => h9) rfl dX9_sheet_48 ?_
      refine lv_bipush (v := 40) hx hb dX9_sheet_51 (by decide) ?_
      refine lv_iload_n hx hb dX9_sheet_53 rfl (lv_at hl 1 rfl) ?_
      refine lv_imul hx hb dX9_sheet_54 ?_
      refine lv_iload hx hb dX9_sheet_55 (lv_at hl 2 rfl) ?_
      refine lv_iadd hx hb dX9_sheet_57 ?_
      refine lv_iconst (v := 0) hx hb dX9_sheet_58 (by decide) ?_
      obtain ⟨b9, hf⟩ := gd_some hf
      obtain ⟨s10, hs10, hf⟩ := nm_ex hf
      refine va_iast hx hb hK hP hD hS 15 0 rfl rfl (ixb_in b9) dX9_sheet_59 (fun H locs hP hD hS => ?_)
      have hP : va_P D vwCl (wModel t a_mo s10 lam) H := by rw [hs10]; exact hP
      have hD : va_D A (wModel t a_mo s10 lam) := by rw [hs10]; exact hD
      obtain ⟨y11, hy11, hf⟩ := nm_ex hf
      refine lv_iinc (v := y11) (lv' := [(4, .int y11), (0, .ref (a_mo 0)), (1, .int x1)]) hx hb dX9_sheet_60 hl (k := 2) rfl (by rw [hy11]; rfl) (by decide) rfl (fun ls hl => ?_)
      refine lv_goto (tgt := 40) hx hb dX9_sheet_63 (by decide) ?_
      obtain rfl := so_eq hf
      exact HB _ rfl _ _ _ hP hD hS (lv_sub hl [1, 2, 0] rfl)
set_option maxHeartbeats 4000000 in
set_option maxRecDepth 100000 in
theorem cX9_sheet_ok {l : Launch} {D : va_G} {t : Nat → ClassId} {κ : Nat → Nat} {a_mo : Nat → Nat} {s_mo : S2} {lam : S6} {p1 : Int32} {p2 : Int32} {p3 : Int32} {out : Int32 × S2} (hf : fX9_sheet s_mo p1 p2 p3 = some out) : Ct l D t κ yX9_sheet wsX9_sheet (rmL 2) [.ref (a_mo 0), .int p1, .int p2, .int p3] (wModel t a_mo s_mo lam) (some (.int out.1)) (wModel t a_mo out.2 lam) := by
  refine Ct.ofW (own := RX9) (cc := cX9_sheet) (maxL := 5) (ret := (some .int)) (by decide) rfl rfl (Nat.le_of_ble_eq_true rfl) ?_
  intro p e s m below meth c A C hP hD ls hl
  have hS : va_S A s.heap s.heap [] := va_S.rf
  obtain ⟨hx, hb, hr, hml, hown, hts, hC0, hlk, hA⟩ := id C
  have hK := hC0.1
  have hl : lv_has ls 5 [(0, .ref (a_mo 0)), (1, .int p1), (2, .int p2), (3, .int p3)] := hl
  unfold fX9_sheet at hf
  refine lv_iload_n hx hb dX9_sheet_0 rfl (lv_at hl 1 rfl) ?_
  refine lv_iload_n hx hb dX9_sheet_1 rfl (lv_at hl 2 rfl) ?_
  obtain ⟨v1, ev1, hf⟩ := bd_some hf
  refine gk_S C (As := [.int p1, .int p2]) (rest := []) (cX9_isSheet_ok (l := l) (D := D) (t := t) (κ := κ) ev1) gX9_sheet_X9_isSheet rfl ⟨rfl, rfl⟩ hdX9_isSheet ⟨Nat.le_of_ble_eq_true rfl, Nat.le_of_ble_eq_true rfl⟩ hP hD hS rfl hl.1 (Nat.le_of_ble_eq_true rfl) dX9_sheet_2 (Nat.zero_le _) (Nat.zero_le _) (fun H locs hP hD hS => ?_)
  refine W.eq (g2 := F0 m 5 ls [.int v1]) rfl ?_
  refine lv_if_eq (tgt := 14) hx hb dX9_sheet_5 (by decide) (fun c2 => ?_) (fun c2 => ?_)
  · rw [if_pos c2] at hf
    refine lv_iconst (v := -1) hx hb dX9_sheet_14 (by decide) ?_
    obtain rfl := so_eq hf
    exact g_iret C hP hD hS dX9_sheet_15
  · rw [if_neg c2] at hf
    refine lv_iload_n hx hb dX9_sheet_8 rfl (lv_at hl 3 rfl) ?_
    refine lv_bipush (v := 40) hx hb dX9_sheet_9 (by decide) ?_
    refine lv_icmp_le (tgt := 16) hx hb dX9_sheet_11 (by decide) (fun c3 => ?_) (fun c3 => ?_)
    · rw [if_pos c3] at hf
      refine lv_iload_n hx hb dX9_sheet_16 rfl (lv_at hl 3 rfl) ?_
      refine lv_if_ge (tgt := 23) hx hb dX9_sheet_17 (by decide) (fun c4 => ?_) (fun c4 => ?_)
      · rw [if_pos c4] at hf
        refine lv_aload_n hx hb dX9_sheet_23 rfl (lv_at hl 0 rfl) ?_
        refine va_get (D := D) (ci := 9) (v := .ref (a_mo 13)) (C := RX9) (T := TX9) (N := 37) hx hb hts iwX9_sheet_X9 hown hK hP 0 rfl rfl 32 (by decide) (hts _ lkX9_sheet_f47) (fun _ h9 => h9) rfl dX9_sheet_24 ?_
        refine lv_iload_n hx hb dX9_sheet_27 rfl (lv_at hl 1 rfl) ?_
        refine lv_iload_n hx hb dX9_sheet_28 rfl (lv_at hl 2 rfl) ?_
        obtain ⟨b5, hf⟩ := gd_some hf
        obtain ⟨s6, hs6, hf⟩ := nm_ex hf
        refine va_iast hx hb hK hP hD hS 13 0 rfl rfl (ixb_in b5) dX9_sheet_29 (fun H locs hP hD hS => ?_)
        have hP : va_P D vwCl (wModel t a_mo s6 lam) H := by rw [hs6]; exact hP
        have hD : va_D A (wModel t a_mo s6 lam) := by rw [hs6]; exact hD
        refine lv_aload_n hx hb dX9_sheet_30 rfl (lv_at hl 0 rfl) ?_
        refine va_get (D := D) (ci := 9) (v := .ref (a_mo 14)) (C := RX9) (T := TX9) (N := 37) hx hb hts iwX9_sheet_X9 hown hK hP 0 rfl rfl 33 (by decide) (hts _ lkX9_sheet_f50) (fun _ h9 => h9) rfl dX9_sheet_31 ?_
        refine lv_iload_n hx hb dX9_sheet_34 rfl (lv_at hl 1 rfl) ?_
        refine lv_iload_n hx hb dX9_sheet_35 rfl (lv_at hl 3 rfl) ?_
        obtain ⟨s7, hs7, hf⟩ := nm_ex hf
        refine va_iast hx hb hK hP hD hS 14 0 rfl rfl (ixb_in b5) dX9_sheet_36 (fun H locs hP hD hS => ?_)
        have hP : va_P D vwCl (wModel t a_mo s7 lam) H := by rw [hs7]; exact hP
        have hD : va_D A (wModel t a_mo s7 lam) := by rw [hs7]; exact hD
        refine lv_iconst (v := 0) hx hb dX9_sheet_37 (by decide) ?_
        refine lv_istore (lv' := [(4, .int (0 : Int32)), (0, .ref (a_mo 0)), (1, .int p1), (2, .int p2), (3, .int p3)]) hx hb dX9_sheet_38 hl (by decide) rfl (fun ls hl => ?_)
        obtain ⟨x12, ex12, hf⟩ := bd_some hf
        refine wX9_sheet_l40 C 5000 (0 : Int32) s7 x12 ex12 (fun c9 h9 H locs ls hP hD hS hl => ?_) _ _ _ hP hD hS (lv_sub hl [1, 2, 0] rfl)
        subst h9
        refine lv_iconst (v := 1) hx hb dX9_sheet_66 (by decide) ?_
        obtain rfl := so_eq hf
        exact g_iret C hP hD hS dX9_sheet_67
      · rw [if_neg c4] at hf
        refine lv_bipush (v := -14) hx hb dX9_sheet_20 (by decide) ?_
        obtain rfl := so_eq hf
        exact g_iret C hP hD hS dX9_sheet_22
    · rw [if_neg c3] at hf
      refine lv_iconst (v := -1) hx hb dX9_sheet_14 (by decide) ?_
      obtain rfl := so_eq hf
      exact g_iret C hP hD hS dX9_sheet_15
/-! CoachCourtModel.lay -/
def fX9_lay_85 (s_mo : S2) (k0 : Int32) (k1 : Int32) : Option (Int32 × S2) :=
  gd (ixb k1 160) <|
  nm (sE s_mo 15 (Int32.toNatClampNeg k1) k0) fun s10 =>
  some ((1 : Int32), s10)
def fX9_lay (s_mo : S2) (p1 : Int32) (p2 : Int32) (p3 : Int32) : Option (Int32 × S2) :=
  (fX9_isSheet p1 (0 : Int32)).bind fun v1 =>
  if v1 = (0 : Int32) then
    (some ((-1 : Int32), s_mo))
  else
    (gd (ixb p1 4) <|
    if (s_mo 13 (Int32.toNatClampNeg p1)) = (-4 : Int32) then
      (some ((-11 : Int32), s_mo))
    else
      ((fX9_in (Int32.toInt64 p2) (0 : Int64) (Int32.toInt64 ((s_mo 14 (Int32.toNatClampNeg p1)) - (1 : Int32)))).bind fun v5 =>
      if v5 = (0 : Int32) then
        (some ((-12 : Int32), s_mo))
      else
        (if (s_mo 13 (Int32.toNatClampNeg p1)) = (0 : Int32) then
          (fX9_lay_85 s_mo ((Int32.toInt8 p3).toInt32) (((40 : Int32) * p1) + p2))
        else
          (if (s_mo 13 (Int32.toNatClampNeg p1)) = (1 : Int32) then
            (fX9_lay_85 s_mo ((Int32.toInt16 p3).toInt32) (((40 : Int32) * p1) + p2))
          else
            (fX9_lay_85 s_mo p3 (((40 : Int32) * p1) + p2))))))
theorem hdX9_lay : yX9_lay.cls = RX9 ∧ yX9_lay.cls ≠ "java/lang/invoke/MethodHandle" ∧ yX9_lay.cls ≠ "java/lang/invoke/VarHandle" ∧ (parseMethodDescriptor yX9_lay.desc).map (fun d => d.parameters.length) = some 3 := by decide +kernel
theorem iwX9_lay_X9 : ∀ w ∈ wsX90, w ∈ wsX9_lay := by decide +kernel
theorem lkX9_lay_f47 : Cond.fieldLink RX9 47 "CoachCourtModel" "lanes" "[I" ∈ wsX9_lay := by decide +kernel
theorem lkX9_lay_f50 : Cond.fieldLink RX9 50 "CoachCourtModel" "sizes" "[I" ∈ wsX9_lay := by decide +kernel
theorem lkX9_lay_f53 : Cond.fieldLink RX9 53 "CoachCourtModel" "cells" "[I" ∈ wsX9_lay := by decide +kernel
set_option maxHeartbeats 4000000 in
set_option maxRecDepth 100000 in
theorem wX9_lay_85 {p : Program} {l : Launch} {e : Env} {s : State} {m : MethodId} {args : Array Value} {below : List Frame} {meth : Method} {c : Code} {D : va_G} {t : Nat → ClassId} {κ : Nat → Nat} {A : Nat → Prop} {a_mo : Nat → Nat} {s_mo : S2} {lam : S6} {k0 : Int32} {k1 : Int32} {out : Int32 × S2} (C : Cxt p s m args meth c cX9_lay 4 RX9 wsX9_lay (some .int) D t κ A) (hf : fX9_lay_85 s_mo k0 k1 = some out) : ∀ (H : Heap) (locs : List Loc) (ls : Array Slot), va_P D vwCl (wModel t a_mo s_mo lam) H → va_D A (wModel t a_mo s_mo lam) → va_S A s.heap H locs → lv_has ls 4 [] → W p l e (rmL 2) s m args below meth c H locs 0 0 (MQ below (gQ D (some (.int out.1)) (wModel t a_mo out.2 lam) A) args s 0 0 A) (F0 m 85 ls [.int k0, .int k1, .ref (a_mo 15)]) := by
  obtain ⟨hx, hb, hr, hml, hown, hts, hC0, hlk, hA⟩ := id C
  have hK := hC0.1
  intro H locs ls hP hD hS hl
  unfold fX9_lay_85 at hf
  obtain ⟨b9, hf⟩ := gd_some hf
  obtain ⟨s10, hs10, hf⟩ := nm_ex hf
  refine va_iast hx hb hK hP hD hS 15 0 rfl rfl (ixb_in b9) dX9_lay_85 (fun H locs hP hD hS => ?_)
  have hP : va_P D vwCl (wModel t a_mo s10 lam) H := by rw [hs10]; exact hP
  have hD : va_D A (wModel t a_mo s10 lam) := by rw [hs10]; exact hD
  refine lv_iconst (v := 1) hx hb dX9_lay_86 (by decide) ?_
  obtain rfl := so_eq hf
  exact g_iret C hP hD hS dX9_lay_87
set_option maxHeartbeats 4000000 in
set_option maxRecDepth 100000 in
theorem cX9_lay_ok {l : Launch} {D : va_G} {t : Nat → ClassId} {κ : Nat → Nat} {a_mo : Nat → Nat} {s_mo : S2} {lam : S6} {p1 : Int32} {p2 : Int32} {p3 : Int32} {out : Int32 × S2} (hf : fX9_lay s_mo p1 p2 p3 = some out) : Ct l D t κ yX9_lay wsX9_lay (rmL 2) [.ref (a_mo 0), .int p1, .int p2, .int p3] (wModel t a_mo s_mo lam) (some (.int out.1)) (wModel t a_mo out.2 lam) := by
  refine Ct.ofW (own := RX9) (cc := cX9_lay) (maxL := 4) (ret := (some .int)) (by decide) rfl rfl (Nat.le_of_ble_eq_true rfl) ?_
  intro p e s m below meth c A C hP hD ls hl
  have hS : va_S A s.heap s.heap [] := va_S.rf
  obtain ⟨hx, hb, hr, hml, hown, hts, hC0, hlk, hA⟩ := id C
  have hK := hC0.1
  have hl : lv_has ls 4 [(0, .ref (a_mo 0)), (1, .int p1), (2, .int p2), (3, .int p3)] := hl
  unfold fX9_lay at hf
  refine lv_iload_n hx hb dX9_lay_0 rfl (lv_at hl 1 rfl) ?_
  refine lv_iconst (v := 0) hx hb dX9_lay_1 (by decide) ?_
  obtain ⟨v1, ev1, hf⟩ := bd_some hf
  refine gk_S C (As := [.int p1, .int (0 : Int32)]) (rest := []) (cX9_isSheet_ok (l := l) (D := D) (t := t) (κ := κ) ev1) gX9_lay_X9_isSheet rfl ⟨rfl, rfl⟩ hdX9_isSheet ⟨Nat.le_of_ble_eq_true rfl, Nat.le_of_ble_eq_true rfl⟩ hP hD hS rfl hl.1 (Nat.le_of_ble_eq_true rfl) dX9_lay_2 (Nat.zero_le _) (Nat.zero_le _) (fun H locs hP hD hS => ?_)
  refine W.eq (g2 := F0 m 5 ls [.int v1]) rfl ?_
  refine lv_if_ne (tgt := 10) hx hb dX9_lay_5 (by decide) (fun c2 => ?_) (fun c2 => ?_)
  · rw [if_neg c2] at hf
    refine lv_aload_n hx hb dX9_lay_10 rfl (lv_at hl 0 rfl) ?_
    refine va_get (D := D) (ci := 9) (v := .ref (a_mo 13)) (C := RX9) (T := TX9) (N := 37) hx hb hts iwX9_lay_X9 hown hK hP 0 rfl rfl 32 (by decide) (hts _ lkX9_lay_f47) (fun _ h9 => h9) rfl dX9_lay_11 ?_
    refine lv_iload_n hx hb dX9_lay_14 rfl (lv_at hl 1 rfl) ?_
    obtain ⟨b3, hf⟩ := gd_some hf
    refine va_iald hx hb hK hP 13 0 rfl rfl (ixb_in b3) dX9_lay_15 ?_
    refine lv_bipush (v := -4) hx hb dX9_lay_16 (by decide) ?_
    refine lv_icmp_ne (tgt := 24) hx hb dX9_lay_18 (by decide) (fun c4 => ?_) (fun c4 => ?_)
    · rw [if_neg c4] at hf
      refine lv_iload_n hx hb dX9_lay_24 rfl (lv_at hl 2 rfl) ?_
      refine lv_i2l hx hb dX9_lay_25 rfl ?_
      refine lv_lconst (v := 0) hx hb dX9_lay_26 (by decide) ?_
      refine lv_aload_n hx hb dX9_lay_27 rfl (lv_at hl 0 rfl) ?_
      refine va_get (D := D) (ci := 9) (v := .ref (a_mo 14)) (C := RX9) (T := TX9) (N := 37) hx hb hts iwX9_lay_X9 hown hK hP 0 rfl rfl 33 (by decide) (hts _ lkX9_lay_f50) (fun _ h9 => h9) rfl dX9_lay_28 ?_
      refine lv_iload_n hx hb dX9_lay_31 rfl (lv_at hl 1 rfl) ?_
      refine va_iald hx hb hK hP 14 0 rfl rfl (ixb_in b3) dX9_lay_32 ?_
      refine lv_iconst (v := 1) hx hb dX9_lay_33 (by decide) ?_
      refine lv_isub hx hb dX9_lay_34 ?_
      refine lv_i2l hx hb dX9_lay_35 rfl ?_
      obtain ⟨v5, ev5, hf⟩ := bd_some hf
      refine gk_S C (As := [.long (Int32.toInt64 p2), .long (0 : Int64), .long (Int32.toInt64 ((s_mo 14 (Int32.toNatClampNeg p1)) - (1 : Int32)))]) (rest := []) (cX9_in_ok (l := l) (D := D) (t := t) (κ := κ) ev5) gX9_lay_X9_in rfl ⟨rfl, rfl⟩ hdX9_in ⟨Nat.le_of_ble_eq_true rfl, Nat.le_of_ble_eq_true rfl⟩ hP hD hS rfl hl.1 (Nat.le_of_ble_eq_true rfl) dX9_lay_36 (Nat.zero_le _) (Nat.zero_le _) (fun H locs hP hD hS => ?_)
      refine W.eq (g2 := F0 m 39 ls [.int v5]) rfl ?_
      refine lv_if_ne (tgt := 45) hx hb dX9_lay_39 (by decide) (fun c6 => ?_) (fun c6 => ?_)
      · rw [if_neg c6] at hf
        refine lv_aload_n hx hb dX9_lay_45 rfl (lv_at hl 0 rfl) ?_
        refine va_get (D := D) (ci := 9) (v := .ref (a_mo 15)) (C := RX9) (T := TX9) (N := 37) hx hb hts iwX9_lay_X9 hown hK hP 0 rfl rfl 34 (by decide) (hts _ lkX9_lay_f53) (fun _ h9 => h9) rfl dX9_lay_46 ?_
        refine lv_bipush (v := 40) hx hb dX9_lay_49 (by decide) ?_
        refine lv_iload_n hx hb dX9_lay_51 rfl (lv_at hl 1 rfl) ?_
        refine lv_imul hx hb dX9_lay_52 ?_
        refine lv_iload_n hx hb dX9_lay_53 rfl (lv_at hl 2 rfl) ?_
        refine lv_iadd hx hb dX9_lay_54 ?_
        refine lv_aload_n hx hb dX9_lay_55 rfl (lv_at hl 0 rfl) ?_
        refine va_get (D := D) (ci := 9) (v := .ref (a_mo 13)) (C := RX9) (T := TX9) (N := 37) hx hb hts iwX9_lay_X9 hown hK hP 0 rfl rfl 32 (by decide) (hts _ lkX9_lay_f47) (fun _ h9 => h9) rfl dX9_lay_56 ?_
        refine lv_iload_n hx hb dX9_lay_59 rfl (lv_at hl 1 rfl) ?_
        refine va_iald hx hb hK hP 13 0 rfl rfl (ixb_in b3) dX9_lay_60 ?_
        refine lv_if_ne (tgt := 69) hx hb dX9_lay_61 (by decide) (fun c7 => ?_) (fun c7 => ?_)
        · rw [if_neg c7] at hf
          refine lv_aload_n hx hb dX9_lay_69 rfl (lv_at hl 0 rfl) ?_
          refine va_get (D := D) (ci := 9) (v := .ref (a_mo 13)) (C := RX9) (T := TX9) (N := 37) hx hb hts iwX9_lay_X9 hown hK hP 0 rfl rfl 32 (by decide) (hts _ lkX9_lay_f47) (fun _ h9 => h9) rfl dX9_lay_70 ?_
          refine lv_iload_n hx hb dX9_lay_73 rfl (lv_at hl 1 rfl) ?_
          refine va_iald hx hb hK hP 13 0 rfl rfl (ixb_in b3) dX9_lay_74 ?_
          refine lv_iconst (v := 1) hx hb dX9_lay_75 (by decide) ?_
          refine lv_icmp_ne (tgt := 84) hx hb dX9_lay_76 (by decide) (fun c8 => ?_) (fun c8 => ?_)
          · rw [if_neg c8] at hf
            refine lv_iload_n hx hb dX9_lay_84 rfl (lv_at hl 3 rfl) ?_
            exact wX9_lay_85 C hf _ _ _ hP hD hS (lv_sub hl [] rfl)
          · rw [if_pos c8] at hf
            refine lv_iload_n hx hb dX9_lay_79 rfl (lv_at hl 3 rfl) ?_
            refine lv_i2s hx hb dX9_lay_80 rfl ?_
            refine lv_goto (tgt := 85) hx hb dX9_lay_81 (by decide) ?_
            exact wX9_lay_85 C hf _ _ _ hP hD hS (lv_sub hl [] rfl)
        · rw [if_pos c7] at hf
          refine lv_iload_n hx hb dX9_lay_64 rfl (lv_at hl 3 rfl) ?_
          refine lv_i2b hx hb dX9_lay_65 rfl ?_
          refine lv_goto (tgt := 85) hx hb dX9_lay_66 (by decide) ?_
          exact wX9_lay_85 C hf _ _ _ hP hD hS (lv_sub hl [] rfl)
      · rw [if_pos c6] at hf
        refine lv_bipush (v := -12) hx hb dX9_lay_42 (by decide) ?_
        obtain rfl := so_eq hf
        exact g_iret C hP hD hS dX9_lay_44
    · rw [if_pos c4] at hf
      refine lv_bipush (v := -11) hx hb dX9_lay_21 (by decide) ?_
      obtain rfl := so_eq hf
      exact g_iret C hP hD hS dX9_lay_23
  · rw [if_pos c2] at hf
    refine lv_iconst (v := -1) hx hb dX9_lay_8 (by decide) ?_
    obtain rfl := so_eq hf
    exact g_iret C hP hD hS dX9_lay_9
/-! CoachCourtModel.read -/
def fX9_read_b26 (s_mo : S2) (x1 : Int32) (x2 : Int32) (x3 : Int32) (x4 : Int32) (x5 : Int32) : Option ((Int32 × S2) ⊕ (Int32 × S2)) :=
  if (59 : Int32) ≤ x5 then
    (some (.inr (x5, s_mo)))
  else
    (gd (ixb x5 177) <|
    gd (ixb x5 59) <|
    nm (sE s_mo 16 (Int32.toNatClampNeg x5) (s_mo 1 (Int32.toNatClampNeg x5))) fun s8 =>
    nm (x5 + (1 : Int32)) fun y9 =>
    some (.inl (y9, s8)))
def fX9_read_b77 (s_mo : S2) (x1 : Int32) (x2 : Int32) (x3 : Int32) (x4 : Int32) (x5 : Int32) (x6 : Int32) (x7 : Int32) (x8 : Int32) : Option ((Int32 × Int32 × S2) ⊕ (Int32 × Int32 × S2)) :=
  if (2 : Int32) ≤ x8 then
    (some (.inr (x5, x8, s_mo)))
  else
    (if x5 = (0 : Int32) then
      (nm (((Int32.toInt64 x3) + (Int32.toInt64 ((2 : Int32) * x7))) + (Int32.toInt64 x8)) fun y15 =>
      gd (ixb x1 4) <|
      if (s_mo 13 (Int32.toNatClampNeg x1)) = (-4 : Int32) then
        (nm (x8 + (1 : Int32)) fun y25 =>
        some (.inl ((1 : Int32), y25, s_mo)))
      else
        (if (s_mo 13 (Int32.toNatClampNeg x1)) = x2 then
          (if (lg_cmp y15 (0 : Int64)) < (0 : Int32) then
            (nm (x8 + (1 : Int32)) fun y20 =>
            some (.inl ((2 : Int32), y20, s_mo)))
          else
            (if (lg_cmp y15 (Int32.toInt64 (s_mo 14 (Int32.toNatClampNeg x1)))) < (0 : Int32) then
              (nm (x8 + (1 : Int32)) fun y22 =>
              some (.inl ((0 : Int32), y22, s_mo)))
            else
              (nm (x8 + (1 : Int32)) fun y23 =>
              some (.inl ((2 : Int32), y23, s_mo)))))
        else
          (nm (x8 + (1 : Int32)) fun y24 =>
          some (.inl ((3 : Int32), y24, s_mo)))))
    else
      (some (.inr (x5, x8, s_mo))))
def fX9_read_b208 (s_mo : S2) (x7 : Int32) (x9 : Int32) : Option ((Int32 × S2) ⊕ (Int32 × S2)) :=
  if (59 : Int32) ≤ x9 then
    (some (.inr (x9, s_mo)))
  else
    (gd (ixb x9 59) <|
    gd (ixb x9 177) <|
    nm (sE s_mo 1 (Int32.toNatClampNeg x9) (s_mo 16 (Int32.toNatClampNeg x9))) fun s39 =>
    nm (x9 + (1 : Int32)) fun y40 =>
    some (.inl (y40, s39)))
def fX9_read_164 (s_mo : S2) (x1 : Int32) (x2 : Int32) (x3 : Int32) (x4 : Int32) (x5 : Int32) (x6 : Int32) (x7 : Int32) : Option ((Int32 × Int32 × Int32 × S2) ⊕ ((Int32 × Int32 × Int32 × S2) ⊕ (Int32 × S2))) :=
  if x5 = (0 : Int32) then
    (nm ((((40 : Int32) * x1) + x3) + ((2 : Int32) * x7)) fun y29 =>
    gd (ixb y29 160) <|
    gd (ixb (y29 + (1 : Int32)) 160) <|
    (fX9_stand s_mo (s_mo 15 (Int32.toNatClampNeg y29)) (s_mo 15 (Int32.toNatClampNeg (y29 + (1 : Int32))))).bind fun v32 =>
    if (0 : Int32) ≤ v32.1 then
      (nm (x6 + (1 : Int32)) fun y34 =>
      nm (x7 + (1 : Int32)) fun y35 =>
      some (.inl (x5, y34, y35, v32.2)))
    else
      ((wh (fun (c : Int32 × S2) => fX9_read_b208 c.2 x7 c.1) 5000 ((0 : Int32), v32.2)).bind fun x41 =>
      some (.inr (.inr ((-20 : Int32) - x7, x41.2)))))
  else
    (nm (x7 + (1 : Int32)) fun y28 =>
    some (.inl (x5, x6, y28, s_mo)))
def fX9_read_b62 (s_mo : S2) (x1 : Int32) (x2 : Int32) (x3 : Int32) (x4 : Int32) (x5 : Int32) (x6 : Int32) (x7 : Int32) : Option ((Int32 × Int32 × Int32 × S2) ⊕ ((Int32 × Int32 × Int32 × S2) ⊕ (Int32 × S2))) :=
  if x4 ≤ x7 then
    (some (.inr (.inl (x5, x6, x7, s_mo))))
  else
    (if x5 = (0 : Int32) then
      ((wh (fun (c : Int32 × Int32 × S2) => fX9_read_b77 c.2.2 x1 x2 x3 x4 c.1 x6 x7 c.2.1) 5000 (x5, (0 : Int32), s_mo)).bind fun x26 =>
      fX9_read_164 x26.2.2 x1 x2 x3 x4 x26.1 x6 x7)
    else
      (some (.inr (.inl (x5, x6, x7, s_mo)))))
def fX9_read_250 (s_mo : S2) (x5 : Int32) (x6 : Int32) : Option (Int32 × S2) :=
  nm (sE s_mo 0 17 x5) fun s44 =>
  some (x6, s44)
def fX9_read (s_mo : S2) (p1 : Int32) (p2 : Int32) (p3 : Int32) (p4 : Int32) : Option (Int32 × S2) :=
  (fX9_isSheet p1 p2).bind fun v1 =>
  if v1 = (0 : Int32) then
    (some ((-1 : Int32), s_mo))
  else
    ((fX9_in (Int32.toInt64 p4) (0 : Int64) (20 : Int64)).bind fun v3 =>
    if v3 = (0 : Int32) then
      (some ((-1 : Int32), s_mo))
    else
      ((wh (fun (c : Int32 × S2) => fX9_read_b26 c.2 p1 p2 p3 p4 c.1) 5000 ((0 : Int32), s_mo)).bind fun x10 =>
      (wh (fun (c : Int32 × Int32 × Int32 × S2) => fX9_read_b62 c.2.2.2 p1 p2 p3 p4 c.1 c.2.1 c.2.2.1) 5000 ((0 : Int32), (0 : Int32), (0 : Int32), x10.2)).bind fun x42 =>
      Sum.elim (fun q43 =>
        fX9_read_250 q43.2.2.2 q43.1 q43.2.1) (fun r45 => some r45) x42))
theorem hdX9_read : yX9_read.cls = RX9 ∧ yX9_read.cls ≠ "java/lang/invoke/MethodHandle" ∧ yX9_read.cls ≠ "java/lang/invoke/VarHandle" ∧ (parseMethodDescriptor yX9_read.desc).map (fun d => d.parameters.length) = some 4 := by decide +kernel
theorem lkX9_read_l228 : Cond.constantLong RX9 228 (20) ∈ wsX9_read := by decide +kernel
theorem iwX9_read_X9 : ∀ w ∈ wsX90, w ∈ wsX9_read := by decide +kernel
theorem lkX9_read_f56 : Cond.fieldLink RX9 56 "CoachCourtModel" "had" "[I" ∈ wsX9_read := by decide +kernel
theorem lkX9_read_f7 : Cond.fieldLink RX9 7 "CoachCourtModel" "st" "[I" ∈ wsX9_read := by decide +kernel
theorem lkX9_read_f47 : Cond.fieldLink RX9 47 "CoachCourtModel" "lanes" "[I" ∈ wsX9_read := by decide +kernel
theorem lkX9_read_f50 : Cond.fieldLink RX9 50 "CoachCourtModel" "sizes" "[I" ∈ wsX9_read := by decide +kernel
theorem lkX9_read_f53 : Cond.fieldLink RX9 53 "CoachCourtModel" "cells" "[I" ∈ wsX9_read := by decide +kernel
theorem lkX9_read_f305 : Cond.fieldLink RX9 305 "CoachCourtModel" "torn" "I" ∈ wsX9_read := by decide +kernel
set_option maxHeartbeats 4000000 in
set_option maxRecDepth 100000 in
theorem wX9_read_l26 {p : Program} {l : Launch} {e : Env} {s : State} {m : MethodId} {args : Array Value} {below : List Frame} {meth : Method} {c : Code} {D : va_G} {t : Nat → ClassId} {κ : Nat → Nat} {A : Nat → Prop} {a_mo : Nat → Nat} {lam : S6} {x1 : Int32} {x2 : Int32} {x3 : Int32} {x4 : Int32} {rv : Option Value} {w1 : va_W} (C : Cxt p s m args meth c cX9_read 11 RX9 wsX9_read (some .int) D t κ A) : ∀ (n : Nat) (x5 : Int32) (s_mo : S2) (x : Int32 × S2), wh (fun (c : Int32 × S2) => fX9_read_b26 c.2 x1 x2 x3 x4 c.1) n (x5, s_mo) = some x → (∀ (z : Int32 × S2), x = z → ∀ (H : Heap) (locs : List Loc) (ls : Array Slot), va_P D vwCl (wModel t a_mo z.2 lam) H → va_D A (wModel t a_mo z.2 lam) → va_S A s.heap H locs → lv_has ls 11 [(0, .ref (a_mo 0)), (1, .int x1), (2, .int x2), (3, .int x3), (4, .int x4)] → W p l e (rmL 3) s m args below meth c H locs 0 0 (MQ below (gQ D rv w1 A) args s 0 0 A) (F0 m 53 ls [])) → ∀ (H : Heap) (locs : List Loc) (ls : Array Slot), va_P D vwCl (wModel t a_mo s_mo lam) H → va_D A (wModel t a_mo s_mo lam) → va_S A s.heap H locs → lv_has ls 11 [(0, .ref (a_mo 0)), (1, .int x1), (2, .int x2), (3, .int x3), (4, .int x4), (5, .int x5)] → W p l e (rmL 3) s m args below meth c H locs 0 0 (MQ below (gQ D rv w1 A) args s 0 0 A) (F0 m 26 ls []) := by
  obtain ⟨hx, hb, hr, hml, hown, hts, hC0, hlk, hA⟩ := id C
  have hK := hC0.1
  intro n
  induction n with
  | zero =>
    intro x5 s_mo x h
    exact (wh_0 h).elim
  | succ n ih =>
    intro x5 s_mo x h HX H locs ls hP hD hS hl
    obtain ⟨v, hf, hB, hX⟩ := wh_step h
    have hf : fX9_read_b26 s_mo x1 x2 x3 x4 x5 = some v := hf
    have HB : ∀ (z : Int32 × S2), v = .inl z → ∀ (H : Heap) (locs : List Loc) (ls : Array Slot), va_P D vwCl (wModel t a_mo z.2 lam) H → va_D A (wModel t a_mo z.2 lam) → va_S A s.heap H locs → lv_has ls 11 [(0, .ref (a_mo 0)), (1, .int x1), (2, .int x2), (3, .int x3), (4, .int x4), (5, .int z.1)] → W p l e (rmL 3) s m args below meth c H locs 0 0 (MQ below (gQ D rv w1 A) args s 0 0 A) (F0 m 26 ls []) := fun z hz H locs ls hP hD hS hl => ih z.1 z.2 x (hB z hz) HX H locs ls hP hD hS hl
    have HX : ∀ (z : Int32 × S2), v = .inr z → ∀ (H : Heap) (locs : List Loc) (ls : Array Slot), va_P D vwCl (wModel t a_mo z.2 lam) H → va_D A (wModel t a_mo z.2 lam) → va_S A s.heap H locs → lv_has ls 11 [(0, .ref (a_mo 0)), (1, .int x1), (2, .int x2), (3, .int x3), (4, .int x4)] → W p l e (rmL 3) s m args below meth c H locs 0 0 (MQ below (gQ D rv w1 A) args s 0 0 A) (F0 m 53 ls []) := fun z hz => HX z (hX _ hz).symm
    unfold fX9_read_b26 at hf
    refine lv_iload hx hb dX9_read_26 (lv_at hl 5 rfl) ?_
    refine lv_bipush (v := 59) hx hb dX9_read_28 (by decide) ?_
    refine lv_icmp_ge (tgt := 53) hx hb dX9_read_30 (by decide) (fun c5 => ?_) (fun c5 => ?_)
    · rw [if_pos c5] at hf
      obtain rfl := so_eq hf
      exact HX _ rfl _ _ _ hP hD hS (lv_sub hl [0, 1, 2, 3, 4] rfl)
    · rw [if_neg c5] at hf
      refine lv_aload_n hx hb dX9_read_33 rfl (lv_at hl 0 rfl) ?_
      refine va_get (D := D) (ci := 9) (v := .ref (a_mo 16)) (C := RX9) (T := TX9) (N := 37) hx hb hts iwX9_read_X9 hown hK hP 0 rfl rfl 36 (by decide) (hts _ lkX9_read_f56) (fun _ h9 => h9) rfl dX9_read_34 ?_
      refine lv_iload hx hb dX9_read_37 (lv_at hl 5 rfl) ?_
      refine lv_aload_n hx hb dX9_read_39 rfl (lv_at hl 0 rfl) ?_
      refine va_get (D := D) (ci := 9) (v := .ref (a_mo 1)) (C := RX9) (T := TX9) (N := 37) hx hb hts iwX9_read_X9 hown hK hP 0 rfl rfl 0 (by decide) (hts _ lkX9_read_f7) (fun _ h9 => h9) rfl dX9_read_40 ?_
      refine lv_iload hx hb dX9_read_43 (lv_at hl 5 rfl) ?_
      obtain ⟨b6, hf⟩ := gd_some hf
      refine va_iald hx hb hK hP 1 0 rfl rfl (ixb_in b6) dX9_read_45 ?_
      obtain ⟨b7, hf⟩ := gd_some hf
      obtain ⟨s8, hs8, hf⟩ := nm_ex hf
      refine va_iast hx hb hK hP hD hS 16 0 rfl rfl (ixb_in b7) dX9_read_46 (fun H locs hP hD hS => ?_)
      have hP : va_P D vwCl (wModel t a_mo s8 lam) H := by rw [hs8]; exact hP
      have hD : va_D A (wModel t a_mo s8 lam) := by rw [hs8]; exact hD
      obtain ⟨y9, hy9, hf⟩ := nm_ex hf
      refine lv_iinc (v := y9) (lv' := [(5, .int y9), (0, .ref (a_mo 0)), (1, .int x1), (2, .int x2), (3, .int x3), (4, .int x4)]) hx hb dX9_read_47 hl (k := 5) rfl (by rw [hy9]; rfl) (by decide) rfl (fun ls hl => ?_)
      refine lv_goto (tgt := 26) hx hb dX9_read_50 (by decide) ?_
      obtain rfl := so_eq hf
      exact HB _ rfl _ _ _ hP hD hS (lv_sub hl [1, 2, 3, 4, 5, 0] rfl)
set_option maxHeartbeats 4000000 in
set_option maxRecDepth 100000 in
theorem wX9_read_l77 {p : Program} {l : Launch} {e : Env} {s : State} {m : MethodId} {args : Array Value} {below : List Frame} {meth : Method} {c : Code} {D : va_G} {t : Nat → ClassId} {κ : Nat → Nat} {A : Nat → Prop} {a_mo : Nat → Nat} {lam : S6} {x1 : Int32} {x2 : Int32} {x3 : Int32} {x4 : Int32} {x6 : Int32} {x7 : Int32} {rv : Option Value} {w1 : va_W} (C : Cxt p s m args meth c cX9_read 11 RX9 wsX9_read (some .int) D t κ A) : ∀ (n : Nat) (x5 : Int32) (x8 : Int32) (s_mo : S2) (x : Int32 × Int32 × S2), wh (fun (c : Int32 × Int32 × S2) => fX9_read_b77 c.2.2 x1 x2 x3 x4 c.1 x6 x7 c.2.1) n (x5, x8, s_mo) = some x → (∀ (z : Int32 × Int32 × S2), x = z → ∀ (H : Heap) (locs : List Loc) (ls : Array Slot), va_P D vwCl (wModel t a_mo z.2.2 lam) H → va_D A (wModel t a_mo z.2.2 lam) → va_S A s.heap H locs → lv_has ls 11 [(0, .ref (a_mo 0)), (1, .int x1), (2, .int x2), (3, .int x3), (4, .int x4), (5, .int z.1), (6, .int x6), (7, .int x7)] → W p l e (rmL 3) s m args below meth c H locs 0 0 (MQ below (gQ D rv w1 A) args s 0 0 A) (F0 m 164 ls [])) → ∀ (H : Heap) (locs : List Loc) (ls : Array Slot), va_P D vwCl (wModel t a_mo s_mo lam) H → va_D A (wModel t a_mo s_mo lam) → va_S A s.heap H locs → lv_has ls 11 [(0, .ref (a_mo 0)), (1, .int x1), (2, .int x2), (3, .int x3), (4, .int x4), (5, .int x5), (6, .int x6), (7, .int x7), (8, .int x8)] → W p l e (rmL 3) s m args below meth c H locs 0 0 (MQ below (gQ D rv w1 A) args s 0 0 A) (F0 m 77 ls []) := by
  obtain ⟨hx, hb, hr, hml, hown, hts, hC0, hlk, hA⟩ := id C
  have hK := hC0.1
  intro n
  induction n with
  | zero =>
    intro x5 x8 s_mo x h
    exact (wh_0 h).elim
  | succ n ih =>
    intro x5 x8 s_mo x h HX H locs ls hP hD hS hl
    obtain ⟨v, hf, hB, hX⟩ := wh_step h
    have hf : fX9_read_b77 s_mo x1 x2 x3 x4 x5 x6 x7 x8 = some v := hf
    have HB : ∀ (z : Int32 × Int32 × S2), v = .inl z → ∀ (H : Heap) (locs : List Loc) (ls : Array Slot), va_P D vwCl (wModel t a_mo z.2.2 lam) H → va_D A (wModel t a_mo z.2.2 lam) → va_S A s.heap H locs → lv_has ls 11 [(0, .ref (a_mo 0)), (1, .int x1), (2, .int x2), (3, .int x3), (4, .int x4), (5, .int z.1), (6, .int x6), (7, .int x7), (8, .int z.2.1)] → W p l e (rmL 3) s m args below meth c H locs 0 0 (MQ below (gQ D rv w1 A) args s 0 0 A) (F0 m 77 ls []) := fun z hz H locs ls hP hD hS hl => ih z.1 z.2.1 z.2.2 x (hB z hz) HX H locs ls hP hD hS hl
    have HX : ∀ (z : Int32 × Int32 × S2), v = .inr z → ∀ (H : Heap) (locs : List Loc) (ls : Array Slot), va_P D vwCl (wModel t a_mo z.2.2 lam) H → va_D A (wModel t a_mo z.2.2 lam) → va_S A s.heap H locs → lv_has ls 11 [(0, .ref (a_mo 0)), (1, .int x1), (2, .int x2), (3, .int x3), (4, .int x4), (5, .int z.1), (6, .int x6), (7, .int x7)] → W p l e (rmL 3) s m args below meth c H locs 0 0 (MQ below (gQ D rv w1 A) args s 0 0 A) (F0 m 164 ls []) := fun z hz => HX z (hX _ hz).symm
    unfold fX9_read_b77 at hf
    refine lv_iload hx hb dX9_read_77 (lv_at hl 8 rfl) ?_
    refine lv_iconst (v := 2) hx hb dX9_read_79 (by decide) ?_
    refine lv_icmp_ge (tgt := 164) hx hb dX9_read_80 (by decide) (fun c13 => ?_) (fun c13 => ?_)
    · rw [if_pos c13] at hf
      obtain rfl := so_eq hf
      exact HX _ rfl _ _ _ hP hD hS (lv_sub hl [0, 1, 2, 3, 4, 5, 6, 7] rfl)
    · rw [if_neg c13] at hf
      refine lv_iload hx hb dX9_read_83 (lv_at hl 5 rfl) ?_
      refine lv_if_ne (tgt := 164) hx hb dX9_read_85 (by decide) (fun c14 => ?_) (fun c14 => ?_)
      · rw [if_neg c14] at hf
        obtain rfl := so_eq hf
        exact HX _ rfl _ _ _ hP hD hS (lv_sub hl [0, 1, 2, 3, 4, 5, 6, 7] rfl)
      · rw [if_pos c14] at hf
        refine lv_iload_n hx hb dX9_read_88 rfl (lv_at hl 3 rfl) ?_
        refine lv_i2l hx hb dX9_read_89 rfl ?_
        refine lv_iconst (v := 2) hx hb dX9_read_90 (by decide) ?_
        refine lv_iload hx hb dX9_read_91 (lv_at hl 7 rfl) ?_
        refine lv_imul hx hb dX9_read_93 ?_
        refine lv_i2l hx hb dX9_read_94 rfl ?_
        refine lv_ladd hx hb dX9_read_95 ?_
        refine lv_iload hx hb dX9_read_96 (lv_at hl 8 rfl) ?_
        refine lv_i2l hx hb dX9_read_98 rfl ?_
        refine lv_ladd hx hb dX9_read_99 ?_
        obtain ⟨y15, hy15, hf⟩ := nm_ex hf
        refine W.eq (g2 := F0 m 100 ls [.long y15]) (by rw [hy15]) ?_
        refine lv_lstore (lv' := [(9, .long y15), (0, .ref (a_mo 0)), (1, .int x1), (2, .int x2), (3, .int x3), (4, .int x4), (5, .int x5), (6, .int x6), (7, .int x7), (8, .int x8)]) hx hb dX9_read_100 hl (by decide) rfl (fun ls hl => ?_)
        refine lv_aload_n hx hb dX9_read_102 rfl (lv_at hl 1 rfl) ?_
        refine va_get (D := D) (ci := 9) (v := .ref (a_mo 13)) (C := RX9) (T := TX9) (N := 37) hx hb hts iwX9_read_X9 hown hK hP 0 rfl rfl 32 (by decide) (hts _ lkX9_read_f47) (fun _ h9 => h9) rfl dX9_read_103 ?_
        refine lv_iload_n hx hb dX9_read_106 rfl (lv_at hl 2 rfl) ?_
        obtain ⟨b16, hf⟩ := gd_some hf
        refine va_iald hx hb hK hP 13 0 rfl rfl (ixb_in b16) dX9_read_107 ?_
        refine lv_bipush (v := -4) hx hb dX9_read_108 (by decide) ?_
        refine lv_icmp_ne (tgt := 117) hx hb dX9_read_110 (by decide) (fun c17 => ?_) (fun c17 => ?_)
        · rw [if_neg c17] at hf
          refine lv_aload_n hx hb dX9_read_117 rfl (lv_at hl 1 rfl) ?_
          refine va_get (D := D) (ci := 9) (v := .ref (a_mo 13)) (C := RX9) (T := TX9) (N := 37) hx hb hts iwX9_read_X9 hown hK hP 0 rfl rfl 32 (by decide) (hts _ lkX9_read_f47) (fun _ h9 => h9) rfl dX9_read_118 ?_
          refine lv_iload_n hx hb dX9_read_121 rfl (lv_at hl 2 rfl) ?_
          refine va_iald hx hb hK hP 13 0 rfl rfl (ixb_in b16) dX9_read_122 ?_
          refine lv_iload_n hx hb dX9_read_123 rfl (lv_at hl 3 rfl) ?_
          refine lv_icmp_eq (tgt := 131) hx hb dX9_read_124 (by decide) (fun c18 => ?_) (fun c18 => ?_)
          · rw [if_pos c18] at hf
            refine lv_lload hx hb dX9_read_131 (lv_at hl 0 rfl) ?_
            refine lv_lconst (v := 0) hx hb dX9_read_133 (by decide) ?_
            refine W.lcmp hx hb dX9_read_134 ?_
            refine lv_if_lt (tgt := 151) hx hb dX9_read_135 (by decide) (fun c19 => ?_) (fun c19 => ?_)
            · rw [if_pos c19] at hf
              refine lv_iconst (v := 2) hx hb dX9_read_151 (by decide) ?_
              refine lv_goto (tgt := 156) hx hb dX9_read_152 (by decide) ?_
              refine lv_istore (lv' := [(5, .int (2 : Int32)), (9, .long y15), (0, .ref (a_mo 0)), (1, .int x1), (2, .int x2), (3, .int x3), (4, .int x4), (6, .int x6), (7, .int x7), (8, .int x8)]) hx hb dX9_read_156 hl (by decide) rfl (fun ls hl => ?_)
              obtain ⟨y20, hy20, hf⟩ := nm_ex hf
              refine lv_iinc (v := y20) (lv' := [(8, .int y20), (5, .int (2 : Int32)), (9, .long y15), (0, .ref (a_mo 0)), (1, .int x1), (2, .int x2), (3, .int x3), (4, .int x4), (6, .int x6), (7, .int x7)]) hx hb dX9_read_158 hl (k := 9) rfl (by rw [hy20]; rfl) (by decide) rfl (fun ls hl => ?_)
              refine lv_goto (tgt := 77) hx hb dX9_read_161 (by decide) ?_
              obtain rfl := so_eq hf
              exact HB _ rfl _ _ _ hP hD hS (lv_sub hl [3, 4, 5, 6, 7, 1, 8, 9, 0] rfl)
            · rw [if_neg c19] at hf
              refine lv_lload hx hb dX9_read_138 (lv_at hl 0 rfl) ?_
              refine lv_aload_n hx hb dX9_read_140 rfl (lv_at hl 1 rfl) ?_
              refine va_get (D := D) (ci := 9) (v := .ref (a_mo 14)) (C := RX9) (T := TX9) (N := 37) hx hb hts iwX9_read_X9 hown hK hP 0 rfl rfl 33 (by decide) (hts _ lkX9_read_f50) (fun _ h9 => h9) rfl dX9_read_141 ?_
              refine lv_iload_n hx hb dX9_read_144 rfl (lv_at hl 2 rfl) ?_
              refine va_iald hx hb hK hP 14 0 rfl rfl (ixb_in b16) dX9_read_145 ?_
              refine lv_i2l hx hb dX9_read_146 rfl ?_
              refine W.lcmp hx hb dX9_read_147 ?_
              refine lv_if_lt (tgt := 155) hx hb dX9_read_148 (by decide) (fun c21 => ?_) (fun c21 => ?_)
              · rw [if_pos c21] at hf
                refine lv_iconst (v := 0) hx hb dX9_read_155 (by decide) ?_
                refine lv_istore (lv' := [(5, .int (0 : Int32)), (9, .long y15), (0, .ref (a_mo 0)), (1, .int x1), (2, .int x2), (3, .int x3), (4, .int x4), (6, .int x6), (7, .int x7), (8, .int x8)]) hx hb dX9_read_156 hl (by decide) rfl (fun ls hl => ?_)
                obtain ⟨y22, hy22, hf⟩ := nm_ex hf
                refine lv_iinc (v := y22) (lv' := [(8, .int y22), (5, .int (0 : Int32)), (9, .long y15), (0, .ref (a_mo 0)), (1, .int x1), (2, .int x2), (3, .int x3), (4, .int x4), (6, .int x6), (7, .int x7)]) hx hb dX9_read_158 hl (k := 9) rfl (by rw [hy22]; rfl) (by decide) rfl (fun ls hl => ?_)
                refine lv_goto (tgt := 77) hx hb dX9_read_161 (by decide) ?_
                obtain rfl := so_eq hf
                exact HB _ rfl _ _ _ hP hD hS (lv_sub hl [3, 4, 5, 6, 7, 1, 8, 9, 0] rfl)
              · rw [if_neg c21] at hf
                refine lv_iconst (v := 2) hx hb dX9_read_151 (by decide) ?_
                refine lv_goto (tgt := 156) hx hb dX9_read_152 (by decide) ?_
                refine lv_istore (lv' := [(5, .int (2 : Int32)), (9, .long y15), (0, .ref (a_mo 0)), (1, .int x1), (2, .int x2), (3, .int x3), (4, .int x4), (6, .int x6), (7, .int x7), (8, .int x8)]) hx hb dX9_read_156 hl (by decide) rfl (fun ls hl => ?_)
                obtain ⟨y23, hy23, hf⟩ := nm_ex hf
                refine lv_iinc (v := y23) (lv' := [(8, .int y23), (5, .int (2 : Int32)), (9, .long y15), (0, .ref (a_mo 0)), (1, .int x1), (2, .int x2), (3, .int x3), (4, .int x4), (6, .int x6), (7, .int x7)]) hx hb dX9_read_158 hl (k := 9) rfl (by rw [hy23]; rfl) (by decide) rfl (fun ls hl => ?_)
                refine lv_goto (tgt := 77) hx hb dX9_read_161 (by decide) ?_
                obtain rfl := so_eq hf
                exact HB _ rfl _ _ _ hP hD hS (lv_sub hl [3, 4, 5, 6, 7, 1, 8, 9, 0] rfl)
          · rw [if_neg c18] at hf
            refine lv_iconst (v := 3) hx hb dX9_read_127 (by decide) ?_
            refine lv_goto (tgt := 156) hx hb dX9_read_128 (by decide) ?_
            refine lv_istore (lv' := [(5, .int (3 : Int32)), (9, .long y15), (0, .ref (a_mo 0)), (1, .int x1), (2, .int x2), (3, .int x3), (4, .int x4), (6, .int x6), (7, .int x7), (8, .int x8)]) hx hb dX9_read_156 hl (by decide) rfl (fun ls hl => ?_)
            obtain ⟨y24, hy24, hf⟩ := nm_ex hf
            refine lv_iinc (v := y24) (lv' := [(8, .int y24), (5, .int (3 : Int32)), (9, .long y15), (0, .ref (a_mo 0)), (1, .int x1), (2, .int x2), (3, .int x3), (4, .int x4), (6, .int x6), (7, .int x7)]) hx hb dX9_read_158 hl (k := 9) rfl (by rw [hy24]; rfl) (by decide) rfl (fun ls hl => ?_)
            refine lv_goto (tgt := 77) hx hb dX9_read_161 (by decide) ?_
            obtain rfl := so_eq hf
            exact HB _ rfl _ _ _ hP hD hS (lv_sub hl [3, 4, 5, 6, 7, 1, 8, 9, 0] rfl)
        · rw [if_pos c17] at hf
          refine lv_iconst (v := 1) hx hb dX9_read_113 (by decide) ?_
          refine lv_goto (tgt := 156) hx hb dX9_read_114 (by decide) ?_
          refine lv_istore (lv' := [(5, .int (1 : Int32)), (9, .long y15), (0, .ref (a_mo 0)), (1, .int x1), (2, .int x2), (3, .int x3), (4, .int x4), (6, .int x6), (7, .int x7), (8, .int x8)]) hx hb dX9_read_156 hl (by decide) rfl (fun ls hl => ?_)
          obtain ⟨y25, hy25, hf⟩ := nm_ex hf
          refine lv_iinc (v := y25) (lv' := [(8, .int y25), (5, .int (1 : Int32)), (9, .long y15), (0, .ref (a_mo 0)), (1, .int x1), (2, .int x2), (3, .int x3), (4, .int x4), (6, .int x6), (7, .int x7)]) hx hb dX9_read_158 hl (k := 9) rfl (by rw [hy25]; rfl) (by decide) rfl (fun ls hl => ?_)
          refine lv_goto (tgt := 77) hx hb dX9_read_161 (by decide) ?_
          obtain rfl := so_eq hf
          exact HB _ rfl _ _ _ hP hD hS (lv_sub hl [3, 4, 5, 6, 7, 1, 8, 9, 0] rfl)
set_option maxHeartbeats 4000000 in
set_option maxRecDepth 100000 in
theorem wX9_read_l208 {p : Program} {l : Launch} {e : Env} {s : State} {m : MethodId} {args : Array Value} {below : List Frame} {meth : Method} {c : Code} {D : va_G} {t : Nat → ClassId} {κ : Nat → Nat} {A : Nat → Prop} {a_mo : Nat → Nat} {lam : S6} {x7 : Int32} {rv : Option Value} {w1 : va_W} (C : Cxt p s m args meth c cX9_read 11 RX9 wsX9_read (some .int) D t κ A) : ∀ (n : Nat) (x9 : Int32) (s_mo : S2) (x : Int32 × S2), wh (fun (c : Int32 × S2) => fX9_read_b208 c.2 x7 c.1) n (x9, s_mo) = some x → (∀ (z : Int32 × S2), x = z → ∀ (H : Heap) (locs : List Loc) (ls : Array Slot), va_P D vwCl (wModel t a_mo z.2 lam) H → va_D A (wModel t a_mo z.2 lam) → va_S A s.heap H locs → lv_has ls 11 [(7, .int x7)] → W p l e (rmL 3) s m args below meth c H locs 0 0 (MQ below (gQ D rv w1 A) args s 0 0 A) (F0 m 235 ls [])) → ∀ (H : Heap) (locs : List Loc) (ls : Array Slot), va_P D vwCl (wModel t a_mo s_mo lam) H → va_D A (wModel t a_mo s_mo lam) → va_S A s.heap H locs → lv_has ls 11 [(0, .ref (a_mo 0)), (7, .int x7), (9, .int x9)] → W p l e (rmL 3) s m args below meth c H locs 0 0 (MQ below (gQ D rv w1 A) args s 0 0 A) (F0 m 208 ls []) := by
  obtain ⟨hx, hb, hr, hml, hown, hts, hC0, hlk, hA⟩ := id C
  have hK := hC0.1
  intro n
  induction n with
  | zero =>
    intro x9 s_mo x h
    exact (wh_0 h).elim
  | succ n ih =>
    intro x9 s_mo x h HX H locs ls hP hD hS hl
    obtain ⟨v, hf, hB, hX⟩ := wh_step h
    have hf : fX9_read_b208 s_mo x7 x9 = some v := hf
    have HB : ∀ (z : Int32 × S2), v = .inl z → ∀ (H : Heap) (locs : List Loc) (ls : Array Slot), va_P D vwCl (wModel t a_mo z.2 lam) H → va_D A (wModel t a_mo z.2 lam) → va_S A s.heap H locs → lv_has ls 11 [(0, .ref (a_mo 0)), (7, .int x7), (9, .int z.1)] → W p l e (rmL 3) s m args below meth c H locs 0 0 (MQ below (gQ D rv w1 A) args s 0 0 A) (F0 m 208 ls []) := fun z hz H locs ls hP hD hS hl => ih z.1 z.2 x (hB z hz) HX H locs ls hP hD hS hl
    have HX : ∀ (z : Int32 × S2), v = .inr z → ∀ (H : Heap) (locs : List Loc) (ls : Array Slot), va_P D vwCl (wModel t a_mo z.2 lam) H → va_D A (wModel t a_mo z.2 lam) → va_S A s.heap H locs → lv_has ls 11 [(7, .int x7)] → W p l e (rmL 3) s m args below meth c H locs 0 0 (MQ below (gQ D rv w1 A) args s 0 0 A) (F0 m 235 ls []) := fun z hz => HX z (hX _ hz).symm
    unfold fX9_read_b208 at hf
    refine lv_iload hx hb dX9_read_208 (lv_at hl 2 rfl) ?_
    refine lv_bipush (v := 59) hx hb dX9_read_210 (by decide) ?_
    refine lv_icmp_ge (tgt := 235) hx hb dX9_read_212 (by decide) (fun c36 => ?_) (fun c36 => ?_)
    · rw [if_pos c36] at hf
      obtain rfl := so_eq hf
      exact HX _ rfl _ _ _ hP hD hS (lv_sub hl [1] rfl)
    · rw [if_neg c36] at hf
      refine lv_aload_n hx hb dX9_read_215 rfl (lv_at hl 0 rfl) ?_
      refine va_get (D := D) (ci := 9) (v := .ref (a_mo 1)) (C := RX9) (T := TX9) (N := 37) hx hb hts iwX9_read_X9 hown hK hP 0 rfl rfl 0 (by decide) (hts _ lkX9_read_f7) (fun _ h9 => h9) rfl dX9_read_216 ?_
      refine lv_iload hx hb dX9_read_219 (lv_at hl 2 rfl) ?_
      refine lv_aload_n hx hb dX9_read_221 rfl (lv_at hl 0 rfl) ?_
      refine va_get (D := D) (ci := 9) (v := .ref (a_mo 16)) (C := RX9) (T := TX9) (N := 37) hx hb hts iwX9_read_X9 hown hK hP 0 rfl rfl 36 (by decide) (hts _ lkX9_read_f56) (fun _ h9 => h9) rfl dX9_read_222 ?_
      refine lv_iload hx hb dX9_read_225 (lv_at hl 2 rfl) ?_
      obtain ⟨b37, hf⟩ := gd_some hf
      refine va_iald hx hb hK hP 16 0 rfl rfl (ixb_in b37) dX9_read_227 ?_
      obtain ⟨b38, hf⟩ := gd_some hf
      obtain ⟨s39, hs39, hf⟩ := nm_ex hf
      refine va_iast hx hb hK hP hD hS 1 0 rfl rfl (ixb_in b38) dX9_read_228 (fun H locs hP hD hS => ?_)
      have hP : va_P D vwCl (wModel t a_mo s39 lam) H := by rw [hs39]; exact hP
      have hD : va_D A (wModel t a_mo s39 lam) := by rw [hs39]; exact hD
      obtain ⟨y40, hy40, hf⟩ := nm_ex hf
      refine lv_iinc (v := y40) (lv' := [(9, .int y40), (0, .ref (a_mo 0)), (7, .int x7)]) hx hb dX9_read_229 hl (k := 2) rfl (by rw [hy40]; rfl) (by decide) rfl (fun ls hl => ?_)
      refine lv_goto (tgt := 208) hx hb dX9_read_232 (by decide) ?_
      obtain rfl := so_eq hf
      exact HB _ rfl _ _ _ hP hD hS (lv_sub hl [1, 2, 0] rfl)
set_option maxHeartbeats 4000000 in
set_option maxRecDepth 100000 in
theorem wX9_read_164 {p : Program} {l : Launch} {e : Env} {s : State} {m : MethodId} {args : Array Value} {below : List Frame} {meth : Method} {c : Code} {D : va_G} {t : Nat → ClassId} {κ : Nat → Nat} {A : Nat → Prop} {a_mo : Nat → Nat} {s_mo : S2} {lam : S6} {x1 : Int32} {x2 : Int32} {x3 : Int32} {x4 : Int32} {x5 : Int32} {x6 : Int32} {x7 : Int32} {rv : Option Value} {w1 : va_W} {v : (Int32 × Int32 × Int32 × S2) ⊕ ((Int32 × Int32 × Int32 × S2) ⊕ (Int32 × S2))} (C : Cxt p s m args meth c cX9_read 11 RX9 wsX9_read (some .int) D t κ A) (hf : fX9_read_164 s_mo x1 x2 x3 x4 x5 x6 x7 = some v) (HB : ∀ (z : Int32 × Int32 × Int32 × S2), v = .inl z → ∀ (H : Heap) (locs : List Loc) (ls : Array Slot), va_P D vwCl (wModel t a_mo z.2.2.2 lam) H → va_D A (wModel t a_mo z.2.2.2 lam) → va_S A s.heap H locs → lv_has ls 11 [(0, .ref (a_mo 0)), (1, .int x1), (2, .int x2), (3, .int x3), (4, .int x4), (5, .int z.1), (6, .int z.2.1), (7, .int z.2.2.1)] → W p l e (rmL 3) s m args below meth c H locs 0 0 (MQ below (gQ D rv w1 A) args s 0 0 A) (F0 m 62 ls [])) (HR : ∀ (r : Int32 × S2), v = .inr (.inr r) → rv = (some (.int r.1)) ∧ w1 = (wModel t a_mo r.2 lam)) : ∀ (H : Heap) (locs : List Loc) (ls : Array Slot), va_P D vwCl (wModel t a_mo s_mo lam) H → va_D A (wModel t a_mo s_mo lam) → va_S A s.heap H locs → lv_has ls 11 [(0, .ref (a_mo 0)), (1, .int x1), (2, .int x2), (3, .int x3), (4, .int x4), (5, .int x5), (6, .int x6), (7, .int x7)] → W p l e (rmL 3) s m args below meth c H locs 0 0 (MQ below (gQ D rv w1 A) args s 0 0 A) (F0 m 164 ls []) := by
  obtain ⟨hx, hb, hr, hml, hown, hts, hC0, hlk, hA⟩ := id C
  have hK := hC0.1
  intro H locs ls hP hD hS hl
  unfold fX9_read_164 at hf
  refine lv_iload hx hb dX9_read_164 (lv_at hl 5 rfl) ?_
  refine lv_if_ne (tgt := 244) hx hb dX9_read_166 (by decide) (fun c27 => ?_) (fun c27 => ?_)
  · rw [if_neg c27] at hf
    obtain ⟨y28, hy28, hf⟩ := nm_ex hf
    refine lv_iinc (v := y28) (lv' := [(7, .int y28), (0, .ref (a_mo 0)), (1, .int x1), (2, .int x2), (3, .int x3), (4, .int x4), (5, .int x5), (6, .int x6)]) hx hb dX9_read_244 hl (k := 7) rfl (by rw [hy28]; rfl) (by decide) rfl (fun ls hl => ?_)
    refine lv_goto (tgt := 62) hx hb dX9_read_247 (by decide) ?_
    obtain rfl := so_eq hf
    exact HB _ rfl _ _ _ hP hD hS (lv_sub hl [1, 2, 3, 4, 5, 6, 7, 0] rfl)
  · rw [if_pos c27] at hf
    refine lv_bipush (v := 40) hx hb dX9_read_169 (by decide) ?_
    refine lv_iload_n hx hb dX9_read_171 rfl (lv_at hl 1 rfl) ?_
    refine lv_imul hx hb dX9_read_172 ?_
    refine lv_iload_n hx hb dX9_read_173 rfl (lv_at hl 3 rfl) ?_
    refine lv_iadd hx hb dX9_read_174 ?_
    refine lv_iconst (v := 2) hx hb dX9_read_175 (by decide) ?_
    refine lv_iload hx hb dX9_read_176 (lv_at hl 7 rfl) ?_
    refine lv_imul hx hb dX9_read_178 ?_
    refine lv_iadd hx hb dX9_read_179 ?_
    obtain ⟨y29, hy29, hf⟩ := nm_ex hf
    refine W.eq (g2 := F0 m 180 ls [.int y29]) (by rw [hy29]) ?_
    refine lv_istore (lv' := [(8, .int y29), (0, .ref (a_mo 0)), (1, .int x1), (2, .int x2), (3, .int x3), (4, .int x4), (5, .int x5), (6, .int x6), (7, .int x7)]) hx hb dX9_read_180 hl (by decide) rfl (fun ls hl => ?_)
    refine lv_aload_n hx hb dX9_read_182 rfl (lv_at hl 1 rfl) ?_
    refine lv_aload_n hx hb dX9_read_183 rfl (lv_at hl 1 rfl) ?_
    refine va_get (D := D) (ci := 9) (v := .ref (a_mo 15)) (C := RX9) (T := TX9) (N := 37) hx hb hts iwX9_read_X9 hown hK hP 0 rfl rfl 34 (by decide) (hts _ lkX9_read_f53) (fun _ h9 => h9) rfl dX9_read_184 ?_
    refine lv_iload hx hb dX9_read_187 (lv_at hl 0 rfl) ?_
    obtain ⟨b30, hf⟩ := gd_some hf
    refine va_iald hx hb hK hP 15 0 rfl rfl (ixb_in b30) dX9_read_189 ?_
    refine lv_aload_n hx hb dX9_read_190 rfl (lv_at hl 1 rfl) ?_
    refine va_get (D := D) (ci := 9) (v := .ref (a_mo 15)) (C := RX9) (T := TX9) (N := 37) hx hb hts iwX9_read_X9 hown hK hP 0 rfl rfl 34 (by decide) (hts _ lkX9_read_f53) (fun _ h9 => h9) rfl dX9_read_191 ?_
    refine lv_iload hx hb dX9_read_194 (lv_at hl 0 rfl) ?_
    refine lv_iconst (v := 1) hx hb dX9_read_196 (by decide) ?_
    refine lv_iadd hx hb dX9_read_197 ?_
    obtain ⟨b31, hf⟩ := gd_some hf
    refine va_iald hx hb hK hP 15 0 rfl rfl (ixb_in b31) dX9_read_198 ?_
    obtain ⟨v32, ev32, hf⟩ := bd_some hf
    refine gk_V0 C (As := [.int (s_mo 15 (Int32.toNatClampNeg y29)), .int (s_mo 15 (Int32.toNatClampNeg (y29 + (1 : Int32))))]) (rest := []) (ci := 9) (q := (RX9, TX9, 37)) (q0 := 0) (cX9_stand_ok (l := l) (D := D) (t := t) (κ := κ) (a_mo := a_mo) (lam := lam) ev32) gX9_read_X9_stand rfl ⟨rfl, rfl⟩ hdX9_stand ⟨Nat.le_of_ble_eq_true rfl, Nat.le_of_ble_eq_true rfl⟩ rfl rfl hP hD hS rfl hl.1 (Nat.le_of_ble_eq_true rfl) dX9_read_199 (Nat.zero_le _) (Nat.zero_le _) (fun H locs hP hD hS => ?_)
    refine W.eq (g2 := F0 m 202 ls [.int v32.1]) rfl ?_
    refine lv_if_ge (tgt := 241) hx hb dX9_read_202 (by decide) (fun c33 => ?_) (fun c33 => ?_)
    · rw [if_pos c33] at hf
      obtain ⟨y34, hy34, hf⟩ := nm_ex hf
      refine lv_iinc (v := y34) (lv' := [(6, .int y34), (8, .int y29), (0, .ref (a_mo 0)), (1, .int x1), (2, .int x2), (3, .int x3), (4, .int x4), (5, .int x5), (7, .int x7)]) hx hb dX9_read_241 hl (k := 7) rfl (by rw [hy34]; rfl) (by decide) rfl (fun ls hl => ?_)
      obtain ⟨y35, hy35, hf⟩ := nm_ex hf
      refine lv_iinc (v := y35) (lv' := [(7, .int y35), (6, .int y34), (8, .int y29), (0, .ref (a_mo 0)), (1, .int x1), (2, .int x2), (3, .int x3), (4, .int x4), (5, .int x5)]) hx hb dX9_read_244 hl (k := 8) rfl (by rw [hy35]; rfl) (by decide) rfl (fun ls hl => ?_)
      refine lv_goto (tgt := 62) hx hb dX9_read_247 (by decide) ?_
      obtain rfl := so_eq hf
      exact HB _ rfl _ _ _ hP hD hS (lv_sub hl [3, 4, 5, 6, 7, 8, 1, 0] rfl)
    · rw [if_neg c33] at hf
      refine lv_iconst (v := 0) hx hb dX9_read_205 (by decide) ?_
      refine lv_istore (lv' := [(9, .int (0 : Int32)), (8, .int y29), (0, .ref (a_mo 0)), (1, .int x1), (2, .int x2), (3, .int x3), (4, .int x4), (5, .int x5), (6, .int x6), (7, .int x7)]) hx hb dX9_read_206 hl (by decide) rfl (fun ls hl => ?_)
      obtain ⟨x41, ex41, hf⟩ := bd_some hf
      refine wX9_read_l208 C 5000 (0 : Int32) v32.2 x41 ex41 (fun c9 h9 H locs ls hP hD hS hl => ?_) _ _ _ hP hD hS (lv_sub hl [2, 9, 0] rfl)
      subst h9
      refine lv_bipush (v := -20) hx hb dX9_read_235 (by decide) ?_
      refine lv_iload hx hb dX9_read_237 (lv_at hl 0 rfl) ?_
      refine lv_isub hx hb dX9_read_239 ?_
      obtain rfl := so_eq hf
      obtain ⟨rfl, rfl⟩ := HR _ rfl
      exact g_iret C hP hD hS dX9_read_240
set_option maxHeartbeats 4000000 in
set_option maxRecDepth 100000 in
theorem wX9_read_l62 {p : Program} {l : Launch} {e : Env} {s : State} {m : MethodId} {args : Array Value} {below : List Frame} {meth : Method} {c : Code} {D : va_G} {t : Nat → ClassId} {κ : Nat → Nat} {A : Nat → Prop} {a_mo : Nat → Nat} {lam : S6} {x1 : Int32} {x2 : Int32} {x3 : Int32} {x4 : Int32} {rv : Option Value} {w1 : va_W} (C : Cxt p s m args meth c cX9_read 11 RX9 wsX9_read (some .int) D t κ A) : ∀ (n : Nat) (x5 : Int32) (x6 : Int32) (x7 : Int32) (s_mo : S2) (x : (Int32 × Int32 × Int32 × S2) ⊕ (Int32 × S2)), wh (fun (c : Int32 × Int32 × Int32 × S2) => fX9_read_b62 c.2.2.2 x1 x2 x3 x4 c.1 c.2.1 c.2.2.1) n (x5, x6, x7, s_mo) = some x → (∀ (z : Int32 × Int32 × Int32 × S2), x = .inl z → ∀ (H : Heap) (locs : List Loc) (ls : Array Slot), va_P D vwCl (wModel t a_mo z.2.2.2 lam) H → va_D A (wModel t a_mo z.2.2.2 lam) → va_S A s.heap H locs → lv_has ls 11 [(0, .ref (a_mo 0)), (5, .int z.1), (6, .int z.2.1)] → W p l e (rmL 3) s m args below meth c H locs 0 0 (MQ below (gQ D rv w1 A) args s 0 0 A) (F0 m 250 ls [])) → (∀ (r : Int32 × S2), x = .inr r → rv = (some (.int r.1)) ∧ w1 = (wModel t a_mo r.2 lam)) → ∀ (H : Heap) (locs : List Loc) (ls : Array Slot), va_P D vwCl (wModel t a_mo s_mo lam) H → va_D A (wModel t a_mo s_mo lam) → va_S A s.heap H locs → lv_has ls 11 [(0, .ref (a_mo 0)), (1, .int x1), (2, .int x2), (3, .int x3), (4, .int x4), (5, .int x5), (6, .int x6), (7, .int x7)] → W p l e (rmL 3) s m args below meth c H locs 0 0 (MQ below (gQ D rv w1 A) args s 0 0 A) (F0 m 62 ls []) := by
  obtain ⟨hx, hb, hr, hml, hown, hts, hC0, hlk, hA⟩ := id C
  have hK := hC0.1
  intro n
  induction n with
  | zero =>
    intro x5 x6 x7 s_mo x h
    exact (wh_0 h).elim
  | succ n ih =>
    intro x5 x6 x7 s_mo x h HX HR H locs ls hP hD hS hl
    obtain ⟨v, hf, hB, hX⟩ := wh_step h
    have hf : fX9_read_b62 s_mo x1 x2 x3 x4 x5 x6 x7 = some v := hf
    have HB : ∀ (z : Int32 × Int32 × Int32 × S2), v = .inl z → ∀ (H : Heap) (locs : List Loc) (ls : Array Slot), va_P D vwCl (wModel t a_mo z.2.2.2 lam) H → va_D A (wModel t a_mo z.2.2.2 lam) → va_S A s.heap H locs → lv_has ls 11 [(0, .ref (a_mo 0)), (1, .int x1), (2, .int x2), (3, .int x3), (4, .int x4), (5, .int z.1), (6, .int z.2.1), (7, .int z.2.2.1)] → W p l e (rmL 3) s m args below meth c H locs 0 0 (MQ below (gQ D rv w1 A) args s 0 0 A) (F0 m 62 ls []) := fun z hz H locs ls hP hD hS hl => ih z.1 z.2.1 z.2.2.1 z.2.2.2 x (hB z hz) HX HR H locs ls hP hD hS hl
    have HX : ∀ (z : Int32 × Int32 × Int32 × S2), v = .inr (.inl z) → ∀ (H : Heap) (locs : List Loc) (ls : Array Slot), va_P D vwCl (wModel t a_mo z.2.2.2 lam) H → va_D A (wModel t a_mo z.2.2.2 lam) → va_S A s.heap H locs → lv_has ls 11 [(0, .ref (a_mo 0)), (5, .int z.1), (6, .int z.2.1)] → W p l e (rmL 3) s m args below meth c H locs 0 0 (MQ below (gQ D rv w1 A) args s 0 0 A) (F0 m 250 ls []) := fun z hz => HX z (hX _ hz).symm
    have HR : ∀ (r : Int32 × S2), v = .inr (.inr r) → rv = (some (.int r.1)) ∧ w1 = (wModel t a_mo r.2 lam) := fun r hz => HR r (hX _ hz).symm
    unfold fX9_read_b62 at hf
    refine lv_iload hx hb dX9_read_62 (lv_at hl 7 rfl) ?_
    refine lv_iload hx hb dX9_read_64 (lv_at hl 4 rfl) ?_
    refine lv_icmp_ge (tgt := 250) hx hb dX9_read_66 (by decide) (fun c11 => ?_) (fun c11 => ?_)
    · rw [if_pos c11] at hf
      obtain rfl := so_eq hf
      exact HX _ rfl _ _ _ hP hD hS (lv_sub hl [0, 5, 6] rfl)
    · rw [if_neg c11] at hf
      refine lv_iload hx hb dX9_read_69 (lv_at hl 5 rfl) ?_
      refine lv_if_ne (tgt := 250) hx hb dX9_read_71 (by decide) (fun c12 => ?_) (fun c12 => ?_)
      · rw [if_neg c12] at hf
        obtain rfl := so_eq hf
        exact HX _ rfl _ _ _ hP hD hS (lv_sub hl [0, 5, 6] rfl)
      · rw [if_pos c12] at hf
        refine lv_iconst (v := 0) hx hb dX9_read_74 (by decide) ?_
        refine lv_istore (lv' := [(8, .int (0 : Int32)), (0, .ref (a_mo 0)), (1, .int x1), (2, .int x2), (3, .int x3), (4, .int x4), (5, .int x5), (6, .int x6), (7, .int x7)]) hx hb dX9_read_75 hl (by decide) rfl (fun ls hl => ?_)
        obtain ⟨x26, ex26, hf⟩ := bd_some hf
        refine wX9_read_l77 C 5000 x5 (0 : Int32) s_mo x26 ex26 (fun c9 h9 H locs ls hP hD hS hl => ?_) _ _ _ hP hD hS (lv_sub hl [1, 2, 3, 4, 5, 6, 7, 8, 0] rfl)
        subst h9
        exact wX9_read_164 C hf HB HR _ _ _ hP hD hS (lv_sub hl [0, 1, 2, 3, 4, 5, 6, 7] rfl)
set_option maxHeartbeats 4000000 in
set_option maxRecDepth 100000 in
theorem wX9_read_250 {p : Program} {l : Launch} {e : Env} {s : State} {m : MethodId} {args : Array Value} {below : List Frame} {meth : Method} {c : Code} {D : va_G} {t : Nat → ClassId} {κ : Nat → Nat} {A : Nat → Prop} {a_mo : Nat → Nat} {s_mo : S2} {lam : S6} {x5 : Int32} {x6 : Int32} {out : Int32 × S2} (C : Cxt p s m args meth c cX9_read 11 RX9 wsX9_read (some .int) D t κ A) (hf : fX9_read_250 s_mo x5 x6 = some out) : ∀ (H : Heap) (locs : List Loc) (ls : Array Slot), va_P D vwCl (wModel t a_mo s_mo lam) H → va_D A (wModel t a_mo s_mo lam) → va_S A s.heap H locs → lv_has ls 11 [(0, .ref (a_mo 0)), (5, .int x5), (6, .int x6)] → W p l e (rmL 3) s m args below meth c H locs 0 0 (MQ below (gQ D (some (.int out.1)) (wModel t a_mo out.2 lam) A) args s 0 0 A) (F0 m 250 ls []) := by
  obtain ⟨hx, hb, hr, hml, hown, hts, hC0, hlk, hA⟩ := id C
  have hK := hC0.1
  intro H locs ls hP hD hS hl
  unfold fX9_read_250 at hf
  refine lv_aload_n hx hb dX9_read_250 rfl (lv_at hl 0 rfl) ?_
  refine lv_iload hx hb dX9_read_251 (lv_at hl 1 rfl) ?_
  obtain ⟨s44, hs44, hf⟩ := nm_ex hf
  refine va_put (D := D) (ci := 9) (v := .int x5) (ty := .int) (C := RX9) (T := TX9) (N := 37) hx hb hts iwX9_read_X9 tyX9 tyX9_ok nmX9 hown hK hP hD hS 0 rfl rfl 35 (by decide) (hts _ lkX9_read_f305) (fun _ h9 => h9) rfl (by decide +kernel) rfl rfl (Nat.le_of_ble_eq_true rfl) dX9_read_253 (fun H locs hP hD hS => ?_)
  have hP : va_P D vwCl (wModel t a_mo s44 lam) H := by rw [hs44]; exact hP
  have hD : va_D A (wModel t a_mo s44 lam) := by rw [hs44]; exact hD
  refine lv_iload hx hb dX9_read_256 (lv_at hl 2 rfl) ?_
  obtain rfl := so_eq hf
  exact g_iret C hP hD hS dX9_read_258
set_option maxHeartbeats 4000000 in
set_option maxRecDepth 100000 in
theorem cX9_read_ok {l : Launch} {D : va_G} {t : Nat → ClassId} {κ : Nat → Nat} {a_mo : Nat → Nat} {s_mo : S2} {lam : S6} {p1 : Int32} {p2 : Int32} {p3 : Int32} {p4 : Int32} {out : Int32 × S2} (hf : fX9_read s_mo p1 p2 p3 p4 = some out) : Ct l D t κ yX9_read wsX9_read (rmL 3) [.ref (a_mo 0), .int p1, .int p2, .int p3, .int p4] (wModel t a_mo s_mo lam) (some (.int out.1)) (wModel t a_mo out.2 lam) := by
  refine Ct.ofW (own := RX9) (cc := cX9_read) (maxL := 11) (ret := (some .int)) (by decide) rfl rfl (Nat.le_of_ble_eq_true rfl) ?_
  intro p e s m below meth c A C hP hD ls hl
  have hS : va_S A s.heap s.heap [] := va_S.rf
  obtain ⟨hx, hb, hr, hml, hown, hts, hC0, hlk, hA⟩ := id C
  have hK := hC0.1
  have hl : lv_has ls 11 [(0, .ref (a_mo 0)), (1, .int p1), (2, .int p2), (3, .int p3), (4, .int p4)] := hl
  unfold fX9_read at hf
  refine lv_iload_n hx hb dX9_read_0 rfl (lv_at hl 1 rfl) ?_
  refine lv_iload_n hx hb dX9_read_1 rfl (lv_at hl 2 rfl) ?_
  obtain ⟨v1, ev1, hf⟩ := bd_some hf
  refine gk_S C (As := [.int p1, .int p2]) (rest := []) (cX9_isSheet_ok (l := l) (D := D) (t := t) (κ := κ) ev1) gX9_read_X9_isSheet rfl ⟨rfl, rfl⟩ hdX9_isSheet ⟨Nat.le_of_ble_eq_true rfl, Nat.le_of_ble_eq_true rfl⟩ hP hD hS rfl hl.1 (Nat.le_of_ble_eq_true rfl) dX9_read_2 (Nat.zero_le _) (Nat.zero_le _) (fun H locs hP hD hS => ?_)
  refine W.eq (g2 := F0 m 5 ls [.int v1]) rfl ?_
  refine lv_if_eq (tgt := 21) hx hb dX9_read_5 (by decide) (fun c2 => ?_) (fun c2 => ?_)
  · rw [if_pos c2] at hf
    refine lv_iconst (v := -1) hx hb dX9_read_21 (by decide) ?_
    obtain rfl := so_eq hf
    exact g_iret C hP hD hS dX9_read_22
  · rw [if_neg c2] at hf
    refine lv_iload hx hb dX9_read_8 (lv_at hl 4 rfl) ?_
    refine lv_i2l hx hb dX9_read_10 rfl ?_
    refine lv_lconst (v := 0) hx hb dX9_read_11 (by decide) ?_
    refine lv_ldc2 hx hb hown (hts _ lkX9_read_l228) dX9_read_12 ?_
    obtain ⟨v3, ev3, hf⟩ := bd_some hf
    refine gk_S C (As := [.long (Int32.toInt64 p4), .long (0 : Int64), .long (20 : Int64)]) (rest := []) (cX9_in_ok (l := l) (D := D) (t := t) (κ := κ) ev3) gX9_read_X9_in rfl ⟨rfl, rfl⟩ hdX9_in ⟨Nat.le_of_ble_eq_true rfl, Nat.le_of_ble_eq_true rfl⟩ hP hD hS rfl hl.1 (Nat.le_of_ble_eq_true rfl) dX9_read_15 (Nat.zero_le _) (Nat.zero_le _) (fun H locs hP hD hS => ?_)
    refine W.eq (g2 := F0 m 18 ls [.int v3]) rfl ?_
    refine lv_if_ne (tgt := 23) hx hb dX9_read_18 (by decide) (fun c4 => ?_) (fun c4 => ?_)
    · rw [if_neg c4] at hf
      refine lv_iconst (v := 0) hx hb dX9_read_23 (by decide) ?_
      refine lv_istore (lv' := [(5, .int (0 : Int32)), (0, .ref (a_mo 0)), (1, .int p1), (2, .int p2), (3, .int p3), (4, .int p4)]) hx hb dX9_read_24 hl (by decide) rfl (fun ls hl => ?_)
      obtain ⟨x10, ex10, hf⟩ := bd_some hf
      refine wX9_read_l26 C 5000 (0 : Int32) s_mo x10 ex10 (fun c9 h9 H locs ls hP hD hS hl => ?_) _ _ _ hP hD hS (lv_sub hl [1, 2, 3, 4, 5, 0] rfl)
      subst h9
      refine lv_iconst (v := 0) hx hb dX9_read_53 (by decide) ?_
      refine lv_istore (lv' := [(5, .int (0 : Int32)), (0, .ref (a_mo 0)), (1, .int p1), (2, .int p2), (3, .int p3), (4, .int p4)]) hx hb dX9_read_54 hl (by decide) rfl (fun ls hl => ?_)
      refine lv_iconst (v := 0) hx hb dX9_read_56 (by decide) ?_
      refine lv_istore (lv' := [(6, .int (0 : Int32)), (5, .int (0 : Int32)), (0, .ref (a_mo 0)), (1, .int p1), (2, .int p2), (3, .int p3), (4, .int p4)]) hx hb dX9_read_57 hl (by decide) rfl (fun ls hl => ?_)
      refine lv_iconst (v := 0) hx hb dX9_read_59 (by decide) ?_
      refine lv_istore (lv' := [(7, .int (0 : Int32)), (6, .int (0 : Int32)), (5, .int (0 : Int32)), (0, .ref (a_mo 0)), (1, .int p1), (2, .int p2), (3, .int p3), (4, .int p4)]) hx hb dX9_read_60 hl (by decide) rfl (fun ls hl => ?_)
      obtain ⟨x42, ex42, hf⟩ := bd_some hf
      refine wX9_read_l62 C 5000 (0 : Int32) (0 : Int32) (0 : Int32) x10.2 x42 ex42 (fun q43 h9 H locs ls hP hD hS hl => ?_) (fun r45 h9 => ?_) _ _ _ hP hD hS (lv_sub hl [3, 4, 5, 6, 7, 2, 1, 0] rfl)
      · rw [h9, Sum.elim_inl] at hf
        exact wX9_read_250 C hf _ _ _ hP hD hS (lv_sub hl [0, 1, 2] rfl)
      · rw [h9, Sum.elim_inr] at hf
        obtain rfl := so_eq hf
        exact ⟨rfl, rfl⟩
    · rw [if_pos c4] at hf
      refine lv_iconst (v := -1) hx hb dX9_read_21 (by decide) ?_
      obtain rfl := so_eq hf
      exact g_iret C hP hD hS dX9_read_22
/-! CoachCourtModel.torn -/
def fX9_torn (s_mo : S2) : Option (Int32) :=
  some (s_mo 0 17)
theorem hdX9_torn : yX9_torn.cls = RX9 ∧ yX9_torn.cls ≠ "java/lang/invoke/MethodHandle" ∧ yX9_torn.cls ≠ "java/lang/invoke/VarHandle" ∧ (parseMethodDescriptor yX9_torn.desc).map (fun d => d.parameters.length) = some 0 := by decide +kernel
theorem iwX9_torn_X9 : ∀ w ∈ wsX90, w ∈ wsX9_torn := by decide +kernel
theorem lkX9_torn_f305 : Cond.fieldLink RX9 305 "CoachCourtModel" "torn" "I" ∈ wsX9_torn := by decide +kernel
set_option maxHeartbeats 4000000 in
set_option maxRecDepth 100000 in
theorem cX9_torn_ok {l : Launch} {D : va_G} {t : Nat → ClassId} {κ : Nat → Nat} {a_mo : Nat → Nat} {s_mo : S2} {lam : S6} {out : Int32} (hf : fX9_torn s_mo = some out) : Ct l D t κ yX9_torn wsX9_torn (rmL 0) [.ref (a_mo 0)] (wModel t a_mo s_mo lam) (some (.int out)) (wModel t a_mo s_mo lam) := by
  refine Ct.ofW (own := RX9) (cc := cX9_torn) (maxL := 1) (ret := (some .int)) (by decide) rfl rfl (Nat.le_of_ble_eq_true rfl) ?_
  intro p e s m below meth c A C hP hD ls hl
  have hS : va_S A s.heap s.heap [] := va_S.rf
  obtain ⟨hx, hb, hr, hml, hown, hts, hC0, hlk, hA⟩ := id C
  have hK := hC0.1
  have hl : lv_has ls 1 [(0, .ref (a_mo 0))] := hl
  unfold fX9_torn at hf
  refine lv_aload_n hx hb dX9_torn_0 rfl (lv_at hl 0 rfl) ?_
  refine va_get (D := D) (ci := 9) (v := .int (s_mo 0 17)) (C := RX9) (T := TX9) (N := 37) hx hb hts iwX9_torn_X9 hown hK hP 0 rfl rfl 35 (by decide) (hts _ lkX9_torn_f305) (fun _ h9 => h9) rfl dX9_torn_1 ?_
  obtain rfl := so_eq hf
  exact g_iret C hP hD hS dX9_torn_4
/-! CoachCourtModel.count -/
def fX9_count_b7 (s_mo : S2) (x1 : Int32) (x2 : Int32) (x3 : Int32) (x4 : Int32) : Option ((Int32 × Int32) ⊕ (Int32 × Int32)) :=
  if (s_mo 0 0) ≤ x4 then
    (some (.inr (x2, x4)))
  else
    (gd (ixb (((3 : Int32) * x4) + (2 : Int32)) 177) <|
    nm (x2 + (s_mo 1 (Int32.toNatClampNeg (((3 : Int32) * x4) + (2 : Int32))))) fun y3 =>
    nm (x4 + (1 : Int32)) fun y4 =>
    some (.inl (y3, y4)))
def fX9_count_b39 (s_mo : S2) (x1 : Int32) (x2 : Int32) (x3 : Int32) (x4 : Int32) : Option ((Int32 × Int32) ⊕ (Int32 × Int32)) :=
  if (s_mo 0 1) ≤ x4 then
    (some (.inr (x3, x4)))
  else
    (gd (ixb (((24 : Int32) + ((5 : Int32) * x4)) + (1 : Int32)) 177) <|
    nm (x3 + (s_mo 1 (Int32.toNatClampNeg (((24 : Int32) + ((5 : Int32) * x4)) + (1 : Int32))))) fun y8 =>
    nm (x4 + (1 : Int32)) fun y9 =>
    some (.inl (y8, y9)))
def fX9_count (s_mo : S2) (p1 : Int32) : Option (Int32) :=
  (wh (fun (c : Int32 × Int32) => fX9_count_b7 s_mo p1 c.1 (0 : Int32) c.2) 5000 ((0 : Int32), (0 : Int32))).bind fun x5 =>
  (wh (fun (c : Int32 × Int32) => fX9_count_b39 s_mo p1 x5.1 c.1 c.2) 5000 ((0 : Int32), (0 : Int32))).bind fun x10 =>
  if p1 = 0 then
    (some x5.1)
  else
  if p1 = 1 then
    (some (s_mo 1 (Int32.toNatClampNeg (46 : Int32))))
  else
  if p1 = 2 then
    ((fX9_flag (s_mo 3 (Int32.toNatClampNeg (0 : Int32)))).bind fun v14 =>
    (fX9_flag (s_mo 3 (Int32.toNatClampNeg (1 : Int32)))).bind fun v15 =>
    some (v14 + v15))
  else
  if p1 = 3 then
    (some (s_mo 0 7))
  else
  if p1 = 4 then
    (if (s_mo 13 (Int32.toNatClampNeg (0 : Int32))) = (-4 : Int32) then
      (some (-4 : Int32))
    else
      (some (s_mo 14 (Int32.toNatClampNeg (0 : Int32)))))
  else
  if p1 = 5 then
    (some x10.1)
  else
  (some (-1 : Int32))
theorem hdX9_count : yX9_count.cls = RX9 ∧ yX9_count.cls ≠ "java/lang/invoke/MethodHandle" ∧ yX9_count.cls ≠ "java/lang/invoke/VarHandle" ∧ (parseMethodDescriptor yX9_count.desc).map (fun d => d.parameters.length) = some 1 := by decide +kernel
theorem iwX9_count_X9 : ∀ w ∈ wsX90, w ∈ wsX9_count := by decide +kernel
theorem lkX9_count_f81 : Cond.fieldLink RX9 81 "CoachCourtModel" "miles" "I" ∈ wsX9_count := by decide +kernel
theorem lkX9_count_f7 : Cond.fieldLink RX9 7 "CoachCourtModel" "st" "[I" ∈ wsX9_count := by decide +kernel
theorem lkX9_count_f84 : Cond.fieldLink RX9 84 "CoachCourtModel" "parties" "I" ∈ wsX9_count := by decide +kernel
theorem lkX9_count_f16 : Cond.fieldLink RX9 16 "CoachCourtModel" "isKept" "[Z" ∈ wsX9_count := by decide +kernel
theorem lkX9_count_f93 : Cond.fieldLink RX9 93 "CoachCourtModel" "taped" "I" ∈ wsX9_count := by decide +kernel
theorem lkX9_count_f47 : Cond.fieldLink RX9 47 "CoachCourtModel" "lanes" "[I" ∈ wsX9_count := by decide +kernel
theorem lkX9_count_f50 : Cond.fieldLink RX9 50 "CoachCourtModel" "sizes" "[I" ∈ wsX9_count := by decide +kernel
set_option maxHeartbeats 4000000 in
set_option maxRecDepth 100000 in
theorem wX9_count_l7 {p : Program} {l : Launch} {e : Env} {s : State} {m : MethodId} {args : Array Value} {below : List Frame} {meth : Method} {c : Code} {D : va_G} {t : Nat → ClassId} {κ : Nat → Nat} {A : Nat → Prop} {a_mo : Nat → Nat} {s_mo : S2} {lam : S6} {x1 : Int32} {x3 : Int32} {rv : Option Value} {w1 : va_W} (C : Cxt p s m args meth c cX9_count 5 RX9 wsX9_count (some .int) D t κ A) : ∀ (n : Nat) (x2 : Int32) (x4 : Int32) (x : Int32 × Int32), wh (fun (c : Int32 × Int32) => fX9_count_b7 s_mo x1 c.1 x3 c.2) n (x2, x4) = some x → (∀ (z : Int32 × Int32), x = z → ∀ (H : Heap) (locs : List Loc) (ls : Array Slot), va_P D vwCl (wModel t a_mo s_mo lam) H → va_D A (wModel t a_mo s_mo lam) → va_S A s.heap H locs → lv_has ls 5 [(0, .ref (a_mo 0)), (1, .int x1), (2, .int z.1), (3, .int x3)] → W p l e (rmL 1) s m args below meth c H locs 0 0 (MQ below (gQ D rv w1 A) args s 0 0 A) (F0 m 36 ls [])) → ∀ (H : Heap) (locs : List Loc) (ls : Array Slot), va_P D vwCl (wModel t a_mo s_mo lam) H → va_D A (wModel t a_mo s_mo lam) → va_S A s.heap H locs → lv_has ls 5 [(0, .ref (a_mo 0)), (1, .int x1), (2, .int x2), (3, .int x3), (4, .int x4)] → W p l e (rmL 1) s m args below meth c H locs 0 0 (MQ below (gQ D rv w1 A) args s 0 0 A) (F0 m 7 ls []) := by
  obtain ⟨hx, hb, hr, hml, hown, hts, hC0, hlk, hA⟩ := id C
  have hK := hC0.1
  intro n
  induction n with
  | zero =>
    intro x2 x4 x h
    exact (wh_0 h).elim
  | succ n ih =>
    intro x2 x4 x h HX H locs ls hP hD hS hl
    obtain ⟨v, hf, hB, hX⟩ := wh_step h
    have hf : fX9_count_b7 s_mo x1 x2 x3 x4 = some v := hf
    have HB : ∀ (z : Int32 × Int32), v = .inl z → ∀ (H : Heap) (locs : List Loc) (ls : Array Slot), va_P D vwCl (wModel t a_mo s_mo lam) H → va_D A (wModel t a_mo s_mo lam) → va_S A s.heap H locs → lv_has ls 5 [(0, .ref (a_mo 0)), (1, .int x1), (2, .int z.1), (3, .int x3), (4, .int z.2)] → W p l e (rmL 1) s m args below meth c H locs 0 0 (MQ below (gQ D rv w1 A) args s 0 0 A) (F0 m 7 ls []) := fun z hz H locs ls hP hD hS hl => ih z.1 z.2 x (hB z hz) HX H locs ls hP hD hS hl
    have HX : ∀ (z : Int32 × Int32), v = .inr z → ∀ (H : Heap) (locs : List Loc) (ls : Array Slot), va_P D vwCl (wModel t a_mo s_mo lam) H → va_D A (wModel t a_mo s_mo lam) → va_S A s.heap H locs → lv_has ls 5 [(0, .ref (a_mo 0)), (1, .int x1), (2, .int z.1), (3, .int x3)] → W p l e (rmL 1) s m args below meth c H locs 0 0 (MQ below (gQ D rv w1 A) args s 0 0 A) (F0 m 36 ls []) := fun z hz => HX z (hX _ hz).symm
    unfold fX9_count_b7 at hf
    refine lv_iload hx hb dX9_count_7 (lv_at hl 4 rfl) ?_
    refine lv_aload_n hx hb dX9_count_9 rfl (lv_at hl 0 rfl) ?_
    refine va_get (D := D) (ci := 9) (v := .int (s_mo 0 0)) (C := RX9) (T := TX9) (N := 37) hx hb hts iwX9_count_X9 hown hK hP 0 rfl rfl 3 (by decide) (hts _ lkX9_count_f81) (fun _ h9 => h9) rfl dX9_count_10 ?_
    refine lv_icmp_ge (tgt := 36) hx hb dX9_count_13 (by decide) (fun c1 => ?_) (fun c1 => ?_)
    · rw [if_pos c1] at hf
      obtain rfl := so_eq hf
      exact HX _ rfl _ _ _ hP hD hS (lv_sub hl [0, 1, 2, 3] rfl)
    · rw [if_neg c1] at hf
      refine lv_iload_n hx hb dX9_count_16 rfl (lv_at hl 2 rfl) ?_
      refine lv_aload_n hx hb dX9_count_17 rfl (lv_at hl 0 rfl) ?_
      refine va_get (D := D) (ci := 9) (v := .ref (a_mo 1)) (C := RX9) (T := TX9) (N := 37) hx hb hts iwX9_count_X9 hown hK hP 0 rfl rfl 0 (by decide) (hts _ lkX9_count_f7) (fun _ h9 => h9) rfl dX9_count_18 ?_
      refine lv_iconst (v := 3) hx hb dX9_count_21 (by decide) ?_
      refine lv_iload hx hb dX9_count_22 (lv_at hl 4 rfl) ?_
      refine lv_imul hx hb dX9_count_24 ?_
      refine lv_iconst (v := 2) hx hb dX9_count_25 (by decide) ?_
      refine lv_iadd hx hb dX9_count_26 ?_
      obtain ⟨b2, hf⟩ := gd_some hf
      refine va_iald hx hb hK hP 1 0 rfl rfl (ixb_in b2) dX9_count_27 ?_
      refine lv_iadd hx hb dX9_count_28 ?_
      obtain ⟨y3, hy3, hf⟩ := nm_ex hf
      refine W.eq (g2 := F0 m 29 ls [.int y3]) (by rw [hy3]) ?_
      refine lv_istore_n (lv' := [(2, .int y3), (0, .ref (a_mo 0)), (1, .int x1), (3, .int x3), (4, .int x4)]) hx hb dX9_count_29 rfl hl (by decide) rfl (fun ls hl => ?_)
      obtain ⟨y4, hy4, hf⟩ := nm_ex hf
      refine lv_iinc (v := y4) (lv' := [(4, .int y4), (2, .int y3), (0, .ref (a_mo 0)), (1, .int x1), (3, .int x3)]) hx hb dX9_count_30 hl (k := 4) rfl (by rw [hy4]; rfl) (by decide) rfl (fun ls hl => ?_)
      refine lv_goto (tgt := 7) hx hb dX9_count_33 (by decide) ?_
      obtain rfl := so_eq hf
      exact HB _ rfl _ _ _ hP hD hS (lv_sub hl [2, 3, 1, 4, 0] rfl)
set_option maxHeartbeats 4000000 in
set_option maxRecDepth 100000 in
theorem wX9_count_l39 {p : Program} {l : Launch} {e : Env} {s : State} {m : MethodId} {args : Array Value} {below : List Frame} {meth : Method} {c : Code} {D : va_G} {t : Nat → ClassId} {κ : Nat → Nat} {A : Nat → Prop} {a_mo : Nat → Nat} {s_mo : S2} {lam : S6} {x1 : Int32} {x2 : Int32} {rv : Option Value} {w1 : va_W} (C : Cxt p s m args meth c cX9_count 5 RX9 wsX9_count (some .int) D t κ A) : ∀ (n : Nat) (x3 : Int32) (x4 : Int32) (x : Int32 × Int32), wh (fun (c : Int32 × Int32) => fX9_count_b39 s_mo x1 x2 c.1 c.2) n (x3, x4) = some x → (∀ (z : Int32 × Int32), x = z → ∀ (H : Heap) (locs : List Loc) (ls : Array Slot), va_P D vwCl (wModel t a_mo s_mo lam) H → va_D A (wModel t a_mo s_mo lam) → va_S A s.heap H locs → lv_has ls 5 [(0, .ref (a_mo 0)), (1, .int x1), (2, .int x2), (3, .int z.1)] → W p l e (rmL 1) s m args below meth c H locs 0 0 (MQ below (gQ D rv w1 A) args s 0 0 A) (F0 m 71 ls [])) → ∀ (H : Heap) (locs : List Loc) (ls : Array Slot), va_P D vwCl (wModel t a_mo s_mo lam) H → va_D A (wModel t a_mo s_mo lam) → va_S A s.heap H locs → lv_has ls 5 [(0, .ref (a_mo 0)), (1, .int x1), (2, .int x2), (3, .int x3), (4, .int x4)] → W p l e (rmL 1) s m args below meth c H locs 0 0 (MQ below (gQ D rv w1 A) args s 0 0 A) (F0 m 39 ls []) := by
  obtain ⟨hx, hb, hr, hml, hown, hts, hC0, hlk, hA⟩ := id C
  have hK := hC0.1
  intro n
  induction n with
  | zero =>
    intro x3 x4 x h
    exact (wh_0 h).elim
  | succ n ih =>
    intro x3 x4 x h HX H locs ls hP hD hS hl
    obtain ⟨v, hf, hB, hX⟩ := wh_step h
    have hf : fX9_count_b39 s_mo x1 x2 x3 x4 = some v := hf
    have HB : ∀ (z : Int32 × Int32), v = .inl z → ∀ (H : Heap) (locs : List Loc) (ls : Array Slot), va_P D vwCl (wModel t a_mo s_mo lam) H → va_D A (wModel t a_mo s_mo lam) → va_S A s.heap H locs → lv_has ls 5 [(0, .ref (a_mo 0)), (1, .int x1), (2, .int x2), (3, .int z.1), (4, .int z.2)] → W p l e (rmL 1) s m args below meth c H locs 0 0 (MQ below (gQ D rv w1 A) args s 0 0 A) (F0 m 39 ls []) := fun z hz H locs ls hP hD hS hl => ih z.1 z.2 x (hB z hz) HX H locs ls hP hD hS hl
    have HX : ∀ (z : Int32 × Int32), v = .inr z → ∀ (H : Heap) (locs : List Loc) (ls : Array Slot), va_P D vwCl (wModel t a_mo s_mo lam) H → va_D A (wModel t a_mo s_mo lam) → va_S A s.heap H locs → lv_has ls 5 [(0, .ref (a_mo 0)), (1, .int x1), (2, .int x2), (3, .int z.1)] → W p l e (rmL 1) s m args below meth c H locs 0 0 (MQ below (gQ D rv w1 A) args s 0 0 A) (F0 m 71 ls []) := fun z hz => HX z (hX _ hz).symm
    unfold fX9_count_b39 at hf
    refine lv_iload hx hb dX9_count_39 (lv_at hl 4 rfl) ?_
    refine lv_aload_n hx hb dX9_count_41 rfl (lv_at hl 0 rfl) ?_
    refine va_get (D := D) (ci := 9) (v := .int (s_mo 0 1)) (C := RX9) (T := TX9) (N := 37) hx hb hts iwX9_count_X9 hown hK hP 0 rfl rfl 4 (by decide) (hts _ lkX9_count_f84) (fun _ h9 => h9) rfl dX9_count_42 ?_
    refine lv_icmp_ge (tgt := 71) hx hb dX9_count_45 (by decide) (fun c6 => ?_) (fun c6 => ?_)
    · rw [if_pos c6] at hf
      obtain rfl := so_eq hf
      exact HX _ rfl _ _ _ hP hD hS (lv_sub hl [0, 1, 2, 3] rfl)
    · rw [if_neg c6] at hf
      refine lv_iload_n hx hb dX9_count_48 rfl (lv_at hl 3 rfl) ?_
      refine lv_aload_n hx hb dX9_count_49 rfl (lv_at hl 0 rfl) ?_
      refine va_get (D := D) (ci := 9) (v := .ref (a_mo 1)) (C := RX9) (T := TX9) (N := 37) hx hb hts iwX9_count_X9 hown hK hP 0 rfl rfl 0 (by decide) (hts _ lkX9_count_f7) (fun _ h9 => h9) rfl dX9_count_50 ?_
      refine lv_bipush (v := 24) hx hb dX9_count_53 (by decide) ?_
      refine lv_iconst (v := 5) hx hb dX9_count_55 (by decide) ?_
      refine lv_iload hx hb dX9_count_56 (lv_at hl 4 rfl) ?_
      refine lv_imul hx hb dX9_count_58 ?_
      refine lv_iadd hx hb dX9_count_59 ?_
      refine lv_iconst (v := 1) hx hb dX9_count_60 (by decide) ?_
      refine lv_iadd hx hb dX9_count_61 ?_
      obtain ⟨b7, hf⟩ := gd_some hf
      refine va_iald hx hb hK hP 1 0 rfl rfl (ixb_in b7) dX9_count_62 ?_
      refine lv_iadd hx hb dX9_count_63 ?_
      obtain ⟨y8, hy8, hf⟩ := nm_ex hf
      refine W.eq (g2 := F0 m 64 ls [.int y8]) (by rw [hy8]) ?_
      refine lv_istore_n (lv' := [(3, .int y8), (0, .ref (a_mo 0)), (1, .int x1), (2, .int x2), (4, .int x4)]) hx hb dX9_count_64 rfl hl (by decide) rfl (fun ls hl => ?_)
      obtain ⟨y9, hy9, hf⟩ := nm_ex hf
      refine lv_iinc (v := y9) (lv' := [(4, .int y9), (3, .int y8), (0, .ref (a_mo 0)), (1, .int x1), (2, .int x2)]) hx hb dX9_count_65 hl (k := 4) rfl (by rw [hy9]; rfl) (by decide) rfl (fun ls hl => ?_)
      refine lv_goto (tgt := 39) hx hb dX9_count_68 (by decide) ?_
      obtain rfl := so_eq hf
      exact HB _ rfl _ _ _ hP hD hS (lv_sub hl [2, 3, 4, 1, 0] rfl)
set_option maxHeartbeats 4000000 in
set_option maxRecDepth 100000 in
theorem cX9_count_ok {l : Launch} {D : va_G} {t : Nat → ClassId} {κ : Nat → Nat} {a_mo : Nat → Nat} {s_mo : S2} {lam : S6} {p1 : Int32} {out : Int32} (hf : fX9_count s_mo p1 = some out) : Ct l D t κ yX9_count wsX9_count (rmL 1) [.ref (a_mo 0), .int p1] (wModel t a_mo s_mo lam) (some (.int out)) (wModel t a_mo s_mo lam) := by
  refine Ct.ofW (own := RX9) (cc := cX9_count) (maxL := 5) (ret := (some .int)) (by decide) rfl rfl (Nat.le_of_ble_eq_true rfl) ?_
  intro p e s m below meth c A C hP hD ls hl
  have hS : va_S A s.heap s.heap [] := va_S.rf
  obtain ⟨hx, hb, hr, hml, hown, hts, hC0, hlk, hA⟩ := id C
  have hK := hC0.1
  have hl : lv_has ls 5 [(0, .ref (a_mo 0)), (1, .int p1)] := hl
  unfold fX9_count at hf
  refine lv_iconst (v := 0) hx hb dX9_count_0 (by decide) ?_
  refine lv_istore_n (lv' := [(2, .int (0 : Int32)), (0, .ref (a_mo 0)), (1, .int p1)]) hx hb dX9_count_1 rfl hl (by decide) rfl (fun ls hl => ?_)
  refine lv_iconst (v := 0) hx hb dX9_count_2 (by decide) ?_
  refine lv_istore_n (lv' := [(3, .int (0 : Int32)), (2, .int (0 : Int32)), (0, .ref (a_mo 0)), (1, .int p1)]) hx hb dX9_count_3 rfl hl (by decide) rfl (fun ls hl => ?_)
  refine lv_iconst (v := 0) hx hb dX9_count_4 (by decide) ?_
  refine lv_istore (lv' := [(4, .int (0 : Int32)), (3, .int (0 : Int32)), (2, .int (0 : Int32)), (0, .ref (a_mo 0)), (1, .int p1)]) hx hb dX9_count_5 hl (by decide) rfl (fun ls hl => ?_)
  obtain ⟨x5, ex5, hf⟩ := bd_some hf
  refine wX9_count_l7 C 5000 (0 : Int32) (0 : Int32) x5 ex5 (fun c9 h9 H locs ls hP hD hS hl => ?_) _ _ _ hP hD hS (lv_sub hl [3, 4, 2, 1, 0] rfl)
  subst h9
  refine lv_iconst (v := 0) hx hb dX9_count_36 (by decide) ?_
  refine lv_istore (lv' := [(4, .int (0 : Int32)), (0, .ref (a_mo 0)), (1, .int p1), (2, .int x5.1), (3, .int (0 : Int32))]) hx hb dX9_count_37 hl (by decide) rfl (fun ls hl => ?_)
  obtain ⟨x10, ex10, hf⟩ := bd_some hf
  refine wX9_count_l39 C 5000 (0 : Int32) (0 : Int32) x10 ex10 (fun c9 h9 H locs ls hP hD hS hl => ?_) _ _ _ hP hD hS (lv_sub hl [1, 2, 3, 4, 0] rfl)
  subst h9
  refine lv_iload_n hx hb dX9_count_71 rfl (lv_at hl 1 rfl) ?_
  by_cases c11 : p1 = 0
  · rw [if_pos c11] at hf
    refine lv_tableIn (tgt := 112) hx hb dX9_count_72 (by rw [c11]; decide) (by rw [c11]; decide) (by rw [c11]; rfl) (by decide) ?_
    refine lv_iload_n hx hb dX9_count_112 rfl (lv_at hl 2 rfl) ?_
    obtain rfl := so_eq hf
    exact g_iret C hP hD hS dX9_count_113
  rw [if_neg c11] at hf
  by_cases c12 : p1 = 1
  · rw [if_pos c12] at hf
    refine lv_tableIn (tgt := 114) hx hb dX9_count_72 (by rw [c12]; decide) (by rw [c12]; decide) (by rw [c12]; rfl) (by decide) ?_
    refine lv_aload_n hx hb dX9_count_114 rfl (lv_at hl 0 rfl) ?_
    refine va_get (D := D) (ci := 9) (v := .ref (a_mo 1)) (C := RX9) (T := TX9) (N := 37) hx hb hts iwX9_count_X9 hown hK hP 0 rfl rfl 0 (by decide) (hts _ lkX9_count_f7) (fun _ h9 => h9) rfl dX9_count_115 ?_
    refine lv_bipush (v := 46) hx hb dX9_count_118 (by decide) ?_
    refine va_iald hx hb hK hP 1 0 rfl rfl (ixb_in (by decide)) dX9_count_120 ?_
    obtain rfl := so_eq hf
    exact g_iret C hP hD hS dX9_count_121
  rw [if_neg c12] at hf
  by_cases c13 : p1 = 2
  · rw [if_pos c13] at hf
    refine lv_tableIn (tgt := 122) hx hb dX9_count_72 (by rw [c13]; decide) (by rw [c13]; decide) (by rw [c13]; rfl) (by decide) ?_
    refine lv_aload_n hx hb dX9_count_122 rfl (lv_at hl 0 rfl) ?_
    refine va_get (D := D) (ci := 9) (v := .ref (a_mo 3)) (C := RX9) (T := TX9) (N := 37) hx hb hts iwX9_count_X9 hown hK hP 0 rfl rfl 2 (by decide) (hts _ lkX9_count_f16) (fun _ h9 => h9) rfl dX9_count_123 ?_
    refine lv_iconst (v := 0) hx hb dX9_count_126 (by decide) ?_
    refine va_zald hx hb hK hP 3 2 rfl rfl (ixb_in (by decide)) dX9_count_127 ?_
    obtain ⟨v14, ev14, hf⟩ := bd_some hf
    refine gk_S C (As := [.int (s_mo 3 (Int32.toNatClampNeg (0 : Int32)))]) (rest := []) (cX9_flag_ok (l := l) (D := D) (t := t) (κ := κ) ev14) gX9_count_X9_flag rfl ⟨rfl, rfl⟩ hdX9_flag ⟨Nat.le_of_ble_eq_true rfl, Nat.le_of_ble_eq_true rfl⟩ hP hD hS rfl hl.1 (Nat.le_of_ble_eq_true rfl) dX9_count_128 (Nat.zero_le _) (Nat.zero_le _) (fun H locs hP hD hS => ?_)
    refine W.eq (g2 := F0 m 131 ls [.int v14]) rfl ?_
    refine lv_aload_n hx hb dX9_count_131 rfl (lv_at hl 0 rfl) ?_
    refine va_get (D := D) (ci := 9) (v := .ref (a_mo 3)) (C := RX9) (T := TX9) (N := 37) hx hb hts iwX9_count_X9 hown hK hP 0 rfl rfl 2 (by decide) (hts _ lkX9_count_f16) (fun _ h9 => h9) rfl dX9_count_132 ?_
    refine lv_iconst (v := 1) hx hb dX9_count_135 (by decide) ?_
    refine va_zald hx hb hK hP 3 2 rfl rfl (ixb_in (by decide)) dX9_count_136 ?_
    obtain ⟨v15, ev15, hf⟩ := bd_some hf
    refine gk_S C (As := [.int (s_mo 3 (Int32.toNatClampNeg (1 : Int32)))]) (rest := [.int v14]) (cX9_flag_ok (l := l) (D := D) (t := t) (κ := κ) ev15) gX9_count_X9_flag rfl ⟨rfl, rfl⟩ hdX9_flag ⟨Nat.le_of_ble_eq_true rfl, Nat.le_of_ble_eq_true rfl⟩ hP hD hS rfl hl.1 (Nat.le_of_ble_eq_true rfl) dX9_count_137 (Nat.zero_le _) (Nat.zero_le _) (fun H locs hP hD hS => ?_)
    refine W.eq (g2 := F0 m 140 ls [.int v15, .int v14]) rfl ?_
    refine lv_iadd hx hb dX9_count_140 ?_
    obtain rfl := so_eq hf
    exact g_iret C hP hD hS dX9_count_141
  rw [if_neg c13] at hf
  by_cases c16 : p1 = 3
  · rw [if_pos c16] at hf
    refine lv_tableIn (tgt := 142) hx hb dX9_count_72 (by rw [c16]; decide) (by rw [c16]; decide) (by rw [c16]; rfl) (by decide) ?_
    refine lv_aload_n hx hb dX9_count_142 rfl (lv_at hl 0 rfl) ?_
    refine va_get (D := D) (ci := 9) (v := .int (s_mo 0 7)) (C := RX9) (T := TX9) (N := 37) hx hb hts iwX9_count_X9 hown hK hP 0 rfl rfl 12 (by decide) (hts _ lkX9_count_f93) (fun _ h9 => h9) rfl dX9_count_143 ?_
    obtain rfl := so_eq hf
    exact g_iret C hP hD hS dX9_count_146
  rw [if_neg c16] at hf
  by_cases c17 : p1 = 4
  · rw [if_pos c17] at hf
    refine lv_tableIn (tgt := 147) hx hb dX9_count_72 (by rw [c17]; decide) (by rw [c17]; decide) (by rw [c17]; rfl) (by decide) ?_
    refine lv_aload_n hx hb dX9_count_147 rfl (lv_at hl 0 rfl) ?_
    refine va_get (D := D) (ci := 9) (v := .ref (a_mo 13)) (C := RX9) (T := TX9) (N := 37) hx hb hts iwX9_count_X9 hown hK hP 0 rfl rfl 32 (by decide) (hts _ lkX9_count_f47) (fun _ h9 => h9) rfl dX9_count_148 ?_
    refine lv_iconst (v := 0) hx hb dX9_count_151 (by decide) ?_
    refine va_iald hx hb hK hP 13 0 rfl rfl (ixb_in (by decide)) dX9_count_152 ?_
    refine lv_bipush (v := -4) hx hb dX9_count_153 (by decide) ?_
    refine lv_icmp_ne (tgt := 163) hx hb dX9_count_155 (by decide) (fun c18 => ?_) (fun c18 => ?_)
    · rw [if_neg c18] at hf
      refine lv_aload_n hx hb dX9_count_163 rfl (lv_at hl 0 rfl) ?_
      refine va_get (D := D) (ci := 9) (v := .ref (a_mo 14)) (C := RX9) (T := TX9) (N := 37) hx hb hts iwX9_count_X9 hown hK hP 0 rfl rfl 33 (by decide) (hts _ lkX9_count_f50) (fun _ h9 => h9) rfl dX9_count_164 ?_
      refine lv_iconst (v := 0) hx hb dX9_count_167 (by decide) ?_
      refine va_iald hx hb hK hP 14 0 rfl rfl (ixb_in (by decide)) dX9_count_168 ?_
      obtain rfl := so_eq hf
      exact g_iret C hP hD hS dX9_count_169
    · rw [if_pos c18] at hf
      refine lv_bipush (v := -4) hx hb dX9_count_158 (by decide) ?_
      refine lv_goto (tgt := 169) hx hb dX9_count_160 (by decide) ?_
      obtain rfl := so_eq hf
      exact g_iret C hP hD hS dX9_count_169
  rw [if_neg c17] at hf
  by_cases c19 : p1 = 5
  · rw [if_pos c19] at hf
    refine lv_tableIn (tgt := 170) hx hb dX9_count_72 (by rw [c19]; decide) (by rw [c19]; decide) (by rw [c19]; rfl) (by decide) ?_
    refine lv_iload_n hx hb dX9_count_170 rfl (lv_at hl 3 rfl) ?_
    obtain rfl := so_eq hf
    exact g_iret C hP hD hS dX9_count_171
  rw [if_neg c19] at hf
  refine lv_tableOut (tgt := 172) hx hb dX9_count_72 (by have nc11 := lv_neT c11 (a := 0) (by decide); have nc12 := lv_neT c12 (a := 1) (by decide); have nc13 := lv_neT c13 (a := 2) (by decide); have nc16 := lv_neT c16 (a := 3) (by decide); have nc17 := lv_neT c17 (a := 4) (by decide); have nc19 := lv_neT c19 (a := 5) (by decide); have z := Int32.le_toInt p1; have z2 := Int32.toInt_lt p1; omega) (by decide) ?_
  refine lv_iconst (v := -1) hx hb dX9_count_172 (by decide) ?_
  obtain rfl := so_eq hf
  exact g_iret C hP hD hS dX9_count_173
