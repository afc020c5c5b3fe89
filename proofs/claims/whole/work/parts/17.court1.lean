/-! CoachCourt.power -/
def fX8_power_b5 (x0 : Int32) (x1 : Int32) (x2 : Int64) (x4 : Int32) : Option ((Int64 × Int32) ⊕ (Int64 × Int32)) :=
  if x1 ≤ x4 then
    (some (.inr (x2, x4)))
  else
    (nm (x2 * (Int32.toInt64 x0)) fun y2 =>
    nm (x4 + (1 : Int32)) fun y3 =>
    some (.inl (y2, y3)))
def fX8_power (p1 : Int32) (p2 : Int32) : Option (Int64) :=
  (wh (fun (c : Int64 × Int32) => fX8_power_b5 p1 p2 c.1 c.2) 5000 ((1 : Int64), (0 : Int32))).bind fun x4 =>
  some x4.1
theorem hdX8_power : yX8_power.cls ≠ "java/lang/invoke/MethodHandle" ∧ yX8_power.cls ≠ "java/lang/invoke/VarHandle" ∧ (parseMethodDescriptor yX8_power.desc).map (fun d => d.parameters.length) = some 2 := by decide +kernel
set_option maxHeartbeats 4000000 in
set_option maxRecDepth 100000 in
theorem wX8_power_l5 {p : Program} {l : Launch} {e : Env} {s : State} {m : MethodId} {args : Array Value} {below : List Frame} {meth : Method} {c : Code} {D : va_G} {t : Nat → ClassId} {κ : Nat → Nat} {A : Nat → Prop} {x0 : Int32} {x1 : Int32} {rv : Option Value} {w1 : va_W} (C : Cxt p s m args meth c cX8_power 5 RX8 wsX8_power (some .long) D t κ A) : ∀ (n : Nat) (x2 : Int64) (x4 : Int32) (x : Int64 × Int32), wh (fun (c : Int64 × Int32) => fX8_power_b5 x0 x1 c.1 c.2) n (x2, x4) = some x → (∀ (z : Int64 × Int32), x = z → ∀ (H : Heap) (locs : List Loc) (ls : Array Slot), va_P D vwCl ([] : va_W) H → va_D A ([] : va_W) → va_S A s.heap H locs → lv_has ls 5 [(2, .long z.1)] → W p l e (rmL 0) s m args below meth c H locs 0 0 (MQ below (gQ D rv w1 A) args s 0 0 A) (F0 m 22 ls [])) → ∀ (H : Heap) (locs : List Loc) (ls : Array Slot), va_P D vwCl ([] : va_W) H → va_D A ([] : va_W) → va_S A s.heap H locs → lv_has ls 5 [(0, .int x0), (1, .int x1), (2, .long x2), (4, .int x4)] → W p l e (rmL 0) s m args below meth c H locs 0 0 (MQ below (gQ D rv w1 A) args s 0 0 A) (F0 m 5 ls []) := by
  obtain ⟨hx, hb, hr, hml, hown, hts, hC0, hlk, hA⟩ := id C
  have hK := hC0.1
  intro n
  induction n with
  | zero =>
    intro x2 x4 x h
    exact (wh_0 h).elim
  | succ n ih =>
    intro x2 x4 x h HX H locs ls hP hD hS hl
    obtain ⟨v, hf, hB, hX⟩ := wh_step h
    have hf : fX8_power_b5 x0 x1 x2 x4 = some v := hf
    have HB : ∀ (z : Int64 × Int32), v = .inl z → ∀ (H : Heap) (locs : List Loc) (ls : Array Slot), va_P D vwCl ([] : va_W) H → va_D A ([] : va_W) → va_S A s.heap H locs → lv_has ls 5 [(0, .int x0), (1, .int x1), (2, .long z.1), (4, .int z.2)] → W p l e (rmL 0) s m args below meth c H locs 0 0 (MQ below (gQ D rv w1 A) args s 0 0 A) (F0 m 5 ls []) := fun z hz H locs ls hP hD hS hl => ih z.1 z.2 x (hB z hz) HX H locs ls hP hD hS hl
    have HX : ∀ (z : Int64 × Int32), v = .inr z → ∀ (H : Heap) (locs : List Loc) (ls : Array Slot), va_P D vwCl ([] : va_W) H → va_D A ([] : va_W) → va_S A s.heap H locs → lv_has ls 5 [(2, .long z.1)] → W p l e (rmL 0) s m args below meth c H locs 0 0 (MQ below (gQ D rv w1 A) args s 0 0 A) (F0 m 22 ls []) := fun z hz => HX z (hX _ hz).symm
    unfold fX8_power_b5 at hf
    refine lv_iload hx hb dX8_power_5 (lv_at hl 3 rfl) ?_
    refine lv_iload_n hx hb dX8_power_7 rfl (lv_at hl 1 rfl) ?_
    refine lv_icmp_ge (tgt := 22) hx hb dX8_power_8 (by decide) (fun c1 => ?_) (fun c1 => ?_)
    · rw [if_pos c1] at hf
      obtain rfl := so_eq hf
      exact HX _ rfl _ _ _ hP hD hS (lv_sub hl [2] rfl)
    · rw [if_neg c1] at hf
      refine lv_lload_n hx hb dX8_power_11 rfl (lv_at hl 2 rfl) ?_
      refine lv_iload_n hx hb dX8_power_12 rfl (lv_at hl 0 rfl) ?_
      refine lv_i2l hx hb dX8_power_13 rfl ?_
      refine lv_lmul hx hb dX8_power_14 ?_
      obtain ⟨y2, hy2, hf⟩ := nm_ex hf
      refine W.eq (g2 := F0 m 15 ls [.long y2]) (by rw [hy2]) ?_
      refine lv_lstore_n (lv' := [(2, .long y2), (0, .int x0), (1, .int x1), (4, .int x4)]) hx hb dX8_power_15 rfl hl (by decide) rfl (fun ls hl => ?_)
      obtain ⟨y3, hy3, hf⟩ := nm_ex hf
      refine lv_iinc (v := y3) (lv' := [(4, .int y3), (2, .long y2), (0, .int x0), (1, .int x1)]) hx hb dX8_power_16 hl (k := 3) rfl (by rw [hy3]; rfl) (by decide) rfl (fun ls hl => ?_)
      refine lv_goto (tgt := 5) hx hb dX8_power_19 (by decide) ?_
      obtain rfl := so_eq hf
      exact HB _ rfl _ _ _ hP hD hS (lv_sub hl [2, 3, 1, 0] rfl)
set_option maxHeartbeats 4000000 in
set_option maxRecDepth 100000 in
theorem cX8_power_ok {l : Launch} {D : va_G} {t : Nat → ClassId} {κ : Nat → Nat} {p1 : Int32} {p2 : Int32} {out : Int64} (hf : fX8_power p1 p2 = some out) : Ct l D t κ yX8_power wsX8_power (rmL 0) [.int p1, .int p2] ([] : va_W) (some (.long out)) ([] : va_W) := by
  refine Ct.ofW (own := RX8) (cc := cX8_power) (maxL := 5) (ret := (some .long)) (by decide) rfl rfl (Nat.le_of_ble_eq_true rfl) ?_
  intro p e s m below meth c A C hP hD ls hl
  have hS : va_S A s.heap s.heap [] := va_S.rf
  obtain ⟨hx, hb, hr, hml, hown, hts, hC0, hlk, hA⟩ := id C
  have hK := hC0.1
  have hl : lv_has ls 5 [(0, .int p1), (1, .int p2)] := hl
  unfold fX8_power at hf
  refine lv_lconst (v := 1) hx hb dX8_power_0 (by decide) ?_
  refine lv_lstore_n (lv' := [(2, .long (1 : Int64)), (0, .int p1), (1, .int p2)]) hx hb dX8_power_1 rfl hl (by decide) rfl (fun ls hl => ?_)
  refine lv_iconst (v := 0) hx hb dX8_power_2 (by decide) ?_
  refine lv_istore (lv' := [(4, .int (0 : Int32)), (2, .long (1 : Int64)), (0, .int p1), (1, .int p2)]) hx hb dX8_power_3 hl (by decide) rfl (fun ls hl => ?_)
  obtain ⟨x4, ex4, hf⟩ := bd_some hf
  refine wX8_power_l5 C 5000 (1 : Int64) (0 : Int32) x4 ex4 (fun c9 h9 H locs ls hP hD hS hl => ?_) _ _ _ hP hD hS (lv_sub hl [2, 3, 1, 0] rfl)
  subst h9
  refine lv_lload_n hx hb dX8_power_22 rfl (lv_at hl 0 rfl) ?_
  obtain rfl := so_eq hf
  exact g_lret C hP hD hS dX8_power_23
/-! CoachCourt.commonDivisor -/
def fX8_commonDivisor_b9 (x4 : Int64) (x6 : Int64) (x8 : Int32) : Option ((Int64 × Int64 × Int32) ⊕ (Int64 × Int64 × Int32)) :=
  if (200 : Int32) ≤ x8 then
    (some (.inr (x4, x6, x8)))
  else
    (if (lg_cmp x6 (0 : Int64)) = (0 : Int32) then
      (some (.inr (x4, x6, x8)))
    else
      (gd (nzl x6) <|
      nm (x4 - x4 / x6 * x6) fun y4 =>
      nm (x8 + (1 : Int32)) fun y5 =>
      some (.inl (x6, y4, y5))))
def fX8_commonDivisor (p1 : Int64) (p2 : Int64) : Option (Int64) :=
  (wh (fun (c : Int64 × Int64 × Int32) => fX8_commonDivisor_b9 c.1 c.2.1 c.2.2) 5000 (p1, p2, (0 : Int32))).bind fun x6 =>
  some x6.1
theorem hdX8_commonDivisor : yX8_commonDivisor.cls ≠ "java/lang/invoke/MethodHandle" ∧ yX8_commonDivisor.cls ≠ "java/lang/invoke/VarHandle" ∧ (parseMethodDescriptor yX8_commonDivisor.desc).map (fun d => d.parameters.length) = some 2 := by decide +kernel
set_option maxHeartbeats 4000000 in
set_option maxRecDepth 100000 in
theorem wX8_commonDivisor_l9 {p : Program} {l : Launch} {e : Env} {s : State} {m : MethodId} {args : Array Value} {below : List Frame} {meth : Method} {c : Code} {D : va_G} {t : Nat → ClassId} {κ : Nat → Nat} {A : Nat → Prop} {rv : Option Value} {w1 : va_W} (C : Cxt p s m args meth c cX8_commonDivisor 11 RX8 wsX8_commonDivisor (some .long) D t κ A) : ∀ (n : Nat) (x4 : Int64) (x6 : Int64) (x8 : Int32) (x : Int64 × Int64 × Int32), wh (fun (c : Int64 × Int64 × Int32) => fX8_commonDivisor_b9 c.1 c.2.1 c.2.2) n (x4, x6, x8) = some x → (∀ (z : Int64 × Int64 × Int32), x = z → ∀ (H : Heap) (locs : List Loc) (ls : Array Slot), va_P D vwCl ([] : va_W) H → va_D A ([] : va_W) → va_S A s.heap H locs → lv_has ls 11 [(4, .long z.1)] → W p l e (rmL 0) s m args below meth c H locs 0 0 (MQ below (gQ D rv w1 A) args s 0 0 A) (F0 m 45 ls [])) → ∀ (H : Heap) (locs : List Loc) (ls : Array Slot), va_P D vwCl ([] : va_W) H → va_D A ([] : va_W) → va_S A s.heap H locs → lv_has ls 11 [(4, .long x4), (6, .long x6), (8, .int x8)] → W p l e (rmL 0) s m args below meth c H locs 0 0 (MQ below (gQ D rv w1 A) args s 0 0 A) (F0 m 9 ls []) := by
  obtain ⟨hx, hb, hr, hml, hown, hts, hC0, hlk, hA⟩ := id C
  have hK := hC0.1
  intro n
  induction n with
  | zero =>
    intro x4 x6 x8 x h
    exact (wh_0 h).elim
  | succ n ih =>
    intro x4 x6 x8 x h HX H locs ls hP hD hS hl
    obtain ⟨v, hf, hB, hX⟩ := wh_step h
    have hf : fX8_commonDivisor_b9 x4 x6 x8 = some v := hf
    have HB : ∀ (z : Int64 × Int64 × Int32), v = .inl z → ∀ (H : Heap) (locs : List Loc) (ls : Array Slot), va_P D vwCl ([] : va_W) H → va_D A ([] : va_W) → va_S A s.heap H locs → lv_has ls 11 [(4, .long z.1), (6, .long z.2.1), (8, .int z.2.2)] → W p l e (rmL 0) s m args below meth c H locs 0 0 (MQ below (gQ D rv w1 A) args s 0 0 A) (F0 m 9 ls []) := fun z hz H locs ls hP hD hS hl => ih z.1 z.2.1 z.2.2 x (hB z hz) HX H locs ls hP hD hS hl
    have HX : ∀ (z : Int64 × Int64 × Int32), v = .inr z → ∀ (H : Heap) (locs : List Loc) (ls : Array Slot), va_P D vwCl ([] : va_W) H → va_D A ([] : va_W) → va_S A s.heap H locs → lv_has ls 11 [(4, .long z.1)] → W p l e (rmL 0) s m args below meth c H locs 0 0 (MQ below (gQ D rv w1 A) args s 0 0 A) (F0 m 45 ls []) := fun z hz => HX z (hX _ hz).symm
    unfold fX8_commonDivisor_b9 at hf
    refine lv_iload hx hb dX8_commonDivisor_9 (lv_at hl 2 rfl) ?_
    refine lv_sipush (v := 200) hx hb dX8_commonDivisor_11 (by decide) ?_
    refine lv_icmp_ge (tgt := 45) hx hb dX8_commonDivisor_14 (by decide) (fun c1 => ?_) (fun c1 => ?_)
    · rw [if_pos c1] at hf
      obtain rfl := so_eq hf
      exact HX _ rfl _ _ _ hP hD hS (lv_sub hl [0] rfl)
    · rw [if_neg c1] at hf
      refine lv_lload hx hb dX8_commonDivisor_17 (lv_at hl 1 rfl) ?_
      refine lv_lconst (v := 0) hx hb dX8_commonDivisor_19 (by decide) ?_
      refine W.lcmp hx hb dX8_commonDivisor_20 ?_
      refine lv_if_eq (tgt := 45) hx hb dX8_commonDivisor_21 (by decide) (fun c2 => ?_) (fun c2 => ?_)
      · rw [if_pos c2] at hf
        obtain rfl := so_eq hf
        exact HX _ rfl _ _ _ hP hD hS (lv_sub hl [0] rfl)
      · rw [if_neg c2] at hf
        refine lv_lload hx hb dX8_commonDivisor_24 (lv_at hl 0 rfl) ?_
        refine lv_lload hx hb dX8_commonDivisor_26 (lv_at hl 1 rfl) ?_
        obtain ⟨b3, hf⟩ := gd_some hf
        refine lv_lrem hx hb dX8_commonDivisor_28 (nzl_ne b3) ?_
        obtain ⟨y4, hy4, hf⟩ := nm_ex hf
        refine W.eq (g2 := F0 m 29 ls [.long y4]) (by rw [hy4]) ?_
        refine lv_lstore (lv' := [(9, .long y4), (4, .long x4), (6, .long x6), (8, .int x8)]) hx hb dX8_commonDivisor_29 hl (by decide) rfl (fun ls hl => ?_)
        refine lv_lload hx hb dX8_commonDivisor_31 (lv_at hl 2 rfl) ?_
        refine lv_lstore (lv' := [(4, .long x6), (9, .long y4), (6, .long x6), (8, .int x8)]) hx hb dX8_commonDivisor_33 hl (by decide) rfl (fun ls hl => ?_)
        refine lv_lload hx hb dX8_commonDivisor_35 (lv_at hl 1 rfl) ?_
        refine lv_lstore (lv' := [(6, .long y4), (4, .long x6), (9, .long y4), (8, .int x8)]) hx hb dX8_commonDivisor_37 hl (by decide) rfl (fun ls hl => ?_)
        obtain ⟨y5, hy5, hf⟩ := nm_ex hf
        refine lv_iinc (v := y5) (lv' := [(8, .int y5), (6, .long y4), (4, .long x6), (9, .long y4)]) hx hb dX8_commonDivisor_39 hl (k := 3) rfl (by rw [hy5]; rfl) (by decide) rfl (fun ls hl => ?_)
        refine lv_goto (tgt := 9) hx hb dX8_commonDivisor_42 (by decide) ?_
        obtain rfl := so_eq hf
        exact HB _ rfl _ _ _ hP hD hS (lv_sub hl [2, 1, 0] rfl)
set_option maxHeartbeats 4000000 in
set_option maxRecDepth 100000 in
theorem cX8_commonDivisor_ok {l : Launch} {D : va_G} {t : Nat → ClassId} {κ : Nat → Nat} {p1 : Int64} {p2 : Int64} {out : Int64} (hf : fX8_commonDivisor p1 p2 = some out) : Ct l D t κ yX8_commonDivisor wsX8_commonDivisor (rmL 0) [.long p1, .long p2] ([] : va_W) (some (.long out)) ([] : va_W) := by
  refine Ct.ofW (own := RX8) (cc := cX8_commonDivisor) (maxL := 11) (ret := (some .long)) (by decide) rfl rfl (Nat.le_of_ble_eq_true rfl) ?_
  intro p e s m below meth c A C hP hD ls hl
  have hS : va_S A s.heap s.heap [] := va_S.rf
  obtain ⟨hx, hb, hr, hml, hown, hts, hC0, hlk, hA⟩ := id C
  have hK := hC0.1
  have hl : lv_has ls 11 [(0, .long p1), (2, .long p2)] := hl
  unfold fX8_commonDivisor at hf
  refine lv_lload_n hx hb dX8_commonDivisor_0 rfl (lv_at hl 0 rfl) ?_
  refine lv_lstore (lv' := [(4, .long p1), (0, .long p1), (2, .long p2)]) hx hb dX8_commonDivisor_1 hl (by decide) rfl (fun ls hl => ?_)
  refine lv_lload_n hx hb dX8_commonDivisor_3 rfl (lv_at hl 2 rfl) ?_
  refine lv_lstore (lv' := [(6, .long p2), (4, .long p1), (0, .long p1), (2, .long p2)]) hx hb dX8_commonDivisor_4 hl (by decide) rfl (fun ls hl => ?_)
  refine lv_iconst (v := 0) hx hb dX8_commonDivisor_6 (by decide) ?_
  refine lv_istore (lv' := [(8, .int (0 : Int32)), (6, .long p2), (4, .long p1), (0, .long p1), (2, .long p2)]) hx hb dX8_commonDivisor_7 hl (by decide) rfl (fun ls hl => ?_)
  obtain ⟨x6, ex6, hf⟩ := bd_some hf
  refine wX8_commonDivisor_l9 C 5000 p1 p2 (0 : Int32) x6 ex6 (fun c9 h9 H locs ls hP hD hS hl => ?_) _ _ _ hP hD hS (lv_sub hl [2, 1, 0] rfl)
  subst h9
  refine lv_lload hx hb dX8_commonDivisor_45 (lv_at hl 0 rfl) ?_
  obtain rfl := so_eq hf
  exact g_lret C hP hD hS dX8_commonDivisor_47
/-! CoachCourt.partOfFraction -/
def fX8_partOfFraction (p1 : Int64) (p2 : Int64) (p3 : Int32) : Option (Int64) :=
  (fX8_commonDivisor p1 p2).bind fun v1 =>
  if (lg_cmp v1 (0 : Int64)) = (0 : Int32) then
    (some (0 : Int64))
  else
    (if p3 = (0 : Int32) then
      (gd (nzl v1) <|
      some (p1 / v1))
    else
      (gd (nzl v1) <|
      some (p2 / v1)))
theorem hdX8_partOfFraction : yX8_partOfFraction.cls ≠ "java/lang/invoke/MethodHandle" ∧ yX8_partOfFraction.cls ≠ "java/lang/invoke/VarHandle" ∧ (parseMethodDescriptor yX8_partOfFraction.desc).map (fun d => d.parameters.length) = some 3 := by decide +kernel
set_option maxHeartbeats 4000000 in
set_option maxRecDepth 100000 in
theorem cX8_partOfFraction_ok {l : Launch} {D : va_G} {t : Nat → ClassId} {κ : Nat → Nat} {p1 : Int64} {p2 : Int64} {p3 : Int32} {out : Int64} (hf : fX8_partOfFraction p1 p2 p3 = some out) : Ct l D t κ yX8_partOfFraction wsX8_partOfFraction (rmL 1) [.long p1, .long p2, .int p3] ([] : va_W) (some (.long out)) ([] : va_W) := by
  refine Ct.ofW (own := RX8) (cc := cX8_partOfFraction) (maxL := 7) (ret := (some .long)) (by decide) rfl rfl (Nat.le_of_ble_eq_true rfl) ?_
  intro p e s m below meth c A C hP hD ls hl
  have hS : va_S A s.heap s.heap [] := va_S.rf
  obtain ⟨hx, hb, hr, hml, hown, hts, hC0, hlk, hA⟩ := id C
  have hK := hC0.1
  have hl : lv_has ls 7 [(0, .long p1), (2, .long p2), (4, .int p3)] := hl
  unfold fX8_partOfFraction at hf
  refine lv_lload_n hx hb dX8_partOfFraction_0 rfl (lv_at hl 0 rfl) ?_
  refine lv_lload_n hx hb dX8_partOfFraction_1 rfl (lv_at hl 1 rfl) ?_
  obtain ⟨v1, ev1, hf⟩ := bd_some hf
  refine gk_S C (As := [.long p1, .long p2]) (rest := []) (cX8_commonDivisor_ok (l := l) (D := D) (t := t) (κ := κ) ev1) gX8_partOfFraction_X8_commonDivisor rfl ⟨rfl, rfl⟩ hdX8_commonDivisor ⟨Nat.le_of_ble_eq_true rfl, Nat.le_of_ble_eq_true rfl⟩ hP hD hS rfl hl.1 (Nat.le_of_ble_eq_true rfl) dX8_partOfFraction_2 (Nat.zero_le _) (Nat.zero_le _) (fun H locs hP hD hS => ?_)
  refine W.eq (g2 := F0 m 5 ls [.long v1]) rfl ?_
  refine lv_lstore (lv' := [(5, .long v1), (0, .long p1), (2, .long p2), (4, .int p3)]) hx hb dX8_partOfFraction_5 hl (by decide) rfl (fun ls hl => ?_)
  refine lv_lload hx hb dX8_partOfFraction_7 (lv_at hl 0 rfl) ?_
  refine lv_lconst (v := 0) hx hb dX8_partOfFraction_9 (by decide) ?_
  refine W.lcmp hx hb dX8_partOfFraction_10 ?_
  refine lv_if_ne (tgt := 16) hx hb dX8_partOfFraction_11 (by decide) (fun c2 => ?_) (fun c2 => ?_)
  · rw [if_neg c2] at hf
    refine lv_iload hx hb dX8_partOfFraction_16 (lv_at hl 3 rfl) ?_
    refine lv_if_ne (tgt := 25) hx hb dX8_partOfFraction_18 (by decide) (fun c3 => ?_) (fun c3 => ?_)
    · rw [if_neg c3] at hf
      refine lv_lload_n hx hb dX8_partOfFraction_25 rfl (lv_at hl 2 rfl) ?_
      refine lv_lload hx hb dX8_partOfFraction_26 (lv_at hl 0 rfl) ?_
      obtain ⟨b4, hf⟩ := gd_some hf
      refine lv_ldiv hx hb dX8_partOfFraction_28 (nzl_ne b4) ?_
      obtain rfl := so_eq hf
      exact g_lret C hP hD hS dX8_partOfFraction_29
    · rw [if_pos c3] at hf
      refine lv_lload_n hx hb dX8_partOfFraction_21 rfl (lv_at hl 1 rfl) ?_
      refine lv_goto (tgt := 26) hx hb dX8_partOfFraction_22 (by decide) ?_
      refine lv_lload hx hb dX8_partOfFraction_26 (lv_at hl 0 rfl) ?_
      obtain ⟨b5, hf⟩ := gd_some hf
      refine lv_ldiv hx hb dX8_partOfFraction_28 (nzl_ne b5) ?_
      obtain rfl := so_eq hf
      exact g_lret C hP hD hS dX8_partOfFraction_29
  · rw [if_pos c2] at hf
    refine lv_lconst (v := 0) hx hb dX8_partOfFraction_14 (by decide) ?_
    obtain rfl := so_eq hf
    exact g_lret C hP hD hS dX8_partOfFraction_15
/-! CoachCourt.nextSeed -/
def fX8_nextSeed (p1 : Int32) : Option (Int32) :=
  some ((p1 * (1103515245 : Int32)) + (12345 : Int32))
theorem hdX8_nextSeed : yX8_nextSeed.cls ≠ "java/lang/invoke/MethodHandle" ∧ yX8_nextSeed.cls ≠ "java/lang/invoke/VarHandle" ∧ (parseMethodDescriptor yX8_nextSeed.desc).map (fun d => d.parameters.length) = some 1 := by decide +kernel
theorem lkX8_nextSeed_c323 : Cond.constant RX8 323 (1103515245) ∈ wsX8_nextSeed := by decide +kernel
set_option maxHeartbeats 4000000 in
set_option maxRecDepth 100000 in
theorem cX8_nextSeed_ok {l : Launch} {D : va_G} {t : Nat → ClassId} {κ : Nat → Nat} {p1 : Int32} {out : Int32} (hf : fX8_nextSeed p1 = some out) : Ct l D t κ yX8_nextSeed wsX8_nextSeed (rmL 0) [.int p1] ([] : va_W) (some (.int out)) ([] : va_W) := by
  refine Ct.ofW (own := RX8) (cc := cX8_nextSeed) (maxL := 1) (ret := (some .int)) (by decide) rfl rfl (Nat.le_of_ble_eq_true rfl) ?_
  intro p e s m below meth c A C hP hD ls hl
  have hS : va_S A s.heap s.heap [] := va_S.rf
  obtain ⟨hx, hb, hr, hml, hown, hts, hC0, hlk, hA⟩ := id C
  have hK := hC0.1
  have hl : lv_has ls 1 [(0, .int p1)] := hl
  unfold fX8_nextSeed at hf
  refine lv_iload_n hx hb dX8_nextSeed_0 rfl (lv_at hl 0 rfl) ?_
  refine lv_ldcw hx hb hown (hts _ lkX8_nextSeed_c323) dX8_nextSeed_1 ?_
  refine lv_imul hx hb dX8_nextSeed_4 ?_
  refine lv_sipush (v := 12345) hx hb dX8_nextSeed_5 (by decide) ?_
  refine lv_iadd hx hb dX8_nextSeed_8 ?_
  obtain rfl := so_eq hf
  exact g_iret C hP hD hS dX8_nextSeed_9
/-! CoachCourt.drawnOf -/
def fX8_drawnOf (p1 : Int32) : Option (Int32) :=
  some (((p1.toUInt32 >>> (Int32.toUInt32 (16 : Int32) &&& Int32.toUInt32 31)).toInt32) &&& (32767 : Int32))
theorem hdX8_drawnOf : yX8_drawnOf.cls ≠ "java/lang/invoke/MethodHandle" ∧ yX8_drawnOf.cls ≠ "java/lang/invoke/VarHandle" ∧ (parseMethodDescriptor yX8_drawnOf.desc).map (fun d => d.parameters.length) = some 1 := by decide +kernel
set_option maxHeartbeats 4000000 in
set_option maxRecDepth 100000 in
theorem cX8_drawnOf_ok {l : Launch} {D : va_G} {t : Nat → ClassId} {κ : Nat → Nat} {p1 : Int32} {out : Int32} (hf : fX8_drawnOf p1 = some out) : Ct l D t κ yX8_drawnOf wsX8_drawnOf (rmL 0) [.int p1] ([] : va_W) (some (.int out)) ([] : va_W) := by
  refine Ct.ofW (own := RX8) (cc := cX8_drawnOf) (maxL := 1) (ret := (some .int)) (by decide) rfl rfl (Nat.le_of_ble_eq_true rfl) ?_
  intro p e s m below meth c A C hP hD ls hl
  have hS : va_S A s.heap s.heap [] := va_S.rf
  obtain ⟨hx, hb, hr, hml, hown, hts, hC0, hlk, hA⟩ := id C
  have hK := hC0.1
  have hl : lv_has ls 1 [(0, .int p1)] := hl
  unfold fX8_drawnOf at hf
  refine lv_iload_n hx hb dX8_drawnOf_0 rfl (lv_at hl 0 rfl) ?_
  refine lv_bipush (v := 16) hx hb dX8_drawnOf_1 (by decide) ?_
  refine lv_iushr hx hb dX8_drawnOf_3 rfl ?_
  refine lv_sipush (v := 32767) hx hb dX8_drawnOf_4 (by decide) ?_
  refine lv_iand hx hb dX8_drawnOf_7 ?_
  obtain rfl := so_eq hf
  exact g_iret C hP hD hS dX8_drawnOf_8
/-! CoachCourt.feed -/
def fX8_feed (s_cc : S2) (s_tp : S2) (p1 : Int32) : Option (Int32 × S2) :=
  (fX8_within p1 (0 : Int32) (127 : Int32)).bind fun v1 =>
  if v1 = (0 : Int32) then
    (some ((-1 : Int32), s_tp))
  else
    ((fX6_put s_tp p1).bind fun v3 =>
    if v3.1 = (0 : Int32) then
      (some ((-3 : Int32), v3.2))
    else
      (some (v3.2 0 0, v3.2)))
theorem hdX8_feed : yX8_feed.cls = RX8 ∧ yX8_feed.cls ≠ "java/lang/invoke/MethodHandle" ∧ yX8_feed.cls ≠ "java/lang/invoke/VarHandle" ∧ (parseMethodDescriptor yX8_feed.desc).map (fun d => d.parameters.length) = some 1 := by decide +kernel
theorem iwX8_feed_X8 : ∀ w ∈ wsX80, w ∈ wsX8_feed := by decide +kernel
theorem lkX8_feed_f10 : Cond.fieldLink RX8 10 "CoachCourt" "tape" "LCoachCourt$Tape;" ∈ wsX8_feed := by decide +kernel
theorem iwX8_feed_X6 : ∀ w ∈ wsX60, w ∈ wsX8_feed := by decide +kernel
set_option maxHeartbeats 4000000 in
set_option maxRecDepth 100000 in
theorem cX8_feed_ok {l : Launch} {D : va_G} {t : Nat → ClassId} {κ : Nat → Nat} {a_cc : Nat → Nat} {y_cc_teller : Nat} {y_cc_road : Nat} {y_cc_trial : Nat} {y_cc_drive : Nat} {y_cc_seeker : Nat} {y_cc_seen : Nat} {y_cc_images : Nat} {y_cc_sheets : Nat} {a_tp : Nat → Nat} {s_cc : S2} {s_tp : S2} {p1 : Int32} {out : Int32 × S2} (hf : fX8_feed s_cc s_tp p1 = some out) : Ct l D t κ yX8_feed wsX8_feed (rmL 1) [.ref (a_cc 0), .int p1] ((wCC t a_cc (a_tp 0) y_cc_teller y_cc_road y_cc_trial y_cc_drive y_cc_seeker y_cc_seen y_cc_images y_cc_sheets s_cc) ++ (wTape t a_tp s_tp)) (some (.int out.1)) ((wCC t a_cc (a_tp 0) y_cc_teller y_cc_road y_cc_trial y_cc_drive y_cc_seeker y_cc_seen y_cc_images y_cc_sheets s_cc) ++ (wTape t a_tp out.2)) := by
  refine Ct.ofW (own := RX8) (cc := cX8_feed) (maxL := 2) (ret := (some .int)) (by decide) rfl rfl (Nat.le_of_ble_eq_true rfl) ?_
  intro p e s m below meth c A C hP hD ls hl
  have hS : va_S A s.heap s.heap [] := va_S.rf
  obtain ⟨hx, hb, hr, hml, hown, hts, hC0, hlk, hA⟩ := id C
  have hK := hC0.1
  have hl : lv_has ls 2 [(0, .ref (a_cc 0)), (1, .int p1)] := hl
  unfold fX8_feed at hf
  refine lv_iload_n hx hb dX8_feed_0 rfl (lv_at hl 1 rfl) ?_
  refine lv_iconst (v := 0) hx hb dX8_feed_1 (by decide) ?_
  refine lv_bipush (v := 127) hx hb dX8_feed_2 (by decide) ?_
  obtain ⟨v1, ev1, hf⟩ := bd_some hf
  refine gk_S C (As := [.int p1, .int (0 : Int32), .int (127 : Int32)]) (rest := []) (cX8_within_ok (l := l) (D := D) (t := t) (κ := κ) ev1) gX8_feed_X8_within rfl ⟨rfl, rfl⟩ hdX8_within ⟨Nat.le_of_ble_eq_true rfl, Nat.le_of_ble_eq_true rfl⟩ hP hD hS rfl hl.1 (Nat.le_of_ble_eq_true rfl) dX8_feed_4 (Nat.zero_le _) (Nat.zero_le _) (fun H locs hP hD hS => ?_)
  refine W.eq (g2 := F0 m 7 ls [.int v1]) rfl ?_
  refine lv_if_ne (tgt := 12) hx hb dX8_feed_7 (by decide) (fun c2 => ?_) (fun c2 => ?_)
  · rw [if_neg c2] at hf
    refine lv_aload_n hx hb dX8_feed_12 rfl (lv_at hl 0 rfl) ?_
    refine va_get (D := D) (ci := 8) (v := .ref (a_tp 0)) (C := RX8) (T := TX8) (N := 11) hx hb hts iwX8_feed_X8 hown hK hP 0 rfl rfl 0 (by decide) (hts _ lkX8_feed_f10) (fun _ h9 => h9) rfl dX8_feed_13 ?_
    refine lv_iload_n hx hb dX8_feed_16 rfl (lv_at hl 1 rfl) ?_
    obtain ⟨v3, ev3, hf⟩ := bd_some hf
    refine gk_V C (As := [.int p1]) (rest := []) (ci := 6) (q := (RX6, TX6, 7)) (q0 := 0) (wr := (wCC t a_cc (a_tp 0) y_cc_teller y_cc_road y_cc_trial y_cc_drive y_cc_seeker y_cc_seen y_cc_images y_cc_sheets s_cc)) (wf := ((wCC t a_cc (a_tp 0) y_cc_teller y_cc_road y_cc_trial y_cc_drive y_cc_seeker y_cc_seen y_cc_images y_cc_sheets s_cc) ++ (wTape t a_tp v3.2))) (cX6_put_ok (l := l) (D := D) (t := t) (κ := κ) (a_tp := a_tp) ev3) gX8_feed_X6_put rfl ⟨rfl, rfl⟩ hdX6_put ⟨Nat.le_of_ble_eq_true rfl, Nat.le_of_ble_eq_true rfl⟩ rfl rfl hP hD hS [2, 3] [0, 1] [0, 1, 2, 3] rfl rfl rfl rfl (by decide) rfl rfl rfl hl.1 (Nat.le_of_ble_eq_true rfl) dX8_feed_17 (Nat.zero_le _) (Nat.zero_le _) (fun H locs hP hD hS => ?_)
    refine W.eq (g2 := F0 m 20 ls [.int v3.1]) rfl ?_
    refine lv_if_eq (tgt := 33) hx hb dX8_feed_20 (by decide) (fun c4 => ?_) (fun c4 => ?_)
    · rw [if_pos c4] at hf
      refine lv_bipush (v := -3) hx hb dX8_feed_33 (by decide) ?_
      obtain rfl := so_eq hf
      exact g_iret C hP hD hS dX8_feed_35
    · rw [if_neg c4] at hf
      refine lv_aload_n hx hb dX8_feed_23 rfl (lv_at hl 0 rfl) ?_
      refine va_get (D := D) (ci := 8) (v := .ref (a_tp 0)) (C := RX8) (T := TX8) (N := 11) hx hb hts iwX8_feed_X8 hown hK hP 0 rfl rfl 0 (by decide) (hts _ lkX8_feed_f10) (fun _ h9 => h9) rfl dX8_feed_24 ?_
      refine va_getN (D := D) (ci := 6) (v := .int (v3.2 0 0)) (C := RX6) (T := TX6) (N := 7) hx hb hts iwX8_feed_X6 hown hK hP 2 rfl rfl 1 (by decide) (hC0.2.1.f 0 rfl) (fun _ h9 => h9) rfl dX8_feed_27 ?_
      refine lv_goto (tgt := 35) hx hb dX8_feed_30 (by decide) ?_
      obtain rfl := so_eq hf
      exact g_iret C hP hD hS dX8_feed_35
  · rw [if_pos c2] at hf
    refine lv_iconst (v := -1) hx hb dX8_feed_10 (by decide) ?_
    obtain rfl := so_eq hf
    exact g_iret C hP hD hS dX8_feed_11
/-! CoachCourt.end -/
def fX8_end (s_cc : S2) (s_tp : S2) (p1 : Int32) : Option (Int32 × S2) :=
  (fX8_within p1 (0 : Int32) (s_tp 0 0)).bind fun v1 =>
  if v1 = (0 : Int32) then
    (some ((-1 : Int32), s_tp))
  else
    (nm (s_tp 0 0) fun y3 =>
    nm (sE s_tp 0 0 p1) fun s4 =>
    some (y3, s4))
theorem hdX8_end : yX8_end.cls = RX8 ∧ yX8_end.cls ≠ "java/lang/invoke/MethodHandle" ∧ yX8_end.cls ≠ "java/lang/invoke/VarHandle" ∧ (parseMethodDescriptor yX8_end.desc).map (fun d => d.parameters.length) = some 1 := by decide +kernel
theorem iwX8_end_X8 : ∀ w ∈ wsX80, w ∈ wsX8_end := by decide +kernel
theorem lkX8_end_f10 : Cond.fieldLink RX8 10 "CoachCourt" "tape" "LCoachCourt$Tape;" ∈ wsX8_end := by decide +kernel
theorem iwX8_end_X6 : ∀ w ∈ wsX60, w ∈ wsX8_end := by decide +kernel
set_option maxHeartbeats 4000000 in
set_option maxRecDepth 100000 in
theorem cX8_end_ok {l : Launch} {D : va_G} {t : Nat → ClassId} {κ : Nat → Nat} {a_cc : Nat → Nat} {y_cc_teller : Nat} {y_cc_road : Nat} {y_cc_trial : Nat} {y_cc_drive : Nat} {y_cc_seeker : Nat} {y_cc_seen : Nat} {y_cc_images : Nat} {y_cc_sheets : Nat} {a_tp : Nat → Nat} {s_cc : S2} {s_tp : S2} {p1 : Int32} {out : Int32 × S2} (hf : fX8_end s_cc s_tp p1 = some out) : Ct l D t κ yX8_end wsX8_end (rmL 1) [.ref (a_cc 0), .int p1] ((wCC t a_cc (a_tp 0) y_cc_teller y_cc_road y_cc_trial y_cc_drive y_cc_seeker y_cc_seen y_cc_images y_cc_sheets s_cc) ++ (wTape t a_tp s_tp)) (some (.int out.1)) ((wCC t a_cc (a_tp 0) y_cc_teller y_cc_road y_cc_trial y_cc_drive y_cc_seeker y_cc_seen y_cc_images y_cc_sheets s_cc) ++ (wTape t a_tp out.2)) := by
  refine Ct.ofW (own := RX8) (cc := cX8_end) (maxL := 3) (ret := (some .int)) (by decide) rfl rfl (Nat.le_of_ble_eq_true rfl) ?_
  intro p e s m below meth c A C hP hD ls hl
  have hS : va_S A s.heap s.heap [] := va_S.rf
  obtain ⟨hx, hb, hr, hml, hown, hts, hC0, hlk, hA⟩ := id C
  have hK := hC0.1
  have hl : lv_has ls 3 [(0, .ref (a_cc 0)), (1, .int p1)] := hl
  unfold fX8_end at hf
  refine lv_iload_n hx hb dX8_end_0 rfl (lv_at hl 1 rfl) ?_
  refine lv_iconst (v := 0) hx hb dX8_end_1 (by decide) ?_
  refine lv_aload_n hx hb dX8_end_2 rfl (lv_at hl 0 rfl) ?_
  refine va_get (D := D) (ci := 8) (v := .ref (a_tp 0)) (C := RX8) (T := TX8) (N := 11) hx hb hts iwX8_end_X8 hown hK hP 0 rfl rfl 0 (by decide) (hts _ lkX8_end_f10) (fun _ h9 => h9) rfl dX8_end_3 ?_
  refine va_getN (D := D) (ci := 6) (v := .int (s_tp 0 0)) (C := RX6) (T := TX6) (N := 7) hx hb hts iwX8_end_X6 hown hK hP 2 rfl rfl 1 (by decide) (hC0.2.1.f 0 rfl) (fun _ h9 => h9) rfl dX8_end_6 ?_
  obtain ⟨v1, ev1, hf⟩ := bd_some hf
  refine gk_S C (As := [.int p1, .int (0 : Int32), .int (s_tp 0 0)]) (rest := []) (cX8_within_ok (l := l) (D := D) (t := t) (κ := κ) ev1) gX8_end_X8_within rfl ⟨rfl, rfl⟩ hdX8_within ⟨Nat.le_of_ble_eq_true rfl, Nat.le_of_ble_eq_true rfl⟩ hP hD hS rfl hl.1 (Nat.le_of_ble_eq_true rfl) dX8_end_9 (Nat.zero_le _) (Nat.zero_le _) (fun H locs hP hD hS => ?_)
  refine W.eq (g2 := F0 m 12 ls [.int v1]) rfl ?_
  refine lv_if_ne (tgt := 17) hx hb dX8_end_12 (by decide) (fun c2 => ?_) (fun c2 => ?_)
  · rw [if_neg c2] at hf
    refine lv_aload_n hx hb dX8_end_17 rfl (lv_at hl 0 rfl) ?_
    refine va_get (D := D) (ci := 8) (v := .ref (a_tp 0)) (C := RX8) (T := TX8) (N := 11) hx hb hts iwX8_end_X8 hown hK hP 0 rfl rfl 0 (by decide) (hts _ lkX8_end_f10) (fun _ h9 => h9) rfl dX8_end_18 ?_
    refine va_getN (D := D) (ci := 6) (v := .int (s_tp 0 0)) (C := RX6) (T := TX6) (N := 7) hx hb hts iwX8_end_X6 hown hK hP 2 rfl rfl 1 (by decide) (hC0.2.1.f 0 rfl) (fun _ h9 => h9) rfl dX8_end_21 ?_
    obtain ⟨y3, hy3, hf⟩ := nm_ex hf
    refine W.eq (g2 := F0 m 24 ls [.int y3]) (by rw [hy3]) ?_
    refine lv_istore_n (lv' := [(2, .int y3), (0, .ref (a_cc 0)), (1, .int p1)]) hx hb dX8_end_24 rfl hl (by decide) rfl (fun ls hl => ?_)
    refine lv_aload_n hx hb dX8_end_25 rfl (lv_at hl 1 rfl) ?_
    refine va_get (D := D) (ci := 8) (v := .ref (a_tp 0)) (C := RX8) (T := TX8) (N := 11) hx hb hts iwX8_end_X8 hown hK hP 0 rfl rfl 0 (by decide) (hts _ lkX8_end_f10) (fun _ h9 => h9) rfl dX8_end_26 ?_
    refine lv_iload_n hx hb dX8_end_29 rfl (lv_at hl 2 rfl) ?_
    obtain ⟨s4, hs4, hf⟩ := nm_ex hf
    refine va_putN (D := D) (ci := 6) (v := .int p1) (ty := .int) (C := RX6) (T := TX6) (N := 7) hx hb hts iwX8_end_X6 tyX6 tyX6_ok nmX6 hown hK hP hD hS 2 rfl rfl 1 (by decide) (hC0.2.1.f 0 rfl) (fun _ h9 => h9) rfl (by decide +kernel) rfl rfl (Nat.le_of_ble_eq_true rfl) dX8_end_30 (fun H locs hP hD hS => ?_)
    have hP : va_P D vwCl ((wCC t a_cc (a_tp 0) y_cc_teller y_cc_road y_cc_trial y_cc_drive y_cc_seeker y_cc_seen y_cc_images y_cc_sheets s_cc) ++ (wTape t a_tp s4)) H := by rw [hs4]; exact hP
    have hD : va_D A ((wCC t a_cc (a_tp 0) y_cc_teller y_cc_road y_cc_trial y_cc_drive y_cc_seeker y_cc_seen y_cc_images y_cc_sheets s_cc) ++ (wTape t a_tp s4)) := by rw [hs4]; exact hD
    refine lv_iload_n hx hb dX8_end_33 rfl (lv_at hl 0 rfl) ?_
    obtain rfl := so_eq hf
    exact g_iret C hP hD hS dX8_end_34
  · rw [if_pos c2] at hf
    refine lv_iconst (v := -1) hx hb dX8_end_15 (by decide) ?_
    obtain rfl := so_eq hf
    exact g_iret C hP hD hS dX8_end_16
/-! CoachCourt.fault -/
def fX8_fault (s_cc : S2) (s_tp : S2) : Option (Int32) :=
  some (s_tp 0 4)
theorem hdX8_fault : yX8_fault.cls = RX8 ∧ yX8_fault.cls ≠ "java/lang/invoke/MethodHandle" ∧ yX8_fault.cls ≠ "java/lang/invoke/VarHandle" ∧ (parseMethodDescriptor yX8_fault.desc).map (fun d => d.parameters.length) = some 0 := by decide +kernel
theorem iwX8_fault_X8 : ∀ w ∈ wsX80, w ∈ wsX8_fault := by decide +kernel
theorem lkX8_fault_f10 : Cond.fieldLink RX8 10 "CoachCourt" "tape" "LCoachCourt$Tape;" ∈ wsX8_fault := by decide +kernel
theorem iwX8_fault_X6 : ∀ w ∈ wsX60, w ∈ wsX8_fault := by decide +kernel
set_option maxHeartbeats 4000000 in
set_option maxRecDepth 100000 in
theorem cX8_fault_ok {l : Launch} {D : va_G} {t : Nat → ClassId} {κ : Nat → Nat} {a_cc : Nat → Nat} {y_cc_teller : Nat} {y_cc_road : Nat} {y_cc_trial : Nat} {y_cc_drive : Nat} {y_cc_seeker : Nat} {y_cc_seen : Nat} {y_cc_images : Nat} {y_cc_sheets : Nat} {a_tp : Nat → Nat} {s_cc : S2} {s_tp : S2} {out : Int32} (hf : fX8_fault s_cc s_tp = some out) : Ct l D t κ yX8_fault wsX8_fault (rmL 0) [.ref (a_cc 0)] ((wCC t a_cc (a_tp 0) y_cc_teller y_cc_road y_cc_trial y_cc_drive y_cc_seeker y_cc_seen y_cc_images y_cc_sheets s_cc) ++ (wTape t a_tp s_tp)) (some (.int out)) ((wCC t a_cc (a_tp 0) y_cc_teller y_cc_road y_cc_trial y_cc_drive y_cc_seeker y_cc_seen y_cc_images y_cc_sheets s_cc) ++ (wTape t a_tp s_tp)) := by
  refine Ct.ofW (own := RX8) (cc := cX8_fault) (maxL := 1) (ret := (some .int)) (by decide) rfl rfl (Nat.le_of_ble_eq_true rfl) ?_
  intro p e s m below meth c A C hP hD ls hl
  have hS : va_S A s.heap s.heap [] := va_S.rf
  obtain ⟨hx, hb, hr, hml, hown, hts, hC0, hlk, hA⟩ := id C
  have hK := hC0.1
  have hl : lv_has ls 1 [(0, .ref (a_cc 0))] := hl
  unfold fX8_fault at hf
  refine lv_aload_n hx hb dX8_fault_0 rfl (lv_at hl 0 rfl) ?_
  refine va_get (D := D) (ci := 8) (v := .ref (a_tp 0)) (C := RX8) (T := TX8) (N := 11) hx hb hts iwX8_fault_X8 hown hK hP 0 rfl rfl 0 (by decide) (hts _ lkX8_fault_f10) (fun _ h9 => h9) rfl dX8_fault_1 ?_
  refine va_getN (D := D) (ci := 6) (v := .int (s_tp 0 4)) (C := RX6) (T := TX6) (N := 7) hx hb hts iwX8_fault_X6 hown hK hP 2 rfl rfl 5 (by decide) (hC0.2.1.f 5 rfl) (fun _ h9 => h9) rfl dX8_fault_4 ?_
  obtain rfl := so_eq hf
  exact g_iret C hP hD hS dX8_fault_7
/-! CoachCourt.rule -/
def fX8_rule (s_cc : S2) (s_rd : S2) (p1 : Int32) : Option (Int32) :=
  if p1 = 0 then
    (some (s_rd 0 0))
  else
  if p1 = 1 then
    (some (s_rd 0 1))
  else
  if p1 = 2 then
    (some (s_rd 0 2))
  else
  if p1 = 3 then
    (some (s_rd 0 3))
  else
  if p1 = 4 then
    ((fX2_minutesOfAll s_rd).bind fun v6 =>
    some v6)
  else
  if p1 = 5 then
    ((fX2_drivenMiles s_rd).bind fun v8 =>
    some v8)
  else
  (some (-1 : Int32))
theorem hdX8_rule : yX8_rule.cls = RX8 ∧ yX8_rule.cls ≠ "java/lang/invoke/MethodHandle" ∧ yX8_rule.cls ≠ "java/lang/invoke/VarHandle" ∧ (parseMethodDescriptor yX8_rule.desc).map (fun d => d.parameters.length) = some 1 := by decide +kernel
theorem iwX8_rule_X8 : ∀ w ∈ wsX80, w ∈ wsX8_rule := by decide +kernel
theorem lkX8_rule_f28 : Cond.fieldLink RX8 28 "CoachCourt" "road" "LCoachCourt$Road;" ∈ wsX8_rule := by decide +kernel
theorem iwX8_rule_X2 : ∀ w ∈ wsX20, w ∈ wsX8_rule := by decide +kernel
set_option maxHeartbeats 4000000 in
set_option maxRecDepth 100000 in
theorem cX8_rule_ok {l : Launch} {D : va_G} {t : Nat → ClassId} {κ : Nat → Nat} {a_cc : Nat → Nat} {y_cc_tape : Nat} {y_cc_teller : Nat} {y_cc_trial : Nat} {y_cc_drive : Nat} {y_cc_seeker : Nat} {y_cc_seen : Nat} {y_cc_images : Nat} {y_cc_sheets : Nat} {a_rd : Nat → Nat} {s_cc : S2} {s_rd : S2} {p1 : Int32} {out : Int32} (hf : fX8_rule s_cc s_rd p1 = some out) : Ct l D t κ yX8_rule wsX8_rule (rmL 2) [.ref (a_cc 0), .int p1] ((wCC t a_cc y_cc_tape y_cc_teller (a_rd 0) y_cc_trial y_cc_drive y_cc_seeker y_cc_seen y_cc_images y_cc_sheets s_cc) ++ (wRoad t a_rd s_rd)) (some (.int out)) ((wCC t a_cc y_cc_tape y_cc_teller (a_rd 0) y_cc_trial y_cc_drive y_cc_seeker y_cc_seen y_cc_images y_cc_sheets s_cc) ++ (wRoad t a_rd s_rd)) := by
  refine Ct.ofW (own := RX8) (cc := cX8_rule) (maxL := 2) (ret := (some .int)) (by decide) rfl rfl (Nat.le_of_ble_eq_true rfl) ?_
  intro p e s m below meth c A C hP hD ls hl
  have hS : va_S A s.heap s.heap [] := va_S.rf
  obtain ⟨hx, hb, hr, hml, hown, hts, hC0, hlk, hA⟩ := id C
  have hK := hC0.1
  have hl : lv_has ls 2 [(0, .ref (a_cc 0)), (1, .int p1)] := hl
  unfold fX8_rule at hf
  refine lv_iload_n hx hb dX8_rule_0 rfl (lv_at hl 1 rfl) ?_
  by_cases c1 : p1 = 0
  · rw [if_pos c1] at hf
    refine lv_tableIn (tgt := 40) hx hb dX8_rule_1 (by rw [c1]; decide) (by rw [c1]; decide) (by rw [c1]; rfl) (by decide) ?_
    refine lv_aload_n hx hb dX8_rule_40 rfl (lv_at hl 0 rfl) ?_
    refine va_get (D := D) (ci := 8) (v := .ref (a_rd 0)) (C := RX8) (T := TX8) (N := 11) hx hb hts iwX8_rule_X8 hown hK hP 0 rfl rfl 2 (by decide) (hts _ lkX8_rule_f28) (fun _ h9 => h9) rfl dX8_rule_41 ?_
    refine va_getN (D := D) (ci := 2) (v := .int (s_rd 0 0)) (C := RX2) (T := TX2) (N := 12) hx hb hts iwX8_rule_X2 hown hK hP 2 rfl rfl 8 (by decide) (hC0.2.1.f 24 rfl) (fun _ h9 => h9) rfl dX8_rule_44 ?_
    obtain rfl := so_eq hf
    exact g_iret C hP hD hS dX8_rule_47
  rw [if_neg c1] at hf
  by_cases c2 : p1 = 1
  · rw [if_pos c2] at hf
    refine lv_tableIn (tgt := 48) hx hb dX8_rule_1 (by rw [c2]; decide) (by rw [c2]; decide) (by rw [c2]; rfl) (by decide) ?_
    refine lv_aload_n hx hb dX8_rule_48 rfl (lv_at hl 0 rfl) ?_
    refine va_get (D := D) (ci := 8) (v := .ref (a_rd 0)) (C := RX8) (T := TX8) (N := 11) hx hb hts iwX8_rule_X8 hown hK hP 0 rfl rfl 2 (by decide) (hts _ lkX8_rule_f28) (fun _ h9 => h9) rfl dX8_rule_49 ?_
    refine va_getN (D := D) (ci := 2) (v := .int (s_rd 0 1)) (C := RX2) (T := TX2) (N := 12) hx hb hts iwX8_rule_X2 hown hK hP 2 rfl rfl 9 (by decide) (hC0.2.1.f 27 rfl) (fun _ h9 => h9) rfl dX8_rule_52 ?_
    obtain rfl := so_eq hf
    exact g_iret C hP hD hS dX8_rule_55
  rw [if_neg c2] at hf
  by_cases c3 : p1 = 2
  · rw [if_pos c3] at hf
    refine lv_tableIn (tgt := 56) hx hb dX8_rule_1 (by rw [c3]; decide) (by rw [c3]; decide) (by rw [c3]; rfl) (by decide) ?_
    refine lv_aload_n hx hb dX8_rule_56 rfl (lv_at hl 0 rfl) ?_
    refine va_get (D := D) (ci := 8) (v := .ref (a_rd 0)) (C := RX8) (T := TX8) (N := 11) hx hb hts iwX8_rule_X8 hown hK hP 0 rfl rfl 2 (by decide) (hts _ lkX8_rule_f28) (fun _ h9 => h9) rfl dX8_rule_57 ?_
    refine va_getN (D := D) (ci := 2) (v := .int (s_rd 0 2)) (C := RX2) (T := TX2) (N := 12) hx hb hts iwX8_rule_X2 hown hK hP 2 rfl rfl 10 (by decide) (hC0.2.1.f 30 rfl) (fun _ h9 => h9) rfl dX8_rule_60 ?_
    obtain rfl := so_eq hf
    exact g_iret C hP hD hS dX8_rule_63
  rw [if_neg c3] at hf
  by_cases c4 : p1 = 3
  · rw [if_pos c4] at hf
    refine lv_tableIn (tgt := 64) hx hb dX8_rule_1 (by rw [c4]; decide) (by rw [c4]; decide) (by rw [c4]; rfl) (by decide) ?_
    refine lv_aload_n hx hb dX8_rule_64 rfl (lv_at hl 0 rfl) ?_
    refine va_get (D := D) (ci := 8) (v := .ref (a_rd 0)) (C := RX8) (T := TX8) (N := 11) hx hb hts iwX8_rule_X8 hown hK hP 0 rfl rfl 2 (by decide) (hts _ lkX8_rule_f28) (fun _ h9 => h9) rfl dX8_rule_65 ?_
    refine va_getN (D := D) (ci := 2) (v := .int (s_rd 0 3)) (C := RX2) (T := TX2) (N := 12) hx hb hts iwX8_rule_X2 hown hK hP 2 rfl rfl 11 (by decide) (hC0.2.1.f 32 rfl) (fun _ h9 => h9) rfl dX8_rule_68 ?_
    obtain rfl := so_eq hf
    exact g_iret C hP hD hS dX8_rule_71
  rw [if_neg c4] at hf
  by_cases c5 : p1 = 4
  · rw [if_pos c5] at hf
    refine lv_tableIn (tgt := 72) hx hb dX8_rule_1 (by rw [c5]; decide) (by rw [c5]; decide) (by rw [c5]; rfl) (by decide) ?_
    refine lv_aload_n hx hb dX8_rule_72 rfl (lv_at hl 0 rfl) ?_
    refine va_get (D := D) (ci := 8) (v := .ref (a_rd 0)) (C := RX8) (T := TX8) (N := 11) hx hb hts iwX8_rule_X8 hown hK hP 0 rfl rfl 2 (by decide) (hts _ lkX8_rule_f28) (fun _ h9 => h9) rfl dX8_rule_73 ?_
    obtain ⟨v6, ev6, hf⟩ := bd_some hf
    refine gk_V C (As := []) (rest := []) (ci := 2) (q := (RX2, TX2, 12)) (q0 := 0) (wr := (wCC t a_cc y_cc_tape y_cc_teller (a_rd 0) y_cc_trial y_cc_drive y_cc_seeker y_cc_seen y_cc_images y_cc_sheets s_cc)) (wf := ((wCC t a_cc y_cc_tape y_cc_teller (a_rd 0) y_cc_trial y_cc_drive y_cc_seeker y_cc_seen y_cc_images y_cc_sheets s_cc) ++ (wRoad t a_rd s_rd))) (cX2_minutesOfAll_ok (l := l) (D := D) (t := t) (κ := κ) (a_rd := a_rd) ev6) gX8_rule_X2_minutesOfAll rfl ⟨rfl, rfl⟩ hdX2_minutesOfAll ⟨Nat.le_of_ble_eq_true rfl, Nat.le_of_ble_eq_true rfl⟩ rfl rfl hP hD hS [2, 3, 4, 5, 6, 7, 8, 9, 10] [0, 1] [0, 1, 2, 3, 4, 5, 6, 7, 8, 9, 10] rfl rfl rfl rfl (by decide) rfl rfl rfl hl.1 (Nat.le_of_ble_eq_true rfl) dX8_rule_76 (Nat.zero_le _) (Nat.zero_le _) (fun H locs hP hD hS => ?_)
    refine W.eq (g2 := F0 m 79 ls [.int v6]) rfl ?_
    obtain rfl := so_eq hf
    exact g_iret C hP hD hS dX8_rule_79
  rw [if_neg c5] at hf
  by_cases c7 : p1 = 5
  · rw [if_pos c7] at hf
    refine lv_tableIn (tgt := 80) hx hb dX8_rule_1 (by rw [c7]; decide) (by rw [c7]; decide) (by rw [c7]; rfl) (by decide) ?_
    refine lv_aload_n hx hb dX8_rule_80 rfl (lv_at hl 0 rfl) ?_
    refine va_get (D := D) (ci := 8) (v := .ref (a_rd 0)) (C := RX8) (T := TX8) (N := 11) hx hb hts iwX8_rule_X8 hown hK hP 0 rfl rfl 2 (by decide) (hts _ lkX8_rule_f28) (fun _ h9 => h9) rfl dX8_rule_81 ?_
    obtain ⟨v8, ev8, hf⟩ := bd_some hf
    refine gk_V C (As := []) (rest := []) (ci := 2) (q := (RX2, TX2, 12)) (q0 := 0) (wr := (wCC t a_cc y_cc_tape y_cc_teller (a_rd 0) y_cc_trial y_cc_drive y_cc_seeker y_cc_seen y_cc_images y_cc_sheets s_cc)) (wf := ((wCC t a_cc y_cc_tape y_cc_teller (a_rd 0) y_cc_trial y_cc_drive y_cc_seeker y_cc_seen y_cc_images y_cc_sheets s_cc) ++ (wRoad t a_rd s_rd))) (cX2_drivenMiles_ok (l := l) (D := D) (t := t) (κ := κ) (a_rd := a_rd) ev8) gX8_rule_X2_drivenMiles rfl ⟨rfl, rfl⟩ hdX2_drivenMiles ⟨Nat.le_of_ble_eq_true rfl, Nat.le_of_ble_eq_true rfl⟩ rfl rfl hP hD hS [2, 3, 4, 5, 6, 7, 8, 9, 10] [0, 1] [0, 1, 2, 3, 4, 5, 6, 7, 8, 9, 10] rfl rfl rfl rfl (by decide) rfl rfl rfl hl.1 (Nat.le_of_ble_eq_true rfl) dX8_rule_84 (Nat.zero_le _) (Nat.zero_le _) (fun H locs hP hD hS => ?_)
    refine W.eq (g2 := F0 m 87 ls [.int v8]) rfl ?_
    obtain rfl := so_eq hf
    exact g_iret C hP hD hS dX8_rule_87
  rw [if_neg c7] at hf
  refine lv_tableOut (tgt := 88) hx hb dX8_rule_1 (by have nc1 := lv_neT c1 (a := 0) (by decide); have nc2 := lv_neT c2 (a := 1) (by decide); have nc3 := lv_neT c3 (a := 2) (by decide); have nc4 := lv_neT c4 (a := 3) (by decide); have nc5 := lv_neT c5 (a := 4) (by decide); have nc7 := lv_neT c7 (a := 5) (by decide); have z := Int32.le_toInt p1; have z2 := Int32.toInt_lt p1; omega) (by decide) ?_
  refine lv_iconst (v := -1) hx hb dX8_rule_88 (by decide) ?_
  obtain rfl := so_eq hf
  exact g_iret C hP hD hS dX8_rule_89
/-! CoachCourt.mile -/
def fX8_mile (s_cc : S2) (s_rd : S2) (p1 : Int32) (p2 : Int32) : Option (Int32) :=
  (fX2_hasMile s_rd p1).bind fun v1 =>
  if v1 = (0 : Int32) then
    (some (-1 : Int32))
  else
    ((fX8_within p2 (0 : Int32) (4 : Int32)).bind fun v3 =>
    if v3 = (0 : Int32) then
      (some (-1 : Int32))
    else
      (if p2 = (3 : Int32) then
        ((fX2_minutesOf s_rd p1).bind fun v14 =>
        some v14)
      else
        (if p2 = (4 : Int32) then
          ((fX2_hearingOf s_rd p1).bind fun v13 =>
          some v13)
        else
          (if p2 = 0 then
            (gd (ixb p1 8) <|
            some (s_rd 1 (Int32.toNatClampNeg p1)))
          else
          if p2 = 1 then
            (gd (ixb p1 8) <|
            some (s_rd 2 (Int32.toNatClampNeg p1)))
          else
          (gd (ixb p1 8) <|
          some (s_rd 3 (Int32.toNatClampNeg p1)))))))
theorem hdX8_mile : yX8_mile.cls = RX8 ∧ yX8_mile.cls ≠ "java/lang/invoke/MethodHandle" ∧ yX8_mile.cls ≠ "java/lang/invoke/VarHandle" ∧ (parseMethodDescriptor yX8_mile.desc).map (fun d => d.parameters.length) = some 2 := by decide +kernel
theorem iwX8_mile_X8 : ∀ w ∈ wsX80, w ∈ wsX8_mile := by decide +kernel
theorem lkX8_mile_f28 : Cond.fieldLink RX8 28 "CoachCourt" "road" "LCoachCourt$Road;" ∈ wsX8_mile := by decide +kernel
set_option maxHeartbeats 4000000 in
set_option maxRecDepth 100000 in
theorem cX8_mile_ok {l : Launch} {D : va_G} {t : Nat → ClassId} {κ : Nat → Nat} {a_cc : Nat → Nat} {y_cc_tape : Nat} {y_cc_teller : Nat} {y_cc_trial : Nat} {y_cc_drive : Nat} {y_cc_seeker : Nat} {y_cc_seen : Nat} {y_cc_images : Nat} {y_cc_sheets : Nat} {a_rd : Nat → Nat} {s_cc : S2} {s_rd : S2} {p1 : Int32} {p2 : Int32} {out : Int32} (hf : fX8_mile s_cc s_rd p1 p2 = some out) : Ct l D t κ yX8_mile wsX8_mile (rmL 2) [.ref (a_cc 0), .int p1, .int p2] ((wCC t a_cc y_cc_tape y_cc_teller (a_rd 0) y_cc_trial y_cc_drive y_cc_seeker y_cc_seen y_cc_images y_cc_sheets s_cc) ++ (wRoad t a_rd s_rd)) (some (.int out)) ((wCC t a_cc y_cc_tape y_cc_teller (a_rd 0) y_cc_trial y_cc_drive y_cc_seeker y_cc_seen y_cc_images y_cc_sheets s_cc) ++ (wRoad t a_rd s_rd)) := by
  refine Ct.ofW (own := RX8) (cc := cX8_mile) (maxL := 3) (ret := (some .int)) (by decide) rfl rfl (Nat.le_of_ble_eq_true rfl) ?_
  intro p e s m below meth c A C hP hD ls hl
  have hS : va_S A s.heap s.heap [] := va_S.rf
  obtain ⟨hx, hb, hr, hml, hown, hts, hC0, hlk, hA⟩ := id C
  have hK := hC0.1
  have hl : lv_has ls 3 [(0, .ref (a_cc 0)), (1, .int p1), (2, .int p2)] := hl
  unfold fX8_mile at hf
  refine lv_aload_n hx hb dX8_mile_0 rfl (lv_at hl 0 rfl) ?_
  refine va_get (D := D) (ci := 8) (v := .ref (a_rd 0)) (C := RX8) (T := TX8) (N := 11) hx hb hts iwX8_mile_X8 hown hK hP 0 rfl rfl 2 (by decide) (hts _ lkX8_mile_f28) (fun _ h9 => h9) rfl dX8_mile_1 ?_
  refine lv_iload_n hx hb dX8_mile_4 rfl (lv_at hl 1 rfl) ?_
  obtain ⟨v1, ev1, hf⟩ := bd_some hf
  refine gk_V C (As := [.int p1]) (rest := []) (ci := 2) (q := (RX2, TX2, 12)) (q0 := 0) (wr := (wCC t a_cc y_cc_tape y_cc_teller (a_rd 0) y_cc_trial y_cc_drive y_cc_seeker y_cc_seen y_cc_images y_cc_sheets s_cc)) (wf := ((wCC t a_cc y_cc_tape y_cc_teller (a_rd 0) y_cc_trial y_cc_drive y_cc_seeker y_cc_seen y_cc_images y_cc_sheets s_cc) ++ (wRoad t a_rd s_rd))) (cX2_hasMile_ok (l := l) (D := D) (t := t) (κ := κ) (a_rd := a_rd) ev1) gX8_mile_X2_hasMile rfl ⟨rfl, rfl⟩ hdX2_hasMile ⟨Nat.le_of_ble_eq_true rfl, Nat.le_of_ble_eq_true rfl⟩ rfl rfl hP hD hS [2, 3, 4, 5, 6, 7, 8, 9, 10] [0, 1] [0, 1, 2, 3, 4, 5, 6, 7, 8, 9, 10] rfl rfl rfl rfl (by decide) rfl rfl rfl hl.1 (Nat.le_of_ble_eq_true rfl) dX8_mile_5 (Nat.zero_le _) (Nat.zero_le _) (fun H locs hP hD hS => ?_)
  refine W.eq (g2 := F0 m 8 ls [.int v1]) rfl ?_
  refine lv_if_eq (tgt := 20) hx hb dX8_mile_8 (by decide) (fun c2 => ?_) (fun c2 => ?_)
  · rw [if_pos c2] at hf
    refine lv_iconst (v := -1) hx hb dX8_mile_20 (by decide) ?_
    obtain rfl := so_eq hf
    exact g_iret C hP hD hS dX8_mile_21
  · rw [if_neg c2] at hf
    refine lv_iload_n hx hb dX8_mile_11 rfl (lv_at hl 2 rfl) ?_
    refine lv_iconst (v := 0) hx hb dX8_mile_12 (by decide) ?_
    refine lv_iconst (v := 4) hx hb dX8_mile_13 (by decide) ?_
    obtain ⟨v3, ev3, hf⟩ := bd_some hf
    refine gk_S C (As := [.int p2, .int (0 : Int32), .int (4 : Int32)]) (rest := []) (cX8_within_ok (l := l) (D := D) (t := t) (κ := κ) ev3) gX8_mile_X8_within rfl ⟨rfl, rfl⟩ hdX8_within ⟨Nat.le_of_ble_eq_true rfl, Nat.le_of_ble_eq_true rfl⟩ hP hD hS rfl hl.1 (Nat.le_of_ble_eq_true rfl) dX8_mile_14 (Nat.zero_le _) (Nat.zero_le _) (fun H locs hP hD hS => ?_)
    refine W.eq (g2 := F0 m 17 ls [.int v3]) rfl ?_
    refine lv_if_ne (tgt := 22) hx hb dX8_mile_17 (by decide) (fun c4 => ?_) (fun c4 => ?_)
    · rw [if_neg c4] at hf
      refine lv_iload_n hx hb dX8_mile_22 rfl (lv_at hl 2 rfl) ?_
      refine lv_iconst (v := 3) hx hb dX8_mile_23 (by decide) ?_
      refine lv_icmp_ne (tgt := 36) hx hb dX8_mile_24 (by decide) (fun c5 => ?_) (fun c5 => ?_)
      · rw [if_neg c5] at hf
        refine lv_iload_n hx hb dX8_mile_36 rfl (lv_at hl 2 rfl) ?_
        refine lv_iconst (v := 4) hx hb dX8_mile_37 (by decide) ?_
        refine lv_icmp_ne (tgt := 52) hx hb dX8_mile_38 (by decide) (fun c6 => ?_) (fun c6 => ?_)
        · rw [if_neg c6] at hf
          refine lv_aload_n hx hb dX8_mile_52 rfl (lv_at hl 0 rfl) ?_
          refine va_get (D := D) (ci := 8) (v := .ref (a_rd 0)) (C := RX8) (T := TX8) (N := 11) hx hb hts iwX8_mile_X8 hown hK hP 0 rfl rfl 2 (by decide) (hts _ lkX8_mile_f28) (fun _ h9 => h9) rfl dX8_mile_53 ?_
          refine lv_iload_n hx hb dX8_mile_56 rfl (lv_at hl 2 rfl) ?_
          refine gk_V C (As := [.int p2]) (rest := []) (ci := 2) (q := (RX2, TX2, 12)) (q0 := 0) (wr := (wCC t a_cc y_cc_tape y_cc_teller (a_rd 0) y_cc_trial y_cc_drive y_cc_seeker y_cc_seen y_cc_images y_cc_sheets s_cc)) (wf := ((wCC t a_cc y_cc_tape y_cc_teller (a_rd 0) y_cc_trial y_cc_drive y_cc_seeker y_cc_seen y_cc_images y_cc_sheets s_cc) ++ (wRoad t a_rd s_rd))) (cX2_mileRow_ok (l := l) (D := D) (t := t) (κ := κ) (a_rd := a_rd) (s_rd := s_rd) (p1 := p2)) gX8_mile_X2_mileRow rfl ⟨rfl, rfl⟩ hdX2_mileRow ⟨Nat.le_of_ble_eq_true rfl, Nat.le_of_ble_eq_true rfl⟩ rfl rfl hP hD hS [2, 3, 4, 5, 6, 7, 8, 9, 10] [0, 1] [0, 1, 2, 3, 4, 5, 6, 7, 8, 9, 10] rfl rfl rfl rfl (by decide) rfl rfl rfl hl.1 (Nat.le_of_ble_eq_true rfl) dX8_mile_57 (Nat.zero_le _) (Nat.zero_le _) (fun H locs hP hD hS => ?_)
          by_cases c8 : p2 = 0
          · rw [if_pos c8] at hf
            refine W.eq (g2 := F0 m 60 ls [.ref (a_rd 1)]) (by rw [c8]; rfl) ?_
            refine lv_iload_n hx hb dX8_mile_60 rfl (lv_at hl 1 rfl) ?_
            obtain ⟨b9, hf⟩ := gd_some hf
            refine va_iald hx hb hK hP 3 0 rfl rfl (ixb_in b9) dX8_mile_61 ?_
            obtain rfl := so_eq hf
            exact g_iret C hP hD hS dX8_mile_62
          rw [if_neg c8] at hf
          by_cases c10 : p2 = 1
          · rw [if_pos c10] at hf
            refine W.eq (g2 := F0 m 60 ls [.ref (a_rd 2)]) (by rw [c10]; rfl) ?_
            refine lv_iload_n hx hb dX8_mile_60 rfl (lv_at hl 1 rfl) ?_
            obtain ⟨b11, hf⟩ := gd_some hf
            refine va_iald hx hb hK hP 4 0 rfl rfl (ixb_in b11) dX8_mile_61 ?_
            obtain rfl := so_eq hf
            exact g_iret C hP hD hS dX8_mile_62
          rw [if_neg c10] at hf
          refine W.eq (g2 := F0 m 60 ls [.ref (a_rd 3)]) (by rw [selX2_mileRow_d c8 c10]; rfl) ?_
          refine lv_iload_n hx hb dX8_mile_60 rfl (lv_at hl 1 rfl) ?_
          obtain ⟨b12, hf⟩ := gd_some hf
          refine va_iald hx hb hK hP 5 0 rfl rfl (ixb_in b12) dX8_mile_61 ?_
          obtain rfl := so_eq hf
          exact g_iret C hP hD hS dX8_mile_62
        · rw [if_pos c6] at hf
          refine lv_aload_n hx hb dX8_mile_41 rfl (lv_at hl 0 rfl) ?_
          refine va_get (D := D) (ci := 8) (v := .ref (a_rd 0)) (C := RX8) (T := TX8) (N := 11) hx hb hts iwX8_mile_X8 hown hK hP 0 rfl rfl 2 (by decide) (hts _ lkX8_mile_f28) (fun _ h9 => h9) rfl dX8_mile_42 ?_
          refine lv_iload_n hx hb dX8_mile_45 rfl (lv_at hl 1 rfl) ?_
          obtain ⟨v13, ev13, hf⟩ := bd_some hf
          refine gk_V C (As := [.int p1]) (rest := []) (ci := 2) (q := (RX2, TX2, 12)) (q0 := 0) (wr := (wCC t a_cc y_cc_tape y_cc_teller (a_rd 0) y_cc_trial y_cc_drive y_cc_seeker y_cc_seen y_cc_images y_cc_sheets s_cc)) (wf := ((wCC t a_cc y_cc_tape y_cc_teller (a_rd 0) y_cc_trial y_cc_drive y_cc_seeker y_cc_seen y_cc_images y_cc_sheets s_cc) ++ (wRoad t a_rd s_rd))) (cX2_hearingOf_ok (l := l) (D := D) (t := t) (κ := κ) (a_rd := a_rd) ev13) gX8_mile_X2_hearingOf rfl ⟨rfl, rfl⟩ hdX2_hearingOf ⟨Nat.le_of_ble_eq_true rfl, Nat.le_of_ble_eq_true rfl⟩ rfl rfl hP hD hS [2, 3, 4, 5, 6, 7, 8, 9, 10] [0, 1] [0, 1, 2, 3, 4, 5, 6, 7, 8, 9, 10] rfl rfl rfl rfl (by decide) rfl rfl rfl hl.1 (Nat.le_of_ble_eq_true rfl) dX8_mile_46 (Nat.zero_le _) (Nat.zero_le _) (fun H locs hP hD hS => ?_)
          refine W.eq (g2 := F0 m 49 ls [.int v13]) rfl ?_
          refine lv_goto (tgt := 62) hx hb dX8_mile_49 (by decide) ?_
          obtain rfl := so_eq hf
          exact g_iret C hP hD hS dX8_mile_62
      · rw [if_pos c5] at hf
        refine lv_aload_n hx hb dX8_mile_27 rfl (lv_at hl 0 rfl) ?_
        refine va_get (D := D) (ci := 8) (v := .ref (a_rd 0)) (C := RX8) (T := TX8) (N := 11) hx hb hts iwX8_mile_X8 hown hK hP 0 rfl rfl 2 (by decide) (hts _ lkX8_mile_f28) (fun _ h9 => h9) rfl dX8_mile_28 ?_
        refine lv_iload_n hx hb dX8_mile_31 rfl (lv_at hl 1 rfl) ?_
        obtain ⟨v14, ev14, hf⟩ := bd_some hf
        refine gk_V C (As := [.int p1]) (rest := []) (ci := 2) (q := (RX2, TX2, 12)) (q0 := 0) (wr := (wCC t a_cc y_cc_tape y_cc_teller (a_rd 0) y_cc_trial y_cc_drive y_cc_seeker y_cc_seen y_cc_images y_cc_sheets s_cc)) (wf := ((wCC t a_cc y_cc_tape y_cc_teller (a_rd 0) y_cc_trial y_cc_drive y_cc_seeker y_cc_seen y_cc_images y_cc_sheets s_cc) ++ (wRoad t a_rd s_rd))) (cX2_minutesOf_ok (l := l) (D := D) (t := t) (κ := κ) (a_rd := a_rd) ev14) gX8_mile_X2_minutesOf rfl ⟨rfl, rfl⟩ hdX2_minutesOf ⟨Nat.le_of_ble_eq_true rfl, Nat.le_of_ble_eq_true rfl⟩ rfl rfl hP hD hS [2, 3, 4, 5, 6, 7, 8, 9, 10] [0, 1] [0, 1, 2, 3, 4, 5, 6, 7, 8, 9, 10] rfl rfl rfl rfl (by decide) rfl rfl rfl hl.1 (Nat.le_of_ble_eq_true rfl) dX8_mile_32 (Nat.zero_le _) (Nat.zero_le _) (fun H locs hP hD hS => ?_)
        refine W.eq (g2 := F0 m 35 ls [.int v14]) rfl ?_
        obtain rfl := so_eq hf
        exact g_iret C hP hD hS dX8_mile_35
    · rw [if_pos c4] at hf
      refine lv_iconst (v := -1) hx hb dX8_mile_20 (by decide) ?_
      obtain rfl := so_eq hf
      exact g_iret C hP hD hS dX8_mile_21
/-! CoachCourt.party -/
def fX8_party (s_cc : S2) (s_rd : S2) (p1 : Int32) (p2 : Int32) : Option (Int32) :=
  (fX2_hasParty s_rd p1).bind fun v1 =>
  if v1 = (0 : Int32) then
    (some (-1 : Int32))
  else
    ((fX8_within p2 (0 : Int32) (4 : Int32)).bind fun v3 =>
    if v3 = (0 : Int32) then
      (some (-1 : Int32))
    else
      (if p2 = 0 then
        (gd (ixb p1 4) <|
        some (s_rd 4 (Int32.toNatClampNeg p1)))
      else
      if p2 = 1 then
        (gd (ixb p1 4) <|
        some (s_rd 5 (Int32.toNatClampNeg p1)))
      else
      if p2 = 2 then
        (gd (ixb p1 4) <|
        some (s_rd 6 (Int32.toNatClampNeg p1)))
      else
      if p2 = 3 then
        (gd (ixb p1 4) <|
        some (s_rd 7 (Int32.toNatClampNeg p1)))
      else
      (gd (ixb p1 4) <|
      some (s_rd 8 (Int32.toNatClampNeg p1)))))
theorem hdX8_party : yX8_party.cls = RX8 ∧ yX8_party.cls ≠ "java/lang/invoke/MethodHandle" ∧ yX8_party.cls ≠ "java/lang/invoke/VarHandle" ∧ (parseMethodDescriptor yX8_party.desc).map (fun d => d.parameters.length) = some 2 := by decide +kernel
theorem iwX8_party_X8 : ∀ w ∈ wsX80, w ∈ wsX8_party := by decide +kernel
theorem lkX8_party_f28 : Cond.fieldLink RX8 28 "CoachCourt" "road" "LCoachCourt$Road;" ∈ wsX8_party := by decide +kernel
set_option maxHeartbeats 4000000 in
set_option maxRecDepth 100000 in
theorem cX8_party_ok {l : Launch} {D : va_G} {t : Nat → ClassId} {κ : Nat → Nat} {a_cc : Nat → Nat} {y_cc_tape : Nat} {y_cc_teller : Nat} {y_cc_trial : Nat} {y_cc_drive : Nat} {y_cc_seeker : Nat} {y_cc_seen : Nat} {y_cc_images : Nat} {y_cc_sheets : Nat} {a_rd : Nat → Nat} {s_cc : S2} {s_rd : S2} {p1 : Int32} {p2 : Int32} {out : Int32} (hf : fX8_party s_cc s_rd p1 p2 = some out) : Ct l D t κ yX8_party wsX8_party (rmL 1) [.ref (a_cc 0), .int p1, .int p2] ((wCC t a_cc y_cc_tape y_cc_teller (a_rd 0) y_cc_trial y_cc_drive y_cc_seeker y_cc_seen y_cc_images y_cc_sheets s_cc) ++ (wRoad t a_rd s_rd)) (some (.int out)) ((wCC t a_cc y_cc_tape y_cc_teller (a_rd 0) y_cc_trial y_cc_drive y_cc_seeker y_cc_seen y_cc_images y_cc_sheets s_cc) ++ (wRoad t a_rd s_rd)) := by
  refine Ct.ofW (own := RX8) (cc := cX8_party) (maxL := 3) (ret := (some .int)) (by decide) rfl rfl (Nat.le_of_ble_eq_true rfl) ?_
  intro p e s m below meth c A C hP hD ls hl
  have hS : va_S A s.heap s.heap [] := va_S.rf
  obtain ⟨hx, hb, hr, hml, hown, hts, hC0, hlk, hA⟩ := id C
  have hK := hC0.1
  have hl : lv_has ls 3 [(0, .ref (a_cc 0)), (1, .int p1), (2, .int p2)] := hl
  unfold fX8_party at hf
  refine lv_aload_n hx hb dX8_party_0 rfl (lv_at hl 0 rfl) ?_
  refine va_get (D := D) (ci := 8) (v := .ref (a_rd 0)) (C := RX8) (T := TX8) (N := 11) hx hb hts iwX8_party_X8 hown hK hP 0 rfl rfl 2 (by decide) (hts _ lkX8_party_f28) (fun _ h9 => h9) rfl dX8_party_1 ?_
  refine lv_iload_n hx hb dX8_party_4 rfl (lv_at hl 1 rfl) ?_
  obtain ⟨v1, ev1, hf⟩ := bd_some hf
  refine gk_V C (As := [.int p1]) (rest := []) (ci := 2) (q := (RX2, TX2, 12)) (q0 := 0) (wr := (wCC t a_cc y_cc_tape y_cc_teller (a_rd 0) y_cc_trial y_cc_drive y_cc_seeker y_cc_seen y_cc_images y_cc_sheets s_cc)) (wf := ((wCC t a_cc y_cc_tape y_cc_teller (a_rd 0) y_cc_trial y_cc_drive y_cc_seeker y_cc_seen y_cc_images y_cc_sheets s_cc) ++ (wRoad t a_rd s_rd))) (cX2_hasParty_ok (l := l) (D := D) (t := t) (κ := κ) (a_rd := a_rd) ev1) gX8_party_X2_hasParty rfl ⟨rfl, rfl⟩ hdX2_hasParty ⟨Nat.le_of_ble_eq_true rfl, Nat.le_of_ble_eq_true rfl⟩ rfl rfl hP hD hS [2, 3, 4, 5, 6, 7, 8, 9, 10] [0, 1] [0, 1, 2, 3, 4, 5, 6, 7, 8, 9, 10] rfl rfl rfl rfl (by decide) rfl rfl rfl hl.1 (Nat.le_of_ble_eq_true rfl) dX8_party_5 (Nat.zero_le _) (Nat.zero_le _) (fun H locs hP hD hS => ?_)
  refine W.eq (g2 := F0 m 8 ls [.int v1]) rfl ?_
  refine lv_if_eq (tgt := 20) hx hb dX8_party_8 (by decide) (fun c2 => ?_) (fun c2 => ?_)
  · rw [if_pos c2] at hf
    refine lv_iconst (v := -1) hx hb dX8_party_20 (by decide) ?_
    obtain rfl := so_eq hf
    exact g_iret C hP hD hS dX8_party_21
  · rw [if_neg c2] at hf
    refine lv_iload_n hx hb dX8_party_11 rfl (lv_at hl 2 rfl) ?_
    refine lv_iconst (v := 0) hx hb dX8_party_12 (by decide) ?_
    refine lv_iconst (v := 4) hx hb dX8_party_13 (by decide) ?_
    obtain ⟨v3, ev3, hf⟩ := bd_some hf
    refine gk_S C (As := [.int p2, .int (0 : Int32), .int (4 : Int32)]) (rest := []) (cX8_within_ok (l := l) (D := D) (t := t) (κ := κ) ev3) gX8_party_X8_within rfl ⟨rfl, rfl⟩ hdX8_within ⟨Nat.le_of_ble_eq_true rfl, Nat.le_of_ble_eq_true rfl⟩ hP hD hS rfl hl.1 (Nat.le_of_ble_eq_true rfl) dX8_party_14 (Nat.zero_le _) (Nat.zero_le _) (fun H locs hP hD hS => ?_)
    refine W.eq (g2 := F0 m 17 ls [.int v3]) rfl ?_
    refine lv_if_ne (tgt := 22) hx hb dX8_party_17 (by decide) (fun c4 => ?_) (fun c4 => ?_)
    · rw [if_neg c4] at hf
      refine lv_aload_n hx hb dX8_party_22 rfl (lv_at hl 0 rfl) ?_
      refine va_get (D := D) (ci := 8) (v := .ref (a_rd 0)) (C := RX8) (T := TX8) (N := 11) hx hb hts iwX8_party_X8 hown hK hP 0 rfl rfl 2 (by decide) (hts _ lkX8_party_f28) (fun _ h9 => h9) rfl dX8_party_23 ?_
      refine lv_iload_n hx hb dX8_party_26 rfl (lv_at hl 2 rfl) ?_
      refine gk_V C (As := [.int p2]) (rest := []) (ci := 2) (q := (RX2, TX2, 12)) (q0 := 0) (wr := (wCC t a_cc y_cc_tape y_cc_teller (a_rd 0) y_cc_trial y_cc_drive y_cc_seeker y_cc_seen y_cc_images y_cc_sheets s_cc)) (wf := ((wCC t a_cc y_cc_tape y_cc_teller (a_rd 0) y_cc_trial y_cc_drive y_cc_seeker y_cc_seen y_cc_images y_cc_sheets s_cc) ++ (wRoad t a_rd s_rd))) (cX2_partyRow_ok (l := l) (D := D) (t := t) (κ := κ) (a_rd := a_rd) (s_rd := s_rd) (p1 := p2)) gX8_party_X2_partyRow rfl ⟨rfl, rfl⟩ hdX2_partyRow ⟨Nat.le_of_ble_eq_true rfl, Nat.le_of_ble_eq_true rfl⟩ rfl rfl hP hD hS [2, 3, 4, 5, 6, 7, 8, 9, 10] [0, 1] [0, 1, 2, 3, 4, 5, 6, 7, 8, 9, 10] rfl rfl rfl rfl (by decide) rfl rfl rfl hl.1 (Nat.le_of_ble_eq_true rfl) dX8_party_27 (Nat.zero_le _) (Nat.zero_le _) (fun H locs hP hD hS => ?_)
      by_cases c6 : p2 = 0
      · rw [if_pos c6] at hf
        refine W.eq (g2 := F0 m 30 ls [.ref (a_rd 4)]) (by rw [c6]; rfl) ?_
        refine lv_iload_n hx hb dX8_party_30 rfl (lv_at hl 1 rfl) ?_
        obtain ⟨b7, hf⟩ := gd_some hf
        refine va_iald hx hb hK hP 6 0 rfl rfl (ixb_in b7) dX8_party_31 ?_
        obtain rfl := so_eq hf
        exact g_iret C hP hD hS dX8_party_32
      rw [if_neg c6] at hf
      by_cases c8 : p2 = 1
      · rw [if_pos c8] at hf
        refine W.eq (g2 := F0 m 30 ls [.ref (a_rd 5)]) (by rw [c8]; rfl) ?_
        refine lv_iload_n hx hb dX8_party_30 rfl (lv_at hl 1 rfl) ?_
        obtain ⟨b9, hf⟩ := gd_some hf
        refine va_iald hx hb hK hP 7 0 rfl rfl (ixb_in b9) dX8_party_31 ?_
        obtain rfl := so_eq hf
        exact g_iret C hP hD hS dX8_party_32
      rw [if_neg c8] at hf
      by_cases c10 : p2 = 2
      · rw [if_pos c10] at hf
        refine W.eq (g2 := F0 m 30 ls [.ref (a_rd 6)]) (by rw [c10]; rfl) ?_
        refine lv_iload_n hx hb dX8_party_30 rfl (lv_at hl 1 rfl) ?_
        obtain ⟨b11, hf⟩ := gd_some hf
        refine va_iald hx hb hK hP 8 0 rfl rfl (ixb_in b11) dX8_party_31 ?_
        obtain rfl := so_eq hf
        exact g_iret C hP hD hS dX8_party_32
      rw [if_neg c10] at hf
      by_cases c12 : p2 = 3
      · rw [if_pos c12] at hf
        refine W.eq (g2 := F0 m 30 ls [.ref (a_rd 7)]) (by rw [c12]; rfl) ?_
        refine lv_iload_n hx hb dX8_party_30 rfl (lv_at hl 1 rfl) ?_
        obtain ⟨b13, hf⟩ := gd_some hf
        refine va_iald hx hb hK hP 9 0 rfl rfl (ixb_in b13) dX8_party_31 ?_
        obtain rfl := so_eq hf
        exact g_iret C hP hD hS dX8_party_32
      rw [if_neg c12] at hf
      refine W.eq (g2 := F0 m 30 ls [.ref (a_rd 8)]) (by rw [selX2_partyRow_d c6 c8 c10 c12]; rfl) ?_
      refine lv_iload_n hx hb dX8_party_30 rfl (lv_at hl 1 rfl) ?_
      obtain ⟨b14, hf⟩ := gd_some hf
      refine va_iald hx hb hK hP 10 0 rfl rfl (ixb_in b14) dX8_party_31 ?_
      obtain rfl := so_eq hf
      exact g_iret C hP hD hS dX8_party_32
    · rw [if_pos c4] at hf
      refine lv_iconst (v := -1) hx hb dX8_party_20 (by decide) ?_
      obtain rfl := so_eq hf
      exact g_iret C hP hD hS dX8_party_21
/-! CoachCourt.strain -/
def fX8_strain (s_cc : S2) (s_rd : S2) (p1 : Int32) (p2 : Int32) : Option (Int32) :=
  (fX2_hasParty s_rd p1).bind fun v1 =>
  if v1 = (0 : Int32) then
    (some (-1 : Int32))
  else
    ((fX2_hasMile s_rd p2).bind fun v3 =>
    if v3 = (0 : Int32) then
      (some (-1 : Int32))
    else
      ((fX2_strainOf s_rd p1 p2).bind fun v5 =>
      some v5))
theorem hdX8_strain : yX8_strain.cls = RX8 ∧ yX8_strain.cls ≠ "java/lang/invoke/MethodHandle" ∧ yX8_strain.cls ≠ "java/lang/invoke/VarHandle" ∧ (parseMethodDescriptor yX8_strain.desc).map (fun d => d.parameters.length) = some 2 := by decide +kernel
theorem iwX8_strain_X8 : ∀ w ∈ wsX80, w ∈ wsX8_strain := by decide +kernel
theorem lkX8_strain_f28 : Cond.fieldLink RX8 28 "CoachCourt" "road" "LCoachCourt$Road;" ∈ wsX8_strain := by decide +kernel
set_option maxHeartbeats 4000000 in
set_option maxRecDepth 100000 in
theorem cX8_strain_ok {l : Launch} {D : va_G} {t : Nat → ClassId} {κ : Nat → Nat} {a_cc : Nat → Nat} {y_cc_tape : Nat} {y_cc_teller : Nat} {y_cc_trial : Nat} {y_cc_drive : Nat} {y_cc_seeker : Nat} {y_cc_seen : Nat} {y_cc_images : Nat} {y_cc_sheets : Nat} {a_rd : Nat → Nat} {s_cc : S2} {s_rd : S2} {p1 : Int32} {p2 : Int32} {out : Int32} (hf : fX8_strain s_cc s_rd p1 p2 = some out) : Ct l D t κ yX8_strain wsX8_strain (rmL 2) [.ref (a_cc 0), .int p1, .int p2] ((wCC t a_cc y_cc_tape y_cc_teller (a_rd 0) y_cc_trial y_cc_drive y_cc_seeker y_cc_seen y_cc_images y_cc_sheets s_cc) ++ (wRoad t a_rd s_rd)) (some (.int out)) ((wCC t a_cc y_cc_tape y_cc_teller (a_rd 0) y_cc_trial y_cc_drive y_cc_seeker y_cc_seen y_cc_images y_cc_sheets s_cc) ++ (wRoad t a_rd s_rd)) := by
  refine Ct.ofW (own := RX8) (cc := cX8_strain) (maxL := 3) (ret := (some .int)) (by decide) rfl rfl (Nat.le_of_ble_eq_true rfl) ?_
  intro p e s m below meth c A C hP hD ls hl
  have hS : va_S A s.heap s.heap [] := va_S.rf
  obtain ⟨hx, hb, hr, hml, hown, hts, hC0, hlk, hA⟩ := id C
  have hK := hC0.1
  have hl : lv_has ls 3 [(0, .ref (a_cc 0)), (1, .int p1), (2, .int p2)] := hl
  unfold fX8_strain at hf
  refine lv_aload_n hx hb dX8_strain_0 rfl (lv_at hl 0 rfl) ?_
  refine va_get (D := D) (ci := 8) (v := .ref (a_rd 0)) (C := RX8) (T := TX8) (N := 11) hx hb hts iwX8_strain_X8 hown hK hP 0 rfl rfl 2 (by decide) (hts _ lkX8_strain_f28) (fun _ h9 => h9) rfl dX8_strain_1 ?_
  refine lv_iload_n hx hb dX8_strain_4 rfl (lv_at hl 1 rfl) ?_
  obtain ⟨v1, ev1, hf⟩ := bd_some hf
  refine gk_V C (As := [.int p1]) (rest := []) (ci := 2) (q := (RX2, TX2, 12)) (q0 := 0) (wr := (wCC t a_cc y_cc_tape y_cc_teller (a_rd 0) y_cc_trial y_cc_drive y_cc_seeker y_cc_seen y_cc_images y_cc_sheets s_cc)) (wf := ((wCC t a_cc y_cc_tape y_cc_teller (a_rd 0) y_cc_trial y_cc_drive y_cc_seeker y_cc_seen y_cc_images y_cc_sheets s_cc) ++ (wRoad t a_rd s_rd))) (cX2_hasParty_ok (l := l) (D := D) (t := t) (κ := κ) (a_rd := a_rd) ev1) gX8_strain_X2_hasParty rfl ⟨rfl, rfl⟩ hdX2_hasParty ⟨Nat.le_of_ble_eq_true rfl, Nat.le_of_ble_eq_true rfl⟩ rfl rfl hP hD hS [2, 3, 4, 5, 6, 7, 8, 9, 10] [0, 1] [0, 1, 2, 3, 4, 5, 6, 7, 8, 9, 10] rfl rfl rfl rfl (by decide) rfl rfl rfl hl.1 (Nat.le_of_ble_eq_true rfl) dX8_strain_5 (Nat.zero_le _) (Nat.zero_le _) (fun H locs hP hD hS => ?_)
  refine W.eq (g2 := F0 m 8 ls [.int v1]) rfl ?_
  refine lv_if_eq (tgt := 22) hx hb dX8_strain_8 (by decide) (fun c2 => ?_) (fun c2 => ?_)
  · rw [if_pos c2] at hf
    refine lv_iconst (v := -1) hx hb dX8_strain_22 (by decide) ?_
    obtain rfl := so_eq hf
    exact g_iret C hP hD hS dX8_strain_23
  · rw [if_neg c2] at hf
    refine lv_aload_n hx hb dX8_strain_11 rfl (lv_at hl 0 rfl) ?_
    refine va_get (D := D) (ci := 8) (v := .ref (a_rd 0)) (C := RX8) (T := TX8) (N := 11) hx hb hts iwX8_strain_X8 hown hK hP 0 rfl rfl 2 (by decide) (hts _ lkX8_strain_f28) (fun _ h9 => h9) rfl dX8_strain_12 ?_
    refine lv_iload_n hx hb dX8_strain_15 rfl (lv_at hl 2 rfl) ?_
    obtain ⟨v3, ev3, hf⟩ := bd_some hf
    refine gk_V C (As := [.int p2]) (rest := []) (ci := 2) (q := (RX2, TX2, 12)) (q0 := 0) (wr := (wCC t a_cc y_cc_tape y_cc_teller (a_rd 0) y_cc_trial y_cc_drive y_cc_seeker y_cc_seen y_cc_images y_cc_sheets s_cc)) (wf := ((wCC t a_cc y_cc_tape y_cc_teller (a_rd 0) y_cc_trial y_cc_drive y_cc_seeker y_cc_seen y_cc_images y_cc_sheets s_cc) ++ (wRoad t a_rd s_rd))) (cX2_hasMile_ok (l := l) (D := D) (t := t) (κ := κ) (a_rd := a_rd) ev3) gX8_strain_X2_hasMile rfl ⟨rfl, rfl⟩ hdX2_hasMile ⟨Nat.le_of_ble_eq_true rfl, Nat.le_of_ble_eq_true rfl⟩ rfl rfl hP hD hS [2, 3, 4, 5, 6, 7, 8, 9, 10] [0, 1] [0, 1, 2, 3, 4, 5, 6, 7, 8, 9, 10] rfl rfl rfl rfl (by decide) rfl rfl rfl hl.1 (Nat.le_of_ble_eq_true rfl) dX8_strain_16 (Nat.zero_le _) (Nat.zero_le _) (fun H locs hP hD hS => ?_)
    refine W.eq (g2 := F0 m 19 ls [.int v3]) rfl ?_
    refine lv_if_ne (tgt := 24) hx hb dX8_strain_19 (by decide) (fun c4 => ?_) (fun c4 => ?_)
    · rw [if_neg c4] at hf
      refine lv_aload_n hx hb dX8_strain_24 rfl (lv_at hl 0 rfl) ?_
      refine va_get (D := D) (ci := 8) (v := .ref (a_rd 0)) (C := RX8) (T := TX8) (N := 11) hx hb hts iwX8_strain_X8 hown hK hP 0 rfl rfl 2 (by decide) (hts _ lkX8_strain_f28) (fun _ h9 => h9) rfl dX8_strain_25 ?_
      refine lv_iload_n hx hb dX8_strain_28 rfl (lv_at hl 1 rfl) ?_
      refine lv_iload_n hx hb dX8_strain_29 rfl (lv_at hl 2 rfl) ?_
      obtain ⟨v5, ev5, hf⟩ := bd_some hf
      refine gk_V C (As := [.int p1, .int p2]) (rest := []) (ci := 2) (q := (RX2, TX2, 12)) (q0 := 0) (wr := (wCC t a_cc y_cc_tape y_cc_teller (a_rd 0) y_cc_trial y_cc_drive y_cc_seeker y_cc_seen y_cc_images y_cc_sheets s_cc)) (wf := ((wCC t a_cc y_cc_tape y_cc_teller (a_rd 0) y_cc_trial y_cc_drive y_cc_seeker y_cc_seen y_cc_images y_cc_sheets s_cc) ++ (wRoad t a_rd s_rd))) (cX2_strainOf_ok (l := l) (D := D) (t := t) (κ := κ) (a_rd := a_rd) ev5) gX8_strain_X2_strainOf rfl ⟨rfl, rfl⟩ hdX2_strainOf ⟨Nat.le_of_ble_eq_true rfl, Nat.le_of_ble_eq_true rfl⟩ rfl rfl hP hD hS [2, 3, 4, 5, 6, 7, 8, 9, 10] [0, 1] [0, 1, 2, 3, 4, 5, 6, 7, 8, 9, 10] rfl rfl rfl rfl (by decide) rfl rfl rfl hl.1 (Nat.le_of_ble_eq_true rfl) dX8_strain_30 (Nat.zero_le _) (Nat.zero_le _) (fun H locs hP hD hS => ?_)
      refine W.eq (g2 := F0 m 33 ls [.int v5]) rfl ?_
      obtain rfl := so_eq hf
      exact g_iret C hP hD hS dX8_strain_33
    · rw [if_pos c4] at hf
      refine lv_iconst (v := -1) hx hb dX8_strain_22 (by decide) ?_
      obtain rfl := so_eq hf
      exact g_iret C hP hD hS dX8_strain_23
/-! CoachCourt.pave -/
def fX8_pave (s_cc : S2) (s_rd : S2) (p1 : Int32) (p2 : Int32) (p3 : Int32) : Option (Int32 × S2) :=
  (fX2_hasMile s_rd p1).bind fun v1 =>
  if v1 = (0 : Int32) then
    (some ((-1 : Int32), s_rd))
  else
    ((fX8_within p2 (0 : Int32) (2 : Int32)).bind fun v3 =>
    if v3 = (0 : Int32) then
      (some ((-1 : Int32), s_rd))
    else
      (gd (ixb p2 3) <|
      (fX8_within p3 (0 : Int32) (tMH.getD (Int32.toNatClampNeg p2) 0)).bind fun v6 =>
      if v6 = (0 : Int32) then
        (some ((-1 : Int32), s_rd))
      else
        (if p2 = 0 then
          (gd (ixb p1 8) <|
          nm (s_rd 1 (Int32.toNatClampNeg p1)) fun y11 =>
          nm (sE s_rd 1 (Int32.toNatClampNeg p1) p3) fun s12 =>
          some (y11, s12))
        else
        if p2 = 1 then
          (gd (ixb p1 8) <|
          nm (s_rd 2 (Int32.toNatClampNeg p1)) fun y15 =>
          nm (sE s_rd 2 (Int32.toNatClampNeg p1) p3) fun s16 =>
          some (y15, s16))
        else
        (gd (ixb p1 8) <|
        nm (s_rd 3 (Int32.toNatClampNeg p1)) fun y18 =>
        nm (sE s_rd 3 (Int32.toNatClampNeg p1) p3) fun s19 =>
        some (y18, s19)))))
theorem hdX8_pave : yX8_pave.cls = RX8 ∧ yX8_pave.cls ≠ "java/lang/invoke/MethodHandle" ∧ yX8_pave.cls ≠ "java/lang/invoke/VarHandle" ∧ (parseMethodDescriptor yX8_pave.desc).map (fun d => d.parameters.length) = some 3 := by decide +kernel
theorem iwX8_pave_X8 : ∀ w ∈ wsX80, w ∈ wsX8_pave := by decide +kernel
theorem lkX8_pave_f28 : Cond.fieldLink RX8 28 "CoachCourt" "road" "LCoachCourt$Road;" ∈ wsX8_pave := by decide +kernel
theorem lkX8_pave_f149 : Cond.fieldLink RX8 149 "CoachCourt" "MILE_HIGH" "[I" ∈ wsX8_pave := by decide +kernel
set_option maxHeartbeats 4000000 in
set_option maxRecDepth 100000 in
theorem cX8_pave_ok {l : Launch} {D : va_G} {t : Nat → ClassId} {κ : Nat → Nat} {a_cc : Nat → Nat} {y_cc_tape : Nat} {y_cc_teller : Nat} {y_cc_trial : Nat} {y_cc_drive : Nat} {y_cc_seeker : Nat} {y_cc_seen : Nat} {y_cc_images : Nat} {y_cc_sheets : Nat} {a_rd : Nat → Nat} {s_cc : S2} {s_rd : S2} {p1 : Int32} {p2 : Int32} {p3 : Int32} {out : Int32 × S2} (hf : fX8_pave s_cc s_rd p1 p2 p3 = some out) : Ct l D t κ yX8_pave wsX8_pave (rmL 1) [.ref (a_cc 0), .int p1, .int p2, .int p3] ((wCC t a_cc y_cc_tape y_cc_teller (a_rd 0) y_cc_trial y_cc_drive y_cc_seeker y_cc_seen y_cc_images y_cc_sheets s_cc) ++ (wRoad t a_rd s_rd)) (some (.int out.1)) ((wCC t a_cc y_cc_tape y_cc_teller (a_rd 0) y_cc_trial y_cc_drive y_cc_seeker y_cc_seen y_cc_images y_cc_sheets s_cc) ++ (wRoad t a_rd out.2)) := by
  refine Ct.ofW (own := RX8) (cc := cX8_pave) (maxL := 6) (ret := (some .int)) (by decide) rfl rfl (Nat.le_of_ble_eq_true rfl) ?_
  intro p e s m below meth c A C hP hD ls hl
  have hS : va_S A s.heap s.heap [] := va_S.rf
  obtain ⟨hx, hb, hr, hml, hown, hts, hC0, hlk, hA⟩ := id C
  have hK := hC0.1
  have hl : lv_has ls 6 [(0, .ref (a_cc 0)), (1, .int p1), (2, .int p2), (3, .int p3)] := hl
  unfold fX8_pave at hf
  refine lv_aload_n hx hb dX8_pave_0 rfl (lv_at hl 0 rfl) ?_
  refine va_get (D := D) (ci := 8) (v := .ref (a_rd 0)) (C := RX8) (T := TX8) (N := 11) hx hb hts iwX8_pave_X8 hown hK hP 0 rfl rfl 2 (by decide) (hts _ lkX8_pave_f28) (fun _ h9 => h9) rfl dX8_pave_1 ?_
  refine lv_iload_n hx hb dX8_pave_4 rfl (lv_at hl 1 rfl) ?_
  obtain ⟨v1, ev1, hf⟩ := bd_some hf
  refine gk_V C (As := [.int p1]) (rest := []) (ci := 2) (q := (RX2, TX2, 12)) (q0 := 0) (wr := (wCC t a_cc y_cc_tape y_cc_teller (a_rd 0) y_cc_trial y_cc_drive y_cc_seeker y_cc_seen y_cc_images y_cc_sheets s_cc)) (wf := ((wCC t a_cc y_cc_tape y_cc_teller (a_rd 0) y_cc_trial y_cc_drive y_cc_seeker y_cc_seen y_cc_images y_cc_sheets s_cc) ++ (wRoad t a_rd s_rd))) (cX2_hasMile_ok (l := l) (D := D) (t := t) (κ := κ) (a_rd := a_rd) ev1) gX8_pave_X2_hasMile rfl ⟨rfl, rfl⟩ hdX2_hasMile ⟨Nat.le_of_ble_eq_true rfl, Nat.le_of_ble_eq_true rfl⟩ rfl rfl hP hD hS [2, 3, 4, 5, 6, 7, 8, 9, 10] [0, 1] [0, 1, 2, 3, 4, 5, 6, 7, 8, 9, 10] rfl rfl rfl rfl (by decide) rfl rfl rfl hl.1 (Nat.le_of_ble_eq_true rfl) dX8_pave_5 (Nat.zero_le _) (Nat.zero_le _) (fun H locs hP hD hS => ?_)
  refine W.eq (g2 := F0 m 8 ls [.int v1]) rfl ?_
  refine lv_if_eq (tgt := 33) hx hb dX8_pave_8 (by decide) (fun c2 => ?_) (fun c2 => ?_)
  · rw [if_pos c2] at hf
    refine lv_iconst (v := -1) hx hb dX8_pave_33 (by decide) ?_
    obtain rfl := so_eq hf
    exact g_iret C hP hD hS dX8_pave_34
  · rw [if_neg c2] at hf
    refine lv_iload_n hx hb dX8_pave_11 rfl (lv_at hl 2 rfl) ?_
    refine lv_iconst (v := 0) hx hb dX8_pave_12 (by decide) ?_
    refine lv_iconst (v := 2) hx hb dX8_pave_13 (by decide) ?_
    obtain ⟨v3, ev3, hf⟩ := bd_some hf
    refine gk_S C (As := [.int p2, .int (0 : Int32), .int (2 : Int32)]) (rest := []) (cX8_within_ok (l := l) (D := D) (t := t) (κ := κ) ev3) gX8_pave_X8_within rfl ⟨rfl, rfl⟩ hdX8_within ⟨Nat.le_of_ble_eq_true rfl, Nat.le_of_ble_eq_true rfl⟩ hP hD hS rfl hl.1 (Nat.le_of_ble_eq_true rfl) dX8_pave_14 (Nat.zero_le _) (Nat.zero_le _) (fun H locs hP hD hS => ?_)
    refine W.eq (g2 := F0 m 17 ls [.int v3]) rfl ?_
    refine lv_if_eq (tgt := 33) hx hb dX8_pave_17 (by decide) (fun c4 => ?_) (fun c4 => ?_)
    · rw [if_pos c4] at hf
      refine lv_iconst (v := -1) hx hb dX8_pave_33 (by decide) ?_
      obtain rfl := so_eq hf
      exact g_iret C hP hD hS dX8_pave_34
    · rw [if_neg c4] at hf
      refine lv_iload_n hx hb dX8_pave_20 rfl (lv_at hl 3 rfl) ?_
      refine lv_iconst (v := 0) hx hb dX8_pave_21 (by decide) ?_
      refine va_gets hx hb hC0.2.2.2.1.1 hS hown (hts _ lkX8_pave_f149) (fun _ h9 => h9) dX8_pave_22 ?_
      refine lv_iload_n hx hb dX8_pave_25 rfl (lv_at hl 2 rfl) ?_
      obtain ⟨b5, hf⟩ := gd_some hf
      refine va_ti hx hb hC0.2.2.2.1.2 hS (ixb_in b5) rfl dX8_pave_26 ?_
      obtain ⟨v6, ev6, hf⟩ := bd_some hf
      refine gk_S C (As := [.int p3, .int (0 : Int32), .int (tMH.getD (Int32.toNatClampNeg p2) 0)]) (rest := []) (cX8_within_ok (l := l) (D := D) (t := t) (κ := κ) ev6) gX8_pave_X8_within rfl ⟨rfl, rfl⟩ hdX8_within ⟨Nat.le_of_ble_eq_true rfl, Nat.le_of_ble_eq_true rfl⟩ hP hD hS rfl hl.1 (Nat.le_of_ble_eq_true rfl) dX8_pave_27 (Nat.zero_le _) (Nat.zero_le _) (fun H locs hP hD hS => ?_)
      refine W.eq (g2 := F0 m 30 ls [.int v6]) rfl ?_
      refine lv_if_ne (tgt := 35) hx hb dX8_pave_30 (by decide) (fun c7 => ?_) (fun c7 => ?_)
      · rw [if_neg c7] at hf
        refine lv_aload_n hx hb dX8_pave_35 rfl (lv_at hl 0 rfl) ?_
        refine va_get (D := D) (ci := 8) (v := .ref (a_rd 0)) (C := RX8) (T := TX8) (N := 11) hx hb hts iwX8_pave_X8 hown hK hP 0 rfl rfl 2 (by decide) (hts _ lkX8_pave_f28) (fun _ h9 => h9) rfl dX8_pave_36 ?_
        refine lv_iload_n hx hb dX8_pave_39 rfl (lv_at hl 2 rfl) ?_
        refine gk_V C (As := [.int p2]) (rest := []) (ci := 2) (q := (RX2, TX2, 12)) (q0 := 0) (wr := (wCC t a_cc y_cc_tape y_cc_teller (a_rd 0) y_cc_trial y_cc_drive y_cc_seeker y_cc_seen y_cc_images y_cc_sheets s_cc)) (wf := ((wCC t a_cc y_cc_tape y_cc_teller (a_rd 0) y_cc_trial y_cc_drive y_cc_seeker y_cc_seen y_cc_images y_cc_sheets s_cc) ++ (wRoad t a_rd s_rd))) (cX2_mileRow_ok (l := l) (D := D) (t := t) (κ := κ) (a_rd := a_rd) (s_rd := s_rd) (p1 := p2)) gX8_pave_X2_mileRow rfl ⟨rfl, rfl⟩ hdX2_mileRow ⟨Nat.le_of_ble_eq_true rfl, Nat.le_of_ble_eq_true rfl⟩ rfl rfl hP hD hS [2, 3, 4, 5, 6, 7, 8, 9, 10] [0, 1] [0, 1, 2, 3, 4, 5, 6, 7, 8, 9, 10] rfl rfl rfl rfl (by decide) rfl rfl rfl hl.1 (Nat.le_of_ble_eq_true rfl) dX8_pave_40 (Nat.zero_le _) (Nat.zero_le _) (fun H locs hP hD hS => ?_)
        by_cases c9 : p2 = 0
        · rw [if_pos c9] at hf
          refine W.eq (g2 := F0 m 43 ls [.ref (a_rd 1)]) (by rw [c9]; rfl) ?_
          refine lv_astore (lv' := [(4, .ref (a_rd 1)), (0, .ref (a_cc 0)), (1, .int p1), (2, .int p2), (3, .int p3)]) hx hb dX8_pave_43 hl (by decide) rfl (fun ls hl => ?_)
          refine lv_aload hx hb dX8_pave_45 (lv_at hl 0 rfl) ?_
          refine lv_iload_n hx hb dX8_pave_47 rfl (lv_at hl 2 rfl) ?_
          obtain ⟨b10, hf⟩ := gd_some hf
          refine va_iald hx hb hK hP 3 0 rfl rfl (ixb_in b10) dX8_pave_48 ?_
          obtain ⟨y11, hy11, hf⟩ := nm_ex hf
          refine W.eq (g2 := F0 m 49 ls [.int y11]) (by rw [hy11]) ?_
          refine lv_istore (lv' := [(5, .int y11), (4, .ref (a_rd 1)), (0, .ref (a_cc 0)), (1, .int p1), (2, .int p2), (3, .int p3)]) hx hb dX8_pave_49 hl (by decide) rfl (fun ls hl => ?_)
          refine lv_aload hx hb dX8_pave_51 (lv_at hl 1 rfl) ?_
          refine lv_iload_n hx hb dX8_pave_53 rfl (lv_at hl 3 rfl) ?_
          refine lv_iload_n hx hb dX8_pave_54 rfl (lv_at hl 5 rfl) ?_
          obtain ⟨s12, hs12, hf⟩ := nm_ex hf
          refine va_iast hx hb hK hP hD hS 3 0 rfl rfl (ixb_in b10) dX8_pave_55 (fun H locs hP hD hS => ?_)
          have hP : va_P D vwCl ((wCC t a_cc y_cc_tape y_cc_teller (a_rd 0) y_cc_trial y_cc_drive y_cc_seeker y_cc_seen y_cc_images y_cc_sheets s_cc) ++ (wRoad t a_rd s12)) H := by rw [hs12]; exact hP
          have hD : va_D A ((wCC t a_cc y_cc_tape y_cc_teller (a_rd 0) y_cc_trial y_cc_drive y_cc_seeker y_cc_seen y_cc_images y_cc_sheets s_cc) ++ (wRoad t a_rd s12)) := by rw [hs12]; exact hD
          refine lv_iload hx hb dX8_pave_56 (lv_at hl 0 rfl) ?_
          obtain rfl := so_eq hf
          exact g_iret C hP hD hS dX8_pave_58
        rw [if_neg c9] at hf
        by_cases c13 : p2 = 1
        · rw [if_pos c13] at hf
          refine W.eq (g2 := F0 m 43 ls [.ref (a_rd 2)]) (by rw [c13]; rfl) ?_
          refine lv_astore (lv' := [(4, .ref (a_rd 2)), (0, .ref (a_cc 0)), (1, .int p1), (2, .int p2), (3, .int p3)]) hx hb dX8_pave_43 hl (by decide) rfl (fun ls hl => ?_)
          refine lv_aload hx hb dX8_pave_45 (lv_at hl 0 rfl) ?_
          refine lv_iload_n hx hb dX8_pave_47 rfl (lv_at hl 2 rfl) ?_
          obtain ⟨b14, hf⟩ := gd_some hf
          refine va_iald hx hb hK hP 4 0 rfl rfl (ixb_in b14) dX8_pave_48 ?_
          obtain ⟨y15, hy15, hf⟩ := nm_ex hf
          refine W.eq (g2 := F0 m 49 ls [.int y15]) (by rw [hy15]) ?_
          refine lv_istore (lv' := [(5, .int y15), (4, .ref (a_rd 2)), (0, .ref (a_cc 0)), (1, .int p1), (2, .int p2), (3, .int p3)]) hx hb dX8_pave_49 hl (by decide) rfl (fun ls hl => ?_)
          refine lv_aload hx hb dX8_pave_51 (lv_at hl 1 rfl) ?_
          refine lv_iload_n hx hb dX8_pave_53 rfl (lv_at hl 3 rfl) ?_
          refine lv_iload_n hx hb dX8_pave_54 rfl (lv_at hl 5 rfl) ?_
          obtain ⟨s16, hs16, hf⟩ := nm_ex hf
          refine va_iast hx hb hK hP hD hS 4 0 rfl rfl (ixb_in b14) dX8_pave_55 (fun H locs hP hD hS => ?_)
          have hP : va_P D vwCl ((wCC t a_cc y_cc_tape y_cc_teller (a_rd 0) y_cc_trial y_cc_drive y_cc_seeker y_cc_seen y_cc_images y_cc_sheets s_cc) ++ (wRoad t a_rd s16)) H := by rw [hs16]; exact hP
          have hD : va_D A ((wCC t a_cc y_cc_tape y_cc_teller (a_rd 0) y_cc_trial y_cc_drive y_cc_seeker y_cc_seen y_cc_images y_cc_sheets s_cc) ++ (wRoad t a_rd s16)) := by rw [hs16]; exact hD
          refine lv_iload hx hb dX8_pave_56 (lv_at hl 0 rfl) ?_
          obtain rfl := so_eq hf
          exact g_iret C hP hD hS dX8_pave_58
        rw [if_neg c13] at hf
        refine W.eq (g2 := F0 m 43 ls [.ref (a_rd 3)]) (by rw [selX2_mileRow_d c9 c13]; rfl) ?_
        refine lv_astore (lv' := [(4, .ref (a_rd 3)), (0, .ref (a_cc 0)), (1, .int p1), (2, .int p2), (3, .int p3)]) hx hb dX8_pave_43 hl (by decide) rfl (fun ls hl => ?_)
        refine lv_aload hx hb dX8_pave_45 (lv_at hl 0 rfl) ?_
        refine lv_iload_n hx hb dX8_pave_47 rfl (lv_at hl 2 rfl) ?_
        obtain ⟨b17, hf⟩ := gd_some hf
        refine va_iald hx hb hK hP 5 0 rfl rfl (ixb_in b17) dX8_pave_48 ?_
        obtain ⟨y18, hy18, hf⟩ := nm_ex hf
        refine W.eq (g2 := F0 m 49 ls [.int y18]) (by rw [hy18]) ?_
        refine lv_istore (lv' := [(5, .int y18), (4, .ref (a_rd 3)), (0, .ref (a_cc 0)), (1, .int p1), (2, .int p2), (3, .int p3)]) hx hb dX8_pave_49 hl (by decide) rfl (fun ls hl => ?_)
        refine lv_aload hx hb dX8_pave_51 (lv_at hl 1 rfl) ?_
        refine lv_iload_n hx hb dX8_pave_53 rfl (lv_at hl 3 rfl) ?_
        refine lv_iload_n hx hb dX8_pave_54 rfl (lv_at hl 5 rfl) ?_
        obtain ⟨s19, hs19, hf⟩ := nm_ex hf
        refine va_iast hx hb hK hP hD hS 5 0 rfl rfl (ixb_in b17) dX8_pave_55 (fun H locs hP hD hS => ?_)
        have hP : va_P D vwCl ((wCC t a_cc y_cc_tape y_cc_teller (a_rd 0) y_cc_trial y_cc_drive y_cc_seeker y_cc_seen y_cc_images y_cc_sheets s_cc) ++ (wRoad t a_rd s19)) H := by rw [hs19]; exact hP
        have hD : va_D A ((wCC t a_cc y_cc_tape y_cc_teller (a_rd 0) y_cc_trial y_cc_drive y_cc_seeker y_cc_seen y_cc_images y_cc_sheets s_cc) ++ (wRoad t a_rd s19)) := by rw [hs19]; exact hD
        refine lv_iload hx hb dX8_pave_56 (lv_at hl 0 rfl) ?_
        obtain rfl := so_eq hf
        exact g_iret C hP hD hS dX8_pave_58
      · rw [if_pos c7] at hf
        refine lv_iconst (v := -1) hx hb dX8_pave_33 (by decide) ?_
        obtain rfl := so_eq hf
        exact g_iret C hP hD hS dX8_pave_34
/-! CoachCourt.alter -/
def fX8_alter (s_cc : S2) (s_rd : S2) (p1 : Int32) (p2 : Int32) (p3 : Int32) : Option (Int32 × S2) :=
  (fX2_hasParty s_rd p1).bind fun v1 =>
  if v1 = (0 : Int32) then
    (some ((-1 : Int32), s_rd))
  else
    ((fX8_within p2 (0 : Int32) (3 : Int32)).bind fun v3 =>
    if v3 = (0 : Int32) then
      (some ((-1 : Int32), s_rd))
    else
      (gd (ixb p2 5) <|
      (fX8_within p3 (tPL.getD (Int32.toNatClampNeg p2) 0) (tPH.getD (Int32.toNatClampNeg p2) 0)).bind fun v6 =>
      if v6 = (0 : Int32) then
        (some ((-1 : Int32), s_rd))
      else
        (if p2 = 0 then
          (gd (ixb p1 4) <|
          nm (s_rd 4 (Int32.toNatClampNeg p1)) fun y11 =>
          nm (sE s_rd 4 (Int32.toNatClampNeg p1) p3) fun s12 =>
          some (y11, s12))
        else
        if p2 = 1 then
          (gd (ixb p1 4) <|
          nm (s_rd 5 (Int32.toNatClampNeg p1)) fun y15 =>
          nm (sE s_rd 5 (Int32.toNatClampNeg p1) p3) fun s16 =>
          some (y15, s16))
        else
        if p2 = 2 then
          (gd (ixb p1 4) <|
          nm (s_rd 6 (Int32.toNatClampNeg p1)) fun y19 =>
          nm (sE s_rd 6 (Int32.toNatClampNeg p1) p3) fun s20 =>
          some (y19, s20))
        else
        if p2 = 3 then
          (gd (ixb p1 4) <|
          nm (s_rd 7 (Int32.toNatClampNeg p1)) fun y23 =>
          nm (sE s_rd 7 (Int32.toNatClampNeg p1) p3) fun s24 =>
          some (y23, s24))
        else
        (gd (ixb p1 4) <|
        nm (s_rd 8 (Int32.toNatClampNeg p1)) fun y26 =>
        nm (sE s_rd 8 (Int32.toNatClampNeg p1) p3) fun s27 =>
        some (y26, s27)))))
theorem hdX8_alter : yX8_alter.cls = RX8 ∧ yX8_alter.cls ≠ "java/lang/invoke/MethodHandle" ∧ yX8_alter.cls ≠ "java/lang/invoke/VarHandle" ∧ (parseMethodDescriptor yX8_alter.desc).map (fun d => d.parameters.length) = some 3 := by decide +kernel
theorem iwX8_alter_X8 : ∀ w ∈ wsX80, w ∈ wsX8_alter := by decide +kernel
theorem lkX8_alter_f28 : Cond.fieldLink RX8 28 "CoachCourt" "road" "LCoachCourt$Road;" ∈ wsX8_alter := by decide +kernel
theorem lkX8_alter_f152 : Cond.fieldLink RX8 152 "CoachCourt" "PARTY_LOW" "[I" ∈ wsX8_alter := by decide +kernel
theorem lkX8_alter_f155 : Cond.fieldLink RX8 155 "CoachCourt" "PARTY_HIGH" "[I" ∈ wsX8_alter := by decide +kernel
set_option maxHeartbeats 4000000 in
set_option maxRecDepth 100000 in
theorem cX8_alter_ok {l : Launch} {D : va_G} {t : Nat → ClassId} {κ : Nat → Nat} {a_cc : Nat → Nat} {y_cc_tape : Nat} {y_cc_teller : Nat} {y_cc_trial : Nat} {y_cc_drive : Nat} {y_cc_seeker : Nat} {y_cc_seen : Nat} {y_cc_images : Nat} {y_cc_sheets : Nat} {a_rd : Nat → Nat} {s_cc : S2} {s_rd : S2} {p1 : Int32} {p2 : Int32} {p3 : Int32} {out : Int32 × S2} (hf : fX8_alter s_cc s_rd p1 p2 p3 = some out) : Ct l D t κ yX8_alter wsX8_alter (rmL 1) [.ref (a_cc 0), .int p1, .int p2, .int p3] ((wCC t a_cc y_cc_tape y_cc_teller (a_rd 0) y_cc_trial y_cc_drive y_cc_seeker y_cc_seen y_cc_images y_cc_sheets s_cc) ++ (wRoad t a_rd s_rd)) (some (.int out.1)) ((wCC t a_cc y_cc_tape y_cc_teller (a_rd 0) y_cc_trial y_cc_drive y_cc_seeker y_cc_seen y_cc_images y_cc_sheets s_cc) ++ (wRoad t a_rd out.2)) := by
  refine Ct.ofW (own := RX8) (cc := cX8_alter) (maxL := 6) (ret := (some .int)) (by decide) rfl rfl (Nat.le_of_ble_eq_true rfl) ?_
  intro p e s m below meth c A C hP hD ls hl
  have hS : va_S A s.heap s.heap [] := va_S.rf
  obtain ⟨hx, hb, hr, hml, hown, hts, hC0, hlk, hA⟩ := id C
  have hK := hC0.1
  have hl : lv_has ls 6 [(0, .ref (a_cc 0)), (1, .int p1), (2, .int p2), (3, .int p3)] := hl
  unfold fX8_alter at hf
  refine lv_aload_n hx hb dX8_alter_0 rfl (lv_at hl 0 rfl) ?_
  refine va_get (D := D) (ci := 8) (v := .ref (a_rd 0)) (C := RX8) (T := TX8) (N := 11) hx hb hts iwX8_alter_X8 hown hK hP 0 rfl rfl 2 (by decide) (hts _ lkX8_alter_f28) (fun _ h9 => h9) rfl dX8_alter_1 ?_
  refine lv_iload_n hx hb dX8_alter_4 rfl (lv_at hl 1 rfl) ?_
  obtain ⟨v1, ev1, hf⟩ := bd_some hf
  refine gk_V C (As := [.int p1]) (rest := []) (ci := 2) (q := (RX2, TX2, 12)) (q0 := 0) (wr := (wCC t a_cc y_cc_tape y_cc_teller (a_rd 0) y_cc_trial y_cc_drive y_cc_seeker y_cc_seen y_cc_images y_cc_sheets s_cc)) (wf := ((wCC t a_cc y_cc_tape y_cc_teller (a_rd 0) y_cc_trial y_cc_drive y_cc_seeker y_cc_seen y_cc_images y_cc_sheets s_cc) ++ (wRoad t a_rd s_rd))) (cX2_hasParty_ok (l := l) (D := D) (t := t) (κ := κ) (a_rd := a_rd) ev1) gX8_alter_X2_hasParty rfl ⟨rfl, rfl⟩ hdX2_hasParty ⟨Nat.le_of_ble_eq_true rfl, Nat.le_of_ble_eq_true rfl⟩ rfl rfl hP hD hS [2, 3, 4, 5, 6, 7, 8, 9, 10] [0, 1] [0, 1, 2, 3, 4, 5, 6, 7, 8, 9, 10] rfl rfl rfl rfl (by decide) rfl rfl rfl hl.1 (Nat.le_of_ble_eq_true rfl) dX8_alter_5 (Nat.zero_le _) (Nat.zero_le _) (fun H locs hP hD hS => ?_)
  refine W.eq (g2 := F0 m 8 ls [.int v1]) rfl ?_
  refine lv_if_eq (tgt := 37) hx hb dX8_alter_8 (by decide) (fun c2 => ?_) (fun c2 => ?_)
  · rw [if_pos c2] at hf
    refine lv_iconst (v := -1) hx hb dX8_alter_37 (by decide) ?_
    obtain rfl := so_eq hf
    exact g_iret C hP hD hS dX8_alter_38
  · rw [if_neg c2] at hf
    refine lv_iload_n hx hb dX8_alter_11 rfl (lv_at hl 2 rfl) ?_
    refine lv_iconst (v := 0) hx hb dX8_alter_12 (by decide) ?_
    refine lv_iconst (v := 3) hx hb dX8_alter_13 (by decide) ?_
    obtain ⟨v3, ev3, hf⟩ := bd_some hf
    refine gk_S C (As := [.int p2, .int (0 : Int32), .int (3 : Int32)]) (rest := []) (cX8_within_ok (l := l) (D := D) (t := t) (κ := κ) ev3) gX8_alter_X8_within rfl ⟨rfl, rfl⟩ hdX8_within ⟨Nat.le_of_ble_eq_true rfl, Nat.le_of_ble_eq_true rfl⟩ hP hD hS rfl hl.1 (Nat.le_of_ble_eq_true rfl) dX8_alter_14 (Nat.zero_le _) (Nat.zero_le _) (fun H locs hP hD hS => ?_)
    refine W.eq (g2 := F0 m 17 ls [.int v3]) rfl ?_
    refine lv_if_eq (tgt := 37) hx hb dX8_alter_17 (by decide) (fun c4 => ?_) (fun c4 => ?_)
    · rw [if_pos c4] at hf
      refine lv_iconst (v := -1) hx hb dX8_alter_37 (by decide) ?_
      obtain rfl := so_eq hf
      exact g_iret C hP hD hS dX8_alter_38
    · rw [if_neg c4] at hf
      refine lv_iload_n hx hb dX8_alter_20 rfl (lv_at hl 3 rfl) ?_
      refine va_gets hx hb hC0.2.2.2.2.1.1 hS hown (hts _ lkX8_alter_f152) (fun _ h9 => h9) dX8_alter_21 ?_
      refine lv_iload_n hx hb dX8_alter_24 rfl (lv_at hl 2 rfl) ?_
      obtain ⟨b5, hf⟩ := gd_some hf
      refine va_ti hx hb hC0.2.2.2.2.1.2 hS (ixb_in b5) rfl dX8_alter_25 ?_
      refine va_gets hx hb hC0.2.2.2.2.2.1.1 hS hown (hts _ lkX8_alter_f155) (fun _ h9 => h9) dX8_alter_26 ?_
      refine lv_iload_n hx hb dX8_alter_29 rfl (lv_at hl 2 rfl) ?_
      refine va_ti hx hb hC0.2.2.2.2.2.1.2 hS (ixb_in b5) rfl dX8_alter_30 ?_
      obtain ⟨v6, ev6, hf⟩ := bd_some hf
      refine gk_S C (As := [.int p3, .int (tPL.getD (Int32.toNatClampNeg p2) 0), .int (tPH.getD (Int32.toNatClampNeg p2) 0)]) (rest := []) (cX8_within_ok (l := l) (D := D) (t := t) (κ := κ) ev6) gX8_alter_X8_within rfl ⟨rfl, rfl⟩ hdX8_within ⟨Nat.le_of_ble_eq_true rfl, Nat.le_of_ble_eq_true rfl⟩ hP hD hS rfl hl.1 (Nat.le_of_ble_eq_true rfl) dX8_alter_31 (Nat.zero_le _) (Nat.zero_le _) (fun H locs hP hD hS => ?_)
      refine W.eq (g2 := F0 m 34 ls [.int v6]) rfl ?_
      refine lv_if_ne (tgt := 39) hx hb dX8_alter_34 (by decide) (fun c7 => ?_) (fun c7 => ?_)
      · rw [if_neg c7] at hf
        refine lv_aload_n hx hb dX8_alter_39 rfl (lv_at hl 0 rfl) ?_
        refine va_get (D := D) (ci := 8) (v := .ref (a_rd 0)) (C := RX8) (T := TX8) (N := 11) hx hb hts iwX8_alter_X8 hown hK hP 0 rfl rfl 2 (by decide) (hts _ lkX8_alter_f28) (fun _ h9 => h9) rfl dX8_alter_40 ?_
        refine lv_iload_n hx hb dX8_alter_43 rfl (lv_at hl 2 rfl) ?_
        refine gk_V C (As := [.int p2]) (rest := []) (ci := 2) (q := (RX2, TX2, 12)) (q0 := 0) (wr := (wCC t a_cc y_cc_tape y_cc_teller (a_rd 0) y_cc_trial y_cc_drive y_cc_seeker y_cc_seen y_cc_images y_cc_sheets s_cc)) (wf := ((wCC t a_cc y_cc_tape y_cc_teller (a_rd 0) y_cc_trial y_cc_drive y_cc_seeker y_cc_seen y_cc_images y_cc_sheets s_cc) ++ (wRoad t a_rd s_rd))) (cX2_partyRow_ok (l := l) (D := D) (t := t) (κ := κ) (a_rd := a_rd) (s_rd := s_rd) (p1 := p2)) gX8_alter_X2_partyRow rfl ⟨rfl, rfl⟩ hdX2_partyRow ⟨Nat.le_of_ble_eq_true rfl, Nat.le_of_ble_eq_true rfl⟩ rfl rfl hP hD hS [2, 3, 4, 5, 6, 7, 8, 9, 10] [0, 1] [0, 1, 2, 3, 4, 5, 6, 7, 8, 9, 10] rfl rfl rfl rfl (by decide) rfl rfl rfl hl.1 (Nat.le_of_ble_eq_true rfl) dX8_alter_44 (Nat.zero_le _) (Nat.zero_le _) (fun H locs hP hD hS => ?_)
        by_cases c9 : p2 = 0
        · rw [if_pos c9] at hf
          refine W.eq (g2 := F0 m 47 ls [.ref (a_rd 4)]) (by rw [c9]; rfl) ?_
          refine lv_astore (lv' := [(4, .ref (a_rd 4)), (0, .ref (a_cc 0)), (1, .int p1), (2, .int p2), (3, .int p3)]) hx hb dX8_alter_47 hl (by decide) rfl (fun ls hl => ?_)
          refine lv_aload hx hb dX8_alter_49 (lv_at hl 0 rfl) ?_
          refine lv_iload_n hx hb dX8_alter_51 rfl (lv_at hl 2 rfl) ?_
          obtain ⟨b10, hf⟩ := gd_some hf
          refine va_iald hx hb hK hP 6 0 rfl rfl (ixb_in b10) dX8_alter_52 ?_
          obtain ⟨y11, hy11, hf⟩ := nm_ex hf
          refine W.eq (g2 := F0 m 53 ls [.int y11]) (by rw [hy11]) ?_
          refine lv_istore (lv' := [(5, .int y11), (4, .ref (a_rd 4)), (0, .ref (a_cc 0)), (1, .int p1), (2, .int p2), (3, .int p3)]) hx hb dX8_alter_53 hl (by decide) rfl (fun ls hl => ?_)
          refine lv_aload hx hb dX8_alter_55 (lv_at hl 1 rfl) ?_
          refine lv_iload_n hx hb dX8_alter_57 rfl (lv_at hl 3 rfl) ?_
          refine lv_iload_n hx hb dX8_alter_58 rfl (lv_at hl 5 rfl) ?_
          obtain ⟨s12, hs12, hf⟩ := nm_ex hf
          refine va_iast hx hb hK hP hD hS 6 0 rfl rfl (ixb_in b10) dX8_alter_59 (fun H locs hP hD hS => ?_)
          have hP : va_P D vwCl ((wCC t a_cc y_cc_tape y_cc_teller (a_rd 0) y_cc_trial y_cc_drive y_cc_seeker y_cc_seen y_cc_images y_cc_sheets s_cc) ++ (wRoad t a_rd s12)) H := by rw [hs12]; exact hP
          have hD : va_D A ((wCC t a_cc y_cc_tape y_cc_teller (a_rd 0) y_cc_trial y_cc_drive y_cc_seeker y_cc_seen y_cc_images y_cc_sheets s_cc) ++ (wRoad t a_rd s12)) := by rw [hs12]; exact hD
          refine lv_iload hx hb dX8_alter_60 (lv_at hl 0 rfl) ?_
          obtain rfl := so_eq hf
          exact g_iret C hP hD hS dX8_alter_62
        rw [if_neg c9] at hf
        by_cases c13 : p2 = 1
        · rw [if_pos c13] at hf
          refine W.eq (g2 := F0 m 47 ls [.ref (a_rd 5)]) (by rw [c13]; rfl) ?_
          refine lv_astore (lv' := [(4, .ref (a_rd 5)), (0, .ref (a_cc 0)), (1, .int p1), (2, .int p2), (3, .int p3)]) hx hb dX8_alter_47 hl (by decide) rfl (fun ls hl => ?_)
          refine lv_aload hx hb dX8_alter_49 (lv_at hl 0 rfl) ?_
          refine lv_iload_n hx hb dX8_alter_51 rfl (lv_at hl 2 rfl) ?_
          obtain ⟨b14, hf⟩ := gd_some hf
          refine va_iald hx hb hK hP 7 0 rfl rfl (ixb_in b14) dX8_alter_52 ?_
          obtain ⟨y15, hy15, hf⟩ := nm_ex hf
          refine W.eq (g2 := F0 m 53 ls [.int y15]) (by rw [hy15]) ?_
          refine lv_istore (lv' := [(5, .int y15), (4, .ref (a_rd 5)), (0, .ref (a_cc 0)), (1, .int p1), (2, .int p2), (3, .int p3)]) hx hb dX8_alter_53 hl (by decide) rfl (fun ls hl => ?_)
          refine lv_aload hx hb dX8_alter_55 (lv_at hl 1 rfl) ?_
          refine lv_iload_n hx hb dX8_alter_57 rfl (lv_at hl 3 rfl) ?_
          refine lv_iload_n hx hb dX8_alter_58 rfl (lv_at hl 5 rfl) ?_
          obtain ⟨s16, hs16, hf⟩ := nm_ex hf
          refine va_iast hx hb hK hP hD hS 7 0 rfl rfl (ixb_in b14) dX8_alter_59 (fun H locs hP hD hS => ?_)
          have hP : va_P D vwCl ((wCC t a_cc y_cc_tape y_cc_teller (a_rd 0) y_cc_trial y_cc_drive y_cc_seeker y_cc_seen y_cc_images y_cc_sheets s_cc) ++ (wRoad t a_rd s16)) H := by rw [hs16]; exact hP
          have hD : va_D A ((wCC t a_cc y_cc_tape y_cc_teller (a_rd 0) y_cc_trial y_cc_drive y_cc_seeker y_cc_seen y_cc_images y_cc_sheets s_cc) ++ (wRoad t a_rd s16)) := by rw [hs16]; exact hD
          refine lv_iload hx hb dX8_alter_60 (lv_at hl 0 rfl) ?_
          obtain rfl := so_eq hf
          exact g_iret C hP hD hS dX8_alter_62
        rw [if_neg c13] at hf
        by_cases c17 : p2 = 2
        · rw [if_pos c17] at hf
          refine W.eq (g2 := F0 m 47 ls [.ref (a_rd 6)]) (by rw [c17]; rfl) ?_
          refine lv_astore (lv' := [(4, .ref (a_rd 6)), (0, .ref (a_cc 0)), (1, .int p1), (2, .int p2), (3, .int p3)]) hx hb dX8_alter_47 hl (by decide) rfl (fun ls hl => ?_)
          refine lv_aload hx hb dX8_alter_49 (lv_at hl 0 rfl) ?_
          refine lv_iload_n hx hb dX8_alter_51 rfl (lv_at hl 2 rfl) ?_
          obtain ⟨b18, hf⟩ := gd_some hf
          refine va_iald hx hb hK hP 8 0 rfl rfl (ixb_in b18) dX8_alter_52 ?_
          obtain ⟨y19, hy19, hf⟩ := nm_ex hf
          refine W.eq (g2 := F0 m 53 ls [.int y19]) (by rw [hy19]) ?_
          refine lv_istore (lv' := [(5, .int y19), (4, .ref (a_rd 6)), (0, .ref (a_cc 0)), (1, .int p1), (2, .int p2), (3, .int p3)]) hx hb dX8_alter_53 hl (by decide) rfl (fun ls hl => ?_)
          refine lv_aload hx hb dX8_alter_55 (lv_at hl 1 rfl) ?_
          refine lv_iload_n hx hb dX8_alter_57 rfl (lv_at hl 3 rfl) ?_
          refine lv_iload_n hx hb dX8_alter_58 rfl (lv_at hl 5 rfl) ?_
          obtain ⟨s20, hs20, hf⟩ := nm_ex hf
          refine va_iast hx hb hK hP hD hS 8 0 rfl rfl (ixb_in b18) dX8_alter_59 (fun H locs hP hD hS => ?_)
          have hP : va_P D vwCl ((wCC t a_cc y_cc_tape y_cc_teller (a_rd 0) y_cc_trial y_cc_drive y_cc_seeker y_cc_seen y_cc_images y_cc_sheets s_cc) ++ (wRoad t a_rd s20)) H := by rw [hs20]; exact hP
          have hD : va_D A ((wCC t a_cc y_cc_tape y_cc_teller (a_rd 0) y_cc_trial y_cc_drive y_cc_seeker y_cc_seen y_cc_images y_cc_sheets s_cc) ++ (wRoad t a_rd s20)) := by rw [hs20]; exact hD
          refine lv_iload hx hb dX8_alter_60 (lv_at hl 0 rfl) ?_
          obtain rfl := so_eq hf
          exact g_iret C hP hD hS dX8_alter_62
        rw [if_neg c17] at hf
        by_cases c21 : p2 = 3
        · rw [if_pos c21] at hf
          refine W.eq (g2 := F0 m 47 ls [.ref (a_rd 7)]) (by rw [c21]; rfl) ?_
          refine lv_astore (lv' := [(4, .ref (a_rd 7)), (0, .ref (a_cc 0)), (1, .int p1), (2, .int p2), (3, .int p3)]) hx hb dX8_alter_47 hl (by decide) rfl (fun ls hl => ?_)
          refine lv_aload hx hb dX8_alter_49 (lv_at hl 0 rfl) ?_
          refine lv_iload_n hx hb dX8_alter_51 rfl (lv_at hl 2 rfl) ?_
          obtain ⟨b22, hf⟩ := gd_some hf
          refine va_iald hx hb hK hP 9 0 rfl rfl (ixb_in b22) dX8_alter_52 ?_
          obtain ⟨y23, hy23, hf⟩ := nm_ex hf
          refine W.eq (g2 := F0 m 53 ls [.int y23]) (by rw [hy23]) ?_
          refine lv_istore (lv' := [(5, .int y23), (4, .ref (a_rd 7)), (0, .ref (a_cc 0)), (1, .int p1), (2, .int p2), (3, .int p3)]) hx hb dX8_alter_53 hl (by decide) rfl (fun ls hl => ?_)
          refine lv_aload hx hb dX8_alter_55 (lv_at hl 1 rfl) ?_
          refine lv_iload_n hx hb dX8_alter_57 rfl (lv_at hl 3 rfl) ?_
          refine lv_iload_n hx hb dX8_alter_58 rfl (lv_at hl 5 rfl) ?_
          obtain ⟨s24, hs24, hf⟩ := nm_ex hf
          refine va_iast hx hb hK hP hD hS 9 0 rfl rfl (ixb_in b22) dX8_alter_59 (fun H locs hP hD hS => ?_)
          have hP : va_P D vwCl ((wCC t a_cc y_cc_tape y_cc_teller (a_rd 0) y_cc_trial y_cc_drive y_cc_seeker y_cc_seen y_cc_images y_cc_sheets s_cc) ++ (wRoad t a_rd s24)) H := by rw [hs24]; exact hP
          have hD : va_D A ((wCC t a_cc y_cc_tape y_cc_teller (a_rd 0) y_cc_trial y_cc_drive y_cc_seeker y_cc_seen y_cc_images y_cc_sheets s_cc) ++ (wRoad t a_rd s24)) := by rw [hs24]; exact hD
          refine lv_iload hx hb dX8_alter_60 (lv_at hl 0 rfl) ?_
          obtain rfl := so_eq hf
          exact g_iret C hP hD hS dX8_alter_62
        rw [if_neg c21] at hf
        refine W.eq (g2 := F0 m 47 ls [.ref (a_rd 8)]) (by rw [selX2_partyRow_d c9 c13 c17 c21]; rfl) ?_
        refine lv_astore (lv' := [(4, .ref (a_rd 8)), (0, .ref (a_cc 0)), (1, .int p1), (2, .int p2), (3, .int p3)]) hx hb dX8_alter_47 hl (by decide) rfl (fun ls hl => ?_)
        refine lv_aload hx hb dX8_alter_49 (lv_at hl 0 rfl) ?_
        refine lv_iload_n hx hb dX8_alter_51 rfl (lv_at hl 2 rfl) ?_
        obtain ⟨b25, hf⟩ := gd_some hf
        refine va_iald hx hb hK hP 10 0 rfl rfl (ixb_in b25) dX8_alter_52 ?_
        obtain ⟨y26, hy26, hf⟩ := nm_ex hf
        refine W.eq (g2 := F0 m 53 ls [.int y26]) (by rw [hy26]) ?_
        refine lv_istore (lv' := [(5, .int y26), (4, .ref (a_rd 8)), (0, .ref (a_cc 0)), (1, .int p1), (2, .int p2), (3, .int p3)]) hx hb dX8_alter_53 hl (by decide) rfl (fun ls hl => ?_)
        refine lv_aload hx hb dX8_alter_55 (lv_at hl 1 rfl) ?_
        refine lv_iload_n hx hb dX8_alter_57 rfl (lv_at hl 3 rfl) ?_
        refine lv_iload_n hx hb dX8_alter_58 rfl (lv_at hl 5 rfl) ?_
        obtain ⟨s27, hs27, hf⟩ := nm_ex hf
        refine va_iast hx hb hK hP hD hS 10 0 rfl rfl (ixb_in b25) dX8_alter_59 (fun H locs hP hD hS => ?_)
        have hP : va_P D vwCl ((wCC t a_cc y_cc_tape y_cc_teller (a_rd 0) y_cc_trial y_cc_drive y_cc_seeker y_cc_seen y_cc_images y_cc_sheets s_cc) ++ (wRoad t a_rd s27)) H := by rw [hs27]; exact hP
        have hD : va_D A ((wCC t a_cc y_cc_tape y_cc_teller (a_rd 0) y_cc_trial y_cc_drive y_cc_seeker y_cc_seen y_cc_images y_cc_sheets s_cc) ++ (wRoad t a_rd s27)) := by rw [hs27]; exact hD
        refine lv_iload hx hb dX8_alter_60 (lv_at hl 0 rfl) ?_
        obtain rfl := so_eq hf
        exact g_iret C hP hD hS dX8_alter_62
      · rw [if_pos c7] at hf
        refine lv_iconst (v := -1) hx hb dX8_alter_37 (by decide) ?_
        obtain rfl := so_eq hf
        exact g_iret C hP hD hS dX8_alter_38
/-! CoachCourt.stand -/
def fX8_stand (s_cc : S2) (s_rd : S2) (p1 : Int32) (p2 : Int32) : Option (Int32 × S2) :=
  (fX2_hasParty s_rd p1).bind fun v1 =>
  if v1 = (0 : Int32) then
    (some ((-1 : Int32), s_rd))
  else
    ((fX2_hasMile s_rd p2).bind fun v3 =>
    if v3 = (0 : Int32) then
      (some ((-1 : Int32), s_rd))
    else
      (gd (ixb p1 4) <|
      nm (s_rd 8 (Int32.toNatClampNeg p1)) fun y6 =>
      nm (sE s_rd 8 (Int32.toNatClampNeg p1) p2) fun s7 =>
      some (y6, s7)))
theorem hdX8_stand : yX8_stand.cls = RX8 ∧ yX8_stand.cls ≠ "java/lang/invoke/MethodHandle" ∧ yX8_stand.cls ≠ "java/lang/invoke/VarHandle" ∧ (parseMethodDescriptor yX8_stand.desc).map (fun d => d.parameters.length) = some 2 := by decide +kernel
theorem iwX8_stand_X8 : ∀ w ∈ wsX80, w ∈ wsX8_stand := by decide +kernel
theorem lkX8_stand_f28 : Cond.fieldLink RX8 28 "CoachCourt" "road" "LCoachCourt$Road;" ∈ wsX8_stand := by decide +kernel
theorem iwX8_stand_X2 : ∀ w ∈ wsX20, w ∈ wsX8_stand := by decide +kernel
set_option maxHeartbeats 4000000 in
set_option maxRecDepth 100000 in
theorem cX8_stand_ok {l : Launch} {D : va_G} {t : Nat → ClassId} {κ : Nat → Nat} {a_cc : Nat → Nat} {y_cc_tape : Nat} {y_cc_teller : Nat} {y_cc_trial : Nat} {y_cc_drive : Nat} {y_cc_seeker : Nat} {y_cc_seen : Nat} {y_cc_images : Nat} {y_cc_sheets : Nat} {a_rd : Nat → Nat} {s_cc : S2} {s_rd : S2} {p1 : Int32} {p2 : Int32} {out : Int32 × S2} (hf : fX8_stand s_cc s_rd p1 p2 = some out) : Ct l D t κ yX8_stand wsX8_stand (rmL 1) [.ref (a_cc 0), .int p1, .int p2] ((wCC t a_cc y_cc_tape y_cc_teller (a_rd 0) y_cc_trial y_cc_drive y_cc_seeker y_cc_seen y_cc_images y_cc_sheets s_cc) ++ (wRoad t a_rd s_rd)) (some (.int out.1)) ((wCC t a_cc y_cc_tape y_cc_teller (a_rd 0) y_cc_trial y_cc_drive y_cc_seeker y_cc_seen y_cc_images y_cc_sheets s_cc) ++ (wRoad t a_rd out.2)) := by
  refine Ct.ofW (own := RX8) (cc := cX8_stand) (maxL := 4) (ret := (some .int)) (by decide) rfl rfl (Nat.le_of_ble_eq_true rfl) ?_
  intro p e s m below meth c A C hP hD ls hl
  have hS : va_S A s.heap s.heap [] := va_S.rf
  obtain ⟨hx, hb, hr, hml, hown, hts, hC0, hlk, hA⟩ := id C
  have hK := hC0.1
  have hl : lv_has ls 4 [(0, .ref (a_cc 0)), (1, .int p1), (2, .int p2)] := hl
  unfold fX8_stand at hf
  refine lv_aload_n hx hb dX8_stand_0 rfl (lv_at hl 0 rfl) ?_
  refine va_get (D := D) (ci := 8) (v := .ref (a_rd 0)) (C := RX8) (T := TX8) (N := 11) hx hb hts iwX8_stand_X8 hown hK hP 0 rfl rfl 2 (by decide) (hts _ lkX8_stand_f28) (fun _ h9 => h9) rfl dX8_stand_1 ?_
  refine lv_iload_n hx hb dX8_stand_4 rfl (lv_at hl 1 rfl) ?_
  obtain ⟨v1, ev1, hf⟩ := bd_some hf
  refine gk_V C (As := [.int p1]) (rest := []) (ci := 2) (q := (RX2, TX2, 12)) (q0 := 0) (wr := (wCC t a_cc y_cc_tape y_cc_teller (a_rd 0) y_cc_trial y_cc_drive y_cc_seeker y_cc_seen y_cc_images y_cc_sheets s_cc)) (wf := ((wCC t a_cc y_cc_tape y_cc_teller (a_rd 0) y_cc_trial y_cc_drive y_cc_seeker y_cc_seen y_cc_images y_cc_sheets s_cc) ++ (wRoad t a_rd s_rd))) (cX2_hasParty_ok (l := l) (D := D) (t := t) (κ := κ) (a_rd := a_rd) ev1) gX8_stand_X2_hasParty rfl ⟨rfl, rfl⟩ hdX2_hasParty ⟨Nat.le_of_ble_eq_true rfl, Nat.le_of_ble_eq_true rfl⟩ rfl rfl hP hD hS [2, 3, 4, 5, 6, 7, 8, 9, 10] [0, 1] [0, 1, 2, 3, 4, 5, 6, 7, 8, 9, 10] rfl rfl rfl rfl (by decide) rfl rfl rfl hl.1 (Nat.le_of_ble_eq_true rfl) dX8_stand_5 (Nat.zero_le _) (Nat.zero_le _) (fun H locs hP hD hS => ?_)
  refine W.eq (g2 := F0 m 8 ls [.int v1]) rfl ?_
  refine lv_if_eq (tgt := 22) hx hb dX8_stand_8 (by decide) (fun c2 => ?_) (fun c2 => ?_)
  · rw [if_pos c2] at hf
    refine lv_iconst (v := -1) hx hb dX8_stand_22 (by decide) ?_
    obtain rfl := so_eq hf
    exact g_iret C hP hD hS dX8_stand_23
  · rw [if_neg c2] at hf
    refine lv_aload_n hx hb dX8_stand_11 rfl (lv_at hl 0 rfl) ?_
    refine va_get (D := D) (ci := 8) (v := .ref (a_rd 0)) (C := RX8) (T := TX8) (N := 11) hx hb hts iwX8_stand_X8 hown hK hP 0 rfl rfl 2 (by decide) (hts _ lkX8_stand_f28) (fun _ h9 => h9) rfl dX8_stand_12 ?_
    refine lv_iload_n hx hb dX8_stand_15 rfl (lv_at hl 2 rfl) ?_
    obtain ⟨v3, ev3, hf⟩ := bd_some hf
    refine gk_V C (As := [.int p2]) (rest := []) (ci := 2) (q := (RX2, TX2, 12)) (q0 := 0) (wr := (wCC t a_cc y_cc_tape y_cc_teller (a_rd 0) y_cc_trial y_cc_drive y_cc_seeker y_cc_seen y_cc_images y_cc_sheets s_cc)) (wf := ((wCC t a_cc y_cc_tape y_cc_teller (a_rd 0) y_cc_trial y_cc_drive y_cc_seeker y_cc_seen y_cc_images y_cc_sheets s_cc) ++ (wRoad t a_rd s_rd))) (cX2_hasMile_ok (l := l) (D := D) (t := t) (κ := κ) (a_rd := a_rd) ev3) gX8_stand_X2_hasMile rfl ⟨rfl, rfl⟩ hdX2_hasMile ⟨Nat.le_of_ble_eq_true rfl, Nat.le_of_ble_eq_true rfl⟩ rfl rfl hP hD hS [2, 3, 4, 5, 6, 7, 8, 9, 10] [0, 1] [0, 1, 2, 3, 4, 5, 6, 7, 8, 9, 10] rfl rfl rfl rfl (by decide) rfl rfl rfl hl.1 (Nat.le_of_ble_eq_true rfl) dX8_stand_16 (Nat.zero_le _) (Nat.zero_le _) (fun H locs hP hD hS => ?_)
    refine W.eq (g2 := F0 m 19 ls [.int v3]) rfl ?_
    refine lv_if_ne (tgt := 24) hx hb dX8_stand_19 (by decide) (fun c4 => ?_) (fun c4 => ?_)
    · rw [if_neg c4] at hf
      refine lv_aload_n hx hb dX8_stand_24 rfl (lv_at hl 0 rfl) ?_
      refine va_get (D := D) (ci := 8) (v := .ref (a_rd 0)) (C := RX8) (T := TX8) (N := 11) hx hb hts iwX8_stand_X8 hown hK hP 0 rfl rfl 2 (by decide) (hts _ lkX8_stand_f28) (fun _ h9 => h9) rfl dX8_stand_25 ?_
      refine va_getN (D := D) (ci := 2) (v := .ref (a_rd 8)) (C := RX2) (T := TX2) (N := 12) hx hb hts iwX8_stand_X2 hown hK hP 2 rfl rfl 7 (by decide) (hC0.2.1.f 22 rfl) (fun _ h9 => h9) rfl dX8_stand_28 ?_
      refine lv_iload_n hx hb dX8_stand_31 rfl (lv_at hl 1 rfl) ?_
      obtain ⟨b5, hf⟩ := gd_some hf
      refine va_iald hx hb hK hP 10 0 rfl rfl (ixb_in b5) dX8_stand_32 ?_
      obtain ⟨y6, hy6, hf⟩ := nm_ex hf
      refine W.eq (g2 := F0 m 33 ls [.int y6]) (by rw [hy6]) ?_
      refine lv_istore_n (lv' := [(3, .int y6), (0, .ref (a_cc 0)), (1, .int p1), (2, .int p2)]) hx hb dX8_stand_33 rfl hl (by decide) rfl (fun ls hl => ?_)
      refine lv_aload_n hx hb dX8_stand_34 rfl (lv_at hl 1 rfl) ?_
      refine va_get (D := D) (ci := 8) (v := .ref (a_rd 0)) (C := RX8) (T := TX8) (N := 11) hx hb hts iwX8_stand_X8 hown hK hP 0 rfl rfl 2 (by decide) (hts _ lkX8_stand_f28) (fun _ h9 => h9) rfl dX8_stand_35 ?_
      refine va_getN (D := D) (ci := 2) (v := .ref (a_rd 8)) (C := RX2) (T := TX2) (N := 12) hx hb hts iwX8_stand_X2 hown hK hP 2 rfl rfl 7 (by decide) (hC0.2.1.f 22 rfl) (fun _ h9 => h9) rfl dX8_stand_38 ?_
      refine lv_iload_n hx hb dX8_stand_41 rfl (lv_at hl 2 rfl) ?_
      refine lv_iload_n hx hb dX8_stand_42 rfl (lv_at hl 3 rfl) ?_
      obtain ⟨s7, hs7, hf⟩ := nm_ex hf
      refine va_iast hx hb hK hP hD hS 10 0 rfl rfl (ixb_in b5) dX8_stand_43 (fun H locs hP hD hS => ?_)
      have hP : va_P D vwCl ((wCC t a_cc y_cc_tape y_cc_teller (a_rd 0) y_cc_trial y_cc_drive y_cc_seeker y_cc_seen y_cc_images y_cc_sheets s_cc) ++ (wRoad t a_rd s7)) H := by rw [hs7]; exact hP
      have hD : va_D A ((wCC t a_cc y_cc_tape y_cc_teller (a_rd 0) y_cc_trial y_cc_drive y_cc_seeker y_cc_seen y_cc_images y_cc_sheets s_cc) ++ (wRoad t a_rd s7)) := by rw [hs7]; exact hD
      refine lv_iload_n hx hb dX8_stand_44 rfl (lv_at hl 0 rfl) ?_
      obtain rfl := so_eq hf
      exact g_iret C hP hD hS dX8_stand_45
    · rw [if_pos c4] at hf
      refine lv_iconst (v := -1) hx hb dX8_stand_22 (by decide) ?_
      obtain rfl := so_eq hf
      exact g_iret C hP hD hS dX8_stand_23
/-! CoachCourt.set -/
def fX8_set_32 (s_cc : S2) (s_rd : S2) (x1 : Int32) (x2 : Int32) : Option (Int32 × S2) :=
  if x1 = (3 : Int32) then
    ((fX8_within x2 (0 : Int32) (99 : Int32)).bind fun v3 =>
    if v3 = (0 : Int32) then
      (some ((-1 : Int32), s_rd))
    else
      (nm (s_rd 0 3) fun y5 =>
      nm (sE s_rd 0 3 x2) fun s6 =>
      some (y5, s6)))
  else
    (some ((-1 : Int32), s_rd))
def fX8_set (s_cc : S2) (s_rd : S2) (p1 : Int32) (p2 : Int32) : Option (Int32 × S2) :=
  if p1 = (2 : Int32) then
    ((fX8_within p2 (1 : Int32) (4 : Int32)).bind fun v7 =>
    if v7 = (0 : Int32) then
      (fX8_set_32 s_cc s_rd p1 p2)
    else
      (nm (s_rd 0 2) fun y9 =>
      nm (sE s_rd 0 2 p2) fun s10 =>
      some (y9, s10)))
  else
    (fX8_set_32 s_cc s_rd p1 p2)
theorem hdX8_set : yX8_set.cls = RX8 ∧ yX8_set.cls ≠ "java/lang/invoke/MethodHandle" ∧ yX8_set.cls ≠ "java/lang/invoke/VarHandle" ∧ (parseMethodDescriptor yX8_set.desc).map (fun d => d.parameters.length) = some 2 := by decide +kernel
theorem iwX8_set_X8 : ∀ w ∈ wsX80, w ∈ wsX8_set := by decide +kernel
theorem lkX8_set_f28 : Cond.fieldLink RX8 28 "CoachCourt" "road" "LCoachCourt$Road;" ∈ wsX8_set := by decide +kernel
theorem iwX8_set_X2 : ∀ w ∈ wsX20, w ∈ wsX8_set := by decide +kernel
set_option maxHeartbeats 4000000 in
set_option maxRecDepth 100000 in
theorem wX8_set_32 {p : Program} {l : Launch} {e : Env} {s : State} {m : MethodId} {args : Array Value} {below : List Frame} {meth : Method} {c : Code} {D : va_G} {t : Nat → ClassId} {κ : Nat → Nat} {A : Nat → Prop} {a_cc : Nat → Nat} {y_cc_tape : Nat} {y_cc_teller : Nat} {y_cc_trial : Nat} {y_cc_drive : Nat} {y_cc_seeker : Nat} {y_cc_seen : Nat} {y_cc_images : Nat} {y_cc_sheets : Nat} {a_rd : Nat → Nat} {s_cc : S2} {s_rd : S2} {x1 : Int32} {x2 : Int32} {out : Int32 × S2} (C : Cxt p s m args meth c cX8_set 4 RX8 wsX8_set (some .int) D t κ A) (hf : fX8_set_32 s_cc s_rd x1 x2 = some out) : ∀ (H : Heap) (locs : List Loc) (ls : Array Slot), va_P D vwCl ((wCC t a_cc y_cc_tape y_cc_teller (a_rd 0) y_cc_trial y_cc_drive y_cc_seeker y_cc_seen y_cc_images y_cc_sheets s_cc) ++ (wRoad t a_rd s_rd)) H → va_D A ((wCC t a_cc y_cc_tape y_cc_teller (a_rd 0) y_cc_trial y_cc_drive y_cc_seeker y_cc_seen y_cc_images y_cc_sheets s_cc) ++ (wRoad t a_rd s_rd)) → va_S A s.heap H locs → lv_has ls 4 [(0, .ref (a_cc 0)), (1, .int x1), (2, .int x2)] → W p l e (rmL 1) s m args below meth c H locs 0 0 (MQ below (gQ D (some (.int out.1)) ((wCC t a_cc y_cc_tape y_cc_teller (a_rd 0) y_cc_trial y_cc_drive y_cc_seeker y_cc_seen y_cc_images y_cc_sheets s_cc) ++ (wRoad t a_rd out.2)) A) args s 0 0 A) (F0 m 32 ls []) := by
  obtain ⟨hx, hb, hr, hml, hown, hts, hC0, hlk, hA⟩ := id C
  have hK := hC0.1
  intro H locs ls hP hD hS hl
  unfold fX8_set_32 at hf
  refine lv_iload_n hx hb dX8_set_32 rfl (lv_at hl 1 rfl) ?_
  refine lv_iconst (v := 3) hx hb dX8_set_33 (by decide) ?_
  refine lv_icmp_ne (tgt := 65) hx hb dX8_set_34 (by decide) (fun c2 => ?_) (fun c2 => ?_)
  · rw [if_neg c2] at hf
    refine lv_iconst (v := -1) hx hb dX8_set_65 (by decide) ?_
    obtain rfl := so_eq hf
    exact g_iret C hP hD hS dX8_set_66
  · rw [if_pos c2] at hf
    refine lv_iload_n hx hb dX8_set_37 rfl (lv_at hl 2 rfl) ?_
    refine lv_iconst (v := 0) hx hb dX8_set_38 (by decide) ?_
    refine lv_bipush (v := 99) hx hb dX8_set_39 (by decide) ?_
    obtain ⟨v3, ev3, hf⟩ := bd_some hf
    refine gk_S C (As := [.int x2, .int (0 : Int32), .int (99 : Int32)]) (rest := []) (cX8_within_ok (l := l) (D := D) (t := t) (κ := κ) ev3) gX8_set_X8_within rfl ⟨rfl, rfl⟩ hdX8_within ⟨Nat.le_of_ble_eq_true rfl, Nat.le_of_ble_eq_true rfl⟩ hP hD hS rfl hl.1 (Nat.le_of_ble_eq_true rfl) dX8_set_41 (Nat.zero_le _) (Nat.zero_le _) (fun H locs hP hD hS => ?_)
    refine W.eq (g2 := F0 m 44 ls [.int v3]) rfl ?_
    refine lv_if_eq (tgt := 65) hx hb dX8_set_44 (by decide) (fun c4 => ?_) (fun c4 => ?_)
    · rw [if_pos c4] at hf
      refine lv_iconst (v := -1) hx hb dX8_set_65 (by decide) ?_
      obtain rfl := so_eq hf
      exact g_iret C hP hD hS dX8_set_66
    · rw [if_neg c4] at hf
      refine lv_aload_n hx hb dX8_set_47 rfl (lv_at hl 0 rfl) ?_
      refine va_get (D := D) (ci := 8) (v := .ref (a_rd 0)) (C := RX8) (T := TX8) (N := 11) hx hb hts iwX8_set_X8 hown hK hP 0 rfl rfl 2 (by decide) (hts _ lkX8_set_f28) (fun _ h9 => h9) rfl dX8_set_48 ?_
      refine va_getN (D := D) (ci := 2) (v := .int (s_rd 0 3)) (C := RX2) (T := TX2) (N := 12) hx hb hts iwX8_set_X2 hown hK hP 2 rfl rfl 11 (by decide) (hC0.2.1.f 32 rfl) (fun _ h9 => h9) rfl dX8_set_51 ?_
      obtain ⟨y5, hy5, hf⟩ := nm_ex hf
      refine W.eq (g2 := F0 m 54 ls [.int y5]) (by rw [hy5]) ?_
      refine lv_istore_n (lv' := [(3, .int y5), (0, .ref (a_cc 0)), (1, .int x1), (2, .int x2)]) hx hb dX8_set_54 rfl hl (by decide) rfl (fun ls hl => ?_)
      refine lv_aload_n hx hb dX8_set_55 rfl (lv_at hl 1 rfl) ?_
      refine va_get (D := D) (ci := 8) (v := .ref (a_rd 0)) (C := RX8) (T := TX8) (N := 11) hx hb hts iwX8_set_X8 hown hK hP 0 rfl rfl 2 (by decide) (hts _ lkX8_set_f28) (fun _ h9 => h9) rfl dX8_set_56 ?_
      refine lv_iload_n hx hb dX8_set_59 rfl (lv_at hl 3 rfl) ?_
      obtain ⟨s6, hs6, hf⟩ := nm_ex hf
      refine va_putN (D := D) (ci := 2) (v := .int x2) (ty := .int) (C := RX2) (T := TX2) (N := 12) hx hb hts iwX8_set_X2 tyX2 tyX2_ok nmX2 hown hK hP hD hS 2 rfl rfl 11 (by decide) (hC0.2.1.f 32 rfl) (fun _ h9 => h9) rfl (by decide +kernel) rfl rfl (Nat.le_of_ble_eq_true rfl) dX8_set_60 (fun H locs hP hD hS => ?_)
      have hP : va_P D vwCl ((wCC t a_cc y_cc_tape y_cc_teller (a_rd 0) y_cc_trial y_cc_drive y_cc_seeker y_cc_seen y_cc_images y_cc_sheets s_cc) ++ (wRoad t a_rd s6)) H := by rw [hs6]; exact hP
      have hD : va_D A ((wCC t a_cc y_cc_tape y_cc_teller (a_rd 0) y_cc_trial y_cc_drive y_cc_seeker y_cc_seen y_cc_images y_cc_sheets s_cc) ++ (wRoad t a_rd s6)) := by rw [hs6]; exact hD
      refine lv_iload_n hx hb dX8_set_63 rfl (lv_at hl 0 rfl) ?_
      obtain rfl := so_eq hf
      exact g_iret C hP hD hS dX8_set_64
set_option maxHeartbeats 4000000 in
set_option maxRecDepth 100000 in
theorem cX8_set_ok {l : Launch} {D : va_G} {t : Nat → ClassId} {κ : Nat → Nat} {a_cc : Nat → Nat} {y_cc_tape : Nat} {y_cc_teller : Nat} {y_cc_trial : Nat} {y_cc_drive : Nat} {y_cc_seeker : Nat} {y_cc_seen : Nat} {y_cc_images : Nat} {y_cc_sheets : Nat} {a_rd : Nat → Nat} {s_cc : S2} {s_rd : S2} {p1 : Int32} {p2 : Int32} {out : Int32 × S2} (hf : fX8_set s_cc s_rd p1 p2 = some out) : Ct l D t κ yX8_set wsX8_set (rmL 1) [.ref (a_cc 0), .int p1, .int p2] ((wCC t a_cc y_cc_tape y_cc_teller (a_rd 0) y_cc_trial y_cc_drive y_cc_seeker y_cc_seen y_cc_images y_cc_sheets s_cc) ++ (wRoad t a_rd s_rd)) (some (.int out.1)) ((wCC t a_cc y_cc_tape y_cc_teller (a_rd 0) y_cc_trial y_cc_drive y_cc_seeker y_cc_seen y_cc_images y_cc_sheets s_cc) ++ (wRoad t a_rd out.2)) := by
  refine Ct.ofW (own := RX8) (cc := cX8_set) (maxL := 4) (ret := (some .int)) (by decide) rfl rfl (Nat.le_of_ble_eq_true rfl) ?_
  intro p e s m below meth c A C hP hD ls hl
  have hS : va_S A s.heap s.heap [] := va_S.rf
  obtain ⟨hx, hb, hr, hml, hown, hts, hC0, hlk, hA⟩ := id C
  have hK := hC0.1
  have hl : lv_has ls 4 [(0, .ref (a_cc 0)), (1, .int p1), (2, .int p2)] := hl
  unfold fX8_set at hf
  refine lv_iload_n hx hb dX8_set_0 rfl (lv_at hl 1 rfl) ?_
  refine lv_iconst (v := 2) hx hb dX8_set_1 (by decide) ?_
  refine lv_icmp_ne (tgt := 32) hx hb dX8_set_2 (by decide) (fun c1 => ?_) (fun c1 => ?_)
  · rw [if_neg c1] at hf
    exact wX8_set_32 C hf _ _ _ hP hD hS (lv_sub hl [0, 1, 2] rfl)
  · rw [if_pos c1] at hf
    refine lv_iload_n hx hb dX8_set_5 rfl (lv_at hl 2 rfl) ?_
    refine lv_iconst (v := 1) hx hb dX8_set_6 (by decide) ?_
    refine lv_iconst (v := 4) hx hb dX8_set_7 (by decide) ?_
    obtain ⟨v7, ev7, hf⟩ := bd_some hf
    refine gk_S C (As := [.int p2, .int (1 : Int32), .int (4 : Int32)]) (rest := []) (cX8_within_ok (l := l) (D := D) (t := t) (κ := κ) ev7) gX8_set_X8_within rfl ⟨rfl, rfl⟩ hdX8_within ⟨Nat.le_of_ble_eq_true rfl, Nat.le_of_ble_eq_true rfl⟩ hP hD hS rfl hl.1 (Nat.le_of_ble_eq_true rfl) dX8_set_8 (Nat.zero_le _) (Nat.zero_le _) (fun H locs hP hD hS => ?_)
    refine W.eq (g2 := F0 m 11 ls [.int v7]) rfl ?_
    refine lv_if_eq (tgt := 32) hx hb dX8_set_11 (by decide) (fun c8 => ?_) (fun c8 => ?_)
    · rw [if_pos c8] at hf
      exact wX8_set_32 C hf _ _ _ hP hD hS (lv_sub hl [0, 1, 2] rfl)
    · rw [if_neg c8] at hf
      refine lv_aload_n hx hb dX8_set_14 rfl (lv_at hl 0 rfl) ?_
      refine va_get (D := D) (ci := 8) (v := .ref (a_rd 0)) (C := RX8) (T := TX8) (N := 11) hx hb hts iwX8_set_X8 hown hK hP 0 rfl rfl 2 (by decide) (hts _ lkX8_set_f28) (fun _ h9 => h9) rfl dX8_set_15 ?_
      refine va_getN (D := D) (ci := 2) (v := .int (s_rd 0 2)) (C := RX2) (T := TX2) (N := 12) hx hb hts iwX8_set_X2 hown hK hP 2 rfl rfl 10 (by decide) (hC0.2.1.f 30 rfl) (fun _ h9 => h9) rfl dX8_set_18 ?_
      obtain ⟨y9, hy9, hf⟩ := nm_ex hf
      refine W.eq (g2 := F0 m 21 ls [.int y9]) (by rw [hy9]) ?_
      refine lv_istore_n (lv' := [(3, .int y9), (0, .ref (a_cc 0)), (1, .int p1), (2, .int p2)]) hx hb dX8_set_21 rfl hl (by decide) rfl (fun ls hl => ?_)
      refine lv_aload_n hx hb dX8_set_22 rfl (lv_at hl 1 rfl) ?_
      refine va_get (D := D) (ci := 8) (v := .ref (a_rd 0)) (C := RX8) (T := TX8) (N := 11) hx hb hts iwX8_set_X8 hown hK hP 0 rfl rfl 2 (by decide) (hts _ lkX8_set_f28) (fun _ h9 => h9) rfl dX8_set_23 ?_
      refine lv_iload_n hx hb dX8_set_26 rfl (lv_at hl 3 rfl) ?_
      obtain ⟨s10, hs10, hf⟩ := nm_ex hf
      refine va_putN (D := D) (ci := 2) (v := .int p2) (ty := .int) (C := RX2) (T := TX2) (N := 12) hx hb hts iwX8_set_X2 tyX2 tyX2_ok nmX2 hown hK hP hD hS 2 rfl rfl 10 (by decide) (hC0.2.1.f 30 rfl) (fun _ h9 => h9) rfl (by decide +kernel) rfl rfl (Nat.le_of_ble_eq_true rfl) dX8_set_27 (fun H locs hP hD hS => ?_)
      have hP : va_P D vwCl ((wCC t a_cc y_cc_tape y_cc_teller (a_rd 0) y_cc_trial y_cc_drive y_cc_seeker y_cc_seen y_cc_images y_cc_sheets s_cc) ++ (wRoad t a_rd s10)) H := by rw [hs10]; exact hP
      have hD : va_D A ((wCC t a_cc y_cc_tape y_cc_teller (a_rd 0) y_cc_trial y_cc_drive y_cc_seeker y_cc_seen y_cc_images y_cc_sheets s_cc) ++ (wRoad t a_rd s10)) := by rw [hs10]; exact hD
      refine lv_iload_n hx hb dX8_set_30 rfl (lv_at hl 0 rfl) ?_
      obtain rfl := so_eq hf
      exact g_iret C hP hD hS dX8_set_31
/-! CoachCourt.turn -/
def fX8_turn (s_cc : S2) (s_rd : S2) (p1 : Int32) : Option (Int32 × S2) :=
  (fX2_hasSignpost s_rd p1).bind fun v1 =>
  if v1 = (0 : Int32) then
    (some ((-1 : Int32), s_rd))
  else
    ((fX2_turnSignpost s_rd p1).bind fun v3 =>
    gd (ixb p1 8) <|
    some (v3 1 (Int32.toNatClampNeg p1), v3))
theorem hdX8_turn : yX8_turn.cls = RX8 ∧ yX8_turn.cls ≠ "java/lang/invoke/MethodHandle" ∧ yX8_turn.cls ≠ "java/lang/invoke/VarHandle" ∧ (parseMethodDescriptor yX8_turn.desc).map (fun d => d.parameters.length) = some 1 := by decide +kernel
theorem iwX8_turn_X8 : ∀ w ∈ wsX80, w ∈ wsX8_turn := by decide +kernel
theorem lkX8_turn_f28 : Cond.fieldLink RX8 28 "CoachCourt" "road" "LCoachCourt$Road;" ∈ wsX8_turn := by decide +kernel
theorem iwX8_turn_X2 : ∀ w ∈ wsX20, w ∈ wsX8_turn := by decide +kernel
set_option maxHeartbeats 4000000 in
set_option maxRecDepth 100000 in
theorem cX8_turn_ok {l : Launch} {D : va_G} {t : Nat → ClassId} {κ : Nat → Nat} {a_cc : Nat → Nat} {y_cc_tape : Nat} {y_cc_teller : Nat} {y_cc_trial : Nat} {y_cc_drive : Nat} {y_cc_seeker : Nat} {y_cc_seen : Nat} {y_cc_images : Nat} {y_cc_sheets : Nat} {a_rd : Nat → Nat} {s_cc : S2} {s_rd : S2} {p1 : Int32} {out : Int32 × S2} (hf : fX8_turn s_cc s_rd p1 = some out) : Ct l D t κ yX8_turn wsX8_turn (rmL 1) [.ref (a_cc 0), .int p1] ((wCC t a_cc y_cc_tape y_cc_teller (a_rd 0) y_cc_trial y_cc_drive y_cc_seeker y_cc_seen y_cc_images y_cc_sheets s_cc) ++ (wRoad t a_rd s_rd)) (some (.int out.1)) ((wCC t a_cc y_cc_tape y_cc_teller (a_rd 0) y_cc_trial y_cc_drive y_cc_seeker y_cc_seen y_cc_images y_cc_sheets s_cc) ++ (wRoad t a_rd out.2)) := by
  refine Ct.ofW (own := RX8) (cc := cX8_turn) (maxL := 2) (ret := (some .int)) (by decide) rfl rfl (Nat.le_of_ble_eq_true rfl) ?_
  intro p e s m below meth c A C hP hD ls hl
  have hS : va_S A s.heap s.heap [] := va_S.rf
  obtain ⟨hx, hb, hr, hml, hown, hts, hC0, hlk, hA⟩ := id C
  have hK := hC0.1
  have hl : lv_has ls 2 [(0, .ref (a_cc 0)), (1, .int p1)] := hl
  unfold fX8_turn at hf
  refine lv_aload_n hx hb dX8_turn_0 rfl (lv_at hl 0 rfl) ?_
  refine va_get (D := D) (ci := 8) (v := .ref (a_rd 0)) (C := RX8) (T := TX8) (N := 11) hx hb hts iwX8_turn_X8 hown hK hP 0 rfl rfl 2 (by decide) (hts _ lkX8_turn_f28) (fun _ h9 => h9) rfl dX8_turn_1 ?_
  refine lv_iload_n hx hb dX8_turn_4 rfl (lv_at hl 1 rfl) ?_
  obtain ⟨v1, ev1, hf⟩ := bd_some hf
  refine gk_V C (As := [.int p1]) (rest := []) (ci := 2) (q := (RX2, TX2, 12)) (q0 := 0) (wr := (wCC t a_cc y_cc_tape y_cc_teller (a_rd 0) y_cc_trial y_cc_drive y_cc_seeker y_cc_seen y_cc_images y_cc_sheets s_cc)) (wf := ((wCC t a_cc y_cc_tape y_cc_teller (a_rd 0) y_cc_trial y_cc_drive y_cc_seeker y_cc_seen y_cc_images y_cc_sheets s_cc) ++ (wRoad t a_rd s_rd))) (cX2_hasSignpost_ok (l := l) (D := D) (t := t) (κ := κ) (a_rd := a_rd) ev1) gX8_turn_X2_hasSignpost rfl ⟨rfl, rfl⟩ hdX2_hasSignpost ⟨Nat.le_of_ble_eq_true rfl, Nat.le_of_ble_eq_true rfl⟩ rfl rfl hP hD hS [2, 3, 4, 5, 6, 7, 8, 9, 10] [0, 1] [0, 1, 2, 3, 4, 5, 6, 7, 8, 9, 10] rfl rfl rfl rfl (by decide) rfl rfl rfl hl.1 (Nat.le_of_ble_eq_true rfl) dX8_turn_5 (Nat.zero_le _) (Nat.zero_le _) (fun H locs hP hD hS => ?_)
  refine W.eq (g2 := F0 m 8 ls [.int v1]) rfl ?_
  refine lv_if_ne (tgt := 13) hx hb dX8_turn_8 (by decide) (fun c2 => ?_) (fun c2 => ?_)
  · rw [if_neg c2] at hf
    refine lv_aload_n hx hb dX8_turn_13 rfl (lv_at hl 0 rfl) ?_
    refine va_get (D := D) (ci := 8) (v := .ref (a_rd 0)) (C := RX8) (T := TX8) (N := 11) hx hb hts iwX8_turn_X8 hown hK hP 0 rfl rfl 2 (by decide) (hts _ lkX8_turn_f28) (fun _ h9 => h9) rfl dX8_turn_14 ?_
    refine lv_iload_n hx hb dX8_turn_17 rfl (lv_at hl 1 rfl) ?_
    obtain ⟨v3, ev3, hf⟩ := bd_some hf
    refine gk_V C (As := [.int p1]) (rest := []) (ci := 2) (q := (RX2, TX2, 12)) (q0 := 0) (wr := (wCC t a_cc y_cc_tape y_cc_teller (a_rd 0) y_cc_trial y_cc_drive y_cc_seeker y_cc_seen y_cc_images y_cc_sheets s_cc)) (wf := ((wCC t a_cc y_cc_tape y_cc_teller (a_rd 0) y_cc_trial y_cc_drive y_cc_seeker y_cc_seen y_cc_images y_cc_sheets s_cc) ++ (wRoad t a_rd v3))) (cX2_turnSignpost_ok (l := l) (D := D) (t := t) (κ := κ) (a_rd := a_rd) ev3) gX8_turn_X2_turnSignpost rfl ⟨rfl, rfl⟩ hdX2_turnSignpost ⟨Nat.le_of_ble_eq_true rfl, Nat.le_of_ble_eq_true rfl⟩ rfl rfl hP hD hS [2, 3, 4, 5, 6, 7, 8, 9, 10] [0, 1] [0, 1, 2, 3, 4, 5, 6, 7, 8, 9, 10] rfl rfl rfl rfl (by decide) rfl rfl rfl hl.1 (Nat.le_of_ble_eq_true rfl) dX8_turn_18 (Nat.zero_le _) (Nat.zero_le _) (fun H locs hP hD hS => ?_)
    refine W.eq (g2 := F0 m 21 ls []) rfl ?_
    refine lv_aload_n hx hb dX8_turn_21 rfl (lv_at hl 0 rfl) ?_
    refine va_get (D := D) (ci := 8) (v := .ref (a_rd 0)) (C := RX8) (T := TX8) (N := 11) hx hb hts iwX8_turn_X8 hown hK hP 0 rfl rfl 2 (by decide) (hts _ lkX8_turn_f28) (fun _ h9 => h9) rfl dX8_turn_22 ?_
    refine va_getN (D := D) (ci := 2) (v := .ref (a_rd 1)) (C := RX2) (T := TX2) (N := 12) hx hb hts iwX8_turn_X2 hown hK hP 2 rfl rfl 0 (by decide) (hC0.2.1.f 9 rfl) (fun _ h9 => h9) rfl dX8_turn_25 ?_
    refine lv_iload_n hx hb dX8_turn_28 rfl (lv_at hl 1 rfl) ?_
    obtain ⟨b4, hf⟩ := gd_some hf
    refine va_iald hx hb hK hP 3 0 rfl rfl (ixb_in b4) dX8_turn_29 ?_
    obtain rfl := so_eq hf
    exact g_iret C hP hD hS dX8_turn_30
  · rw [if_pos c2] at hf
    refine lv_iconst (v := -1) hx hb dX8_turn_11 (by decide) ?_
    obtain rfl := so_eq hf
    exact g_iret C hP hD hS dX8_turn_12
/-! CoachCourt.fate -/
def fX8_fate (s_cc : S2) (s_rd : S2) (s_dr : S2) (p1 : Int32) (p2 : Int32) : Option (Int32 × S2) :=
  (fX2_hasParty s_rd p1).bind fun v1 =>
  if v1 = (0 : Int32) then
    (some ((-1 : Int32), s_dr))
  else
    ((fX8_within p2 (0 : Int32) (3 : Int32)).bind fun v3 =>
    if v3 = (0 : Int32) then
      (some ((-1 : Int32), s_dr))
    else
      ((fX0_run s_dr s_rd).bind fun v5 =>
      if p2 = 0 then
        (gd (ixb p1 4) <|
        some (v5 1 (Int32.toNatClampNeg p1), v5))
      else
      if p2 = 1 then
        (gd (ixb p1 4) <|
        some (v5 2 (Int32.toNatClampNeg p1), v5))
      else
      if p2 = 2 then
        (gd (ixb p1 4) <|
        some (v5 3 (Int32.toNatClampNeg p1), v5))
      else
      (gd (ixb p1 4) <|
      some (v5 4 (Int32.toNatClampNeg p1), v5))))
theorem hdX8_fate : yX8_fate.cls = RX8 ∧ yX8_fate.cls ≠ "java/lang/invoke/MethodHandle" ∧ yX8_fate.cls ≠ "java/lang/invoke/VarHandle" ∧ (parseMethodDescriptor yX8_fate.desc).map (fun d => d.parameters.length) = some 2 := by decide +kernel
theorem iwX8_fate_X8 : ∀ w ∈ wsX80, w ∈ wsX8_fate := by decide +kernel
theorem lkX8_fate_f28 : Cond.fieldLink RX8 28 "CoachCourt" "road" "LCoachCourt$Road;" ∈ wsX8_fate := by decide +kernel
theorem lkX8_fate_f38 : Cond.fieldLink RX8 38 "CoachCourt" "drive" "LCoachCourt$Drive;" ∈ wsX8_fate := by decide +kernel
set_option maxHeartbeats 4000000 in
set_option maxRecDepth 100000 in
theorem cX8_fate_ok {l : Launch} {D : va_G} {t : Nat → ClassId} {κ : Nat → Nat} {a_cc : Nat → Nat} {y_cc_tape : Nat} {y_cc_teller : Nat} {y_cc_trial : Nat} {y_cc_seeker : Nat} {y_cc_seen : Nat} {y_cc_images : Nat} {y_cc_sheets : Nat} {a_rd : Nat → Nat} {a_dr : Nat → Nat} {s_cc : S2} {s_rd : S2} {s_dr : S2} {p1 : Int32} {p2 : Int32} {out : Int32 × S2} (hf : fX8_fate s_cc s_rd s_dr p1 p2 = some out) : Ct l D t κ yX8_fate wsX8_fate (rmL 4) [.ref (a_cc 0), .int p1, .int p2] ((wCC t a_cc y_cc_tape y_cc_teller (a_rd 0) y_cc_trial (a_dr 0) y_cc_seeker y_cc_seen y_cc_images y_cc_sheets s_cc) ++ (wRoad t a_rd s_rd) ++ (wDrive t a_dr s_dr)) (some (.int out.1)) ((wCC t a_cc y_cc_tape y_cc_teller (a_rd 0) y_cc_trial (a_dr 0) y_cc_seeker y_cc_seen y_cc_images y_cc_sheets s_cc) ++ (wRoad t a_rd s_rd) ++ (wDrive t a_dr out.2)) := by
  refine Ct.ofW (own := RX8) (cc := cX8_fate) (maxL := 3) (ret := (some .int)) (by decide) rfl rfl (Nat.le_of_ble_eq_true rfl) ?_
  intro p e s m below meth c A C hP hD ls hl
  have hS : va_S A s.heap s.heap [] := va_S.rf
  obtain ⟨hx, hb, hr, hml, hown, hts, hC0, hlk, hA⟩ := id C
  have hK := hC0.1
  have hl : lv_has ls 3 [(0, .ref (a_cc 0)), (1, .int p1), (2, .int p2)] := hl
  unfold fX8_fate at hf
  refine lv_aload_n hx hb dX8_fate_0 rfl (lv_at hl 0 rfl) ?_
  refine va_get (D := D) (ci := 8) (v := .ref (a_rd 0)) (C := RX8) (T := TX8) (N := 11) hx hb hts iwX8_fate_X8 hown hK hP 0 rfl rfl 2 (by decide) (hts _ lkX8_fate_f28) (fun _ h9 => h9) rfl dX8_fate_1 ?_
  refine lv_iload_n hx hb dX8_fate_4 rfl (lv_at hl 1 rfl) ?_
  obtain ⟨v1, ev1, hf⟩ := bd_some hf
  refine gk_V C (As := [.int p1]) (rest := []) (ci := 2) (q := (RX2, TX2, 12)) (q0 := 0) (wr := ((wCC t a_cc y_cc_tape y_cc_teller (a_rd 0) y_cc_trial (a_dr 0) y_cc_seeker y_cc_seen y_cc_images y_cc_sheets s_cc) ++ (wDrive t a_dr s_dr))) (wf := ((wCC t a_cc y_cc_tape y_cc_teller (a_rd 0) y_cc_trial (a_dr 0) y_cc_seeker y_cc_seen y_cc_images y_cc_sheets s_cc) ++ (wRoad t a_rd s_rd) ++ (wDrive t a_dr s_dr))) (cX2_hasParty_ok (l := l) (D := D) (t := t) (κ := κ) (a_rd := a_rd) ev1) gX8_fate_X2_hasParty rfl ⟨rfl, rfl⟩ hdX2_hasParty ⟨Nat.le_of_ble_eq_true rfl, Nat.le_of_ble_eq_true rfl⟩ rfl rfl hP hD hS [2, 3, 4, 5, 6, 7, 8, 9, 10] [0, 1, 11, 12, 13, 14, 15, 16] [0, 1, 8, 9, 10, 11, 12, 13, 14, 15, 16, 2, 3, 4, 5, 6, 7] rfl rfl rfl rfl (by decide) rfl rfl rfl hl.1 (Nat.le_of_ble_eq_true rfl) dX8_fate_5 (Nat.zero_le _) (Nat.zero_le _) (fun H locs hP hD hS => ?_)
  refine W.eq (g2 := F0 m 8 ls [.int v1]) rfl ?_
  refine lv_if_eq (tgt := 20) hx hb dX8_fate_8 (by decide) (fun c2 => ?_) (fun c2 => ?_)
  · rw [if_pos c2] at hf
    refine lv_iconst (v := -1) hx hb dX8_fate_20 (by decide) ?_
    obtain rfl := so_eq hf
    exact g_iret C hP hD hS dX8_fate_21
  · rw [if_neg c2] at hf
    refine lv_iload_n hx hb dX8_fate_11 rfl (lv_at hl 2 rfl) ?_
    refine lv_iconst (v := 0) hx hb dX8_fate_12 (by decide) ?_
    refine lv_iconst (v := 3) hx hb dX8_fate_13 (by decide) ?_
    obtain ⟨v3, ev3, hf⟩ := bd_some hf
    refine gk_S C (As := [.int p2, .int (0 : Int32), .int (3 : Int32)]) (rest := []) (cX8_within_ok (l := l) (D := D) (t := t) (κ := κ) ev3) gX8_fate_X8_within rfl ⟨rfl, rfl⟩ hdX8_within ⟨Nat.le_of_ble_eq_true rfl, Nat.le_of_ble_eq_true rfl⟩ hP hD hS rfl hl.1 (Nat.le_of_ble_eq_true rfl) dX8_fate_14 (Nat.zero_le _) (Nat.zero_le _) (fun H locs hP hD hS => ?_)
    refine W.eq (g2 := F0 m 17 ls [.int v3]) rfl ?_
    refine lv_if_ne (tgt := 22) hx hb dX8_fate_17 (by decide) (fun c4 => ?_) (fun c4 => ?_)
    · rw [if_neg c4] at hf
      refine lv_aload_n hx hb dX8_fate_22 rfl (lv_at hl 0 rfl) ?_
      refine va_get (D := D) (ci := 8) (v := .ref (a_dr 0)) (C := RX8) (T := TX8) (N := 11) hx hb hts iwX8_fate_X8 hown hK hP 0 rfl rfl 4 (by decide) (hts _ lkX8_fate_f38) (fun _ h9 => h9) rfl dX8_fate_23 ?_
      refine lv_aload_n hx hb dX8_fate_26 rfl (lv_at hl 0 rfl) ?_
      refine va_get (D := D) (ci := 8) (v := .ref (a_rd 0)) (C := RX8) (T := TX8) (N := 11) hx hb hts iwX8_fate_X8 hown hK hP 0 rfl rfl 2 (by decide) (hts _ lkX8_fate_f28) (fun _ h9 => h9) rfl dX8_fate_27 ?_
      obtain ⟨v5, ev5, hf⟩ := bd_some hf
      refine gk_V C (As := [.ref (a_rd 0)]) (rest := []) (ci := 0) (q := (RX0, TX0, 7)) (q0 := 0) (wr := (wCC t a_cc y_cc_tape y_cc_teller (a_rd 0) y_cc_trial (a_dr 0) y_cc_seeker y_cc_seen y_cc_images y_cc_sheets s_cc)) (wf := ((wCC t a_cc y_cc_tape y_cc_teller (a_rd 0) y_cc_trial (a_dr 0) y_cc_seeker y_cc_seen y_cc_images y_cc_sheets s_cc) ++ (wRoad t a_rd s_rd) ++ (wDrive t a_dr v5))) (cX0_run_ok (l := l) (D := D) (t := t) (κ := κ) (a_dr := a_dr) (a_rd := a_rd) ev5) gX8_fate_X0_run rfl ⟨rfl, rfl⟩ hdX0_run ⟨Nat.le_of_ble_eq_true rfl, Nat.le_of_ble_eq_true rfl⟩ rfl rfl hP hD hS [11, 12, 13, 14, 15, 16, 2, 3, 4, 5, 6, 7, 8, 9, 10] [0, 1] [0, 1, 8, 9, 10, 11, 12, 13, 14, 15, 16, 2, 3, 4, 5, 6, 7] rfl rfl rfl rfl (by decide) rfl rfl rfl hl.1 (Nat.le_of_ble_eq_true rfl) dX8_fate_30 (Nat.zero_le _) (Nat.zero_le _) (fun H locs hP hD hS => ?_)
      refine W.eq (g2 := F0 m 33 ls []) rfl ?_
      refine lv_aload_n hx hb dX8_fate_33 rfl (lv_at hl 0 rfl) ?_
      refine va_get (D := D) (ci := 8) (v := .ref (a_dr 0)) (C := RX8) (T := TX8) (N := 11) hx hb hts iwX8_fate_X8 hown hK hP 0 rfl rfl 4 (by decide) (hts _ lkX8_fate_f38) (fun _ h9 => h9) rfl dX8_fate_34 ?_
      refine lv_iload_n hx hb dX8_fate_37 rfl (lv_at hl 2 rfl) ?_
      refine gk_V C (As := [.int p2]) (rest := []) (ci := 0) (q := (RX0, TX0, 7)) (q0 := 0) (wr := ((wCC t a_cc y_cc_tape y_cc_teller (a_rd 0) y_cc_trial (a_dr 0) y_cc_seeker y_cc_seen y_cc_images y_cc_sheets s_cc) ++ (wRoad t a_rd s_rd))) (wf := ((wCC t a_cc y_cc_tape y_cc_teller (a_rd 0) y_cc_trial (a_dr 0) y_cc_seeker y_cc_seen y_cc_images y_cc_sheets s_cc) ++ (wRoad t a_rd s_rd) ++ (wDrive t a_dr v5))) (cX0_fateRow_ok (l := l) (D := D) (t := t) (κ := κ) (a_dr := a_dr) (s_dr := v5) (p1 := p2)) gX8_fate_X0_fateRow rfl ⟨rfl, rfl⟩ hdX0_fateRow ⟨Nat.le_of_ble_eq_true rfl, Nat.le_of_ble_eq_true rfl⟩ rfl rfl hP hD hS [11, 12, 13, 14, 15, 16] [0, 1, 2, 3, 4, 5, 6, 7, 8, 9, 10] [0, 1, 2, 3, 4, 5, 6, 7, 8, 9, 10, 11, 12, 13, 14, 15, 16] rfl rfl rfl rfl (by decide) rfl rfl rfl hl.1 (Nat.le_of_ble_eq_true rfl) dX8_fate_38 (Nat.zero_le _) (Nat.zero_le _) (fun H locs hP hD hS => ?_)
      by_cases c7 : p2 = 0
      · rw [if_pos c7] at hf
        refine W.eq (g2 := F0 m 41 ls [.ref (a_dr 1)]) (by rw [c7]; rfl) ?_
        refine lv_iload_n hx hb dX8_fate_41 rfl (lv_at hl 1 rfl) ?_
        obtain ⟨b8, hf⟩ := gd_some hf
        refine va_iald hx hb hK hP 12 0 rfl rfl (ixb_in b8) dX8_fate_42 ?_
        obtain rfl := so_eq hf
        exact g_iret C hP hD hS dX8_fate_43
      rw [if_neg c7] at hf
      by_cases c9 : p2 = 1
      · rw [if_pos c9] at hf
        refine W.eq (g2 := F0 m 41 ls [.ref (a_dr 2)]) (by rw [c9]; rfl) ?_
        refine lv_iload_n hx hb dX8_fate_41 rfl (lv_at hl 1 rfl) ?_
        obtain ⟨b10, hf⟩ := gd_some hf
        refine va_iald hx hb hK hP 13 0 rfl rfl (ixb_in b10) dX8_fate_42 ?_
        obtain rfl := so_eq hf
        exact g_iret C hP hD hS dX8_fate_43
      rw [if_neg c9] at hf
      by_cases c11 : p2 = 2
      · rw [if_pos c11] at hf
        refine W.eq (g2 := F0 m 41 ls [.ref (a_dr 3)]) (by rw [c11]; rfl) ?_
        refine lv_iload_n hx hb dX8_fate_41 rfl (lv_at hl 1 rfl) ?_
        obtain ⟨b12, hf⟩ := gd_some hf
        refine va_iald hx hb hK hP 14 0 rfl rfl (ixb_in b12) dX8_fate_42 ?_
        obtain rfl := so_eq hf
        exact g_iret C hP hD hS dX8_fate_43
      rw [if_neg c11] at hf
      refine W.eq (g2 := F0 m 41 ls [.ref (a_dr 4)]) (by rw [selX0_fateRow_d c7 c9 c11]; rfl) ?_
      refine lv_iload_n hx hb dX8_fate_41 rfl (lv_at hl 1 rfl) ?_
      obtain ⟨b13, hf⟩ := gd_some hf
      refine va_iald hx hb hK hP 15 0 rfl rfl (ixb_in b13) dX8_fate_42 ?_
      obtain rfl := so_eq hf
      exact g_iret C hP hD hS dX8_fate_43
    · rw [if_pos c4] at hf
      refine lv_iconst (v := -1) hx hb dX8_fate_20 (by decide) ?_
      obtain rfl := so_eq hf
      exact g_iret C hP hD hS dX8_fate_21
/-! CoachCourt.beside -/
def fX8_beside (s_cc : S2) (s_rd : S2) (s_dr : S2) (p1 : Int32) : Option (Int32 × S2) :=
  (fX2_hasMile s_rd p1).bind fun v1 =>
  if v1 = (0 : Int32) then
    (some ((-1 : Int32), s_dr))
  else
    ((fX0_run s_dr s_rd).bind fun v3 =>
    gd (ixb p1 8) <|
    some (v3 5 (Int32.toNatClampNeg p1), v3))
theorem hdX8_beside : yX8_beside.cls = RX8 ∧ yX8_beside.cls ≠ "java/lang/invoke/MethodHandle" ∧ yX8_beside.cls ≠ "java/lang/invoke/VarHandle" ∧ (parseMethodDescriptor yX8_beside.desc).map (fun d => d.parameters.length) = some 1 := by decide +kernel
theorem iwX8_beside_X8 : ∀ w ∈ wsX80, w ∈ wsX8_beside := by decide +kernel
theorem lkX8_beside_f28 : Cond.fieldLink RX8 28 "CoachCourt" "road" "LCoachCourt$Road;" ∈ wsX8_beside := by decide +kernel
theorem lkX8_beside_f38 : Cond.fieldLink RX8 38 "CoachCourt" "drive" "LCoachCourt$Drive;" ∈ wsX8_beside := by decide +kernel
theorem iwX8_beside_X0 : ∀ w ∈ wsX00, w ∈ wsX8_beside := by decide +kernel
set_option maxHeartbeats 4000000 in
set_option maxRecDepth 100000 in
theorem cX8_beside_ok {l : Launch} {D : va_G} {t : Nat → ClassId} {κ : Nat → Nat} {a_cc : Nat → Nat} {y_cc_tape : Nat} {y_cc_teller : Nat} {y_cc_trial : Nat} {y_cc_seeker : Nat} {y_cc_seen : Nat} {y_cc_images : Nat} {y_cc_sheets : Nat} {a_rd : Nat → Nat} {a_dr : Nat → Nat} {s_cc : S2} {s_rd : S2} {s_dr : S2} {p1 : Int32} {out : Int32 × S2} (hf : fX8_beside s_cc s_rd s_dr p1 = some out) : Ct l D t κ yX8_beside wsX8_beside (rmL 4) [.ref (a_cc 0), .int p1] ((wCC t a_cc y_cc_tape y_cc_teller (a_rd 0) y_cc_trial (a_dr 0) y_cc_seeker y_cc_seen y_cc_images y_cc_sheets s_cc) ++ (wRoad t a_rd s_rd) ++ (wDrive t a_dr s_dr)) (some (.int out.1)) ((wCC t a_cc y_cc_tape y_cc_teller (a_rd 0) y_cc_trial (a_dr 0) y_cc_seeker y_cc_seen y_cc_images y_cc_sheets s_cc) ++ (wRoad t a_rd s_rd) ++ (wDrive t a_dr out.2)) := by
  refine Ct.ofW (own := RX8) (cc := cX8_beside) (maxL := 2) (ret := (some .int)) (by decide) rfl rfl (Nat.le_of_ble_eq_true rfl) ?_
  intro p e s m below meth c A C hP hD ls hl
  have hS : va_S A s.heap s.heap [] := va_S.rf
  obtain ⟨hx, hb, hr, hml, hown, hts, hC0, hlk, hA⟩ := id C
  have hK := hC0.1
  have hl : lv_has ls 2 [(0, .ref (a_cc 0)), (1, .int p1)] := hl
  unfold fX8_beside at hf
  refine lv_aload_n hx hb dX8_beside_0 rfl (lv_at hl 0 rfl) ?_
  refine va_get (D := D) (ci := 8) (v := .ref (a_rd 0)) (C := RX8) (T := TX8) (N := 11) hx hb hts iwX8_beside_X8 hown hK hP 0 rfl rfl 2 (by decide) (hts _ lkX8_beside_f28) (fun _ h9 => h9) rfl dX8_beside_1 ?_
  refine lv_iload_n hx hb dX8_beside_4 rfl (lv_at hl 1 rfl) ?_
  obtain ⟨v1, ev1, hf⟩ := bd_some hf
  refine gk_V C (As := [.int p1]) (rest := []) (ci := 2) (q := (RX2, TX2, 12)) (q0 := 0) (wr := ((wCC t a_cc y_cc_tape y_cc_teller (a_rd 0) y_cc_trial (a_dr 0) y_cc_seeker y_cc_seen y_cc_images y_cc_sheets s_cc) ++ (wDrive t a_dr s_dr))) (wf := ((wCC t a_cc y_cc_tape y_cc_teller (a_rd 0) y_cc_trial (a_dr 0) y_cc_seeker y_cc_seen y_cc_images y_cc_sheets s_cc) ++ (wRoad t a_rd s_rd) ++ (wDrive t a_dr s_dr))) (cX2_hasMile_ok (l := l) (D := D) (t := t) (κ := κ) (a_rd := a_rd) ev1) gX8_beside_X2_hasMile rfl ⟨rfl, rfl⟩ hdX2_hasMile ⟨Nat.le_of_ble_eq_true rfl, Nat.le_of_ble_eq_true rfl⟩ rfl rfl hP hD hS [2, 3, 4, 5, 6, 7, 8, 9, 10] [0, 1, 11, 12, 13, 14, 15, 16] [0, 1, 8, 9, 10, 11, 12, 13, 14, 15, 16, 2, 3, 4, 5, 6, 7] rfl rfl rfl rfl (by decide) rfl rfl rfl hl.1 (Nat.le_of_ble_eq_true rfl) dX8_beside_5 (Nat.zero_le _) (Nat.zero_le _) (fun H locs hP hD hS => ?_)
  refine W.eq (g2 := F0 m 8 ls [.int v1]) rfl ?_
  refine lv_if_ne (tgt := 13) hx hb dX8_beside_8 (by decide) (fun c2 => ?_) (fun c2 => ?_)
  · rw [if_neg c2] at hf
    refine lv_aload_n hx hb dX8_beside_13 rfl (lv_at hl 0 rfl) ?_
    refine va_get (D := D) (ci := 8) (v := .ref (a_dr 0)) (C := RX8) (T := TX8) (N := 11) hx hb hts iwX8_beside_X8 hown hK hP 0 rfl rfl 4 (by decide) (hts _ lkX8_beside_f38) (fun _ h9 => h9) rfl dX8_beside_14 ?_
    refine lv_aload_n hx hb dX8_beside_17 rfl (lv_at hl 0 rfl) ?_
    refine va_get (D := D) (ci := 8) (v := .ref (a_rd 0)) (C := RX8) (T := TX8) (N := 11) hx hb hts iwX8_beside_X8 hown hK hP 0 rfl rfl 2 (by decide) (hts _ lkX8_beside_f28) (fun _ h9 => h9) rfl dX8_beside_18 ?_
    obtain ⟨v3, ev3, hf⟩ := bd_some hf
    refine gk_V C (As := [.ref (a_rd 0)]) (rest := []) (ci := 0) (q := (RX0, TX0, 7)) (q0 := 0) (wr := (wCC t a_cc y_cc_tape y_cc_teller (a_rd 0) y_cc_trial (a_dr 0) y_cc_seeker y_cc_seen y_cc_images y_cc_sheets s_cc)) (wf := ((wCC t a_cc y_cc_tape y_cc_teller (a_rd 0) y_cc_trial (a_dr 0) y_cc_seeker y_cc_seen y_cc_images y_cc_sheets s_cc) ++ (wRoad t a_rd s_rd) ++ (wDrive t a_dr v3))) (cX0_run_ok (l := l) (D := D) (t := t) (κ := κ) (a_dr := a_dr) (a_rd := a_rd) ev3) gX8_beside_X0_run rfl ⟨rfl, rfl⟩ hdX0_run ⟨Nat.le_of_ble_eq_true rfl, Nat.le_of_ble_eq_true rfl⟩ rfl rfl hP hD hS [11, 12, 13, 14, 15, 16, 2, 3, 4, 5, 6, 7, 8, 9, 10] [0, 1] [0, 1, 8, 9, 10, 11, 12, 13, 14, 15, 16, 2, 3, 4, 5, 6, 7] rfl rfl rfl rfl (by decide) rfl rfl rfl hl.1 (Nat.le_of_ble_eq_true rfl) dX8_beside_21 (Nat.zero_le _) (Nat.zero_le _) (fun H locs hP hD hS => ?_)
    refine W.eq (g2 := F0 m 24 ls []) rfl ?_
    refine lv_aload_n hx hb dX8_beside_24 rfl (lv_at hl 0 rfl) ?_
    refine va_get (D := D) (ci := 8) (v := .ref (a_dr 0)) (C := RX8) (T := TX8) (N := 11) hx hb hts iwX8_beside_X8 hown hK hP 0 rfl rfl 4 (by decide) (hts _ lkX8_beside_f38) (fun _ h9 => h9) rfl dX8_beside_25 ?_
    refine va_getN (D := D) (ci := 0) (v := .ref (a_dr 5)) (C := RX0) (T := TX0) (N := 7) hx hb hts iwX8_beside_X0 hown hK hP 11 rfl rfl 4 (by decide) (hC0.2.1.f 36 rfl) (fun _ h9 => h9) rfl dX8_beside_28 ?_
    refine lv_iload_n hx hb dX8_beside_31 rfl (lv_at hl 1 rfl) ?_
    obtain ⟨b4, hf⟩ := gd_some hf
    refine va_iald hx hb hK hP 16 0 rfl rfl (ixb_in b4) dX8_beside_32 ?_
    obtain rfl := so_eq hf
    exact g_iret C hP hD hS dX8_beside_33
  · rw [if_pos c2] at hf
    refine lv_iconst (v := -1) hx hb dX8_beside_11 (by decide) ?_
    obtain rfl := so_eq hf
    exact g_iret C hP hD hS dX8_beside_12
/-! CoachCourt.sum -/
def fX8_sum (s_cc : S2) (s_rd : S2) (s_dr : S2) (p1 : Int32) : Option (Int32 × S2) :=
  (fX8_within p1 (0 : Int32) (4 : Int32)).bind fun v1 =>
  if v1 = (0 : Int32) then
    (some ((-1 : Int32), s_dr))
  else
    ((fX0_run s_dr s_rd).bind fun v3 =>
    if p1 = 0 then
      ((fX0_verdicts v3).bind fun v5 =>
      some (v5, v3))
    else
    if p1 = 1 then
      ((fX0_whoHas v3 (0 : Int32)).bind fun v7 =>
      some (v7, v3))
    else
    if p1 = 2 then
      ((fX0_lastVerdict v3).bind fun v9 =>
      some (v9, v3))
    else
    if p1 = 3 then
      ((fX0_heardInAll v3).bind fun v11 =>
      some (v11, v3))
    else
    ((fX0_whoHas v3 (1 : Int32)).bind fun v12 =>
    some (v12, v3)))
theorem hdX8_sum : yX8_sum.cls = RX8 ∧ yX8_sum.cls ≠ "java/lang/invoke/MethodHandle" ∧ yX8_sum.cls ≠ "java/lang/invoke/VarHandle" ∧ (parseMethodDescriptor yX8_sum.desc).map (fun d => d.parameters.length) = some 1 := by decide +kernel
theorem iwX8_sum_X8 : ∀ w ∈ wsX80, w ∈ wsX8_sum := by decide +kernel
theorem lkX8_sum_f38 : Cond.fieldLink RX8 38 "CoachCourt" "drive" "LCoachCourt$Drive;" ∈ wsX8_sum := by decide +kernel
theorem lkX8_sum_f28 : Cond.fieldLink RX8 28 "CoachCourt" "road" "LCoachCourt$Road;" ∈ wsX8_sum := by decide +kernel
set_option maxHeartbeats 4000000 in
set_option maxRecDepth 100000 in
theorem cX8_sum_ok {l : Launch} {D : va_G} {t : Nat → ClassId} {κ : Nat → Nat} {a_cc : Nat → Nat} {y_cc_tape : Nat} {y_cc_teller : Nat} {y_cc_trial : Nat} {y_cc_seeker : Nat} {y_cc_seen : Nat} {y_cc_images : Nat} {y_cc_sheets : Nat} {a_rd : Nat → Nat} {a_dr : Nat → Nat} {s_cc : S2} {s_rd : S2} {s_dr : S2} {p1 : Int32} {out : Int32 × S2} (hf : fX8_sum s_cc s_rd s_dr p1 = some out) : Ct l D t κ yX8_sum wsX8_sum (rmL 4) [.ref (a_cc 0), .int p1] ((wCC t a_cc y_cc_tape y_cc_teller (a_rd 0) y_cc_trial (a_dr 0) y_cc_seeker y_cc_seen y_cc_images y_cc_sheets s_cc) ++ (wRoad t a_rd s_rd) ++ (wDrive t a_dr s_dr)) (some (.int out.1)) ((wCC t a_cc y_cc_tape y_cc_teller (a_rd 0) y_cc_trial (a_dr 0) y_cc_seeker y_cc_seen y_cc_images y_cc_sheets s_cc) ++ (wRoad t a_rd s_rd) ++ (wDrive t a_dr out.2)) := by
  refine Ct.ofW (own := RX8) (cc := cX8_sum) (maxL := 2) (ret := (some .int)) (by decide) rfl rfl (Nat.le_of_ble_eq_true rfl) ?_
  intro p e s m below meth c A C hP hD ls hl
  have hS : va_S A s.heap s.heap [] := va_S.rf
  obtain ⟨hx, hb, hr, hml, hown, hts, hC0, hlk, hA⟩ := id C
  have hK := hC0.1
  have hl : lv_has ls 2 [(0, .ref (a_cc 0)), (1, .int p1)] := hl
  unfold fX8_sum at hf
  refine lv_iload_n hx hb dX8_sum_0 rfl (lv_at hl 1 rfl) ?_
  refine lv_iconst (v := 0) hx hb dX8_sum_1 (by decide) ?_
  refine lv_iconst (v := 4) hx hb dX8_sum_2 (by decide) ?_
  obtain ⟨v1, ev1, hf⟩ := bd_some hf
  refine gk_S C (As := [.int p1, .int (0 : Int32), .int (4 : Int32)]) (rest := []) (cX8_within_ok (l := l) (D := D) (t := t) (κ := κ) ev1) gX8_sum_X8_within rfl ⟨rfl, rfl⟩ hdX8_within ⟨Nat.le_of_ble_eq_true rfl, Nat.le_of_ble_eq_true rfl⟩ hP hD hS rfl hl.1 (Nat.le_of_ble_eq_true rfl) dX8_sum_3 (Nat.zero_le _) (Nat.zero_le _) (fun H locs hP hD hS => ?_)
  refine W.eq (g2 := F0 m 6 ls [.int v1]) rfl ?_
  refine lv_if_ne (tgt := 11) hx hb dX8_sum_6 (by decide) (fun c2 => ?_) (fun c2 => ?_)
  · rw [if_neg c2] at hf
    refine lv_aload_n hx hb dX8_sum_11 rfl (lv_at hl 0 rfl) ?_
    refine va_get (D := D) (ci := 8) (v := .ref (a_dr 0)) (C := RX8) (T := TX8) (N := 11) hx hb hts iwX8_sum_X8 hown hK hP 0 rfl rfl 4 (by decide) (hts _ lkX8_sum_f38) (fun _ h9 => h9) rfl dX8_sum_12 ?_
    refine lv_aload_n hx hb dX8_sum_15 rfl (lv_at hl 0 rfl) ?_
    refine va_get (D := D) (ci := 8) (v := .ref (a_rd 0)) (C := RX8) (T := TX8) (N := 11) hx hb hts iwX8_sum_X8 hown hK hP 0 rfl rfl 2 (by decide) (hts _ lkX8_sum_f28) (fun _ h9 => h9) rfl dX8_sum_16 ?_
    obtain ⟨v3, ev3, hf⟩ := bd_some hf
    refine gk_V C (As := [.ref (a_rd 0)]) (rest := []) (ci := 0) (q := (RX0, TX0, 7)) (q0 := 0) (wr := (wCC t a_cc y_cc_tape y_cc_teller (a_rd 0) y_cc_trial (a_dr 0) y_cc_seeker y_cc_seen y_cc_images y_cc_sheets s_cc)) (wf := ((wCC t a_cc y_cc_tape y_cc_teller (a_rd 0) y_cc_trial (a_dr 0) y_cc_seeker y_cc_seen y_cc_images y_cc_sheets s_cc) ++ (wRoad t a_rd s_rd) ++ (wDrive t a_dr v3))) (cX0_run_ok (l := l) (D := D) (t := t) (κ := κ) (a_dr := a_dr) (a_rd := a_rd) ev3) gX8_sum_X0_run rfl ⟨rfl, rfl⟩ hdX0_run ⟨Nat.le_of_ble_eq_true rfl, Nat.le_of_ble_eq_true rfl⟩ rfl rfl hP hD hS [11, 12, 13, 14, 15, 16, 2, 3, 4, 5, 6, 7, 8, 9, 10] [0, 1] [0, 1, 8, 9, 10, 11, 12, 13, 14, 15, 16, 2, 3, 4, 5, 6, 7] rfl rfl rfl rfl (by decide) rfl rfl rfl hl.1 (Nat.le_of_ble_eq_true rfl) dX8_sum_19 (Nat.zero_le _) (Nat.zero_le _) (fun H locs hP hD hS => ?_)
    refine W.eq (g2 := F0 m 22 ls []) rfl ?_
    refine lv_iload_n hx hb dX8_sum_22 rfl (lv_at hl 1 rfl) ?_
    by_cases c4 : p1 = 0
    · rw [if_pos c4] at hf
      refine lv_tableIn (tgt := 52) hx hb dX8_sum_23 (by rw [c4]; decide) (by rw [c4]; decide) (by rw [c4]; rfl) (by decide) ?_
      refine lv_aload_n hx hb dX8_sum_52 rfl (lv_at hl 0 rfl) ?_
      refine va_get (D := D) (ci := 8) (v := .ref (a_dr 0)) (C := RX8) (T := TX8) (N := 11) hx hb hts iwX8_sum_X8 hown hK hP 0 rfl rfl 4 (by decide) (hts _ lkX8_sum_f38) (fun _ h9 => h9) rfl dX8_sum_53 ?_
      obtain ⟨v5, ev5, hf⟩ := bd_some hf
      refine gk_V C (As := []) (rest := []) (ci := 0) (q := (RX0, TX0, 7)) (q0 := 0) (wr := ((wCC t a_cc y_cc_tape y_cc_teller (a_rd 0) y_cc_trial (a_dr 0) y_cc_seeker y_cc_seen y_cc_images y_cc_sheets s_cc) ++ (wRoad t a_rd s_rd))) (wf := ((wCC t a_cc y_cc_tape y_cc_teller (a_rd 0) y_cc_trial (a_dr 0) y_cc_seeker y_cc_seen y_cc_images y_cc_sheets s_cc) ++ (wRoad t a_rd s_rd) ++ (wDrive t a_dr v3))) (cX0_verdicts_ok (l := l) (D := D) (t := t) (κ := κ) (a_dr := a_dr) ev5) gX8_sum_X0_verdicts rfl ⟨rfl, rfl⟩ hdX0_verdicts ⟨Nat.le_of_ble_eq_true rfl, Nat.le_of_ble_eq_true rfl⟩ rfl rfl hP hD hS [11, 12, 13, 14, 15, 16] [0, 1, 2, 3, 4, 5, 6, 7, 8, 9, 10] [0, 1, 2, 3, 4, 5, 6, 7, 8, 9, 10, 11, 12, 13, 14, 15, 16] rfl rfl rfl rfl (by decide) rfl rfl rfl hl.1 (Nat.le_of_ble_eq_true rfl) dX8_sum_56 (Nat.zero_le _) (Nat.zero_le _) (fun H locs hP hD hS => ?_)
      refine W.eq (g2 := F0 m 59 ls [.int v5]) rfl ?_
      obtain rfl := so_eq hf
      exact g_iret C hP hD hS dX8_sum_59
    rw [if_neg c4] at hf
    by_cases c6 : p1 = 1
    · rw [if_pos c6] at hf
      refine lv_tableIn (tgt := 60) hx hb dX8_sum_23 (by rw [c6]; decide) (by rw [c6]; decide) (by rw [c6]; rfl) (by decide) ?_
      refine lv_aload_n hx hb dX8_sum_60 rfl (lv_at hl 0 rfl) ?_
      refine va_get (D := D) (ci := 8) (v := .ref (a_dr 0)) (C := RX8) (T := TX8) (N := 11) hx hb hts iwX8_sum_X8 hown hK hP 0 rfl rfl 4 (by decide) (hts _ lkX8_sum_f38) (fun _ h9 => h9) rfl dX8_sum_61 ?_
      refine lv_iconst (v := 0) hx hb dX8_sum_64 (by decide) ?_
      obtain ⟨v7, ev7, hf⟩ := bd_some hf
      refine gk_V C (As := [.int (0 : Int32)]) (rest := []) (ci := 0) (q := (RX0, TX0, 7)) (q0 := 0) (wr := ((wCC t a_cc y_cc_tape y_cc_teller (a_rd 0) y_cc_trial (a_dr 0) y_cc_seeker y_cc_seen y_cc_images y_cc_sheets s_cc) ++ (wRoad t a_rd s_rd))) (wf := ((wCC t a_cc y_cc_tape y_cc_teller (a_rd 0) y_cc_trial (a_dr 0) y_cc_seeker y_cc_seen y_cc_images y_cc_sheets s_cc) ++ (wRoad t a_rd s_rd) ++ (wDrive t a_dr v3))) (cX0_whoHas_ok (l := l) (D := D) (t := t) (κ := κ) (a_dr := a_dr) ev7) gX8_sum_X0_whoHas rfl ⟨rfl, rfl⟩ hdX0_whoHas ⟨Nat.le_of_ble_eq_true rfl, Nat.le_of_ble_eq_true rfl⟩ rfl rfl hP hD hS [11, 12, 13, 14, 15, 16] [0, 1, 2, 3, 4, 5, 6, 7, 8, 9, 10] [0, 1, 2, 3, 4, 5, 6, 7, 8, 9, 10, 11, 12, 13, 14, 15, 16] rfl rfl rfl rfl (by decide) rfl rfl rfl hl.1 (Nat.le_of_ble_eq_true rfl) dX8_sum_65 (Nat.zero_le _) (Nat.zero_le _) (fun H locs hP hD hS => ?_)
      refine W.eq (g2 := F0 m 68 ls [.int v7]) rfl ?_
      obtain rfl := so_eq hf
      exact g_iret C hP hD hS dX8_sum_68
    rw [if_neg c6] at hf
    by_cases c8 : p1 = 2
    · rw [if_pos c8] at hf
      refine lv_tableIn (tgt := 69) hx hb dX8_sum_23 (by rw [c8]; decide) (by rw [c8]; decide) (by rw [c8]; rfl) (by decide) ?_
      refine lv_aload_n hx hb dX8_sum_69 rfl (lv_at hl 0 rfl) ?_
      refine va_get (D := D) (ci := 8) (v := .ref (a_dr 0)) (C := RX8) (T := TX8) (N := 11) hx hb hts iwX8_sum_X8 hown hK hP 0 rfl rfl 4 (by decide) (hts _ lkX8_sum_f38) (fun _ h9 => h9) rfl dX8_sum_70 ?_
      obtain ⟨v9, ev9, hf⟩ := bd_some hf
      refine gk_V C (As := []) (rest := []) (ci := 0) (q := (RX0, TX0, 7)) (q0 := 0) (wr := ((wCC t a_cc y_cc_tape y_cc_teller (a_rd 0) y_cc_trial (a_dr 0) y_cc_seeker y_cc_seen y_cc_images y_cc_sheets s_cc) ++ (wRoad t a_rd s_rd))) (wf := ((wCC t a_cc y_cc_tape y_cc_teller (a_rd 0) y_cc_trial (a_dr 0) y_cc_seeker y_cc_seen y_cc_images y_cc_sheets s_cc) ++ (wRoad t a_rd s_rd) ++ (wDrive t a_dr v3))) (cX0_lastVerdict_ok (l := l) (D := D) (t := t) (κ := κ) (a_dr := a_dr) ev9) gX8_sum_X0_lastVerdict rfl ⟨rfl, rfl⟩ hdX0_lastVerdict ⟨Nat.le_of_ble_eq_true rfl, Nat.le_of_ble_eq_true rfl⟩ rfl rfl hP hD hS [11, 12, 13, 14, 15, 16] [0, 1, 2, 3, 4, 5, 6, 7, 8, 9, 10] [0, 1, 2, 3, 4, 5, 6, 7, 8, 9, 10, 11, 12, 13, 14, 15, 16] rfl rfl rfl rfl (by decide) rfl rfl rfl hl.1 (Nat.le_of_ble_eq_true rfl) dX8_sum_73 (Nat.zero_le _) (Nat.zero_le _) (fun H locs hP hD hS => ?_)
      refine W.eq (g2 := F0 m 76 ls [.int v9]) rfl ?_
      obtain rfl := so_eq hf
      exact g_iret C hP hD hS dX8_sum_76
    rw [if_neg c8] at hf
    by_cases c10 : p1 = 3
    · rw [if_pos c10] at hf
      refine lv_tableIn (tgt := 77) hx hb dX8_sum_23 (by rw [c10]; decide) (by rw [c10]; decide) (by rw [c10]; rfl) (by decide) ?_
      refine lv_aload_n hx hb dX8_sum_77 rfl (lv_at hl 0 rfl) ?_
      refine va_get (D := D) (ci := 8) (v := .ref (a_dr 0)) (C := RX8) (T := TX8) (N := 11) hx hb hts iwX8_sum_X8 hown hK hP 0 rfl rfl 4 (by decide) (hts _ lkX8_sum_f38) (fun _ h9 => h9) rfl dX8_sum_78 ?_
      obtain ⟨v11, ev11, hf⟩ := bd_some hf
      refine gk_V C (As := []) (rest := []) (ci := 0) (q := (RX0, TX0, 7)) (q0 := 0) (wr := ((wCC t a_cc y_cc_tape y_cc_teller (a_rd 0) y_cc_trial (a_dr 0) y_cc_seeker y_cc_seen y_cc_images y_cc_sheets s_cc) ++ (wRoad t a_rd s_rd))) (wf := ((wCC t a_cc y_cc_tape y_cc_teller (a_rd 0) y_cc_trial (a_dr 0) y_cc_seeker y_cc_seen y_cc_images y_cc_sheets s_cc) ++ (wRoad t a_rd s_rd) ++ (wDrive t a_dr v3))) (cX0_heardInAll_ok (l := l) (D := D) (t := t) (κ := κ) (a_dr := a_dr) ev11) gX8_sum_X0_heardInAll rfl ⟨rfl, rfl⟩ hdX0_heardInAll ⟨Nat.le_of_ble_eq_true rfl, Nat.le_of_ble_eq_true rfl⟩ rfl rfl hP hD hS [11, 12, 13, 14, 15, 16] [0, 1, 2, 3, 4, 5, 6, 7, 8, 9, 10] [0, 1, 2, 3, 4, 5, 6, 7, 8, 9, 10, 11, 12, 13, 14, 15, 16] rfl rfl rfl rfl (by decide) rfl rfl rfl hl.1 (Nat.le_of_ble_eq_true rfl) dX8_sum_81 (Nat.zero_le _) (Nat.zero_le _) (fun H locs hP hD hS => ?_)
      refine W.eq (g2 := F0 m 84 ls [.int v11]) rfl ?_
      obtain rfl := so_eq hf
      exact g_iret C hP hD hS dX8_sum_84
    rw [if_neg c10] at hf
    refine lv_tableOut (tgt := 85) hx hb dX8_sum_23 (by have nc4 := lv_neT c4 (a := 0) (by decide); have nc6 := lv_neT c6 (a := 1) (by decide); have nc8 := lv_neT c8 (a := 2) (by decide); have nc10 := lv_neT c10 (a := 3) (by decide); have z := Int32.le_toInt p1; have z2 := Int32.toInt_lt p1; omega) (by decide) ?_
    refine lv_aload_n hx hb dX8_sum_85 rfl (lv_at hl 0 rfl) ?_
    refine va_get (D := D) (ci := 8) (v := .ref (a_dr 0)) (C := RX8) (T := TX8) (N := 11) hx hb hts iwX8_sum_X8 hown hK hP 0 rfl rfl 4 (by decide) (hts _ lkX8_sum_f38) (fun _ h9 => h9) rfl dX8_sum_86 ?_
    refine lv_iconst (v := 1) hx hb dX8_sum_89 (by decide) ?_
    obtain ⟨v12, ev12, hf⟩ := bd_some hf
    refine gk_V C (As := [.int (1 : Int32)]) (rest := []) (ci := 0) (q := (RX0, TX0, 7)) (q0 := 0) (wr := ((wCC t a_cc y_cc_tape y_cc_teller (a_rd 0) y_cc_trial (a_dr 0) y_cc_seeker y_cc_seen y_cc_images y_cc_sheets s_cc) ++ (wRoad t a_rd s_rd))) (wf := ((wCC t a_cc y_cc_tape y_cc_teller (a_rd 0) y_cc_trial (a_dr 0) y_cc_seeker y_cc_seen y_cc_images y_cc_sheets s_cc) ++ (wRoad t a_rd s_rd) ++ (wDrive t a_dr v3))) (cX0_whoHas_ok (l := l) (D := D) (t := t) (κ := κ) (a_dr := a_dr) ev12) gX8_sum_X0_whoHas rfl ⟨rfl, rfl⟩ hdX0_whoHas ⟨Nat.le_of_ble_eq_true rfl, Nat.le_of_ble_eq_true rfl⟩ rfl rfl hP hD hS [11, 12, 13, 14, 15, 16] [0, 1, 2, 3, 4, 5, 6, 7, 8, 9, 10] [0, 1, 2, 3, 4, 5, 6, 7, 8, 9, 10, 11, 12, 13, 14, 15, 16] rfl rfl rfl rfl (by decide) rfl rfl rfl hl.1 (Nat.le_of_ble_eq_true rfl) dX8_sum_90 (Nat.zero_le _) (Nat.zero_le _) (fun H locs hP hD hS => ?_)
    refine W.eq (g2 := F0 m 93 ls [.int v12]) rfl ?_
    obtain rfl := so_eq hf
    exact g_iret C hP hD hS dX8_sum_93
  · rw [if_pos c2] at hf
    refine lv_iconst (v := -1) hx hb dX8_sum_9 (by decide) ?_
    obtain rfl := so_eq hf
    exact g_iret C hP hD hS dX8_sum_10
/-! CoachCourt.text -/
def fX8_text (s_cc : S2) (s_tp : S2) (s_tl : S2) (s_rd : S2) (s_tr : S2) (s_sn : S2) (s_im0 : S2) (s_im1 : S2) : Option (Int32 × S2 × S2 × S2 × S2 × S2 × S2 × S2) :=
  (fX7_tellInto s_tl s_tp s_tr).bind fun v1 =>
  nm v1.1 fun y2 =>
  nm (sE v1.2.2.1 0 0 (0 : Int32)) fun s3 =>
  if (s3 0 4) = (0 : Int32) then
    ((fX2_copyFrom s_rd v1.2.2.2).bind fun v5 =>
    nm (sE s_sn 0 0 (0 : Int32)) fun s6 =>
    nm (sE s_im0 0 0 (0 : Int32)) fun s8 =>
    nm (sE s_im1 0 0 (0 : Int32)) fun s10 =>
    some (y2, s3, v1.2.1, v5, v1.2.2.2, s6, s8, s10))
  else
    (some (y2, s3, v1.2.1, s_rd, v1.2.2.2, s_sn, s_im0, s_im1))
theorem hdX8_text : yX8_text.cls = RX8 ∧ yX8_text.cls ≠ "java/lang/invoke/MethodHandle" ∧ yX8_text.cls ≠ "java/lang/invoke/VarHandle" ∧ (parseMethodDescriptor yX8_text.desc).map (fun d => d.parameters.length) = some 0 := by decide +kernel
theorem iwX8_text_X8 : ∀ w ∈ wsX80, w ∈ wsX8_text := by decide +kernel
theorem lkX8_text_f21 : Cond.fieldLink RX8 21 "CoachCourt" "teller" "LCoachCourt$Teller;" ∈ wsX8_text := by decide +kernel
theorem lkX8_text_f32 : Cond.fieldLink RX8 32 "CoachCourt" "trial" "LCoachCourt$Road;" ∈ wsX8_text := by decide +kernel
theorem lkX8_text_f10 : Cond.fieldLink RX8 10 "CoachCourt" "tape" "LCoachCourt$Tape;" ∈ wsX8_text := by decide +kernel
theorem iwX8_text_X6 : ∀ w ∈ wsX60, w ∈ wsX8_text := by decide +kernel
theorem lkX8_text_f28 : Cond.fieldLink RX8 28 "CoachCourt" "road" "LCoachCourt$Road;" ∈ wsX8_text := by decide +kernel
theorem lkX8_text_f54 : Cond.fieldLink RX8 54 "CoachCourt" "seen" "LCoachCourt$Sightings;" ∈ wsX8_text := by decide +kernel
theorem iwX8_text_X5 : ∀ w ∈ wsX50, w ∈ wsX8_text := by decide +kernel
theorem lkX8_text_f60 : Cond.fieldLink RX8 60 "CoachCourt" "images" "[LCoachCourt$Image;" ∈ wsX8_text := by decide +kernel
theorem iwX8_text_X1 : ∀ w ∈ wsX10, w ∈ wsX8_text := by decide +kernel
set_option maxHeartbeats 4000000 in
set_option maxRecDepth 100000 in
theorem cX8_text_ok {l : Launch} {D : va_G} {t : Nat → ClassId} {κ : Nat → Nat} {a_cc : Nat → Nat} {y_cc_drive : Nat} {y_cc_seeker : Nat} {y_cc_sheets : Nat} {a_tp : Nat → Nat} {a_tl : Nat → Nat} {a_rd : Nat → Nat} {a_tr : Nat → Nat} {a_sn : Nat → Nat} {a_ia : Nat → Nat} {f_ia : Nat → Option Nat} {a_im0 : Nat → Nat} {y_im0_road : Nat} {y_im0_seen : Nat} {a_im1 : Nat → Nat} {y_im1_road : Nat} {y_im1_seen : Nat} {s_cc : S2} {s_tp : S2} {s_tl : S2} {s_rd : S2} {s_tr : S2} {s_sn : S2} {s_im0 : S2} {s_im1 : S2} {out : Int32 × S2 × S2 × S2 × S2 × S2 × S2 × S2} (hia0 : f_ia 0 = some (a_im0 0)) (hia1 : f_ia 1 = some (a_im1 0)) (hf : fX8_text s_cc s_tp s_tl s_rd s_tr s_sn s_im0 s_im1 = some out) : Ct l D t κ yX8_text wsX8_text (rmL 9) [.ref (a_cc 0)] ((wCC t a_cc (a_tp 0) (a_tl 0) (a_rd 0) (a_tr 0) y_cc_drive y_cc_seeker (a_sn 0) (a_ia 0) y_cc_sheets s_cc) ++ (wTape t a_tp s_tp) ++ (wTeller t a_tl (a_tp 0) s_tl) ++ (wRoad t a_rd s_rd) ++ (wRoad t a_tr s_tr) ++ (wSight t a_sn s_sn) ++ (wIA t a_ia f_ia) ++ (wImage t a_im0 y_im0_road y_im0_seen s_im0) ++ (wImage t a_im1 y_im1_road y_im1_seen s_im1)) (some (.int out.1)) ((wCC t a_cc (a_tp 0) (a_tl 0) (a_rd 0) (a_tr 0) y_cc_drive y_cc_seeker (a_sn 0) (a_ia 0) y_cc_sheets s_cc) ++ (wTape t a_tp out.2.1) ++ (wTeller t a_tl (a_tp 0) out.2.2.1) ++ (wRoad t a_rd out.2.2.2.1) ++ (wRoad t a_tr out.2.2.2.2.1) ++ (wSight t a_sn out.2.2.2.2.2.1) ++ (wIA t a_ia f_ia) ++ (wImage t a_im0 y_im0_road y_im0_seen out.2.2.2.2.2.2.1) ++ (wImage t a_im1 y_im1_road y_im1_seen out.2.2.2.2.2.2.2)) := by
  refine Ct.ofW (own := RX8) (cc := cX8_text) (maxL := 3) (ret := (some .int)) (by decide) rfl rfl (Nat.le_of_ble_eq_true rfl) ?_
  intro p e s m below meth c A C hP hD ls hl
  have hS : va_S A s.heap s.heap [] := va_S.rf
  obtain ⟨hx, hb, hr, hml, hown, hts, hC0, hlk, hA⟩ := id C
  have hK := hC0.1
  have hl : lv_has ls 3 [(0, .ref (a_cc 0))] := hl
  unfold fX8_text at hf
  refine lv_aload_n hx hb dX8_text_0 rfl (lv_at hl 0 rfl) ?_
  refine va_get (D := D) (ci := 8) (v := .ref (a_tl 0)) (C := RX8) (T := TX8) (N := 11) hx hb hts iwX8_text_X8 hown hK hP 0 rfl rfl 1 (by decide) (hts _ lkX8_text_f21) (fun _ h9 => h9) rfl dX8_text_1 ?_
  refine lv_aload_n hx hb dX8_text_4 rfl (lv_at hl 0 rfl) ?_
  refine va_get (D := D) (ci := 8) (v := .ref (a_tr 0)) (C := RX8) (T := TX8) (N := 11) hx hb hts iwX8_text_X8 hown hK hP 0 rfl rfl 3 (by decide) (hts _ lkX8_text_f32) (fun _ h9 => h9) rfl dX8_text_5 ?_
  obtain ⟨v1, ev1, hf⟩ := bd_some hf
  refine gk_V C (As := [.ref (a_tr 0)]) (rest := []) (ci := 7) (q := (RX7, TX7, 3)) (q0 := 0) (wr := ((wCC t a_cc (a_tp 0) (a_tl 0) (a_rd 0) (a_tr 0) y_cc_drive y_cc_seeker (a_sn 0) (a_ia 0) y_cc_sheets s_cc) ++ (wRoad t a_rd s_rd) ++ (wSight t a_sn s_sn) ++ (wIA t a_ia f_ia) ++ (wImage t a_im0 y_im0_road y_im0_seen s_im0) ++ (wImage t a_im1 y_im1_road y_im1_seen s_im1))) (wf := ((wCC t a_cc (a_tp 0) (a_tl 0) (a_rd 0) (a_tr 0) y_cc_drive y_cc_seeker (a_sn 0) (a_ia 0) y_cc_sheets s_cc) ++ (wTape t a_tp v1.2.2.1) ++ (wTeller t a_tl (a_tp 0) v1.2.1) ++ (wRoad t a_rd s_rd) ++ (wRoad t a_tr v1.2.2.2) ++ (wSight t a_sn s_sn) ++ (wIA t a_ia f_ia) ++ (wImage t a_im0 y_im0_road y_im0_seen s_im0) ++ (wImage t a_im1 y_im1_road y_im1_seen s_im1))) (cX7_tellInto_ok (l := l) (D := D) (t := t) (κ := κ) (a_tl := a_tl) (a_tp := a_tp) (a_rd := a_tr) ev1) gX8_text_X7_tellInto rfl ⟨rfl, rfl⟩ hdX7_tellInto ⟨Nat.le_of_ble_eq_true rfl, Nat.le_of_ble_eq_true rfl⟩ rfl rfl hP hD hS [4, 2, 3, 14, 15, 16, 17, 18, 19, 20, 21, 22] [0, 1, 5, 6, 7, 8, 9, 10, 11, 12, 13, 23, 24, 25, 26, 27, 28] [0, 1, 18, 19, 17, 2, 3, 4, 5, 6, 7, 8, 9, 10, 20, 21, 22, 23, 24, 25, 26, 27, 28, 11, 12, 13, 14, 15, 16] rfl rfl rfl rfl (by decide) rfl rfl rfl hl.1 (Nat.le_of_ble_eq_true rfl) dX8_text_8 (Nat.zero_le _) (Nat.zero_le _) (fun H locs hP hD hS => ?_)
  refine W.eq (g2 := F0 m 11 ls [.int v1.1]) rfl ?_
  obtain ⟨y2, hy2, hf⟩ := nm_ex hf
  refine W.eq (g2 := F0 m 11 ls [.int y2]) (by rw [hy2]) ?_
  refine lv_istore_n (lv' := [(1, .int y2), (0, .ref (a_cc 0))]) hx hb dX8_text_11 rfl hl (by decide) rfl (fun ls hl => ?_)
  refine lv_aload_n hx hb dX8_text_12 rfl (lv_at hl 1 rfl) ?_
  refine va_get (D := D) (ci := 8) (v := .ref (a_tp 0)) (C := RX8) (T := TX8) (N := 11) hx hb hts iwX8_text_X8 hown hK hP 0 rfl rfl 0 (by decide) (hts _ lkX8_text_f10) (fun _ h9 => h9) rfl dX8_text_13 ?_
  refine lv_iconst (v := 0) hx hb dX8_text_16 (by decide) ?_
  obtain ⟨s3, hs3, hf⟩ := nm_ex hf
  refine va_putN (D := D) (ci := 6) (v := .int (0 : Int32)) (ty := .int) (C := RX6) (T := TX6) (N := 7) hx hb hts iwX8_text_X6 tyX6 tyX6_ok nmX6 hown hK hP hD hS 2 rfl rfl 1 (by decide) (hC0.2.1.f 0 rfl) (fun _ h9 => h9) rfl (by decide +kernel) rfl rfl (Nat.le_of_ble_eq_true rfl) dX8_text_17 (fun H locs hP hD hS => ?_)
  have hP : va_P D vwCl ((wCC t a_cc (a_tp 0) (a_tl 0) (a_rd 0) (a_tr 0) y_cc_drive y_cc_seeker (a_sn 0) (a_ia 0) y_cc_sheets s_cc) ++ (wTape t a_tp s3) ++ (wTeller t a_tl (a_tp 0) v1.2.1) ++ (wRoad t a_rd s_rd) ++ (wRoad t a_tr v1.2.2.2) ++ (wSight t a_sn s_sn) ++ (wIA t a_ia f_ia) ++ (wImage t a_im0 y_im0_road y_im0_seen s_im0) ++ (wImage t a_im1 y_im1_road y_im1_seen s_im1)) H := by rw [hs3]; exact hP
  have hD : va_D A ((wCC t a_cc (a_tp 0) (a_tl 0) (a_rd 0) (a_tr 0) y_cc_drive y_cc_seeker (a_sn 0) (a_ia 0) y_cc_sheets s_cc) ++ (wTape t a_tp s3) ++ (wTeller t a_tl (a_tp 0) v1.2.1) ++ (wRoad t a_rd s_rd) ++ (wRoad t a_tr v1.2.2.2) ++ (wSight t a_sn s_sn) ++ (wIA t a_ia f_ia) ++ (wImage t a_im0 y_im0_road y_im0_seen s_im0) ++ (wImage t a_im1 y_im1_road y_im1_seen s_im1)) := by rw [hs3]; exact hD
  refine lv_aload_n hx hb dX8_text_20 rfl (lv_at hl 1 rfl) ?_
  refine va_get (D := D) (ci := 8) (v := .ref (a_tp 0)) (C := RX8) (T := TX8) (N := 11) hx hb hts iwX8_text_X8 hown hK hP 0 rfl rfl 0 (by decide) (hts _ lkX8_text_f10) (fun _ h9 => h9) rfl dX8_text_21 ?_
  refine va_getN (D := D) (ci := 6) (v := .int (s3 0 4)) (C := RX6) (T := TX6) (N := 7) hx hb hts iwX8_text_X6 hown hK hP 2 rfl rfl 5 (by decide) (hC0.2.1.f 5 rfl) (fun _ h9 => h9) rfl dX8_text_24 ?_
  refine lv_if_ne (tgt := 72) hx hb dX8_text_27 (by decide) (fun c4 => ?_) (fun c4 => ?_)
  · rw [if_neg c4] at hf
    refine lv_iload_n hx hb dX8_text_72 rfl (lv_at hl 0 rfl) ?_
    obtain rfl := so_eq hf
    exact g_iret C hP hD hS dX8_text_73
  · rw [if_pos c4] at hf
    refine lv_aload_n hx hb dX8_text_30 rfl (lv_at hl 1 rfl) ?_
    refine va_get (D := D) (ci := 8) (v := .ref (a_rd 0)) (C := RX8) (T := TX8) (N := 11) hx hb hts iwX8_text_X8 hown hK hP 0 rfl rfl 2 (by decide) (hts _ lkX8_text_f28) (fun _ h9 => h9) rfl dX8_text_31 ?_
    refine lv_aload_n hx hb dX8_text_34 rfl (lv_at hl 1 rfl) ?_
    refine va_get (D := D) (ci := 8) (v := .ref (a_tr 0)) (C := RX8) (T := TX8) (N := 11) hx hb hts iwX8_text_X8 hown hK hP 0 rfl rfl 3 (by decide) (hts _ lkX8_text_f32) (fun _ h9 => h9) rfl dX8_text_35 ?_
    obtain ⟨v5, ev5, hf⟩ := bd_some hf
    refine gk_V C (As := [.ref (a_tr 0)]) (rest := []) (ci := 2) (q := (RX2, TX2, 12)) (q0 := 0) (wr := ((wCC t a_cc (a_tp 0) (a_tl 0) (a_rd 0) (a_tr 0) y_cc_drive y_cc_seeker (a_sn 0) (a_ia 0) y_cc_sheets s_cc) ++ (wTape t a_tp s3) ++ (wTeller t a_tl (a_tp 0) v1.2.1) ++ (wSight t a_sn s_sn) ++ (wIA t a_ia f_ia) ++ (wImage t a_im0 y_im0_road y_im0_seen s_im0) ++ (wImage t a_im1 y_im1_road y_im1_seen s_im1))) (wf := ((wCC t a_cc (a_tp 0) (a_tl 0) (a_rd 0) (a_tr 0) y_cc_drive y_cc_seeker (a_sn 0) (a_ia 0) y_cc_sheets s_cc) ++ (wTape t a_tp s3) ++ (wTeller t a_tl (a_tp 0) v1.2.1) ++ (wRoad t a_rd v5) ++ (wRoad t a_tr v1.2.2.2) ++ (wSight t a_sn s_sn) ++ (wIA t a_ia f_ia) ++ (wImage t a_im0 y_im0_road y_im0_seen s_im0) ++ (wImage t a_im1 y_im1_road y_im1_seen s_im1))) (cX2_copyFrom_ok (l := l) (D := D) (t := t) (κ := κ) (a_rd := a_rd) (a_ro := a_tr) ev5) gX8_text_X2_copyFrom rfl ⟨rfl, rfl⟩ hdX2_copyFrom ⟨Nat.le_of_ble_eq_true rfl, Nat.le_of_ble_eq_true rfl⟩ rfl rfl hP hD hS [5, 6, 7, 8, 9, 10, 11, 12, 13, 14, 15, 16, 17, 18, 19, 20, 21, 22] [0, 1, 2, 3, 4, 23, 24, 25, 26, 27, 28] [0, 1, 2, 3, 4, 11, 12, 13, 14, 15, 16, 17, 18, 19, 20, 21, 22, 23, 24, 25, 26, 27, 28, 5, 6, 7, 8, 9, 10] rfl rfl rfl rfl (by decide) rfl rfl rfl hl.1 (Nat.le_of_ble_eq_true rfl) dX8_text_38 (Nat.zero_le _) (Nat.zero_le _) (fun H locs hP hD hS => ?_)
    refine W.eq (g2 := F0 m 41 ls []) rfl ?_
    refine lv_aload_n hx hb dX8_text_41 rfl (lv_at hl 1 rfl) ?_
    refine va_get (D := D) (ci := 8) (v := .ref (a_sn 0)) (C := RX8) (T := TX8) (N := 11) hx hb hts iwX8_text_X8 hown hK hP 0 rfl rfl 6 (by decide) (hts _ lkX8_text_f54) (fun _ h9 => h9) rfl dX8_text_42 ?_
    refine lv_iconst (v := 0) hx hb dX8_text_45 (by decide) ?_
    obtain ⟨s6, hs6, hf⟩ := nm_ex hf
    refine va_putN (D := D) (ci := 5) (v := .int (0 : Int32)) (ty := .int) (C := RX5) (T := TX5) (N := 3) hx hb hts iwX8_text_X5 tyX5 tyX5_ok nmX5 hown hK hP hD hS 23 rfl rfl 2 (by decide) (hC0.2.1.f 39 rfl) (fun _ h9 => h9) rfl (by decide +kernel) rfl rfl (Nat.le_of_ble_eq_true rfl) dX8_text_46 (fun H locs hP hD hS => ?_)
    have hP : va_P D vwCl ((wCC t a_cc (a_tp 0) (a_tl 0) (a_rd 0) (a_tr 0) y_cc_drive y_cc_seeker (a_sn 0) (a_ia 0) y_cc_sheets s_cc) ++ (wTape t a_tp s3) ++ (wTeller t a_tl (a_tp 0) v1.2.1) ++ (wRoad t a_rd v5) ++ (wRoad t a_tr v1.2.2.2) ++ (wSight t a_sn s6) ++ (wIA t a_ia f_ia) ++ (wImage t a_im0 y_im0_road y_im0_seen s_im0) ++ (wImage t a_im1 y_im1_road y_im1_seen s_im1)) H := by rw [hs6]; exact hP
    have hD : va_D A ((wCC t a_cc (a_tp 0) (a_tl 0) (a_rd 0) (a_tr 0) y_cc_drive y_cc_seeker (a_sn 0) (a_ia 0) y_cc_sheets s_cc) ++ (wTape t a_tp s3) ++ (wTeller t a_tl (a_tp 0) v1.2.1) ++ (wRoad t a_rd v5) ++ (wRoad t a_tr v1.2.2.2) ++ (wSight t a_sn s6) ++ (wIA t a_ia f_ia) ++ (wImage t a_im0 y_im0_road y_im0_seen s_im0) ++ (wImage t a_im1 y_im1_road y_im1_seen s_im1)) := by rw [hs6]; exact hD
    refine lv_iconst (v := 0) hx hb dX8_text_49 (by decide) ?_
    refine lv_istore_n (lv' := [(2, .int (0 : Int32)), (1, .int y2), (0, .ref (a_cc 0))]) hx hb dX8_text_50 rfl hl (by decide) rfl (fun ls hl => ?_)
    refine lv_iload_n hx hb dX8_text_51 rfl (lv_at hl 0 rfl) ?_
    refine lv_iconst (v := 2) hx hb dX8_text_52 (by decide) ?_
    refine lv_icmp_ge (tgt := 72) hx hb dX8_text_53 (by decide) (fun c7 => absurd c7 (by decide)) (fun c7 => ?_)
    refine lv_aload_n hx hb dX8_text_56 rfl (lv_at hl 2 rfl) ?_
    refine va_get (D := D) (ci := 8) (v := .ref (a_ia 0)) (C := RX8) (T := TX8) (N := 11) hx hb hts iwX8_text_X8 hown hK hP 0 rfl rfl 7 (by decide) (hts _ lkX8_text_f60) (fun _ h9 => h9) rfl dX8_text_57 ?_
    refine lv_iload_n hx hb dX8_text_60 rfl (lv_at hl 0 rfl) ?_
    refine va_aldq hx hb hK hP 26 3 rfl rfl (ixb_in (by decide)) dX8_text_61 ?_
    refine W.eq (g2 := F0 m 62 ls [.ref (a_im0 0)]) (by rw [show f_ia (Int32.toNatClampNeg (0 : Int32)) = some (a_im0 0) from hia0]; rfl) ?_
    refine lv_iconst (v := 0) hx hb dX8_text_62 (by decide) ?_
    obtain ⟨s8, hs8, hf⟩ := nm_ex hf
    refine va_putN (D := D) (ci := 1) (v := .int (0 : Int32)) (ty := .boolean) (C := RX1) (T := TX1) (N := 3) hx hb hts iwX8_text_X1 tyX1 tyX1_ok nmX1 hown hK hP hD hS 27 rfl rfl 2 (by decide) (hC0.2.1.f 42 rfl) (fun _ h9 => h9) rfl (by decide +kernel) rfl rfl (Nat.le_of_ble_eq_true rfl) dX8_text_63 (fun H locs hP hD hS => ?_)
    have hP : va_P D vwCl ((wCC t a_cc (a_tp 0) (a_tl 0) (a_rd 0) (a_tr 0) y_cc_drive y_cc_seeker (a_sn 0) (a_ia 0) y_cc_sheets s_cc) ++ (wTape t a_tp s3) ++ (wTeller t a_tl (a_tp 0) v1.2.1) ++ (wRoad t a_rd v5) ++ (wRoad t a_tr v1.2.2.2) ++ (wSight t a_sn s6) ++ (wIA t a_ia f_ia) ++ (wImage t a_im0 y_im0_road y_im0_seen s8) ++ (wImage t a_im1 y_im1_road y_im1_seen s_im1)) H := by rw [hs8]; exact hP
    have hD : va_D A ((wCC t a_cc (a_tp 0) (a_tl 0) (a_rd 0) (a_tr 0) y_cc_drive y_cc_seeker (a_sn 0) (a_ia 0) y_cc_sheets s_cc) ++ (wTape t a_tp s3) ++ (wTeller t a_tl (a_tp 0) v1.2.1) ++ (wRoad t a_rd v5) ++ (wRoad t a_tr v1.2.2.2) ++ (wSight t a_sn s6) ++ (wIA t a_ia f_ia) ++ (wImage t a_im0 y_im0_road y_im0_seen s8) ++ (wImage t a_im1 y_im1_road y_im1_seen s_im1)) := by rw [hs8]; exact hD
    refine lv_iinc (v := (1 : Int32)) (lv' := [(2, .int (1 : Int32)), (1, .int y2), (0, .ref (a_cc 0))]) hx hb dX8_text_66 hl (k := 0) rfl (by decide) (by decide) rfl (fun ls hl => ?_)
    refine lv_goto (tgt := 51) hx hb dX8_text_69 (by decide) ?_
    refine lv_iload_n hx hb dX8_text_51 rfl (lv_at hl 0 rfl) ?_
    refine lv_iconst (v := 2) hx hb dX8_text_52 (by decide) ?_
    refine lv_icmp_ge (tgt := 72) hx hb dX8_text_53 (by decide) (fun c9 => absurd c9 (by decide)) (fun c9 => ?_)
    refine lv_aload_n hx hb dX8_text_56 rfl (lv_at hl 2 rfl) ?_
    refine va_get (D := D) (ci := 8) (v := .ref (a_ia 0)) (C := RX8) (T := TX8) (N := 11) hx hb hts iwX8_text_X8 hown hK hP 0 rfl rfl 7 (by decide) (hts _ lkX8_text_f60) (fun _ h9 => h9) rfl dX8_text_57 ?_
    refine lv_iload_n hx hb dX8_text_60 rfl (lv_at hl 0 rfl) ?_
    refine va_aldq hx hb hK hP 26 3 rfl rfl (ixb_in (by decide)) dX8_text_61 ?_
    refine W.eq (g2 := F0 m 62 ls [.ref (a_im1 0)]) (by rw [show f_ia (Int32.toNatClampNeg (1 : Int32)) = some (a_im1 0) from hia1]; rfl) ?_
    refine lv_iconst (v := 0) hx hb dX8_text_62 (by decide) ?_
    obtain ⟨s10, hs10, hf⟩ := nm_ex hf
    refine va_putN (D := D) (ci := 1) (v := .int (0 : Int32)) (ty := .boolean) (C := RX1) (T := TX1) (N := 3) hx hb hts iwX8_text_X1 tyX1 tyX1_ok nmX1 hown hK hP hD hS 28 rfl rfl 2 (by decide) (hC0.2.1.f 42 rfl) (fun _ h9 => h9) rfl (by decide +kernel) rfl rfl (Nat.le_of_ble_eq_true rfl) dX8_text_63 (fun H locs hP hD hS => ?_)
    have hP : va_P D vwCl ((wCC t a_cc (a_tp 0) (a_tl 0) (a_rd 0) (a_tr 0) y_cc_drive y_cc_seeker (a_sn 0) (a_ia 0) y_cc_sheets s_cc) ++ (wTape t a_tp s3) ++ (wTeller t a_tl (a_tp 0) v1.2.1) ++ (wRoad t a_rd v5) ++ (wRoad t a_tr v1.2.2.2) ++ (wSight t a_sn s6) ++ (wIA t a_ia f_ia) ++ (wImage t a_im0 y_im0_road y_im0_seen s8) ++ (wImage t a_im1 y_im1_road y_im1_seen s10)) H := by rw [hs10]; exact hP
    have hD : va_D A ((wCC t a_cc (a_tp 0) (a_tl 0) (a_rd 0) (a_tr 0) y_cc_drive y_cc_seeker (a_sn 0) (a_ia 0) y_cc_sheets s_cc) ++ (wTape t a_tp s3) ++ (wTeller t a_tl (a_tp 0) v1.2.1) ++ (wRoad t a_rd v5) ++ (wRoad t a_tr v1.2.2.2) ++ (wSight t a_sn s6) ++ (wIA t a_ia f_ia) ++ (wImage t a_im0 y_im0_road y_im0_seen s8) ++ (wImage t a_im1 y_im1_road y_im1_seen s10)) := by rw [hs10]; exact hD
    refine lv_iinc (v := (2 : Int32)) (lv' := [(2, .int (2 : Int32)), (1, .int y2), (0, .ref (a_cc 0))]) hx hb dX8_text_66 hl (k := 0) rfl (by decide) (by decide) rfl (fun ls hl => ?_)
    refine lv_goto (tgt := 51) hx hb dX8_text_69 (by decide) ?_
    refine lv_iload_n hx hb dX8_text_51 rfl (lv_at hl 0 rfl) ?_
    refine lv_iconst (v := 2) hx hb dX8_text_52 (by decide) ?_
    refine lv_icmp_ge (tgt := 72) hx hb dX8_text_53 (by decide) (fun c11 => ?_) (fun c11 => absurd c11 (by decide))
    refine lv_iload_n hx hb dX8_text_72 rfl (lv_at hl 1 rfl) ?_
    obtain rfl := so_eq hf
    exact g_iret C hP hD hS dX8_text_73
/-! CoachCourt.see -/
def fX8_see_29 (s_cc : S2) (s_rd : S2) (s_sn : S2) (x1 : Int32) (x2 : Int32) : Option (Int32 × S2) :=
  (fX5_put s_sn x1 x2).bind fun v4 =>
  if v4.1 = (0 : Int32) then
    (some ((-3 : Int32), v4.2))
  else
    (some (v4.2 0 0, v4.2))
def fX8_see (s_cc : S2) (s_rd : S2) (s_sn : S2) (p1 : Int32) (p2 : Int32) : Option (Int32 × S2) :=
  (fX2_hasParty s_rd p1).bind fun v1 =>
  if v1 = (0 : Int32) then
    (some ((-1 : Int32), s_sn))
  else
    (if p2 = (-4 : Int32) then
      (fX8_see_29 s_cc s_rd s_sn p1 p2)
    else
      ((fX8_within p2 (0 : Int32) (7 : Int32)).bind fun v6 =>
      if v6 = (0 : Int32) then
        (some ((-1 : Int32), s_sn))
      else
        (fX8_see_29 s_cc s_rd s_sn p1 p2)))
theorem hdX8_see : yX8_see.cls = RX8 ∧ yX8_see.cls ≠ "java/lang/invoke/MethodHandle" ∧ yX8_see.cls ≠ "java/lang/invoke/VarHandle" ∧ (parseMethodDescriptor yX8_see.desc).map (fun d => d.parameters.length) = some 2 := by decide +kernel
theorem iwX8_see_X8 : ∀ w ∈ wsX80, w ∈ wsX8_see := by decide +kernel
theorem lkX8_see_f28 : Cond.fieldLink RX8 28 "CoachCourt" "road" "LCoachCourt$Road;" ∈ wsX8_see := by decide +kernel
theorem lkX8_see_f54 : Cond.fieldLink RX8 54 "CoachCourt" "seen" "LCoachCourt$Sightings;" ∈ wsX8_see := by decide +kernel
theorem iwX8_see_X5 : ∀ w ∈ wsX50, w ∈ wsX8_see := by decide +kernel
set_option maxHeartbeats 4000000 in
set_option maxRecDepth 100000 in
theorem wX8_see_29 {p : Program} {l : Launch} {e : Env} {s : State} {m : MethodId} {args : Array Value} {below : List Frame} {meth : Method} {c : Code} {D : va_G} {t : Nat → ClassId} {κ : Nat → Nat} {A : Nat → Prop} {a_cc : Nat → Nat} {y_cc_tape : Nat} {y_cc_teller : Nat} {y_cc_trial : Nat} {y_cc_drive : Nat} {y_cc_seeker : Nat} {y_cc_images : Nat} {y_cc_sheets : Nat} {a_rd : Nat → Nat} {a_sn : Nat → Nat} {s_cc : S2} {s_rd : S2} {s_sn : S2} {x1 : Int32} {x2 : Int32} {out : Int32 × S2} (C : Cxt p s m args meth c cX8_see 3 RX8 wsX8_see (some .int) D t κ A) (hf : fX8_see_29 s_cc s_rd s_sn x1 x2 = some out) : ∀ (H : Heap) (locs : List Loc) (ls : Array Slot), va_P D vwCl ((wCC t a_cc y_cc_tape y_cc_teller (a_rd 0) y_cc_trial y_cc_drive y_cc_seeker (a_sn 0) y_cc_images y_cc_sheets s_cc) ++ (wRoad t a_rd s_rd) ++ (wSight t a_sn s_sn)) H → va_D A ((wCC t a_cc y_cc_tape y_cc_teller (a_rd 0) y_cc_trial y_cc_drive y_cc_seeker (a_sn 0) y_cc_images y_cc_sheets s_cc) ++ (wRoad t a_rd s_rd) ++ (wSight t a_sn s_sn)) → va_S A s.heap H locs → lv_has ls 3 [(0, .ref (a_cc 0)), (1, .int x1), (2, .int x2)] → W p l e (rmL 1) s m args below meth c H locs 0 0 (MQ below (gQ D (some (.int out.1)) ((wCC t a_cc y_cc_tape y_cc_teller (a_rd 0) y_cc_trial y_cc_drive y_cc_seeker (a_sn 0) y_cc_images y_cc_sheets s_cc) ++ (wRoad t a_rd s_rd) ++ (wSight t a_sn out.2)) A) args s 0 0 A) (F0 m 29 ls []) := by
  obtain ⟨hx, hb, hr, hml, hown, hts, hC0, hlk, hA⟩ := id C
  have hK := hC0.1
  intro H locs ls hP hD hS hl
  unfold fX8_see_29 at hf
  refine lv_aload_n hx hb dX8_see_29 rfl (lv_at hl 0 rfl) ?_
  refine va_get (D := D) (ci := 8) (v := .ref (a_sn 0)) (C := RX8) (T := TX8) (N := 11) hx hb hts iwX8_see_X8 hown hK hP 0 rfl rfl 6 (by decide) (hts _ lkX8_see_f54) (fun _ h9 => h9) rfl dX8_see_30 ?_
  refine lv_iload_n hx hb dX8_see_33 rfl (lv_at hl 1 rfl) ?_
  refine lv_iload_n hx hb dX8_see_34 rfl (lv_at hl 2 rfl) ?_
  obtain ⟨v4, ev4, hf⟩ := bd_some hf
  refine gk_V C (As := [.int x1, .int x2]) (rest := []) (ci := 5) (q := (RX5, TX5, 3)) (q0 := 0) (wr := ((wCC t a_cc y_cc_tape y_cc_teller (a_rd 0) y_cc_trial y_cc_drive y_cc_seeker (a_sn 0) y_cc_images y_cc_sheets s_cc) ++ (wRoad t a_rd s_rd))) (wf := ((wCC t a_cc y_cc_tape y_cc_teller (a_rd 0) y_cc_trial y_cc_drive y_cc_seeker (a_sn 0) y_cc_images y_cc_sheets s_cc) ++ (wRoad t a_rd s_rd) ++ (wSight t a_sn v4.2))) (cX5_put_ok (l := l) (D := D) (t := t) (κ := κ) (a_sn := a_sn) ev4) gX8_see_X5_put rfl ⟨rfl, rfl⟩ hdX5_put ⟨Nat.le_of_ble_eq_true rfl, Nat.le_of_ble_eq_true rfl⟩ rfl rfl hP hD hS [11, 12, 13] [0, 1, 2, 3, 4, 5, 6, 7, 8, 9, 10] [0, 1, 2, 3, 4, 5, 6, 7, 8, 9, 10, 11, 12, 13] rfl rfl rfl rfl (by decide) rfl rfl rfl hl.1 (Nat.le_of_ble_eq_true rfl) dX8_see_35 (Nat.zero_le _) (Nat.zero_le _) (fun H locs hP hD hS => ?_)
  refine W.eq (g2 := F0 m 38 ls [.int v4.1]) rfl ?_
  refine lv_if_eq (tgt := 51) hx hb dX8_see_38 (by decide) (fun c5 => ?_) (fun c5 => ?_)
  · rw [if_pos c5] at hf
    refine lv_bipush (v := -3) hx hb dX8_see_51 (by decide) ?_
    obtain rfl := so_eq hf
    exact g_iret C hP hD hS dX8_see_53
  · rw [if_neg c5] at hf
    refine lv_aload_n hx hb dX8_see_41 rfl (lv_at hl 0 rfl) ?_
    refine va_get (D := D) (ci := 8) (v := .ref (a_sn 0)) (C := RX8) (T := TX8) (N := 11) hx hb hts iwX8_see_X8 hown hK hP 0 rfl rfl 6 (by decide) (hts _ lkX8_see_f54) (fun _ h9 => h9) rfl dX8_see_42 ?_
    refine va_getN (D := D) (ci := 5) (v := .int (v4.2 0 0)) (C := RX5) (T := TX5) (N := 3) hx hb hts iwX8_see_X5 hown hK hP 11 rfl rfl 2 (by decide) (hC0.2.1.f 39 rfl) (fun _ h9 => h9) rfl dX8_see_45 ?_
    refine lv_goto (tgt := 53) hx hb dX8_see_48 (by decide) ?_
    obtain rfl := so_eq hf
    exact g_iret C hP hD hS dX8_see_53
set_option maxHeartbeats 4000000 in
set_option maxRecDepth 100000 in
theorem cX8_see_ok {l : Launch} {D : va_G} {t : Nat → ClassId} {κ : Nat → Nat} {a_cc : Nat → Nat} {y_cc_tape : Nat} {y_cc_teller : Nat} {y_cc_trial : Nat} {y_cc_drive : Nat} {y_cc_seeker : Nat} {y_cc_images : Nat} {y_cc_sheets : Nat} {a_rd : Nat → Nat} {a_sn : Nat → Nat} {s_cc : S2} {s_rd : S2} {s_sn : S2} {p1 : Int32} {p2 : Int32} {out : Int32 × S2} (hf : fX8_see s_cc s_rd s_sn p1 p2 = some out) : Ct l D t κ yX8_see wsX8_see (rmL 1) [.ref (a_cc 0), .int p1, .int p2] ((wCC t a_cc y_cc_tape y_cc_teller (a_rd 0) y_cc_trial y_cc_drive y_cc_seeker (a_sn 0) y_cc_images y_cc_sheets s_cc) ++ (wRoad t a_rd s_rd) ++ (wSight t a_sn s_sn)) (some (.int out.1)) ((wCC t a_cc y_cc_tape y_cc_teller (a_rd 0) y_cc_trial y_cc_drive y_cc_seeker (a_sn 0) y_cc_images y_cc_sheets s_cc) ++ (wRoad t a_rd s_rd) ++ (wSight t a_sn out.2)) := by
  refine Ct.ofW (own := RX8) (cc := cX8_see) (maxL := 3) (ret := (some .int)) (by decide) rfl rfl (Nat.le_of_ble_eq_true rfl) ?_
  intro p e s m below meth c A C hP hD ls hl
  have hS : va_S A s.heap s.heap [] := va_S.rf
  obtain ⟨hx, hb, hr, hml, hown, hts, hC0, hlk, hA⟩ := id C
  have hK := hC0.1
  have hl : lv_has ls 3 [(0, .ref (a_cc 0)), (1, .int p1), (2, .int p2)] := hl
  unfold fX8_see at hf
  refine lv_aload_n hx hb dX8_see_0 rfl (lv_at hl 0 rfl) ?_
  refine va_get (D := D) (ci := 8) (v := .ref (a_rd 0)) (C := RX8) (T := TX8) (N := 11) hx hb hts iwX8_see_X8 hown hK hP 0 rfl rfl 2 (by decide) (hts _ lkX8_see_f28) (fun _ h9 => h9) rfl dX8_see_1 ?_
  refine lv_iload_n hx hb dX8_see_4 rfl (lv_at hl 1 rfl) ?_
  obtain ⟨v1, ev1, hf⟩ := bd_some hf
  refine gk_V C (As := [.int p1]) (rest := []) (ci := 2) (q := (RX2, TX2, 12)) (q0 := 0) (wr := ((wCC t a_cc y_cc_tape y_cc_teller (a_rd 0) y_cc_trial y_cc_drive y_cc_seeker (a_sn 0) y_cc_images y_cc_sheets s_cc) ++ (wSight t a_sn s_sn))) (wf := ((wCC t a_cc y_cc_tape y_cc_teller (a_rd 0) y_cc_trial y_cc_drive y_cc_seeker (a_sn 0) y_cc_images y_cc_sheets s_cc) ++ (wRoad t a_rd s_rd) ++ (wSight t a_sn s_sn))) (cX2_hasParty_ok (l := l) (D := D) (t := t) (κ := κ) (a_rd := a_rd) ev1) gX8_see_X2_hasParty rfl ⟨rfl, rfl⟩ hdX2_hasParty ⟨Nat.le_of_ble_eq_true rfl, Nat.le_of_ble_eq_true rfl⟩ rfl rfl hP hD hS [2, 3, 4, 5, 6, 7, 8, 9, 10] [0, 1, 11, 12, 13] [0, 1, 5, 6, 7, 8, 9, 10, 11, 12, 13, 2, 3, 4] rfl rfl rfl rfl (by decide) rfl rfl rfl hl.1 (Nat.le_of_ble_eq_true rfl) dX8_see_5 (Nat.zero_le _) (Nat.zero_le _) (fun H locs hP hD hS => ?_)
  refine W.eq (g2 := F0 m 8 ls [.int v1]) rfl ?_
  refine lv_if_eq (tgt := 27) hx hb dX8_see_8 (by decide) (fun c2 => ?_) (fun c2 => ?_)
  · rw [if_pos c2] at hf
    refine lv_iconst (v := -1) hx hb dX8_see_27 (by decide) ?_
    obtain rfl := so_eq hf
    exact g_iret C hP hD hS dX8_see_28
  · rw [if_neg c2] at hf
    refine lv_iload_n hx hb dX8_see_11 rfl (lv_at hl 2 rfl) ?_
    refine lv_bipush (v := -4) hx hb dX8_see_12 (by decide) ?_
    refine lv_icmp_eq (tgt := 29) hx hb dX8_see_14 (by decide) (fun c3 => ?_) (fun c3 => ?_)
    · rw [if_pos c3] at hf
      exact wX8_see_29 C hf _ _ _ hP hD hS (lv_sub hl [0, 1, 2] rfl)
    · rw [if_neg c3] at hf
      refine lv_iload_n hx hb dX8_see_17 rfl (lv_at hl 2 rfl) ?_
      refine lv_iconst (v := 0) hx hb dX8_see_18 (by decide) ?_
      refine lv_bipush (v := 7) hx hb dX8_see_19 (by decide) ?_
      obtain ⟨v6, ev6, hf⟩ := bd_some hf
      refine gk_S C (As := [.int p2, .int (0 : Int32), .int (7 : Int32)]) (rest := []) (cX8_within_ok (l := l) (D := D) (t := t) (κ := κ) ev6) gX8_see_X8_within rfl ⟨rfl, rfl⟩ hdX8_within ⟨Nat.le_of_ble_eq_true rfl, Nat.le_of_ble_eq_true rfl⟩ hP hD hS rfl hl.1 (Nat.le_of_ble_eq_true rfl) dX8_see_21 (Nat.zero_le _) (Nat.zero_le _) (fun H locs hP hD hS => ?_)
      refine W.eq (g2 := F0 m 24 ls [.int v6]) rfl ?_
      refine lv_if_ne (tgt := 29) hx hb dX8_see_24 (by decide) (fun c7 => ?_) (fun c7 => ?_)
      · rw [if_neg c7] at hf
        exact wX8_see_29 C hf _ _ _ hP hD hS (lv_sub hl [0, 1, 2] rfl)
      · rw [if_pos c7] at hf
        refine lv_iconst (v := -1) hx hb dX8_see_27 (by decide) ?_
        obtain rfl := so_eq hf
        exact g_iret C hP hD hS dX8_see_28
/-! CoachCourt.forget -/
def fX8_forget (s_cc : S2) (s_sn : S2) (p1 : Int32) : Option (Int32 × S2) :=
  (fX8_within p1 (0 : Int32) (s_sn 0 0)).bind fun v1 =>
  if v1 = (0 : Int32) then
    (some ((-1 : Int32), s_sn))
  else
    (nm (s_sn 0 0) fun y3 =>
    nm (sE s_sn 0 0 p1) fun s4 =>
    some (y3, s4))
theorem hdX8_forget : yX8_forget.cls = RX8 ∧ yX8_forget.cls ≠ "java/lang/invoke/MethodHandle" ∧ yX8_forget.cls ≠ "java/lang/invoke/VarHandle" ∧ (parseMethodDescriptor yX8_forget.desc).map (fun d => d.parameters.length) = some 1 := by decide +kernel
theorem iwX8_forget_X8 : ∀ w ∈ wsX80, w ∈ wsX8_forget := by decide +kernel
theorem lkX8_forget_f54 : Cond.fieldLink RX8 54 "CoachCourt" "seen" "LCoachCourt$Sightings;" ∈ wsX8_forget := by decide +kernel
theorem iwX8_forget_X5 : ∀ w ∈ wsX50, w ∈ wsX8_forget := by decide +kernel
set_option maxHeartbeats 4000000 in
set_option maxRecDepth 100000 in
theorem cX8_forget_ok {l : Launch} {D : va_G} {t : Nat → ClassId} {κ : Nat → Nat} {a_cc : Nat → Nat} {y_cc_tape : Nat} {y_cc_teller : Nat} {y_cc_road : Nat} {y_cc_trial : Nat} {y_cc_drive : Nat} {y_cc_seeker : Nat} {y_cc_images : Nat} {y_cc_sheets : Nat} {a_sn : Nat → Nat} {s_cc : S2} {s_sn : S2} {p1 : Int32} {out : Int32 × S2} (hf : fX8_forget s_cc s_sn p1 = some out) : Ct l D t κ yX8_forget wsX8_forget (rmL 1) [.ref (a_cc 0), .int p1] ((wCC t a_cc y_cc_tape y_cc_teller y_cc_road y_cc_trial y_cc_drive y_cc_seeker (a_sn 0) y_cc_images y_cc_sheets s_cc) ++ (wSight t a_sn s_sn)) (some (.int out.1)) ((wCC t a_cc y_cc_tape y_cc_teller y_cc_road y_cc_trial y_cc_drive y_cc_seeker (a_sn 0) y_cc_images y_cc_sheets s_cc) ++ (wSight t a_sn out.2)) := by
  refine Ct.ofW (own := RX8) (cc := cX8_forget) (maxL := 3) (ret := (some .int)) (by decide) rfl rfl (Nat.le_of_ble_eq_true rfl) ?_
  intro p e s m below meth c A C hP hD ls hl
  have hS : va_S A s.heap s.heap [] := va_S.rf
  obtain ⟨hx, hb, hr, hml, hown, hts, hC0, hlk, hA⟩ := id C
  have hK := hC0.1
  have hl : lv_has ls 3 [(0, .ref (a_cc 0)), (1, .int p1)] := hl
  unfold fX8_forget at hf
  refine lv_iload_n hx hb dX8_forget_0 rfl (lv_at hl 1 rfl) ?_
  refine lv_iconst (v := 0) hx hb dX8_forget_1 (by decide) ?_
  refine lv_aload_n hx hb dX8_forget_2 rfl (lv_at hl 0 rfl) ?_
  refine va_get (D := D) (ci := 8) (v := .ref (a_sn 0)) (C := RX8) (T := TX8) (N := 11) hx hb hts iwX8_forget_X8 hown hK hP 0 rfl rfl 6 (by decide) (hts _ lkX8_forget_f54) (fun _ h9 => h9) rfl dX8_forget_3 ?_
  refine va_getN (D := D) (ci := 5) (v := .int (s_sn 0 0)) (C := RX5) (T := TX5) (N := 3) hx hb hts iwX8_forget_X5 hown hK hP 2 rfl rfl 2 (by decide) (hC0.2.1.f 39 rfl) (fun _ h9 => h9) rfl dX8_forget_6 ?_
  obtain ⟨v1, ev1, hf⟩ := bd_some hf
  refine gk_S C (As := [.int p1, .int (0 : Int32), .int (s_sn 0 0)]) (rest := []) (cX8_within_ok (l := l) (D := D) (t := t) (κ := κ) ev1) gX8_forget_X8_within rfl ⟨rfl, rfl⟩ hdX8_within ⟨Nat.le_of_ble_eq_true rfl, Nat.le_of_ble_eq_true rfl⟩ hP hD hS rfl hl.1 (Nat.le_of_ble_eq_true rfl) dX8_forget_9 (Nat.zero_le _) (Nat.zero_le _) (fun H locs hP hD hS => ?_)
  refine W.eq (g2 := F0 m 12 ls [.int v1]) rfl ?_
  refine lv_if_ne (tgt := 17) hx hb dX8_forget_12 (by decide) (fun c2 => ?_) (fun c2 => ?_)
  · rw [if_neg c2] at hf
    refine lv_aload_n hx hb dX8_forget_17 rfl (lv_at hl 0 rfl) ?_
    refine va_get (D := D) (ci := 8) (v := .ref (a_sn 0)) (C := RX8) (T := TX8) (N := 11) hx hb hts iwX8_forget_X8 hown hK hP 0 rfl rfl 6 (by decide) (hts _ lkX8_forget_f54) (fun _ h9 => h9) rfl dX8_forget_18 ?_
    refine va_getN (D := D) (ci := 5) (v := .int (s_sn 0 0)) (C := RX5) (T := TX5) (N := 3) hx hb hts iwX8_forget_X5 hown hK hP 2 rfl rfl 2 (by decide) (hC0.2.1.f 39 rfl) (fun _ h9 => h9) rfl dX8_forget_21 ?_
    obtain ⟨y3, hy3, hf⟩ := nm_ex hf
    refine W.eq (g2 := F0 m 24 ls [.int y3]) (by rw [hy3]) ?_
    refine lv_istore_n (lv' := [(2, .int y3), (0, .ref (a_cc 0)), (1, .int p1)]) hx hb dX8_forget_24 rfl hl (by decide) rfl (fun ls hl => ?_)
    refine lv_aload_n hx hb dX8_forget_25 rfl (lv_at hl 1 rfl) ?_
    refine va_get (D := D) (ci := 8) (v := .ref (a_sn 0)) (C := RX8) (T := TX8) (N := 11) hx hb hts iwX8_forget_X8 hown hK hP 0 rfl rfl 6 (by decide) (hts _ lkX8_forget_f54) (fun _ h9 => h9) rfl dX8_forget_26 ?_
    refine lv_iload_n hx hb dX8_forget_29 rfl (lv_at hl 2 rfl) ?_
    obtain ⟨s4, hs4, hf⟩ := nm_ex hf
    refine va_putN (D := D) (ci := 5) (v := .int p1) (ty := .int) (C := RX5) (T := TX5) (N := 3) hx hb hts iwX8_forget_X5 tyX5 tyX5_ok nmX5 hown hK hP hD hS 2 rfl rfl 2 (by decide) (hC0.2.1.f 39 rfl) (fun _ h9 => h9) rfl (by decide +kernel) rfl rfl (Nat.le_of_ble_eq_true rfl) dX8_forget_30 (fun H locs hP hD hS => ?_)
    have hP : va_P D vwCl ((wCC t a_cc y_cc_tape y_cc_teller y_cc_road y_cc_trial y_cc_drive y_cc_seeker (a_sn 0) y_cc_images y_cc_sheets s_cc) ++ (wSight t a_sn s4)) H := by rw [hs4]; exact hP
    have hD : va_D A ((wCC t a_cc y_cc_tape y_cc_teller y_cc_road y_cc_trial y_cc_drive y_cc_seeker (a_sn 0) y_cc_images y_cc_sheets s_cc) ++ (wSight t a_sn s4)) := by rw [hs4]; exact hD
    refine lv_iload_n hx hb dX8_forget_33 rfl (lv_at hl 0 rfl) ?_
    obtain rfl := so_eq hf
    exact g_iret C hP hD hS dX8_forget_34
  · rw [if_pos c2] at hf
    refine lv_iconst (v := -1) hx hb dX8_forget_15 (by decide) ?_
    obtain rfl := so_eq hf
    exact g_iret C hP hD hS dX8_forget_16
/-! CoachCourt.keep -/
def fX8_keep_30 (s_cc : S2) (s_rd : S2) (s_sn : S2) (s_im : S2) (s_ir : S2) (s_is : S2) (k0 : Int32) : Option (Int32 × S2 × S2 × S2) :=
  nm (sE s_im 0 0 (1 : Int32)) fun s5 =>
  (fX2_copyFrom s_ir s_rd).bind fun v6 =>
  (fX5_copyFrom s_is s_sn).bind fun v7 =>
  some (k0, s5, v6, v7)
def fX8_keep (s_cc : S2) (s_rd : S2) (s_sn : S2) (s_im : S2) (s_ir : S2) (s_is : S2) (p1 : Int32) : Option (Int32 × S2 × S2 × S2) :=
  (fX8_within p1 (0 : Int32) (1 : Int32)).bind fun v1 =>
  if v1 = (0 : Int32) then
    (some ((-1 : Int32), s_im, s_ir, s_is))
  else
    (gd (ixb p1 2) <|
    if (s_im 0 0) = (0 : Int32) then
      (fX8_keep_30 s_cc s_rd s_sn s_im s_ir s_is (0 : Int32))
    else
      (fX8_keep_30 s_cc s_rd s_sn s_im s_ir s_is (1 : Int32)))
theorem hdX8_keep : yX8_keep.cls = RX8 ∧ yX8_keep.cls ≠ "java/lang/invoke/MethodHandle" ∧ yX8_keep.cls ≠ "java/lang/invoke/VarHandle" ∧ (parseMethodDescriptor yX8_keep.desc).map (fun d => d.parameters.length) = some 1 := by decide +kernel
theorem iwX8_keep_X8 : ∀ w ∈ wsX80, w ∈ wsX8_keep := by decide +kernel
theorem lkX8_keep_f60 : Cond.fieldLink RX8 60 "CoachCourt" "images" "[LCoachCourt$Image;" ∈ wsX8_keep := by decide +kernel
theorem iwX8_keep_X1 : ∀ w ∈ wsX10, w ∈ wsX8_keep := by decide +kernel
theorem lkX8_keep_f28 : Cond.fieldLink RX8 28 "CoachCourt" "road" "LCoachCourt$Road;" ∈ wsX8_keep := by decide +kernel
theorem lkX8_keep_f54 : Cond.fieldLink RX8 54 "CoachCourt" "seen" "LCoachCourt$Sightings;" ∈ wsX8_keep := by decide +kernel
set_option maxHeartbeats 4000000 in
set_option maxRecDepth 100000 in
theorem wX8_keep_30 {p : Program} {l : Launch} {e : Env} {s : State} {m : MethodId} {args : Array Value} {below : List Frame} {meth : Method} {c : Code} {D : va_G} {t : Nat → ClassId} {κ : Nat → Nat} {A : Nat → Prop} {a_cc : Nat → Nat} {y_cc_tape : Nat} {y_cc_teller : Nat} {y_cc_trial : Nat} {y_cc_drive : Nat} {y_cc_seeker : Nat} {y_cc_sheets : Nat} {a_rd : Nat → Nat} {a_sn : Nat → Nat} {a_ia : Nat → Nat} {f_ia : Nat → Option Nat} {a_im : Nat → Nat} {a_ir : Nat → Nat} {a_is : Nat → Nat} {s_cc : S2} {s_rd : S2} {s_sn : S2} {s_im : S2} {s_ir : S2} {s_is : S2} {k0 : Int32} {out : Int32 × S2 × S2 × S2} (C : Cxt p s m args meth c cX8_keep 4 RX8 wsX8_keep (some .int) D t κ A) (hf : fX8_keep_30 s_cc s_rd s_sn s_im s_ir s_is k0 = some out) : ∀ (H : Heap) (locs : List Loc) (ls : Array Slot), va_P D vwCl ((wCC t a_cc y_cc_tape y_cc_teller (a_rd 0) y_cc_trial y_cc_drive y_cc_seeker (a_sn 0) (a_ia 0) y_cc_sheets s_cc) ++ (wRoad t a_rd s_rd) ++ (wSight t a_sn s_sn) ++ (wIA t a_ia f_ia) ++ (wImage t a_im (a_ir 0) (a_is 0) s_im) ++ (wRoad t a_ir s_ir) ++ (wSight t a_is s_is)) H → va_D A ((wCC t a_cc y_cc_tape y_cc_teller (a_rd 0) y_cc_trial y_cc_drive y_cc_seeker (a_sn 0) (a_ia 0) y_cc_sheets s_cc) ++ (wRoad t a_rd s_rd) ++ (wSight t a_sn s_sn) ++ (wIA t a_ia f_ia) ++ (wImage t a_im (a_ir 0) (a_is 0) s_im) ++ (wRoad t a_ir s_ir) ++ (wSight t a_is s_is)) → va_S A s.heap H locs → lv_has ls 4 [(0, .ref (a_cc 0)), (2, .ref (a_im 0))] → W p l e (rmL 1) s m args below meth c H locs 0 0 (MQ below (gQ D (some (.int out.1)) ((wCC t a_cc y_cc_tape y_cc_teller (a_rd 0) y_cc_trial y_cc_drive y_cc_seeker (a_sn 0) (a_ia 0) y_cc_sheets s_cc) ++ (wRoad t a_rd s_rd) ++ (wSight t a_sn s_sn) ++ (wIA t a_ia f_ia) ++ (wImage t a_im (a_ir 0) (a_is 0) out.2.1) ++ (wRoad t a_ir out.2.2.1) ++ (wSight t a_is out.2.2.2)) A) args s 0 0 A) (F0 m 30 ls [.int k0]) := by
  obtain ⟨hx, hb, hr, hml, hown, hts, hC0, hlk, hA⟩ := id C
  have hK := hC0.1
  intro H locs ls hP hD hS hl
  unfold fX8_keep_30 at hf
  refine lv_istore_n (lv' := [(3, .int k0), (0, .ref (a_cc 0)), (2, .ref (a_im 0))]) hx hb dX8_keep_30 rfl hl (by decide) rfl (fun ls hl => ?_)
  refine lv_aload_n hx hb dX8_keep_31 rfl (lv_at hl 2 rfl) ?_
  refine lv_iconst (v := 1) hx hb dX8_keep_32 (by decide) ?_
  obtain ⟨s5, hs5, hf⟩ := nm_ex hf
  refine va_putN (D := D) (ci := 1) (v := .int (1 : Int32)) (ty := .boolean) (C := RX1) (T := TX1) (N := 3) hx hb hts iwX8_keep_X1 tyX1 tyX1_ok nmX1 hown hK hP hD hS 15 rfl rfl 2 (by decide) (hC0.2.1.f 42 rfl) (fun _ h9 => h9) rfl (by decide +kernel) rfl rfl (Nat.le_of_ble_eq_true rfl) dX8_keep_33 (fun H locs hP hD hS => ?_)
  have hP : va_P D vwCl ((wCC t a_cc y_cc_tape y_cc_teller (a_rd 0) y_cc_trial y_cc_drive y_cc_seeker (a_sn 0) (a_ia 0) y_cc_sheets s_cc) ++ (wRoad t a_rd s_rd) ++ (wSight t a_sn s_sn) ++ (wIA t a_ia f_ia) ++ (wImage t a_im (a_ir 0) (a_is 0) s5) ++ (wRoad t a_ir s_ir) ++ (wSight t a_is s_is)) H := by rw [hs5]; exact hP
  have hD : va_D A ((wCC t a_cc y_cc_tape y_cc_teller (a_rd 0) y_cc_trial y_cc_drive y_cc_seeker (a_sn 0) (a_ia 0) y_cc_sheets s_cc) ++ (wRoad t a_rd s_rd) ++ (wSight t a_sn s_sn) ++ (wIA t a_ia f_ia) ++ (wImage t a_im (a_ir 0) (a_is 0) s5) ++ (wRoad t a_ir s_ir) ++ (wSight t a_is s_is)) := by rw [hs5]; exact hD
  refine lv_aload_n hx hb dX8_keep_36 rfl (lv_at hl 2 rfl) ?_
  refine va_getN (D := D) (ci := 1) (v := .ref (a_ir 0)) (C := RX1) (T := TX1) (N := 3) hx hb hts iwX8_keep_X1 hown hK hP 15 rfl rfl 0 (by decide) (hC0.2.1.f 40 rfl) (fun _ h9 => h9) rfl dX8_keep_37 ?_
  refine lv_aload_n hx hb dX8_keep_40 rfl (lv_at hl 1 rfl) ?_
  refine va_get (D := D) (ci := 8) (v := .ref (a_rd 0)) (C := RX8) (T := TX8) (N := 11) hx hb hts iwX8_keep_X8 hown hK hP 0 rfl rfl 2 (by decide) (hts _ lkX8_keep_f28) (fun _ h9 => h9) rfl dX8_keep_41 ?_
  obtain ⟨v6, ev6, hf⟩ := bd_some hf
  refine gk_V C (As := [.ref (a_rd 0)]) (rest := []) (ci := 2) (q := (RX2, TX2, 12)) (q0 := 0) (wr := ((wCC t a_cc y_cc_tape y_cc_teller (a_rd 0) y_cc_trial y_cc_drive y_cc_seeker (a_sn 0) (a_ia 0) y_cc_sheets s_cc) ++ (wSight t a_sn s_sn) ++ (wIA t a_ia f_ia) ++ (wImage t a_im (a_ir 0) (a_is 0) s5) ++ (wSight t a_is s_is))) (wf := ((wCC t a_cc y_cc_tape y_cc_teller (a_rd 0) y_cc_trial y_cc_drive y_cc_seeker (a_sn 0) (a_ia 0) y_cc_sheets s_cc) ++ (wRoad t a_rd s_rd) ++ (wSight t a_sn s_sn) ++ (wIA t a_ia f_ia) ++ (wImage t a_im (a_ir 0) (a_is 0) s5) ++ (wRoad t a_ir v6) ++ (wSight t a_is s_is))) (cX2_copyFrom_ok (l := l) (D := D) (t := t) (κ := κ) (a_rd := a_ir) (a_ro := a_rd) ev6) gX8_keep_X2_copyFrom rfl ⟨rfl, rfl⟩ hdX2_copyFrom ⟨Nat.le_of_ble_eq_true rfl, Nat.le_of_ble_eq_true rfl⟩ rfl rfl hP hD hS [16, 17, 18, 19, 20, 21, 22, 23, 24, 2, 3, 4, 5, 6, 7, 8, 9, 10] [0, 1, 11, 12, 13, 14, 15, 25, 26, 27] [0, 1, 19, 20, 21, 22, 23, 24, 25, 26, 27, 2, 3, 4, 5, 6, 10, 11, 12, 13, 14, 15, 16, 17, 18, 7, 8, 9] rfl rfl rfl rfl (by decide) rfl rfl rfl hl.1 (Nat.le_of_ble_eq_true rfl) dX8_keep_44 (Nat.zero_le _) (Nat.zero_le _) (fun H locs hP hD hS => ?_)
  refine W.eq (g2 := F0 m 47 ls []) rfl ?_
  refine lv_aload_n hx hb dX8_keep_47 rfl (lv_at hl 2 rfl) ?_
  refine va_getN (D := D) (ci := 1) (v := .ref (a_is 0)) (C := RX1) (T := TX1) (N := 3) hx hb hts iwX8_keep_X1 hown hK hP 15 rfl rfl 1 (by decide) (hC0.2.1.f 41 rfl) (fun _ h9 => h9) rfl dX8_keep_48 ?_
  refine lv_aload_n hx hb dX8_keep_51 rfl (lv_at hl 1 rfl) ?_
  refine va_get (D := D) (ci := 8) (v := .ref (a_sn 0)) (C := RX8) (T := TX8) (N := 11) hx hb hts iwX8_keep_X8 hown hK hP 0 rfl rfl 6 (by decide) (hts _ lkX8_keep_f54) (fun _ h9 => h9) rfl dX8_keep_52 ?_
  obtain ⟨v7, ev7, hf⟩ := bd_some hf
  refine gk_V C (As := [.ref (a_sn 0)]) (rest := []) (ci := 5) (q := (RX5, TX5, 3)) (q0 := 0) (wr := ((wCC t a_cc y_cc_tape y_cc_teller (a_rd 0) y_cc_trial y_cc_drive y_cc_seeker (a_sn 0) (a_ia 0) y_cc_sheets s_cc) ++ (wRoad t a_rd s_rd) ++ (wIA t a_ia f_ia) ++ (wImage t a_im (a_ir 0) (a_is 0) s5) ++ (wRoad t a_ir v6))) (wf := ((wCC t a_cc y_cc_tape y_cc_teller (a_rd 0) y_cc_trial y_cc_drive y_cc_seeker (a_sn 0) (a_ia 0) y_cc_sheets s_cc) ++ (wRoad t a_rd s_rd) ++ (wSight t a_sn s_sn) ++ (wIA t a_ia f_ia) ++ (wImage t a_im (a_ir 0) (a_is 0) s5) ++ (wRoad t a_ir v6) ++ (wSight t a_is v7))) (cX5_copyFrom_ok (l := l) (D := D) (t := t) (κ := κ) (a_sn := a_is) (a_so := a_sn) ev7) gX8_keep_X5_copyFrom rfl ⟨rfl, rfl⟩ hdX5_copyFrom ⟨Nat.le_of_ble_eq_true rfl, Nat.le_of_ble_eq_true rfl⟩ rfl rfl hP hD hS [25, 26, 27, 11, 12, 13] [0, 1, 2, 3, 4, 5, 6, 7, 8, 9, 10, 14, 15, 16, 17, 18, 19, 20, 21, 22, 23, 24] [0, 1, 2, 3, 4, 5, 6, 7, 8, 9, 10, 25, 26, 27, 11, 12, 13, 14, 15, 16, 17, 18, 19, 20, 21, 22, 23, 24] rfl rfl rfl rfl (by decide) rfl rfl rfl hl.1 (Nat.le_of_ble_eq_true rfl) dX8_keep_55 (Nat.zero_le _) (Nat.zero_le _) (fun H locs hP hD hS => ?_)
  refine W.eq (g2 := F0 m 58 ls []) rfl ?_
  refine lv_iload_n hx hb dX8_keep_58 rfl (lv_at hl 0 rfl) ?_
  obtain rfl := so_eq hf
  exact g_iret C hP hD hS dX8_keep_59
set_option maxHeartbeats 4000000 in
set_option maxRecDepth 100000 in
theorem cX8_keep_ok {l : Launch} {D : va_G} {t : Nat → ClassId} {κ : Nat → Nat} {a_cc : Nat → Nat} {y_cc_tape : Nat} {y_cc_teller : Nat} {y_cc_trial : Nat} {y_cc_drive : Nat} {y_cc_seeker : Nat} {y_cc_sheets : Nat} {a_rd : Nat → Nat} {a_sn : Nat → Nat} {a_ia : Nat → Nat} {f_ia : Nat → Option Nat} {a_im : Nat → Nat} {a_ir : Nat → Nat} {a_is : Nat → Nat} {s_cc : S2} {s_rd : S2} {s_sn : S2} {s_im : S2} {s_ir : S2} {s_is : S2} {p1 : Int32} {out : Int32 × S2 × S2 × S2} (hia : ixb p1 2 = true → f_ia p1.toNatClampNeg = some (a_im 0)) (hf : fX8_keep s_cc s_rd s_sn s_im s_ir s_is p1 = some out) : Ct l D t κ yX8_keep wsX8_keep (rmL 1) [.ref (a_cc 0), .int p1] ((wCC t a_cc y_cc_tape y_cc_teller (a_rd 0) y_cc_trial y_cc_drive y_cc_seeker (a_sn 0) (a_ia 0) y_cc_sheets s_cc) ++ (wRoad t a_rd s_rd) ++ (wSight t a_sn s_sn) ++ (wIA t a_ia f_ia) ++ (wImage t a_im (a_ir 0) (a_is 0) s_im) ++ (wRoad t a_ir s_ir) ++ (wSight t a_is s_is)) (some (.int out.1)) ((wCC t a_cc y_cc_tape y_cc_teller (a_rd 0) y_cc_trial y_cc_drive y_cc_seeker (a_sn 0) (a_ia 0) y_cc_sheets s_cc) ++ (wRoad t a_rd s_rd) ++ (wSight t a_sn s_sn) ++ (wIA t a_ia f_ia) ++ (wImage t a_im (a_ir 0) (a_is 0) out.2.1) ++ (wRoad t a_ir out.2.2.1) ++ (wSight t a_is out.2.2.2)) := by
  refine Ct.ofW (own := RX8) (cc := cX8_keep) (maxL := 4) (ret := (some .int)) (by decide) rfl rfl (Nat.le_of_ble_eq_true rfl) ?_
  intro p e s m below meth c A C hP hD ls hl
  have hS : va_S A s.heap s.heap [] := va_S.rf
  obtain ⟨hx, hb, hr, hml, hown, hts, hC0, hlk, hA⟩ := id C
  have hK := hC0.1
  have hl : lv_has ls 4 [(0, .ref (a_cc 0)), (1, .int p1)] := hl
  unfold fX8_keep at hf
  refine lv_iload_n hx hb dX8_keep_0 rfl (lv_at hl 1 rfl) ?_
  refine lv_iconst (v := 0) hx hb dX8_keep_1 (by decide) ?_
  refine lv_iconst (v := 1) hx hb dX8_keep_2 (by decide) ?_
  obtain ⟨v1, ev1, hf⟩ := bd_some hf
  refine gk_S C (As := [.int p1, .int (0 : Int32), .int (1 : Int32)]) (rest := []) (cX8_within_ok (l := l) (D := D) (t := t) (κ := κ) ev1) gX8_keep_X8_within rfl ⟨rfl, rfl⟩ hdX8_within ⟨Nat.le_of_ble_eq_true rfl, Nat.le_of_ble_eq_true rfl⟩ hP hD hS rfl hl.1 (Nat.le_of_ble_eq_true rfl) dX8_keep_3 (Nat.zero_le _) (Nat.zero_le _) (fun H locs hP hD hS => ?_)
  refine W.eq (g2 := F0 m 6 ls [.int v1]) rfl ?_
  refine lv_if_ne (tgt := 11) hx hb dX8_keep_6 (by decide) (fun c2 => ?_) (fun c2 => ?_)
  · rw [if_neg c2] at hf
    refine lv_aload_n hx hb dX8_keep_11 rfl (lv_at hl 0 rfl) ?_
    refine va_get (D := D) (ci := 8) (v := .ref (a_ia 0)) (C := RX8) (T := TX8) (N := 11) hx hb hts iwX8_keep_X8 hown hK hP 0 rfl rfl 7 (by decide) (hts _ lkX8_keep_f60) (fun _ h9 => h9) rfl dX8_keep_12 ?_
    refine lv_iload_n hx hb dX8_keep_15 rfl (lv_at hl 1 rfl) ?_
    obtain ⟨b3, hf⟩ := gd_some hf
    refine va_aldq hx hb hK hP 14 3 rfl rfl (ixb_in b3) dX8_keep_16 ?_
    refine W.eq (g2 := F0 m 17 ls [.ref (a_im 0)]) (by rw [hia b3]; rfl) ?_
    refine lv_astore_n (lv' := [(2, .ref (a_im 0)), (0, .ref (a_cc 0)), (1, .int p1)]) hx hb dX8_keep_17 rfl hl (by decide) rfl (fun ls hl => ?_)
    refine lv_aload_n hx hb dX8_keep_18 rfl (lv_at hl 0 rfl) ?_
    refine va_getN (D := D) (ci := 1) (v := .int (s_im 0 0)) (C := RX1) (T := TX1) (N := 3) hx hb hts iwX8_keep_X1 hown hK hP 15 rfl rfl 2 (by decide) (hC0.2.1.f 42 rfl) (fun _ h9 => h9) rfl dX8_keep_19 ?_
    refine lv_if_eq (tgt := 29) hx hb dX8_keep_22 (by decide) (fun c4 => ?_) (fun c4 => ?_)
    · rw [if_pos c4] at hf
      refine lv_iconst (v := 0) hx hb dX8_keep_29 (by decide) ?_
      exact wX8_keep_30 C hf _ _ _ hP hD hS (lv_sub hl [1, 0] rfl)
    · rw [if_neg c4] at hf
      refine lv_iconst (v := 1) hx hb dX8_keep_25 (by decide) ?_
      refine lv_goto (tgt := 30) hx hb dX8_keep_26 (by decide) ?_
      exact wX8_keep_30 C hf _ _ _ hP hD hS (lv_sub hl [1, 0] rfl)
  · rw [if_pos c2] at hf
    refine lv_iconst (v := -1) hx hb dX8_keep_9 (by decide) ?_
    obtain rfl := so_eq hf
    exact g_iret C hP hD hS dX8_keep_10
/-! CoachCourt.back -/
def fX8_back (s_cc : S2) (s_rd : S2) (s_dr : S2) (s_sn : S2) (s_im : S2) (s_ir : S2) (s_is : S2) (p1 : Int32) : Option (Int32 × S2 × S2 × S2) :=
  (fX8_within p1 (0 : Int32) (1 : Int32)).bind fun v1 =>
  if v1 = (0 : Int32) then
    (some ((-1 : Int32), s_rd, s_dr, s_sn))
  else
    (gd (ixb p1 2) <|
    if (s_im 0 0) = (0 : Int32) then
      (some ((-2 : Int32), s_rd, s_dr, s_sn))
    else
      ((fX2_copyFrom s_rd s_ir).bind fun v5 =>
      (fX5_copyFrom s_sn s_is).bind fun v6 =>
      (fX0_run s_dr v5).bind fun v7 =>
      (fX0_verdicts v7).bind fun v8 =>
      some (v8, v5, v7, v6)))
theorem hdX8_back : yX8_back.cls = RX8 ∧ yX8_back.cls ≠ "java/lang/invoke/MethodHandle" ∧ yX8_back.cls ≠ "java/lang/invoke/VarHandle" ∧ (parseMethodDescriptor yX8_back.desc).map (fun d => d.parameters.length) = some 1 := by decide +kernel
theorem iwX8_back_X8 : ∀ w ∈ wsX80, w ∈ wsX8_back := by decide +kernel
theorem lkX8_back_f60 : Cond.fieldLink RX8 60 "CoachCourt" "images" "[LCoachCourt$Image;" ∈ wsX8_back := by decide +kernel
theorem iwX8_back_X1 : ∀ w ∈ wsX10, w ∈ wsX8_back := by decide +kernel
theorem lkX8_back_f28 : Cond.fieldLink RX8 28 "CoachCourt" "road" "LCoachCourt$Road;" ∈ wsX8_back := by decide +kernel
theorem lkX8_back_f54 : Cond.fieldLink RX8 54 "CoachCourt" "seen" "LCoachCourt$Sightings;" ∈ wsX8_back := by decide +kernel
theorem lkX8_back_f38 : Cond.fieldLink RX8 38 "CoachCourt" "drive" "LCoachCourt$Drive;" ∈ wsX8_back := by decide +kernel
set_option maxHeartbeats 4000000 in
set_option maxRecDepth 100000 in
theorem cX8_back_ok {l : Launch} {D : va_G} {t : Nat → ClassId} {κ : Nat → Nat} {a_cc : Nat → Nat} {y_cc_tape : Nat} {y_cc_teller : Nat} {y_cc_trial : Nat} {y_cc_seeker : Nat} {y_cc_sheets : Nat} {a_rd : Nat → Nat} {a_dr : Nat → Nat} {a_sn : Nat → Nat} {a_ia : Nat → Nat} {f_ia : Nat → Option Nat} {a_im : Nat → Nat} {a_ir : Nat → Nat} {a_is : Nat → Nat} {s_cc : S2} {s_rd : S2} {s_dr : S2} {s_sn : S2} {s_im : S2} {s_ir : S2} {s_is : S2} {p1 : Int32} {out : Int32 × S2 × S2 × S2} (hia : ixb p1 2 = true → f_ia p1.toNatClampNeg = some (a_im 0)) (hf : fX8_back s_cc s_rd s_dr s_sn s_im s_ir s_is p1 = some out) : Ct l D t κ yX8_back wsX8_back (rmL 4) [.ref (a_cc 0), .int p1] ((wCC t a_cc y_cc_tape y_cc_teller (a_rd 0) y_cc_trial (a_dr 0) y_cc_seeker (a_sn 0) (a_ia 0) y_cc_sheets s_cc) ++ (wRoad t a_rd s_rd) ++ (wDrive t a_dr s_dr) ++ (wSight t a_sn s_sn) ++ (wIA t a_ia f_ia) ++ (wImage t a_im (a_ir 0) (a_is 0) s_im) ++ (wRoad t a_ir s_ir) ++ (wSight t a_is s_is)) (some (.int out.1)) ((wCC t a_cc y_cc_tape y_cc_teller (a_rd 0) y_cc_trial (a_dr 0) y_cc_seeker (a_sn 0) (a_ia 0) y_cc_sheets s_cc) ++ (wRoad t a_rd out.2.1) ++ (wDrive t a_dr out.2.2.1) ++ (wSight t a_sn out.2.2.2) ++ (wIA t a_ia f_ia) ++ (wImage t a_im (a_ir 0) (a_is 0) s_im) ++ (wRoad t a_ir s_ir) ++ (wSight t a_is s_is)) := by
  refine Ct.ofW (own := RX8) (cc := cX8_back) (maxL := 3) (ret := (some .int)) (by decide) rfl rfl (Nat.le_of_ble_eq_true rfl) ?_
  intro p e s m below meth c A C hP hD ls hl
  have hS : va_S A s.heap s.heap [] := va_S.rf
  obtain ⟨hx, hb, hr, hml, hown, hts, hC0, hlk, hA⟩ := id C
  have hK := hC0.1
  have hl : lv_has ls 3 [(0, .ref (a_cc 0)), (1, .int p1)] := hl
  unfold fX8_back at hf
  refine lv_iload_n hx hb dX8_back_0 rfl (lv_at hl 1 rfl) ?_
  refine lv_iconst (v := 0) hx hb dX8_back_1 (by decide) ?_
  refine lv_iconst (v := 1) hx hb dX8_back_2 (by decide) ?_
  obtain ⟨v1, ev1, hf⟩ := bd_some hf
  refine gk_S C (As := [.int p1, .int (0 : Int32), .int (1 : Int32)]) (rest := []) (cX8_within_ok (l := l) (D := D) (t := t) (κ := κ) ev1) gX8_back_X8_within rfl ⟨rfl, rfl⟩ hdX8_within ⟨Nat.le_of_ble_eq_true rfl, Nat.le_of_ble_eq_true rfl⟩ hP hD hS rfl hl.1 (Nat.le_of_ble_eq_true rfl) dX8_back_3 (Nat.zero_le _) (Nat.zero_le _) (fun H locs hP hD hS => ?_)
  refine W.eq (g2 := F0 m 6 ls [.int v1]) rfl ?_
  refine lv_if_ne (tgt := 11) hx hb dX8_back_6 (by decide) (fun c2 => ?_) (fun c2 => ?_)
  · rw [if_neg c2] at hf
    refine lv_aload_n hx hb dX8_back_11 rfl (lv_at hl 0 rfl) ?_
    refine va_get (D := D) (ci := 8) (v := .ref (a_ia 0)) (C := RX8) (T := TX8) (N := 11) hx hb hts iwX8_back_X8 hown hK hP 0 rfl rfl 7 (by decide) (hts _ lkX8_back_f60) (fun _ h9 => h9) rfl dX8_back_12 ?_
    refine lv_iload_n hx hb dX8_back_15 rfl (lv_at hl 1 rfl) ?_
    obtain ⟨b3, hf⟩ := gd_some hf
    refine va_aldq hx hb hK hP 20 3 rfl rfl (ixb_in b3) dX8_back_16 ?_
    refine W.eq (g2 := F0 m 17 ls [.ref (a_im 0)]) (by rw [hia b3]; rfl) ?_
    refine lv_astore_n (lv' := [(2, .ref (a_im 0)), (0, .ref (a_cc 0)), (1, .int p1)]) hx hb dX8_back_17 rfl hl (by decide) rfl (fun ls hl => ?_)
    refine lv_aload_n hx hb dX8_back_18 rfl (lv_at hl 0 rfl) ?_
    refine va_getN (D := D) (ci := 1) (v := .int (s_im 0 0)) (C := RX1) (T := TX1) (N := 3) hx hb hts iwX8_back_X1 hown hK hP 21 rfl rfl 2 (by decide) (hC0.2.1.f 42 rfl) (fun _ h9 => h9) rfl dX8_back_19 ?_
    refine lv_if_ne (tgt := 28) hx hb dX8_back_22 (by decide) (fun c4 => ?_) (fun c4 => ?_)
    · rw [if_neg c4] at hf
      refine lv_aload_n hx hb dX8_back_28 rfl (lv_at hl 1 rfl) ?_
      refine va_get (D := D) (ci := 8) (v := .ref (a_rd 0)) (C := RX8) (T := TX8) (N := 11) hx hb hts iwX8_back_X8 hown hK hP 0 rfl rfl 2 (by decide) (hts _ lkX8_back_f28) (fun _ h9 => h9) rfl dX8_back_29 ?_
      refine lv_aload_n hx hb dX8_back_32 rfl (lv_at hl 0 rfl) ?_
      refine va_getN (D := D) (ci := 1) (v := .ref (a_ir 0)) (C := RX1) (T := TX1) (N := 3) hx hb hts iwX8_back_X1 hown hK hP 21 rfl rfl 0 (by decide) (hC0.2.1.f 40 rfl) (fun _ h9 => h9) rfl dX8_back_33 ?_
      obtain ⟨v5, ev5, hf⟩ := bd_some hf
      refine gk_V C (As := [.ref (a_ir 0)]) (rest := []) (ci := 2) (q := (RX2, TX2, 12)) (q0 := 0) (wr := ((wCC t a_cc y_cc_tape y_cc_teller (a_rd 0) y_cc_trial (a_dr 0) y_cc_seeker (a_sn 0) (a_ia 0) y_cc_sheets s_cc) ++ (wDrive t a_dr s_dr) ++ (wSight t a_sn s_sn) ++ (wIA t a_ia f_ia) ++ (wImage t a_im (a_ir 0) (a_is 0) s_im) ++ (wSight t a_is s_is))) (wf := ((wCC t a_cc y_cc_tape y_cc_teller (a_rd 0) y_cc_trial (a_dr 0) y_cc_seeker (a_sn 0) (a_ia 0) y_cc_sheets s_cc) ++ (wRoad t a_rd v5) ++ (wDrive t a_dr s_dr) ++ (wSight t a_sn s_sn) ++ (wIA t a_ia f_ia) ++ (wImage t a_im (a_ir 0) (a_is 0) s_im) ++ (wRoad t a_ir s_ir) ++ (wSight t a_is s_is))) (cX2_copyFrom_ok (l := l) (D := D) (t := t) (κ := κ) (a_rd := a_rd) (a_ro := a_ir) ev5) gX8_back_X2_copyFrom rfl ⟨rfl, rfl⟩ hdX2_copyFrom ⟨Nat.le_of_ble_eq_true rfl, Nat.le_of_ble_eq_true rfl⟩ rfl rfl hP hD hS [2, 3, 4, 5, 6, 7, 8, 9, 10, 22, 23, 24, 25, 26, 27, 28, 29, 30] [0, 1, 11, 12, 13, 14, 15, 16, 17, 18, 19, 20, 21, 31, 32, 33] [0, 1, 16, 17, 18, 19, 20, 21, 22, 23, 24, 2, 3, 4, 5, 6, 7, 8, 9, 10, 11, 12, 25, 26, 27, 28, 29, 30, 31, 32, 33, 13, 14, 15] rfl rfl rfl rfl (by decide) rfl rfl rfl hl.1 (Nat.le_of_ble_eq_true rfl) dX8_back_36 (Nat.zero_le _) (Nat.zero_le _) (fun H locs hP hD hS => ?_)
      refine W.eq (g2 := F0 m 39 ls []) rfl ?_
      refine lv_aload_n hx hb dX8_back_39 rfl (lv_at hl 1 rfl) ?_
      refine va_get (D := D) (ci := 8) (v := .ref (a_sn 0)) (C := RX8) (T := TX8) (N := 11) hx hb hts iwX8_back_X8 hown hK hP 0 rfl rfl 6 (by decide) (hts _ lkX8_back_f54) (fun _ h9 => h9) rfl dX8_back_40 ?_
      refine lv_aload_n hx hb dX8_back_43 rfl (lv_at hl 0 rfl) ?_
      refine va_getN (D := D) (ci := 1) (v := .ref (a_is 0)) (C := RX1) (T := TX1) (N := 3) hx hb hts iwX8_back_X1 hown hK hP 21 rfl rfl 1 (by decide) (hC0.2.1.f 41 rfl) (fun _ h9 => h9) rfl dX8_back_44 ?_
      obtain ⟨v6, ev6, hf⟩ := bd_some hf
      refine gk_V C (As := [.ref (a_is 0)]) (rest := []) (ci := 5) (q := (RX5, TX5, 3)) (q0 := 0) (wr := ((wCC t a_cc y_cc_tape y_cc_teller (a_rd 0) y_cc_trial (a_dr 0) y_cc_seeker (a_sn 0) (a_ia 0) y_cc_sheets s_cc) ++ (wRoad t a_rd v5) ++ (wDrive t a_dr s_dr) ++ (wIA t a_ia f_ia) ++ (wImage t a_im (a_ir 0) (a_is 0) s_im) ++ (wRoad t a_ir s_ir))) (wf := ((wCC t a_cc y_cc_tape y_cc_teller (a_rd 0) y_cc_trial (a_dr 0) y_cc_seeker (a_sn 0) (a_ia 0) y_cc_sheets s_cc) ++ (wRoad t a_rd v5) ++ (wDrive t a_dr s_dr) ++ (wSight t a_sn v6) ++ (wIA t a_ia f_ia) ++ (wImage t a_im (a_ir 0) (a_is 0) s_im) ++ (wRoad t a_ir s_ir) ++ (wSight t a_is s_is))) (cX5_copyFrom_ok (l := l) (D := D) (t := t) (κ := κ) (a_sn := a_sn) (a_so := a_is) ev6) gX8_back_X5_copyFrom rfl ⟨rfl, rfl⟩ hdX5_copyFrom ⟨Nat.le_of_ble_eq_true rfl, Nat.le_of_ble_eq_true rfl⟩ rfl rfl hP hD hS [17, 18, 19, 31, 32, 33] [0, 1, 2, 3, 4, 5, 6, 7, 8, 9, 10, 11, 12, 13, 14, 15, 16, 20, 21, 22, 23, 24, 25, 26, 27, 28, 29, 30] [0, 1, 2, 3, 4, 5, 6, 7, 8, 9, 10, 11, 12, 13, 14, 15, 16, 28, 29, 30, 17, 18, 19, 20, 21, 22, 23, 24, 25, 26, 27, 31, 32, 33] rfl rfl rfl rfl (by decide) rfl rfl rfl hl.1 (Nat.le_of_ble_eq_true rfl) dX8_back_47 (Nat.zero_le _) (Nat.zero_le _) (fun H locs hP hD hS => ?_)
      refine W.eq (g2 := F0 m 50 ls []) rfl ?_
      refine lv_aload_n hx hb dX8_back_50 rfl (lv_at hl 1 rfl) ?_
      refine va_get (D := D) (ci := 8) (v := .ref (a_dr 0)) (C := RX8) (T := TX8) (N := 11) hx hb hts iwX8_back_X8 hown hK hP 0 rfl rfl 4 (by decide) (hts _ lkX8_back_f38) (fun _ h9 => h9) rfl dX8_back_51 ?_
      refine lv_aload_n hx hb dX8_back_54 rfl (lv_at hl 1 rfl) ?_
      refine va_get (D := D) (ci := 8) (v := .ref (a_rd 0)) (C := RX8) (T := TX8) (N := 11) hx hb hts iwX8_back_X8 hown hK hP 0 rfl rfl 2 (by decide) (hts _ lkX8_back_f28) (fun _ h9 => h9) rfl dX8_back_55 ?_
      obtain ⟨v7, ev7, hf⟩ := bd_some hf
      refine gk_V C (As := [.ref (a_rd 0)]) (rest := []) (ci := 0) (q := (RX0, TX0, 7)) (q0 := 0) (wr := ((wCC t a_cc y_cc_tape y_cc_teller (a_rd 0) y_cc_trial (a_dr 0) y_cc_seeker (a_sn 0) (a_ia 0) y_cc_sheets s_cc) ++ (wSight t a_sn v6) ++ (wIA t a_ia f_ia) ++ (wImage t a_im (a_ir 0) (a_is 0) s_im) ++ (wRoad t a_ir s_ir) ++ (wSight t a_is s_is))) (wf := ((wCC t a_cc y_cc_tape y_cc_teller (a_rd 0) y_cc_trial (a_dr 0) y_cc_seeker (a_sn 0) (a_ia 0) y_cc_sheets s_cc) ++ (wRoad t a_rd v5) ++ (wDrive t a_dr v7) ++ (wSight t a_sn v6) ++ (wIA t a_ia f_ia) ++ (wImage t a_im (a_ir 0) (a_is 0) s_im) ++ (wRoad t a_ir s_ir) ++ (wSight t a_is s_is))) (cX0_run_ok (l := l) (D := D) (t := t) (κ := κ) (a_dr := a_dr) (a_rd := a_rd) ev7) gX8_back_X0_run rfl ⟨rfl, rfl⟩ hdX0_run ⟨Nat.le_of_ble_eq_true rfl, Nat.le_of_ble_eq_true rfl⟩ rfl rfl hP hD hS [11, 12, 13, 14, 15, 16, 2, 3, 4, 5, 6, 7, 8, 9, 10] [0, 1, 17, 18, 19, 20, 21, 22, 23, 24, 25, 26, 27, 28, 29, 30, 31, 32, 33] [0, 1, 25, 26, 27, 28, 29, 30, 31, 32, 33, 19, 20, 21, 22, 23, 24, 2, 3, 4, 5, 6, 7, 8, 9, 10, 11, 12, 13, 14, 15, 16, 17, 18] rfl rfl rfl rfl (by decide) rfl rfl rfl hl.1 (Nat.le_of_ble_eq_true rfl) dX8_back_58 (Nat.zero_le _) (Nat.zero_le _) (fun H locs hP hD hS => ?_)
      refine W.eq (g2 := F0 m 61 ls []) rfl ?_
      refine lv_aload_n hx hb dX8_back_61 rfl (lv_at hl 1 rfl) ?_
      refine va_get (D := D) (ci := 8) (v := .ref (a_dr 0)) (C := RX8) (T := TX8) (N := 11) hx hb hts iwX8_back_X8 hown hK hP 0 rfl rfl 4 (by decide) (hts _ lkX8_back_f38) (fun _ h9 => h9) rfl dX8_back_62 ?_
      obtain ⟨v8, ev8, hf⟩ := bd_some hf
      refine gk_V C (As := []) (rest := []) (ci := 0) (q := (RX0, TX0, 7)) (q0 := 0) (wr := ((wCC t a_cc y_cc_tape y_cc_teller (a_rd 0) y_cc_trial (a_dr 0) y_cc_seeker (a_sn 0) (a_ia 0) y_cc_sheets s_cc) ++ (wRoad t a_rd v5) ++ (wSight t a_sn v6) ++ (wIA t a_ia f_ia) ++ (wImage t a_im (a_ir 0) (a_is 0) s_im) ++ (wRoad t a_ir s_ir) ++ (wSight t a_is s_is))) (wf := ((wCC t a_cc y_cc_tape y_cc_teller (a_rd 0) y_cc_trial (a_dr 0) y_cc_seeker (a_sn 0) (a_ia 0) y_cc_sheets s_cc) ++ (wRoad t a_rd v5) ++ (wDrive t a_dr v7) ++ (wSight t a_sn v6) ++ (wIA t a_ia f_ia) ++ (wImage t a_im (a_ir 0) (a_is 0) s_im) ++ (wRoad t a_ir s_ir) ++ (wSight t a_is s_is))) (cX0_verdicts_ok (l := l) (D := D) (t := t) (κ := κ) (a_dr := a_dr) ev8) gX8_back_X0_verdicts rfl ⟨rfl, rfl⟩ hdX0_verdicts ⟨Nat.le_of_ble_eq_true rfl, Nat.le_of_ble_eq_true rfl⟩ rfl rfl hP hD hS [11, 12, 13, 14, 15, 16] [0, 1, 2, 3, 4, 5, 6, 7, 8, 9, 10, 17, 18, 19, 20, 21, 22, 23, 24, 25, 26, 27, 28, 29, 30, 31, 32, 33] [0, 1, 2, 3, 4, 5, 6, 7, 8, 9, 10, 28, 29, 30, 31, 32, 33, 11, 12, 13, 14, 15, 16, 17, 18, 19, 20, 21, 22, 23, 24, 25, 26, 27] rfl rfl rfl rfl (by decide) rfl rfl rfl hl.1 (Nat.le_of_ble_eq_true rfl) dX8_back_65 (Nat.zero_le _) (Nat.zero_le _) (fun H locs hP hD hS => ?_)
      refine W.eq (g2 := F0 m 68 ls [.int v8]) rfl ?_
      obtain rfl := so_eq hf
      exact g_iret C hP hD hS dX8_back_68
    · rw [if_pos c4] at hf
      refine lv_bipush (v := -2) hx hb dX8_back_25 (by decide) ?_
      obtain rfl := so_eq hf
      exact g_iret C hP hD hS dX8_back_27
  · rw [if_pos c2] at hf
    refine lv_iconst (v := -1) hx hb dX8_back_9 (by decide) ?_
    obtain rfl := so_eq hf
    exact g_iret C hP hD hS dX8_back_10
/-! CoachCourt.sheet -/
def fX8_sheet (s_cc : S2) (s_sh : S2) (p1 : Int32) (p2 : Int32) (p3 : Int32) : Option (Int32 × S2) :=
  (fX8_within p1 (0 : Int32) (3 : Int32)).bind fun v1 =>
  if v1 = (0 : Int32) then
    (some ((-1 : Int32), s_sh))
  else
    ((fX8_within p2 (0 : Int32) (2 : Int32)).bind fun v3 =>
    if v3 = (0 : Int32) then
      (some ((-1 : Int32), s_sh))
    else
      (if p3 ≤ (40 : Int32) then
        (if (0 : Int32) ≤ p3 then
          (gd (ixb p1 4) <|
          (fX4_renew s_sh p2 p3).bind fun v8 =>
          some ((1 : Int32), v8))
        else
          (some ((-14 : Int32), s_sh)))
      else
        (some ((-1 : Int32), s_sh))))
theorem hdX8_sheet : yX8_sheet.cls = RX8 ∧ yX8_sheet.cls ≠ "java/lang/invoke/MethodHandle" ∧ yX8_sheet.cls ≠ "java/lang/invoke/VarHandle" ∧ (parseMethodDescriptor yX8_sheet.desc).map (fun d => d.parameters.length) = some 3 := by decide +kernel
theorem iwX8_sheet_X8 : ∀ w ∈ wsX80, w ∈ wsX8_sheet := by decide +kernel
theorem lkX8_sheet_f67 : Cond.fieldLink RX8 67 "CoachCourt" "sheets" "[LCoachCourt$Sheet;" ∈ wsX8_sheet := by decide +kernel
set_option maxHeartbeats 4000000 in
set_option maxRecDepth 100000 in
theorem cX8_sheet_ok {l : Launch} {D : va_G} {t : Nat → ClassId} {κ : Nat → Nat} {a_cc : Nat → Nat} {y_cc_tape : Nat} {y_cc_teller : Nat} {y_cc_road : Nat} {y_cc_trial : Nat} {y_cc_drive : Nat} {y_cc_seeker : Nat} {y_cc_seen : Nat} {y_cc_images : Nat} {a_ha : Nat → Nat} {f_ha : Nat → Option Nat} {a_sh : Nat → Nat} {s_cc : S2} {s_sh : S2} {p1 : Int32} {p2 : Int32} {p3 : Int32} {out : Int32 × S2} (hha : ixb p1 4 = true → f_ha p1.toNatClampNeg = some (a_sh 0)) (hf : fX8_sheet s_cc s_sh p1 p2 p3 = some out) : Ct l D t κ yX8_sheet wsX8_sheet (rmL 1) [.ref (a_cc 0), .int p1, .int p2, .int p3] ((wCC t a_cc y_cc_tape y_cc_teller y_cc_road y_cc_trial y_cc_drive y_cc_seeker y_cc_seen y_cc_images (a_ha 0) s_cc) ++ (wHA t a_ha f_ha) ++ (wSheet t a_sh s_sh)) (some (.int out.1)) ((wCC t a_cc y_cc_tape y_cc_teller y_cc_road y_cc_trial y_cc_drive y_cc_seeker y_cc_seen y_cc_images (a_ha 0) s_cc) ++ (wHA t a_ha f_ha) ++ (wSheet t a_sh out.2)) := by
  refine Ct.ofW (own := RX8) (cc := cX8_sheet) (maxL := 4) (ret := (some .int)) (by decide) rfl rfl (Nat.le_of_ble_eq_true rfl) ?_
  intro p e s m below meth c A C hP hD ls hl
  have hS : va_S A s.heap s.heap [] := va_S.rf
  obtain ⟨hx, hb, hr, hml, hown, hts, hC0, hlk, hA⟩ := id C
  have hK := hC0.1
  have hl : lv_has ls 4 [(0, .ref (a_cc 0)), (1, .int p1), (2, .int p2), (3, .int p3)] := hl
  unfold fX8_sheet at hf
  refine lv_iload_n hx hb dX8_sheet_0 rfl (lv_at hl 1 rfl) ?_
  refine lv_iconst (v := 0) hx hb dX8_sheet_1 (by decide) ?_
  refine lv_iconst (v := 3) hx hb dX8_sheet_2 (by decide) ?_
  obtain ⟨v1, ev1, hf⟩ := bd_some hf
  refine gk_S C (As := [.int p1, .int (0 : Int32), .int (3 : Int32)]) (rest := []) (cX8_within_ok (l := l) (D := D) (t := t) (κ := κ) ev1) gX8_sheet_X8_within rfl ⟨rfl, rfl⟩ hdX8_within ⟨Nat.le_of_ble_eq_true rfl, Nat.le_of_ble_eq_true rfl⟩ hP hD hS rfl hl.1 (Nat.le_of_ble_eq_true rfl) dX8_sheet_3 (Nat.zero_le _) (Nat.zero_le _) (fun H locs hP hD hS => ?_)
  refine W.eq (g2 := F0 m 6 ls [.int v1]) rfl ?_
  refine lv_if_eq (tgt := 24) hx hb dX8_sheet_6 (by decide) (fun c2 => ?_) (fun c2 => ?_)
  · rw [if_pos c2] at hf
    refine lv_iconst (v := -1) hx hb dX8_sheet_24 (by decide) ?_
    obtain rfl := so_eq hf
    exact g_iret C hP hD hS dX8_sheet_25
  · rw [if_neg c2] at hf
    refine lv_iload_n hx hb dX8_sheet_9 rfl (lv_at hl 2 rfl) ?_
    refine lv_iconst (v := 0) hx hb dX8_sheet_10 (by decide) ?_
    refine lv_iconst (v := 2) hx hb dX8_sheet_11 (by decide) ?_
    obtain ⟨v3, ev3, hf⟩ := bd_some hf
    refine gk_S C (As := [.int p2, .int (0 : Int32), .int (2 : Int32)]) (rest := []) (cX8_within_ok (l := l) (D := D) (t := t) (κ := κ) ev3) gX8_sheet_X8_within rfl ⟨rfl, rfl⟩ hdX8_within ⟨Nat.le_of_ble_eq_true rfl, Nat.le_of_ble_eq_true rfl⟩ hP hD hS rfl hl.1 (Nat.le_of_ble_eq_true rfl) dX8_sheet_12 (Nat.zero_le _) (Nat.zero_le _) (fun H locs hP hD hS => ?_)
    refine W.eq (g2 := F0 m 15 ls [.int v3]) rfl ?_
    refine lv_if_eq (tgt := 24) hx hb dX8_sheet_15 (by decide) (fun c4 => ?_) (fun c4 => ?_)
    · rw [if_pos c4] at hf
      refine lv_iconst (v := -1) hx hb dX8_sheet_24 (by decide) ?_
      obtain rfl := so_eq hf
      exact g_iret C hP hD hS dX8_sheet_25
    · rw [if_neg c4] at hf
      refine lv_iload_n hx hb dX8_sheet_18 rfl (lv_at hl 3 rfl) ?_
      refine lv_bipush (v := 40) hx hb dX8_sheet_19 (by decide) ?_
      refine lv_icmp_le (tgt := 26) hx hb dX8_sheet_21 (by decide) (fun c5 => ?_) (fun c5 => ?_)
      · rw [if_pos c5] at hf
        refine lv_iload_n hx hb dX8_sheet_26 rfl (lv_at hl 3 rfl) ?_
        refine lv_if_ge (tgt := 33) hx hb dX8_sheet_27 (by decide) (fun c6 => ?_) (fun c6 => ?_)
        · rw [if_pos c6] at hf
          refine lv_aload_n hx hb dX8_sheet_33 rfl (lv_at hl 0 rfl) ?_
          refine va_get (D := D) (ci := 8) (v := .ref (a_ha 0)) (C := RX8) (T := TX8) (N := 11) hx hb hts iwX8_sheet_X8 hown hK hP 0 rfl rfl 8 (by decide) (hts _ lkX8_sheet_f67) (fun _ h9 => h9) rfl dX8_sheet_34 ?_
          refine lv_iload_n hx hb dX8_sheet_37 rfl (lv_at hl 1 rfl) ?_
          obtain ⟨b7, hf⟩ := gd_some hf
          refine va_aldq hx hb hK hP 2 4 rfl rfl (ixb_in b7) dX8_sheet_38 ?_
          refine W.eq (g2 := F0 m 39 ls [.ref (a_sh 0)]) (by rw [hha b7]; rfl) ?_
          refine lv_iload_n hx hb dX8_sheet_39 rfl (lv_at hl 2 rfl) ?_
          refine lv_iload_n hx hb dX8_sheet_40 rfl (lv_at hl 3 rfl) ?_
          obtain ⟨v8, ev8, hf⟩ := bd_some hf
          refine gk_V C (As := [.int p2, .int p3]) (rest := []) (ci := 4) (q := (RX4, TX4, 4)) (q0 := 0) (wr := ((wCC t a_cc y_cc_tape y_cc_teller y_cc_road y_cc_trial y_cc_drive y_cc_seeker y_cc_seen y_cc_images (a_ha 0) s_cc) ++ (wHA t a_ha f_ha))) (wf := ((wCC t a_cc y_cc_tape y_cc_teller y_cc_road y_cc_trial y_cc_drive y_cc_seeker y_cc_seen y_cc_images (a_ha 0) s_cc) ++ (wHA t a_ha f_ha) ++ (wSheet t a_sh v8))) (cX4_renew_ok (l := l) (D := D) (t := t) (κ := κ) (a_sh := a_sh) ev8) gX8_sheet_X4_renew rfl ⟨rfl, rfl⟩ hdX4_renew ⟨Nat.le_of_ble_eq_true rfl, Nat.le_of_ble_eq_true rfl⟩ rfl rfl hP hD hS [3, 4] [0, 1, 2] [0, 1, 2, 3, 4] rfl rfl rfl rfl (by decide) rfl rfl rfl hl.1 (Nat.le_of_ble_eq_true rfl) dX8_sheet_41 (Nat.zero_le _) (Nat.zero_le _) (fun H locs hP hD hS => ?_)
          refine W.eq (g2 := F0 m 44 ls []) rfl ?_
          refine lv_iconst (v := 1) hx hb dX8_sheet_44 (by decide) ?_
          obtain rfl := so_eq hf
          exact g_iret C hP hD hS dX8_sheet_45
        · rw [if_neg c6] at hf
          refine lv_bipush (v := -14) hx hb dX8_sheet_30 (by decide) ?_
          obtain rfl := so_eq hf
          exact g_iret C hP hD hS dX8_sheet_32
      · rw [if_neg c5] at hf
        refine lv_iconst (v := -1) hx hb dX8_sheet_24 (by decide) ?_
        obtain rfl := so_eq hf
        exact g_iret C hP hD hS dX8_sheet_25
/-! CoachCourt.lay -/
def fX8_lay (s_cc : S2) (s_sh : S2) (p1 : Int32) (p2 : Int32) (p3 : Int32) : Option (Int32 × S2) :=
  (fX8_within p1 (0 : Int32) (3 : Int32)).bind fun v1 =>
  if v1 = (0 : Int32) then
    (some ((-1 : Int32), s_sh))
  else
    (gd (ixb p1 4) <|
    (fX4_refusal s_sh (s_sh 0 1) p2).bind fun v4 =>
    if v4 = (0 : Int32) then
      ((fX4_cutToLane s_sh p3).bind fun v6 =>
      gd (ixb p2 40) <|
      nm (sE s_sh 1 (Int32.toNatClampNeg p2) v6) fun s8 =>
      some ((1 : Int32), s8))
    else
      (some ((-10 : Int32) - v4, s_sh)))
theorem hdX8_lay : yX8_lay.cls = RX8 ∧ yX8_lay.cls ≠ "java/lang/invoke/MethodHandle" ∧ yX8_lay.cls ≠ "java/lang/invoke/VarHandle" ∧ (parseMethodDescriptor yX8_lay.desc).map (fun d => d.parameters.length) = some 3 := by decide +kernel
theorem iwX8_lay_X8 : ∀ w ∈ wsX80, w ∈ wsX8_lay := by decide +kernel
theorem lkX8_lay_f67 : Cond.fieldLink RX8 67 "CoachCourt" "sheets" "[LCoachCourt$Sheet;" ∈ wsX8_lay := by decide +kernel
theorem iwX8_lay_X4 : ∀ w ∈ wsX40, w ∈ wsX8_lay := by decide +kernel
set_option maxHeartbeats 4000000 in
set_option maxRecDepth 100000 in
theorem cX8_lay_ok {l : Launch} {D : va_G} {t : Nat → ClassId} {κ : Nat → Nat} {a_cc : Nat → Nat} {y_cc_tape : Nat} {y_cc_teller : Nat} {y_cc_road : Nat} {y_cc_trial : Nat} {y_cc_drive : Nat} {y_cc_seeker : Nat} {y_cc_seen : Nat} {y_cc_images : Nat} {a_ha : Nat → Nat} {f_ha : Nat → Option Nat} {a_sh : Nat → Nat} {s_cc : S2} {s_sh : S2} {p1 : Int32} {p2 : Int32} {p3 : Int32} {out : Int32 × S2} (hha : ixb p1 4 = true → f_ha p1.toNatClampNeg = some (a_sh 0)) (hf : fX8_lay s_cc s_sh p1 p2 p3 = some out) : Ct l D t κ yX8_lay wsX8_lay (rmL 1) [.ref (a_cc 0), .int p1, .int p2, .int p3] ((wCC t a_cc y_cc_tape y_cc_teller y_cc_road y_cc_trial y_cc_drive y_cc_seeker y_cc_seen y_cc_images (a_ha 0) s_cc) ++ (wHA t a_ha f_ha) ++ (wSheet t a_sh s_sh)) (some (.int out.1)) ((wCC t a_cc y_cc_tape y_cc_teller y_cc_road y_cc_trial y_cc_drive y_cc_seeker y_cc_seen y_cc_images (a_ha 0) s_cc) ++ (wHA t a_ha f_ha) ++ (wSheet t a_sh out.2)) := by
  refine Ct.ofW (own := RX8) (cc := cX8_lay) (maxL := 6) (ret := (some .int)) (by decide) rfl rfl (Nat.le_of_ble_eq_true rfl) ?_
  intro p e s m below meth c A C hP hD ls hl
  have hS : va_S A s.heap s.heap [] := va_S.rf
  obtain ⟨hx, hb, hr, hml, hown, hts, hC0, hlk, hA⟩ := id C
  have hK := hC0.1
  have hl : lv_has ls 6 [(0, .ref (a_cc 0)), (1, .int p1), (2, .int p2), (3, .int p3)] := hl
  unfold fX8_lay at hf
  refine lv_iload_n hx hb dX8_lay_0 rfl (lv_at hl 1 rfl) ?_
  refine lv_iconst (v := 0) hx hb dX8_lay_1 (by decide) ?_
  refine lv_iconst (v := 3) hx hb dX8_lay_2 (by decide) ?_
  obtain ⟨v1, ev1, hf⟩ := bd_some hf
  refine gk_S C (As := [.int p1, .int (0 : Int32), .int (3 : Int32)]) (rest := []) (cX8_within_ok (l := l) (D := D) (t := t) (κ := κ) ev1) gX8_lay_X8_within rfl ⟨rfl, rfl⟩ hdX8_within ⟨Nat.le_of_ble_eq_true rfl, Nat.le_of_ble_eq_true rfl⟩ hP hD hS rfl hl.1 (Nat.le_of_ble_eq_true rfl) dX8_lay_3 (Nat.zero_le _) (Nat.zero_le _) (fun H locs hP hD hS => ?_)
  refine W.eq (g2 := F0 m 6 ls [.int v1]) rfl ?_
  refine lv_if_ne (tgt := 11) hx hb dX8_lay_6 (by decide) (fun c2 => ?_) (fun c2 => ?_)
  · rw [if_neg c2] at hf
    refine lv_aload_n hx hb dX8_lay_11 rfl (lv_at hl 0 rfl) ?_
    refine va_get (D := D) (ci := 8) (v := .ref (a_ha 0)) (C := RX8) (T := TX8) (N := 11) hx hb hts iwX8_lay_X8 hown hK hP 0 rfl rfl 8 (by decide) (hts _ lkX8_lay_f67) (fun _ h9 => h9) rfl dX8_lay_12 ?_
    refine lv_iload_n hx hb dX8_lay_15 rfl (lv_at hl 1 rfl) ?_
    obtain ⟨b3, hf⟩ := gd_some hf
    refine va_aldq hx hb hK hP 2 4 rfl rfl (ixb_in b3) dX8_lay_16 ?_
    refine W.eq (g2 := F0 m 17 ls [.ref (a_sh 0)]) (by rw [hha b3]; rfl) ?_
    refine lv_astore (lv' := [(4, .ref (a_sh 0)), (0, .ref (a_cc 0)), (1, .int p1), (2, .int p2), (3, .int p3)]) hx hb dX8_lay_17 hl (by decide) rfl (fun ls hl => ?_)
    refine lv_aload hx hb dX8_lay_19 (lv_at hl 0 rfl) ?_
    refine lv_aload hx hb dX8_lay_21 (lv_at hl 0 rfl) ?_
    refine va_getN (D := D) (ci := 4) (v := .int (s_sh 0 1)) (C := RX4) (T := TX4) (N := 4) hx hb hts iwX8_lay_X4 hown hK hP 3 rfl rfl 2 (by decide) (hC0.2.1.f 45 rfl) (fun _ h9 => h9) rfl dX8_lay_23 ?_
    refine lv_iload_n hx hb dX8_lay_26 rfl (lv_at hl 3 rfl) ?_
    obtain ⟨v4, ev4, hf⟩ := bd_some hf
    refine gk_V C (As := [.int (s_sh 0 1), .int p2]) (rest := []) (ci := 4) (q := (RX4, TX4, 4)) (q0 := 0) (wr := ((wCC t a_cc y_cc_tape y_cc_teller y_cc_road y_cc_trial y_cc_drive y_cc_seeker y_cc_seen y_cc_images (a_ha 0) s_cc) ++ (wHA t a_ha f_ha))) (wf := ((wCC t a_cc y_cc_tape y_cc_teller y_cc_road y_cc_trial y_cc_drive y_cc_seeker y_cc_seen y_cc_images (a_ha 0) s_cc) ++ (wHA t a_ha f_ha) ++ (wSheet t a_sh s_sh))) (cX4_refusal_ok (l := l) (D := D) (t := t) (κ := κ) (a_sh := a_sh) ev4) gX8_lay_X4_refusal rfl ⟨rfl, rfl⟩ hdX4_refusal ⟨Nat.le_of_ble_eq_true rfl, Nat.le_of_ble_eq_true rfl⟩ rfl rfl hP hD hS [3, 4] [0, 1, 2] [0, 1, 2, 3, 4] rfl rfl rfl rfl (by decide) rfl rfl rfl hl.1 (Nat.le_of_ble_eq_true rfl) dX8_lay_27 (Nat.zero_le _) (Nat.zero_le _) (fun H locs hP hD hS => ?_)
    refine W.eq (g2 := F0 m 30 ls [.int v4]) rfl ?_
    refine lv_istore (lv' := [(5, .int v4), (4, .ref (a_sh 0)), (0, .ref (a_cc 0)), (1, .int p1), (2, .int p2), (3, .int p3)]) hx hb dX8_lay_30 hl (by decide) rfl (fun ls hl => ?_)
    refine lv_iload hx hb dX8_lay_32 (lv_at hl 0 rfl) ?_
    refine lv_if_eq (tgt := 43) hx hb dX8_lay_34 (by decide) (fun c5 => ?_) (fun c5 => ?_)
    · rw [if_pos c5] at hf
      refine lv_aload hx hb dX8_lay_43 (lv_at hl 1 rfl) ?_
      refine va_getN (D := D) (ci := 4) (v := .ref (a_sh 1)) (C := RX4) (T := TX4) (N := 4) hx hb hts iwX8_lay_X4 hown hK hP 3 rfl rfl 0 (by decide) (hC0.2.1.f 43 rfl) (fun _ h9 => h9) rfl dX8_lay_45 ?_
      refine lv_iload_n hx hb dX8_lay_48 rfl (lv_at hl 4 rfl) ?_
      refine lv_aload hx hb dX8_lay_49 (lv_at hl 1 rfl) ?_
      refine lv_iload_n hx hb dX8_lay_51 rfl (lv_at hl 5 rfl) ?_
      obtain ⟨v6, ev6, hf⟩ := bd_some hf
      refine gk_V C (As := [.int p3]) (rest := [.int p2, .ref (a_sh 1)]) (ci := 4) (q := (RX4, TX4, 4)) (q0 := 0) (wr := ((wCC t a_cc y_cc_tape y_cc_teller y_cc_road y_cc_trial y_cc_drive y_cc_seeker y_cc_seen y_cc_images (a_ha 0) s_cc) ++ (wHA t a_ha f_ha))) (wf := ((wCC t a_cc y_cc_tape y_cc_teller y_cc_road y_cc_trial y_cc_drive y_cc_seeker y_cc_seen y_cc_images (a_ha 0) s_cc) ++ (wHA t a_ha f_ha) ++ (wSheet t a_sh s_sh))) (cX4_cutToLane_ok (l := l) (D := D) (t := t) (κ := κ) (a_sh := a_sh) ev6) gX8_lay_X4_cutToLane rfl ⟨rfl, rfl⟩ hdX4_cutToLane ⟨Nat.le_of_ble_eq_true rfl, Nat.le_of_ble_eq_true rfl⟩ rfl rfl hP hD hS [3, 4] [0, 1, 2] [0, 1, 2, 3, 4] rfl rfl rfl rfl (by decide) rfl rfl rfl hl.1 (Nat.le_of_ble_eq_true rfl) dX8_lay_52 (Nat.zero_le _) (Nat.zero_le _) (fun H locs hP hD hS => ?_)
      refine W.eq (g2 := F0 m 55 ls [.int v6, .int p2, .ref (a_sh 1)]) rfl ?_
      obtain ⟨b7, hf⟩ := gd_some hf
      obtain ⟨s8, hs8, hf⟩ := nm_ex hf
      refine va_iast hx hb hK hP hD hS 4 0 rfl rfl (ixb_in b7) dX8_lay_55 (fun H locs hP hD hS => ?_)
      have hP : va_P D vwCl ((wCC t a_cc y_cc_tape y_cc_teller y_cc_road y_cc_trial y_cc_drive y_cc_seeker y_cc_seen y_cc_images (a_ha 0) s_cc) ++ (wHA t a_ha f_ha) ++ (wSheet t a_sh s8)) H := by rw [hs8]; exact hP
      have hD : va_D A ((wCC t a_cc y_cc_tape y_cc_teller y_cc_road y_cc_trial y_cc_drive y_cc_seeker y_cc_seen y_cc_images (a_ha 0) s_cc) ++ (wHA t a_ha f_ha) ++ (wSheet t a_sh s8)) := by rw [hs8]; exact hD
      refine lv_iconst (v := 1) hx hb dX8_lay_56 (by decide) ?_
      obtain rfl := so_eq hf
      exact g_iret C hP hD hS dX8_lay_57
    · rw [if_neg c5] at hf
      refine lv_bipush (v := -10) hx hb dX8_lay_37 (by decide) ?_
      refine lv_iload hx hb dX8_lay_39 (lv_at hl 0 rfl) ?_
      refine lv_isub hx hb dX8_lay_41 ?_
      obtain rfl := so_eq hf
      exact g_iret C hP hD hS dX8_lay_42
  · rw [if_pos c2] at hf
    refine lv_iconst (v := -1) hx hb dX8_lay_9 (by decide) ?_
    obtain rfl := so_eq hf
    exact g_iret C hP hD hS dX8_lay_10
/-! CoachCourt.read -/
def fX8_read_b56 (s_cc : S2) (s_rd : S2) (s_tr : S2) (s_sh : S2) (x2 : Int32) (x3 : Int32) (x4 : Int32) (x6 : Int32) (x7 : Int32) : Option ((Int32 × Int32 × S2 × S2 × S2) ⊕ ((Int32 × Int32 × S2 × S2 × S2) ⊕ (Int32 × S2 × S2 × S2))) :=
  if x4 ≤ x6 then
    (some (.inr (.inl (x6, x7, s_cc, s_rd, s_tr))))
  else
    (if x7 = (0 : Int32) then
      (nm (x3 + ((2 : Int32) * x6)) fun y11 =>
      (fX4_refusalOfPair s_sh x2 y11).bind fun v12 =>
      if v12 = (0 : Int32) then
        (gd (ixb y11 40) <|
        nm (s_sh 1 (Int32.toNatClampNeg y11)) fun y15 =>
        gd (ixb (y11 + (1 : Int32)) 40) <|
        nm (s_sh 1 (Int32.toNatClampNeg (y11 + (1 : Int32)))) fun y17 =>
        (fX2_hasParty s_tr y15).bind fun v18 =>
        if v18 = (0 : Int32) then
          (some (.inr (.inr ((-20 : Int32) - x6, s_cc, s_rd, s_tr))))
        else
          ((fX2_hasMile s_tr y17).bind fun v20 =>
          if v20 = (0 : Int32) then
            (some (.inr (.inr ((-20 : Int32) - x6, s_cc, s_rd, s_tr))))
          else
            (gd (ixb y15 4) <|
            nm (sE s_tr 8 (Int32.toNatClampNeg y15) y17) fun s23 =>
            nm (x6 + (1 : Int32)) fun y24 =>
            some (.inl (y24, v12, s_cc, s_rd, s23)))))
      else
        (some (.inl (x6, v12, s_cc, s_rd, s_tr))))
    else
      (some (.inr (.inl (x6, x7, s_cc, s_rd, s_tr)))))
def fX8_read_161 (s_cc : S2) (s_rd : S2) (s_tr : S2) (s_sh : S2) (x6 : Int32) (x7 : Int32) : Option (Int32 × S2 × S2 × S2) :=
  (fX2_copyFrom s_rd s_tr).bind fun v27 =>
  nm (sE s_cc 0 0 x7) fun s28 =>
  some (x6, s28, v27, s_tr)
def fX8_read (s_cc : S2) (s_rd : S2) (s_tr : S2) (s_sh : S2) (p1 : Int32) (p2 : Int32) (p3 : Int32) (p4 : Int32) : Option (Int32 × S2 × S2 × S2) :=
  (fX8_within p1 (0 : Int32) (3 : Int32)).bind fun v1 =>
  if v1 = (0 : Int32) then
    (some ((-1 : Int32), s_cc, s_rd, s_tr))
  else
    ((fX8_within p2 (0 : Int32) (2 : Int32)).bind fun v3 =>
    if v3 = (0 : Int32) then
      (some ((-1 : Int32), s_cc, s_rd, s_tr))
    else
      ((fX8_within p4 (0 : Int32) (20 : Int32)).bind fun v5 =>
      if v5 = (0 : Int32) then
        (some ((-1 : Int32), s_cc, s_rd, s_tr))
      else
        (gd (ixb p1 4) <|
        (fX2_copyFrom s_tr s_rd).bind fun v8 =>
        (wh (fun (c : Int32 × Int32 × S2 × S2 × S2) => fX8_read_b56 c.2.2.1 c.2.2.2.1 c.2.2.2.2 s_sh p2 p3 p4 c.1 c.2.1) 5000 ((0 : Int32), (0 : Int32), s_cc, s_rd, v8)).bind fun x25 =>
        Sum.elim (fun q26 =>
          fX8_read_161 q26.2.2.1 q26.2.2.2.1 q26.2.2.2.2 s_sh q26.1 q26.2.1) (fun r29 => some r29) x25)))
theorem hdX8_read : yX8_read.cls = RX8 ∧ yX8_read.cls ≠ "java/lang/invoke/MethodHandle" ∧ yX8_read.cls ≠ "java/lang/invoke/VarHandle" ∧ (parseMethodDescriptor yX8_read.desc).map (fun d => d.parameters.length) = some 4 := by decide +kernel
theorem iwX8_read_X8 : ∀ w ∈ wsX80, w ∈ wsX8_read := by decide +kernel
theorem lkX8_read_f67 : Cond.fieldLink RX8 67 "CoachCourt" "sheets" "[LCoachCourt$Sheet;" ∈ wsX8_read := by decide +kernel
theorem lkX8_read_f32 : Cond.fieldLink RX8 32 "CoachCourt" "trial" "LCoachCourt$Road;" ∈ wsX8_read := by decide +kernel
theorem lkX8_read_f28 : Cond.fieldLink RX8 28 "CoachCourt" "road" "LCoachCourt$Road;" ∈ wsX8_read := by decide +kernel
theorem iwX8_read_X4 : ∀ w ∈ wsX40, w ∈ wsX8_read := by decide +kernel
theorem iwX8_read_X2 : ∀ w ∈ wsX20, w ∈ wsX8_read := by decide +kernel
theorem lkX8_read_f286 : Cond.fieldLink RX8 286 "CoachCourt" "latestTorn" "I" ∈ wsX8_read := by decide +kernel
set_option maxHeartbeats 4000000 in
set_option maxRecDepth 100000 in
theorem wX8_read_l56 {p : Program} {l : Launch} {e : Env} {s : State} {m : MethodId} {args : Array Value} {below : List Frame} {meth : Method} {c : Code} {D : va_G} {t : Nat → ClassId} {κ : Nat → Nat} {A : Nat → Prop} {a_cc : Nat → Nat} {y_cc_tape : Nat} {y_cc_teller : Nat} {y_cc_drive : Nat} {y_cc_seeker : Nat} {y_cc_seen : Nat} {y_cc_images : Nat} {a_rd : Nat → Nat} {a_tr : Nat → Nat} {a_ha : Nat → Nat} {f_ha : Nat → Option Nat} {a_sh : Nat → Nat} {s_sh : S2} {x2 : Int32} {x3 : Int32} {x4 : Int32} {rv : Option Value} {w1 : va_W} (C : Cxt p s m args meth c cX8_read 11 RX8 wsX8_read (some .int) D t κ A) : ∀ (n : Nat) (x6 : Int32) (x7 : Int32) (s_cc : S2) (s_rd : S2) (s_tr : S2) (x : (Int32 × Int32 × S2 × S2 × S2) ⊕ (Int32 × S2 × S2 × S2)), wh (fun (c : Int32 × Int32 × S2 × S2 × S2) => fX8_read_b56 c.2.2.1 c.2.2.2.1 c.2.2.2.2 s_sh x2 x3 x4 c.1 c.2.1) n (x6, x7, s_cc, s_rd, s_tr) = some x → (∀ (z : Int32 × Int32 × S2 × S2 × S2), x = .inl z → ∀ (H : Heap) (locs : List Loc) (ls : Array Slot), va_P D vwCl ((wCC t a_cc y_cc_tape y_cc_teller (a_rd 0) (a_tr 0) y_cc_drive y_cc_seeker y_cc_seen y_cc_images (a_ha 0) z.2.2.1) ++ (wRoad t a_rd z.2.2.2.1) ++ (wRoad t a_tr z.2.2.2.2) ++ (wHA t a_ha f_ha) ++ (wSheet t a_sh s_sh)) H → va_D A ((wCC t a_cc y_cc_tape y_cc_teller (a_rd 0) (a_tr 0) y_cc_drive y_cc_seeker y_cc_seen y_cc_images (a_ha 0) z.2.2.1) ++ (wRoad t a_rd z.2.2.2.1) ++ (wRoad t a_tr z.2.2.2.2) ++ (wHA t a_ha f_ha) ++ (wSheet t a_sh s_sh)) → va_S A s.heap H locs → lv_has ls 11 [(0, .ref (a_cc 0)), (6, .int z.1), (7, .int z.2.1)] → W p l e (rmL 2) s m args below meth c H locs 0 0 (MQ below (gQ D rv w1 A) args s 0 0 A) (F0 m 161 ls [])) → (∀ (r : Int32 × S2 × S2 × S2), x = .inr r → rv = (some (.int r.1)) ∧ w1 = ((wCC t a_cc y_cc_tape y_cc_teller (a_rd 0) (a_tr 0) y_cc_drive y_cc_seeker y_cc_seen y_cc_images (a_ha 0) r.2.1) ++ (wRoad t a_rd r.2.2.1) ++ (wRoad t a_tr r.2.2.2) ++ (wHA t a_ha f_ha) ++ (wSheet t a_sh s_sh))) → ∀ (H : Heap) (locs : List Loc) (ls : Array Slot), va_P D vwCl ((wCC t a_cc y_cc_tape y_cc_teller (a_rd 0) (a_tr 0) y_cc_drive y_cc_seeker y_cc_seen y_cc_images (a_ha 0) s_cc) ++ (wRoad t a_rd s_rd) ++ (wRoad t a_tr s_tr) ++ (wHA t a_ha f_ha) ++ (wSheet t a_sh s_sh)) H → va_D A ((wCC t a_cc y_cc_tape y_cc_teller (a_rd 0) (a_tr 0) y_cc_drive y_cc_seeker y_cc_seen y_cc_images (a_ha 0) s_cc) ++ (wRoad t a_rd s_rd) ++ (wRoad t a_tr s_tr) ++ (wHA t a_ha f_ha) ++ (wSheet t a_sh s_sh)) → va_S A s.heap H locs → lv_has ls 11 [(0, .ref (a_cc 0)), (2, .int x2), (3, .int x3), (4, .int x4), (5, .ref (a_sh 0)), (6, .int x6), (7, .int x7)] → W p l e (rmL 2) s m args below meth c H locs 0 0 (MQ below (gQ D rv w1 A) args s 0 0 A) (F0 m 56 ls []) := by
  obtain ⟨hx, hb, hr, hml, hown, hts, hC0, hlk, hA⟩ := id C
  have hK := hC0.1
  intro n
  induction n with
  | zero =>
    intro x6 x7 s_cc s_rd s_tr x h
    exact (wh_0 h).elim
  | succ n ih =>
    intro x6 x7 s_cc s_rd s_tr x h HX HR H locs ls hP hD hS hl
    obtain ⟨v, hf, hB, hX⟩ := wh_step h
    have hf : fX8_read_b56 s_cc s_rd s_tr s_sh x2 x3 x4 x6 x7 = some v := hf
    have HB : ∀ (z : Int32 × Int32 × S2 × S2 × S2), v = .inl z → ∀ (H : Heap) (locs : List Loc) (ls : Array Slot), va_P D vwCl ((wCC t a_cc y_cc_tape y_cc_teller (a_rd 0) (a_tr 0) y_cc_drive y_cc_seeker y_cc_seen y_cc_images (a_ha 0) z.2.2.1) ++ (wRoad t a_rd z.2.2.2.1) ++ (wRoad t a_tr z.2.2.2.2) ++ (wHA t a_ha f_ha) ++ (wSheet t a_sh s_sh)) H → va_D A ((wCC t a_cc y_cc_tape y_cc_teller (a_rd 0) (a_tr 0) y_cc_drive y_cc_seeker y_cc_seen y_cc_images (a_ha 0) z.2.2.1) ++ (wRoad t a_rd z.2.2.2.1) ++ (wRoad t a_tr z.2.2.2.2) ++ (wHA t a_ha f_ha) ++ (wSheet t a_sh s_sh)) → va_S A s.heap H locs → lv_has ls 11 [(0, .ref (a_cc 0)), (2, .int x2), (3, .int x3), (4, .int x4), (5, .ref (a_sh 0)), (6, .int z.1), (7, .int z.2.1)] → W p l e (rmL 2) s m args below meth c H locs 0 0 (MQ below (gQ D rv w1 A) args s 0 0 A) (F0 m 56 ls []) := fun z hz H locs ls hP hD hS hl => ih z.1 z.2.1 z.2.2.1 z.2.2.2.1 z.2.2.2.2 x (hB z hz) HX HR H locs ls hP hD hS hl
    have HX : ∀ (z : Int32 × Int32 × S2 × S2 × S2), v = .inr (.inl z) → ∀ (H : Heap) (locs : List Loc) (ls : Array Slot), va_P D vwCl ((wCC t a_cc y_cc_tape y_cc_teller (a_rd 0) (a_tr 0) y_cc_drive y_cc_seeker y_cc_seen y_cc_images (a_ha 0) z.2.2.1) ++ (wRoad t a_rd z.2.2.2.1) ++ (wRoad t a_tr z.2.2.2.2) ++ (wHA t a_ha f_ha) ++ (wSheet t a_sh s_sh)) H → va_D A ((wCC t a_cc y_cc_tape y_cc_teller (a_rd 0) (a_tr 0) y_cc_drive y_cc_seeker y_cc_seen y_cc_images (a_ha 0) z.2.2.1) ++ (wRoad t a_rd z.2.2.2.1) ++ (wRoad t a_tr z.2.2.2.2) ++ (wHA t a_ha f_ha) ++ (wSheet t a_sh s_sh)) → va_S A s.heap H locs → lv_has ls 11 [(0, .ref (a_cc 0)), (6, .int z.1), (7, .int z.2.1)] → W p l e (rmL 2) s m args below meth c H locs 0 0 (MQ below (gQ D rv w1 A) args s 0 0 A) (F0 m 161 ls []) := fun z hz => HX z (hX _ hz).symm
    have HR : ∀ (r : Int32 × S2 × S2 × S2), v = .inr (.inr r) → rv = (some (.int r.1)) ∧ w1 = ((wCC t a_cc y_cc_tape y_cc_teller (a_rd 0) (a_tr 0) y_cc_drive y_cc_seeker y_cc_seen y_cc_images (a_ha 0) r.2.1) ++ (wRoad t a_rd r.2.2.1) ++ (wRoad t a_tr r.2.2.2) ++ (wHA t a_ha f_ha) ++ (wSheet t a_sh s_sh)) := fun r hz => HR r (hX _ hz).symm
    unfold fX8_read_b56 at hf
    refine lv_iload hx hb dX8_read_56 (lv_at hl 5 rfl) ?_
    refine lv_iload hx hb dX8_read_58 (lv_at hl 3 rfl) ?_
    refine lv_icmp_ge (tgt := 161) hx hb dX8_read_60 (by decide) (fun c9 => ?_) (fun c9 => ?_)
    · rw [if_pos c9] at hf
      obtain rfl := so_eq hf
      exact HX _ rfl _ _ _ hP hD hS (lv_sub hl [0, 5, 6] rfl)
    · rw [if_neg c9] at hf
      refine lv_iload hx hb dX8_read_63 (lv_at hl 6 rfl) ?_
      refine lv_if_ne (tgt := 161) hx hb dX8_read_65 (by decide) (fun c10 => ?_) (fun c10 => ?_)
      · rw [if_neg c10] at hf
        obtain rfl := so_eq hf
        exact HX _ rfl _ _ _ hP hD hS (lv_sub hl [0, 5, 6] rfl)
      · rw [if_pos c10] at hf
        refine lv_iload_n hx hb dX8_read_68 rfl (lv_at hl 2 rfl) ?_
        refine lv_iconst (v := 2) hx hb dX8_read_69 (by decide) ?_
        refine lv_iload hx hb dX8_read_70 (lv_at hl 5 rfl) ?_
        refine lv_imul hx hb dX8_read_72 ?_
        refine lv_iadd hx hb dX8_read_73 ?_
        obtain ⟨y11, hy11, hf⟩ := nm_ex hf
        refine W.eq (g2 := F0 m 74 ls [.int y11]) (by rw [hy11]) ?_
        refine lv_istore (lv' := [(8, .int y11), (0, .ref (a_cc 0)), (2, .int x2), (3, .int x3), (4, .int x4), (5, .ref (a_sh 0)), (6, .int x6), (7, .int x7)]) hx hb dX8_read_74 hl (by decide) rfl (fun ls hl => ?_)
        refine lv_aload hx hb dX8_read_76 (lv_at hl 5 rfl) ?_
        refine lv_iload_n hx hb dX8_read_78 rfl (lv_at hl 2 rfl) ?_
        refine lv_iload hx hb dX8_read_79 (lv_at hl 0 rfl) ?_
        obtain ⟨v12, ev12, hf⟩ := bd_some hf
        refine gk_V C (As := [.int x2, .int y11]) (rest := []) (ci := 4) (q := (RX4, TX4, 4)) (q0 := 0) (wr := ((wCC t a_cc y_cc_tape y_cc_teller (a_rd 0) (a_tr 0) y_cc_drive y_cc_seeker y_cc_seen y_cc_images (a_ha 0) s_cc) ++ (wRoad t a_rd s_rd) ++ (wRoad t a_tr s_tr) ++ (wHA t a_ha f_ha))) (wf := ((wCC t a_cc y_cc_tape y_cc_teller (a_rd 0) (a_tr 0) y_cc_drive y_cc_seeker y_cc_seen y_cc_images (a_ha 0) s_cc) ++ (wRoad t a_rd s_rd) ++ (wRoad t a_tr s_tr) ++ (wHA t a_ha f_ha) ++ (wSheet t a_sh s_sh))) (cX4_refusalOfPair_ok (l := l) (D := D) (t := t) (κ := κ) (a_sh := a_sh) ev12) gX8_read_X4_refusalOfPair rfl ⟨rfl, rfl⟩ hdX4_refusalOfPair ⟨Nat.le_of_ble_eq_true rfl, Nat.le_of_ble_eq_true rfl⟩ rfl rfl hP hD hS [21, 22] [0, 1, 2, 3, 4, 5, 6, 7, 8, 9, 10, 11, 12, 13, 14, 15, 16, 17, 18, 19, 20] [0, 1, 2, 3, 4, 5, 6, 7, 8, 9, 10, 11, 12, 13, 14, 15, 16, 17, 18, 19, 20, 21, 22] rfl rfl rfl rfl (by decide) rfl rfl rfl hl.1 (Nat.le_of_ble_eq_true rfl) dX8_read_81 (Nat.zero_le _) (Nat.zero_le _) (fun H locs hP hD hS => ?_)
        refine W.eq (g2 := F0 m 84 ls [.int v12]) rfl ?_
        refine lv_istore (lv' := [(7, .int v12), (8, .int y11), (0, .ref (a_cc 0)), (2, .int x2), (3, .int x3), (4, .int x4), (5, .ref (a_sh 0)), (6, .int x6)]) hx hb dX8_read_84 hl (by decide) rfl (fun ls hl => ?_)
        refine lv_iload hx hb dX8_read_86 (lv_at hl 0 rfl) ?_
        refine lv_if_ne (tgt := 158) hx hb dX8_read_88 (by decide) (fun c13 => ?_) (fun c13 => ?_)
        · rw [if_neg c13] at hf
          refine lv_goto (tgt := 56) hx hb dX8_read_158 (by decide) ?_
          obtain rfl := so_eq hf
          exact HB _ rfl _ _ _ hP hD hS (lv_sub hl [2, 3, 4, 5, 6, 7, 0] rfl)
        · rw [if_pos c13] at hf
          refine lv_aload hx hb dX8_read_91 (lv_at hl 6 rfl) ?_
          refine va_getN (D := D) (ci := 4) (v := .ref (a_sh 1)) (C := RX4) (T := TX4) (N := 4) hx hb hts iwX8_read_X4 hown hK hP 21 rfl rfl 0 (by decide) (hC0.2.1.f 43 rfl) (fun _ h9 => h9) rfl dX8_read_93 ?_
          refine lv_iload hx hb dX8_read_96 (lv_at hl 1 rfl) ?_
          obtain ⟨b14, hf⟩ := gd_some hf
          refine va_iald hx hb hK hP 22 0 rfl rfl (ixb_in b14) dX8_read_98 ?_
          obtain ⟨y15, hy15, hf⟩ := nm_ex hf
          refine W.eq (g2 := F0 m 99 ls [.int y15]) (by rw [hy15]) ?_
          refine lv_istore (lv' := [(9, .int y15), (7, .int v12), (8, .int y11), (0, .ref (a_cc 0)), (2, .int x2), (3, .int x3), (4, .int x4), (5, .ref (a_sh 0)), (6, .int x6)]) hx hb dX8_read_99 hl (by decide) rfl (fun ls hl => ?_)
          refine lv_aload hx hb dX8_read_101 (lv_at hl 7 rfl) ?_
          refine va_getN (D := D) (ci := 4) (v := .ref (a_sh 1)) (C := RX4) (T := TX4) (N := 4) hx hb hts iwX8_read_X4 hown hK hP 21 rfl rfl 0 (by decide) (hC0.2.1.f 43 rfl) (fun _ h9 => h9) rfl dX8_read_103 ?_
          refine lv_iload hx hb dX8_read_106 (lv_at hl 2 rfl) ?_
          refine lv_iconst (v := 1) hx hb dX8_read_108 (by decide) ?_
          refine lv_iadd hx hb dX8_read_109 ?_
          obtain ⟨b16, hf⟩ := gd_some hf
          refine va_iald hx hb hK hP 22 0 rfl rfl (ixb_in b16) dX8_read_110 ?_
          obtain ⟨y17, hy17, hf⟩ := nm_ex hf
          refine W.eq (g2 := F0 m 111 ls [.int y17]) (by rw [hy17]) ?_
          refine lv_istore (lv' := [(10, .int y17), (9, .int y15), (7, .int v12), (8, .int y11), (0, .ref (a_cc 0)), (2, .int x2), (3, .int x3), (4, .int x4), (5, .ref (a_sh 0)), (6, .int x6)]) hx hb dX8_read_111 hl (by decide) rfl (fun ls hl => ?_)
          refine lv_aload_n hx hb dX8_read_113 rfl (lv_at hl 4 rfl) ?_
          refine va_get (D := D) (ci := 8) (v := .ref (a_tr 0)) (C := RX8) (T := TX8) (N := 11) hx hb hts iwX8_read_X8 hown hK hP 0 rfl rfl 3 (by decide) (hts _ lkX8_read_f32) (fun _ h9 => h9) rfl dX8_read_114 ?_
          refine lv_iload hx hb dX8_read_117 (lv_at hl 1 rfl) ?_
          obtain ⟨v18, ev18, hf⟩ := bd_some hf
          refine gk_V C (As := [.int y15]) (rest := []) (ci := 2) (q := (RX2, TX2, 12)) (q0 := 0) (wr := ((wCC t a_cc y_cc_tape y_cc_teller (a_rd 0) (a_tr 0) y_cc_drive y_cc_seeker y_cc_seen y_cc_images (a_ha 0) s_cc) ++ (wRoad t a_rd s_rd) ++ (wHA t a_ha f_ha) ++ (wSheet t a_sh s_sh))) (wf := ((wCC t a_cc y_cc_tape y_cc_teller (a_rd 0) (a_tr 0) y_cc_drive y_cc_seeker y_cc_seen y_cc_images (a_ha 0) s_cc) ++ (wRoad t a_rd s_rd) ++ (wRoad t a_tr s_tr) ++ (wHA t a_ha f_ha) ++ (wSheet t a_sh s_sh))) (cX2_hasParty_ok (l := l) (D := D) (t := t) (κ := κ) (a_rd := a_tr) ev18) gX8_read_X2_hasParty rfl ⟨rfl, rfl⟩ hdX2_hasParty ⟨Nat.le_of_ble_eq_true rfl, Nat.le_of_ble_eq_true rfl⟩ rfl rfl hP hD hS [11, 12, 13, 14, 15, 16, 17, 18, 19] [0, 1, 2, 3, 4, 5, 6, 7, 8, 9, 10, 20, 21, 22] [0, 1, 2, 3, 4, 5, 6, 7, 8, 9, 10, 14, 15, 16, 17, 18, 19, 20, 21, 22, 11, 12, 13] rfl rfl rfl rfl (by decide) rfl rfl rfl hl.1 (Nat.le_of_ble_eq_true rfl) dX8_read_119 (Nat.zero_le _) (Nat.zero_le _) (fun H locs hP hD hS => ?_)
          refine W.eq (g2 := F0 m 122 ls [.int v18]) rfl ?_
          refine lv_if_eq (tgt := 137) hx hb dX8_read_122 (by decide) (fun c19 => ?_) (fun c19 => ?_)
          · rw [if_pos c19] at hf
            refine lv_bipush (v := -20) hx hb dX8_read_137 (by decide) ?_
            refine lv_iload hx hb dX8_read_139 (lv_at hl 9 rfl) ?_
            refine lv_isub hx hb dX8_read_141 ?_
            obtain rfl := so_eq hf
            obtain ⟨rfl, rfl⟩ := HR _ rfl
            exact g_iret C hP hD hS dX8_read_142
          · rw [if_neg c19] at hf
            refine lv_aload_n hx hb dX8_read_125 rfl (lv_at hl 4 rfl) ?_
            refine va_get (D := D) (ci := 8) (v := .ref (a_tr 0)) (C := RX8) (T := TX8) (N := 11) hx hb hts iwX8_read_X8 hown hK hP 0 rfl rfl 3 (by decide) (hts _ lkX8_read_f32) (fun _ h9 => h9) rfl dX8_read_126 ?_
            refine lv_iload hx hb dX8_read_129 (lv_at hl 0 rfl) ?_
            obtain ⟨v20, ev20, hf⟩ := bd_some hf
            refine gk_V C (As := [.int y17]) (rest := []) (ci := 2) (q := (RX2, TX2, 12)) (q0 := 0) (wr := ((wCC t a_cc y_cc_tape y_cc_teller (a_rd 0) (a_tr 0) y_cc_drive y_cc_seeker y_cc_seen y_cc_images (a_ha 0) s_cc) ++ (wRoad t a_rd s_rd) ++ (wHA t a_ha f_ha) ++ (wSheet t a_sh s_sh))) (wf := ((wCC t a_cc y_cc_tape y_cc_teller (a_rd 0) (a_tr 0) y_cc_drive y_cc_seeker y_cc_seen y_cc_images (a_ha 0) s_cc) ++ (wRoad t a_rd s_rd) ++ (wRoad t a_tr s_tr) ++ (wHA t a_ha f_ha) ++ (wSheet t a_sh s_sh))) (cX2_hasMile_ok (l := l) (D := D) (t := t) (κ := κ) (a_rd := a_tr) ev20) gX8_read_X2_hasMile rfl ⟨rfl, rfl⟩ hdX2_hasMile ⟨Nat.le_of_ble_eq_true rfl, Nat.le_of_ble_eq_true rfl⟩ rfl rfl hP hD hS [11, 12, 13, 14, 15, 16, 17, 18, 19] [0, 1, 2, 3, 4, 5, 6, 7, 8, 9, 10, 20, 21, 22] [0, 1, 2, 3, 4, 5, 6, 7, 8, 9, 10, 14, 15, 16, 17, 18, 19, 20, 21, 22, 11, 12, 13] rfl rfl rfl rfl (by decide) rfl rfl rfl hl.1 (Nat.le_of_ble_eq_true rfl) dX8_read_131 (Nat.zero_le _) (Nat.zero_le _) (fun H locs hP hD hS => ?_)
            refine W.eq (g2 := F0 m 134 ls [.int v20]) rfl ?_
            refine lv_if_ne (tgt := 143) hx hb dX8_read_134 (by decide) (fun c21 => ?_) (fun c21 => ?_)
            · rw [if_neg c21] at hf
              refine lv_aload_n hx hb dX8_read_143 rfl (lv_at hl 4 rfl) ?_
              refine va_get (D := D) (ci := 8) (v := .ref (a_tr 0)) (C := RX8) (T := TX8) (N := 11) hx hb hts iwX8_read_X8 hown hK hP 0 rfl rfl 3 (by decide) (hts _ lkX8_read_f32) (fun _ h9 => h9) rfl dX8_read_144 ?_
              refine va_getN (D := D) (ci := 2) (v := .ref (a_tr 8)) (C := RX2) (T := TX2) (N := 12) hx hb hts iwX8_read_X2 hown hK hP 11 rfl rfl 7 (by decide) (hC0.2.1.f 22 rfl) (fun _ h9 => h9) rfl dX8_read_147 ?_
              refine lv_iload hx hb dX8_read_150 (lv_at hl 1 rfl) ?_
              refine lv_iload hx hb dX8_read_152 (lv_at hl 0 rfl) ?_
              obtain ⟨b22, hf⟩ := gd_some hf
              obtain ⟨s23, hs23, hf⟩ := nm_ex hf
              refine va_iast hx hb hK hP hD hS 19 0 rfl rfl (ixb_in b22) dX8_read_154 (fun H locs hP hD hS => ?_)
              have hP : va_P D vwCl ((wCC t a_cc y_cc_tape y_cc_teller (a_rd 0) (a_tr 0) y_cc_drive y_cc_seeker y_cc_seen y_cc_images (a_ha 0) s_cc) ++ (wRoad t a_rd s_rd) ++ (wRoad t a_tr s23) ++ (wHA t a_ha f_ha) ++ (wSheet t a_sh s_sh)) H := by rw [hs23]; exact hP
              have hD : va_D A ((wCC t a_cc y_cc_tape y_cc_teller (a_rd 0) (a_tr 0) y_cc_drive y_cc_seeker y_cc_seen y_cc_images (a_ha 0) s_cc) ++ (wRoad t a_rd s_rd) ++ (wRoad t a_tr s23) ++ (wHA t a_ha f_ha) ++ (wSheet t a_sh s_sh)) := by rw [hs23]; exact hD
              obtain ⟨y24, hy24, hf⟩ := nm_ex hf
              refine lv_iinc (v := y24) (lv' := [(6, .int y24), (10, .int y17), (9, .int y15), (7, .int v12), (8, .int y11), (0, .ref (a_cc 0)), (2, .int x2), (3, .int x3), (4, .int x4), (5, .ref (a_sh 0))]) hx hb dX8_read_155 hl (k := 9) rfl (by rw [hy24]; rfl) (by decide) rfl (fun ls hl => ?_)
              refine lv_goto (tgt := 56) hx hb dX8_read_158 (by decide) ?_
              obtain rfl := so_eq hf
              exact HB _ rfl _ _ _ hP hD hS (lv_sub hl [5, 6, 7, 8, 9, 0, 3] rfl)
            · rw [if_pos c21] at hf
              refine lv_bipush (v := -20) hx hb dX8_read_137 (by decide) ?_
              refine lv_iload hx hb dX8_read_139 (lv_at hl 9 rfl) ?_
              refine lv_isub hx hb dX8_read_141 ?_
              obtain rfl := so_eq hf
              obtain ⟨rfl, rfl⟩ := HR _ rfl
              exact g_iret C hP hD hS dX8_read_142
set_option maxHeartbeats 4000000 in
set_option maxRecDepth 100000 in
theorem wX8_read_161 {p : Program} {l : Launch} {e : Env} {s : State} {m : MethodId} {args : Array Value} {below : List Frame} {meth : Method} {c : Code} {D : va_G} {t : Nat → ClassId} {κ : Nat → Nat} {A : Nat → Prop} {a_cc : Nat → Nat} {y_cc_tape : Nat} {y_cc_teller : Nat} {y_cc_drive : Nat} {y_cc_seeker : Nat} {y_cc_seen : Nat} {y_cc_images : Nat} {a_rd : Nat → Nat} {a_tr : Nat → Nat} {a_ha : Nat → Nat} {f_ha : Nat → Option Nat} {a_sh : Nat → Nat} {s_cc : S2} {s_rd : S2} {s_tr : S2} {s_sh : S2} {x6 : Int32} {x7 : Int32} {out : Int32 × S2 × S2 × S2} (C : Cxt p s m args meth c cX8_read 11 RX8 wsX8_read (some .int) D t κ A) (hf : fX8_read_161 s_cc s_rd s_tr s_sh x6 x7 = some out) : ∀ (H : Heap) (locs : List Loc) (ls : Array Slot), va_P D vwCl ((wCC t a_cc y_cc_tape y_cc_teller (a_rd 0) (a_tr 0) y_cc_drive y_cc_seeker y_cc_seen y_cc_images (a_ha 0) s_cc) ++ (wRoad t a_rd s_rd) ++ (wRoad t a_tr s_tr) ++ (wHA t a_ha f_ha) ++ (wSheet t a_sh s_sh)) H → va_D A ((wCC t a_cc y_cc_tape y_cc_teller (a_rd 0) (a_tr 0) y_cc_drive y_cc_seeker y_cc_seen y_cc_images (a_ha 0) s_cc) ++ (wRoad t a_rd s_rd) ++ (wRoad t a_tr s_tr) ++ (wHA t a_ha f_ha) ++ (wSheet t a_sh s_sh)) → va_S A s.heap H locs → lv_has ls 11 [(0, .ref (a_cc 0)), (6, .int x6), (7, .int x7)] → W p l e (rmL 2) s m args below meth c H locs 0 0 (MQ below (gQ D (some (.int out.1)) ((wCC t a_cc y_cc_tape y_cc_teller (a_rd 0) (a_tr 0) y_cc_drive y_cc_seeker y_cc_seen y_cc_images (a_ha 0) out.2.1) ++ (wRoad t a_rd out.2.2.1) ++ (wRoad t a_tr out.2.2.2) ++ (wHA t a_ha f_ha) ++ (wSheet t a_sh s_sh)) A) args s 0 0 A) (F0 m 161 ls []) := by
  obtain ⟨hx, hb, hr, hml, hown, hts, hC0, hlk, hA⟩ := id C
  have hK := hC0.1
  intro H locs ls hP hD hS hl
  unfold fX8_read_161 at hf
  refine lv_aload_n hx hb dX8_read_161 rfl (lv_at hl 0 rfl) ?_
  refine va_get (D := D) (ci := 8) (v := .ref (a_rd 0)) (C := RX8) (T := TX8) (N := 11) hx hb hts iwX8_read_X8 hown hK hP 0 rfl rfl 2 (by decide) (hts _ lkX8_read_f28) (fun _ h9 => h9) rfl dX8_read_162 ?_
  refine lv_aload_n hx hb dX8_read_165 rfl (lv_at hl 0 rfl) ?_
  refine va_get (D := D) (ci := 8) (v := .ref (a_tr 0)) (C := RX8) (T := TX8) (N := 11) hx hb hts iwX8_read_X8 hown hK hP 0 rfl rfl 3 (by decide) (hts _ lkX8_read_f32) (fun _ h9 => h9) rfl dX8_read_166 ?_
  obtain ⟨v27, ev27, hf⟩ := bd_some hf
  refine gk_V C (As := [.ref (a_tr 0)]) (rest := []) (ci := 2) (q := (RX2, TX2, 12)) (q0 := 0) (wr := ((wCC t a_cc y_cc_tape y_cc_teller (a_rd 0) (a_tr 0) y_cc_drive y_cc_seeker y_cc_seen y_cc_images (a_ha 0) s_cc) ++ (wHA t a_ha f_ha) ++ (wSheet t a_sh s_sh))) (wf := ((wCC t a_cc y_cc_tape y_cc_teller (a_rd 0) (a_tr 0) y_cc_drive y_cc_seeker y_cc_seen y_cc_images (a_ha 0) s_cc) ++ (wRoad t a_rd v27) ++ (wRoad t a_tr s_tr) ++ (wHA t a_ha f_ha) ++ (wSheet t a_sh s_sh))) (cX2_copyFrom_ok (l := l) (D := D) (t := t) (κ := κ) (a_rd := a_rd) (a_ro := a_tr) ev27) gX8_read_X2_copyFrom rfl ⟨rfl, rfl⟩ hdX2_copyFrom ⟨Nat.le_of_ble_eq_true rfl, Nat.le_of_ble_eq_true rfl⟩ rfl rfl hP hD hS [2, 3, 4, 5, 6, 7, 8, 9, 10, 11, 12, 13, 14, 15, 16, 17, 18, 19] [0, 1, 20, 21, 22] [0, 1, 5, 6, 7, 8, 9, 10, 11, 12, 13, 14, 15, 16, 17, 18, 19, 20, 21, 22, 2, 3, 4] rfl rfl rfl rfl (by decide) rfl rfl rfl hl.1 (Nat.le_of_ble_eq_true rfl) dX8_read_169 (Nat.zero_le _) (Nat.zero_le _) (fun H locs hP hD hS => ?_)
  refine W.eq (g2 := F0 m 172 ls []) rfl ?_
  refine lv_aload_n hx hb dX8_read_172 rfl (lv_at hl 0 rfl) ?_
  refine lv_iload hx hb dX8_read_173 (lv_at hl 2 rfl) ?_
  obtain ⟨s28, hs28, hf⟩ := nm_ex hf
  refine va_put (D := D) (ci := 8) (v := .int x7) (ty := .int) (C := RX8) (T := TX8) (N := 11) hx hb hts iwX8_read_X8 tyX8 tyX8_ok nmX8 hown hK hP hD hS 0 rfl rfl 10 (by decide) (hts _ lkX8_read_f286) (fun _ h9 => h9) rfl (by decide +kernel) rfl rfl (Nat.le_of_ble_eq_true rfl) dX8_read_175 (fun H locs hP hD hS => ?_)
  have hP : va_P D vwCl ((wCC t a_cc y_cc_tape y_cc_teller (a_rd 0) (a_tr 0) y_cc_drive y_cc_seeker y_cc_seen y_cc_images (a_ha 0) s28) ++ (wRoad t a_rd v27) ++ (wRoad t a_tr s_tr) ++ (wHA t a_ha f_ha) ++ (wSheet t a_sh s_sh)) H := by rw [hs28]; exact hP
  have hD : va_D A ((wCC t a_cc y_cc_tape y_cc_teller (a_rd 0) (a_tr 0) y_cc_drive y_cc_seeker y_cc_seen y_cc_images (a_ha 0) s28) ++ (wRoad t a_rd v27) ++ (wRoad t a_tr s_tr) ++ (wHA t a_ha f_ha) ++ (wSheet t a_sh s_sh)) := by rw [hs28]; exact hD
  refine lv_iload hx hb dX8_read_178 (lv_at hl 1 rfl) ?_
  obtain rfl := so_eq hf
  exact g_iret C hP hD hS dX8_read_180
set_option maxHeartbeats 4000000 in
set_option maxRecDepth 100000 in
theorem cX8_read_ok {l : Launch} {D : va_G} {t : Nat → ClassId} {κ : Nat → Nat} {a_cc : Nat → Nat} {y_cc_tape : Nat} {y_cc_teller : Nat} {y_cc_drive : Nat} {y_cc_seeker : Nat} {y_cc_seen : Nat} {y_cc_images : Nat} {a_rd : Nat → Nat} {a_tr : Nat → Nat} {a_ha : Nat → Nat} {f_ha : Nat → Option Nat} {a_sh : Nat → Nat} {s_cc : S2} {s_rd : S2} {s_tr : S2} {s_sh : S2} {p1 : Int32} {p2 : Int32} {p3 : Int32} {p4 : Int32} {out : Int32 × S2 × S2 × S2} (hha : ixb p1 4 = true → f_ha p1.toNatClampNeg = some (a_sh 0)) (hf : fX8_read s_cc s_rd s_tr s_sh p1 p2 p3 p4 = some out) : Ct l D t κ yX8_read wsX8_read (rmL 2) [.ref (a_cc 0), .int p1, .int p2, .int p3, .int p4] ((wCC t a_cc y_cc_tape y_cc_teller (a_rd 0) (a_tr 0) y_cc_drive y_cc_seeker y_cc_seen y_cc_images (a_ha 0) s_cc) ++ (wRoad t a_rd s_rd) ++ (wRoad t a_tr s_tr) ++ (wHA t a_ha f_ha) ++ (wSheet t a_sh s_sh)) (some (.int out.1)) ((wCC t a_cc y_cc_tape y_cc_teller (a_rd 0) (a_tr 0) y_cc_drive y_cc_seeker y_cc_seen y_cc_images (a_ha 0) out.2.1) ++ (wRoad t a_rd out.2.2.1) ++ (wRoad t a_tr out.2.2.2) ++ (wHA t a_ha f_ha) ++ (wSheet t a_sh s_sh)) := by
  refine Ct.ofW (own := RX8) (cc := cX8_read) (maxL := 11) (ret := (some .int)) (by decide) rfl rfl (Nat.le_of_ble_eq_true rfl) ?_
  intro p e s m below meth c A C hP hD ls hl
  have hS : va_S A s.heap s.heap [] := va_S.rf
  obtain ⟨hx, hb, hr, hml, hown, hts, hC0, hlk, hA⟩ := id C
  have hK := hC0.1
  have hl : lv_has ls 11 [(0, .ref (a_cc 0)), (1, .int p1), (2, .int p2), (3, .int p3), (4, .int p4)] := hl
  unfold fX8_read at hf
  refine lv_iload_n hx hb dX8_read_0 rfl (lv_at hl 1 rfl) ?_
  refine lv_iconst (v := 0) hx hb dX8_read_1 (by decide) ?_
  refine lv_iconst (v := 3) hx hb dX8_read_2 (by decide) ?_
  obtain ⟨v1, ev1, hf⟩ := bd_some hf
  refine gk_S C (As := [.int p1, .int (0 : Int32), .int (3 : Int32)]) (rest := []) (cX8_within_ok (l := l) (D := D) (t := t) (κ := κ) ev1) gX8_read_X8_within rfl ⟨rfl, rfl⟩ hdX8_within ⟨Nat.le_of_ble_eq_true rfl, Nat.le_of_ble_eq_true rfl⟩ hP hD hS rfl hl.1 (Nat.le_of_ble_eq_true rfl) dX8_read_3 (Nat.zero_le _) (Nat.zero_le _) (fun H locs hP hD hS => ?_)
  refine W.eq (g2 := F0 m 6 ls [.int v1]) rfl ?_
  refine lv_if_eq (tgt := 29) hx hb dX8_read_6 (by decide) (fun c2 => ?_) (fun c2 => ?_)
  · rw [if_pos c2] at hf
    refine lv_iconst (v := -1) hx hb dX8_read_29 (by decide) ?_
    obtain rfl := so_eq hf
    exact g_iret C hP hD hS dX8_read_30
  · rw [if_neg c2] at hf
    refine lv_iload_n hx hb dX8_read_9 rfl (lv_at hl 2 rfl) ?_
    refine lv_iconst (v := 0) hx hb dX8_read_10 (by decide) ?_
    refine lv_iconst (v := 2) hx hb dX8_read_11 (by decide) ?_
    obtain ⟨v3, ev3, hf⟩ := bd_some hf
    refine gk_S C (As := [.int p2, .int (0 : Int32), .int (2 : Int32)]) (rest := []) (cX8_within_ok (l := l) (D := D) (t := t) (κ := κ) ev3) gX8_read_X8_within rfl ⟨rfl, rfl⟩ hdX8_within ⟨Nat.le_of_ble_eq_true rfl, Nat.le_of_ble_eq_true rfl⟩ hP hD hS rfl hl.1 (Nat.le_of_ble_eq_true rfl) dX8_read_12 (Nat.zero_le _) (Nat.zero_le _) (fun H locs hP hD hS => ?_)
    refine W.eq (g2 := F0 m 15 ls [.int v3]) rfl ?_
    refine lv_if_eq (tgt := 29) hx hb dX8_read_15 (by decide) (fun c4 => ?_) (fun c4 => ?_)
    · rw [if_pos c4] at hf
      refine lv_iconst (v := -1) hx hb dX8_read_29 (by decide) ?_
      obtain rfl := so_eq hf
      exact g_iret C hP hD hS dX8_read_30
    · rw [if_neg c4] at hf
      refine lv_iload hx hb dX8_read_18 (lv_at hl 4 rfl) ?_
      refine lv_iconst (v := 0) hx hb dX8_read_20 (by decide) ?_
      refine lv_bipush (v := 20) hx hb dX8_read_21 (by decide) ?_
      obtain ⟨v5, ev5, hf⟩ := bd_some hf
      refine gk_S C (As := [.int p4, .int (0 : Int32), .int (20 : Int32)]) (rest := []) (cX8_within_ok (l := l) (D := D) (t := t) (κ := κ) ev5) gX8_read_X8_within rfl ⟨rfl, rfl⟩ hdX8_within ⟨Nat.le_of_ble_eq_true rfl, Nat.le_of_ble_eq_true rfl⟩ hP hD hS rfl hl.1 (Nat.le_of_ble_eq_true rfl) dX8_read_23 (Nat.zero_le _) (Nat.zero_le _) (fun H locs hP hD hS => ?_)
      refine W.eq (g2 := F0 m 26 ls [.int v5]) rfl ?_
      refine lv_if_ne (tgt := 31) hx hb dX8_read_26 (by decide) (fun c6 => ?_) (fun c6 => ?_)
      · rw [if_neg c6] at hf
        refine lv_aload_n hx hb dX8_read_31 rfl (lv_at hl 0 rfl) ?_
        refine va_get (D := D) (ci := 8) (v := .ref (a_ha 0)) (C := RX8) (T := TX8) (N := 11) hx hb hts iwX8_read_X8 hown hK hP 0 rfl rfl 8 (by decide) (hts _ lkX8_read_f67) (fun _ h9 => h9) rfl dX8_read_32 ?_
        refine lv_iload_n hx hb dX8_read_35 rfl (lv_at hl 1 rfl) ?_
        obtain ⟨b7, hf⟩ := gd_some hf
        refine va_aldq hx hb hK hP 20 4 rfl rfl (ixb_in b7) dX8_read_36 ?_
        refine W.eq (g2 := F0 m 37 ls [.ref (a_sh 0)]) (by rw [hha b7]; rfl) ?_
        refine lv_astore (lv' := [(5, .ref (a_sh 0)), (0, .ref (a_cc 0)), (1, .int p1), (2, .int p2), (3, .int p3), (4, .int p4)]) hx hb dX8_read_37 hl (by decide) rfl (fun ls hl => ?_)
        refine lv_aload_n hx hb dX8_read_39 rfl (lv_at hl 1 rfl) ?_
        refine va_get (D := D) (ci := 8) (v := .ref (a_tr 0)) (C := RX8) (T := TX8) (N := 11) hx hb hts iwX8_read_X8 hown hK hP 0 rfl rfl 3 (by decide) (hts _ lkX8_read_f32) (fun _ h9 => h9) rfl dX8_read_40 ?_
        refine lv_aload_n hx hb dX8_read_43 rfl (lv_at hl 1 rfl) ?_
        refine va_get (D := D) (ci := 8) (v := .ref (a_rd 0)) (C := RX8) (T := TX8) (N := 11) hx hb hts iwX8_read_X8 hown hK hP 0 rfl rfl 2 (by decide) (hts _ lkX8_read_f28) (fun _ h9 => h9) rfl dX8_read_44 ?_
        obtain ⟨v8, ev8, hf⟩ := bd_some hf
        refine gk_V C (As := [.ref (a_rd 0)]) (rest := []) (ci := 2) (q := (RX2, TX2, 12)) (q0 := 0) (wr := ((wCC t a_cc y_cc_tape y_cc_teller (a_rd 0) (a_tr 0) y_cc_drive y_cc_seeker y_cc_seen y_cc_images (a_ha 0) s_cc) ++ (wHA t a_ha f_ha) ++ (wSheet t a_sh s_sh))) (wf := ((wCC t a_cc y_cc_tape y_cc_teller (a_rd 0) (a_tr 0) y_cc_drive y_cc_seeker y_cc_seen y_cc_images (a_ha 0) s_cc) ++ (wRoad t a_rd s_rd) ++ (wRoad t a_tr v8) ++ (wHA t a_ha f_ha) ++ (wSheet t a_sh s_sh))) (cX2_copyFrom_ok (l := l) (D := D) (t := t) (κ := κ) (a_rd := a_tr) (a_ro := a_rd) ev8) gX8_read_X2_copyFrom rfl ⟨rfl, rfl⟩ hdX2_copyFrom ⟨Nat.le_of_ble_eq_true rfl, Nat.le_of_ble_eq_true rfl⟩ rfl rfl hP hD hS [11, 12, 13, 14, 15, 16, 17, 18, 19, 2, 3, 4, 5, 6, 7, 8, 9, 10] [0, 1, 20, 21, 22] [0, 1, 14, 15, 16, 17, 18, 19, 20, 21, 22, 5, 6, 7, 8, 9, 10, 11, 12, 13, 2, 3, 4] rfl rfl rfl rfl (by decide) rfl rfl rfl hl.1 (Nat.le_of_ble_eq_true rfl) dX8_read_47 (Nat.zero_le _) (Nat.zero_le _) (fun H locs hP hD hS => ?_)
        refine W.eq (g2 := F0 m 50 ls []) rfl ?_
        refine lv_iconst (v := 0) hx hb dX8_read_50 (by decide) ?_
        refine lv_istore (lv' := [(6, .int (0 : Int32)), (5, .ref (a_sh 0)), (0, .ref (a_cc 0)), (1, .int p1), (2, .int p2), (3, .int p3), (4, .int p4)]) hx hb dX8_read_51 hl (by decide) rfl (fun ls hl => ?_)
        refine lv_iconst (v := 0) hx hb dX8_read_53 (by decide) ?_
        refine lv_istore (lv' := [(7, .int (0 : Int32)), (6, .int (0 : Int32)), (5, .ref (a_sh 0)), (0, .ref (a_cc 0)), (1, .int p1), (2, .int p2), (3, .int p3), (4, .int p4)]) hx hb dX8_read_54 hl (by decide) rfl (fun ls hl => ?_)
        obtain ⟨x25, ex25, hf⟩ := bd_some hf
        refine wX8_read_l56 C 5000 (0 : Int32) (0 : Int32) s_cc s_rd v8 x25 ex25 (fun q26 h9 H locs ls hP hD hS hl => ?_) (fun r29 h9 => ?_) _ _ _ hP hD hS (lv_sub hl [3, 5, 6, 7, 2, 1, 0] rfl)
        · rw [h9, Sum.elim_inl] at hf
          exact wX8_read_161 C hf _ _ _ hP hD hS (lv_sub hl [0, 1, 2] rfl)
        · rw [h9, Sum.elim_inr] at hf
          obtain rfl := so_eq hf
          exact ⟨rfl, rfl⟩
      · rw [if_pos c6] at hf
        refine lv_iconst (v := -1) hx hb dX8_read_29 (by decide) ?_
        obtain rfl := so_eq hf
        exact g_iret C hP hD hS dX8_read_30
/-! CoachCourt.torn -/
def fX8_torn (s_cc : S2) : Option (Int32) :=
  some (s_cc 0 0)
theorem hdX8_torn : yX8_torn.cls = RX8 ∧ yX8_torn.cls ≠ "java/lang/invoke/MethodHandle" ∧ yX8_torn.cls ≠ "java/lang/invoke/VarHandle" ∧ (parseMethodDescriptor yX8_torn.desc).map (fun d => d.parameters.length) = some 0 := by decide +kernel
theorem iwX8_torn_X8 : ∀ w ∈ wsX80, w ∈ wsX8_torn := by decide +kernel
theorem lkX8_torn_f286 : Cond.fieldLink RX8 286 "CoachCourt" "latestTorn" "I" ∈ wsX8_torn := by decide +kernel
set_option maxHeartbeats 4000000 in
set_option maxRecDepth 100000 in
theorem cX8_torn_ok {l : Launch} {D : va_G} {t : Nat → ClassId} {κ : Nat → Nat} {a_cc : Nat → Nat} {y_cc_tape : Nat} {y_cc_teller : Nat} {y_cc_road : Nat} {y_cc_trial : Nat} {y_cc_drive : Nat} {y_cc_seeker : Nat} {y_cc_seen : Nat} {y_cc_images : Nat} {y_cc_sheets : Nat} {s_cc : S2} {out : Int32} (hf : fX8_torn s_cc = some out) : Ct l D t κ yX8_torn wsX8_torn (rmL 0) [.ref (a_cc 0)] (wCC t a_cc y_cc_tape y_cc_teller y_cc_road y_cc_trial y_cc_drive y_cc_seeker y_cc_seen y_cc_images y_cc_sheets s_cc) (some (.int out)) (wCC t a_cc y_cc_tape y_cc_teller y_cc_road y_cc_trial y_cc_drive y_cc_seeker y_cc_seen y_cc_images y_cc_sheets s_cc) := by
  refine Ct.ofW (own := RX8) (cc := cX8_torn) (maxL := 1) (ret := (some .int)) (by decide) rfl rfl (Nat.le_of_ble_eq_true rfl) ?_
  intro p e s m below meth c A C hP hD ls hl
  have hS : va_S A s.heap s.heap [] := va_S.rf
  obtain ⟨hx, hb, hr, hml, hown, hts, hC0, hlk, hA⟩ := id C
  have hK := hC0.1
  have hl : lv_has ls 1 [(0, .ref (a_cc 0))] := hl
  unfold fX8_torn at hf
  refine lv_aload_n hx hb dX8_torn_0 rfl (lv_at hl 0 rfl) ?_
  refine va_get (D := D) (ci := 8) (v := .int (s_cc 0 0)) (C := RX8) (T := TX8) (N := 11) hx hb hts iwX8_torn_X8 hown hK hP 0 rfl rfl 10 (by decide) (hts _ lkX8_torn_f286) (fun _ h9 => h9) rfl dX8_torn_1 ?_
  obtain rfl := so_eq hf
  exact g_iret C hP hD hS dX8_torn_4
/-! CoachCourt.imagesThere -/
def fX8_imagesThere_27_2 (s_cc : S2) (s_im0 : S2) (s_im1 : S2) (k0 : Int32) (k1 : Int32) : Option (Int32) :=
  nm (k1 + k0) fun y6 =>
  some y6
def fX8_imagesThere_27 (s_cc : S2) (s_im0 : S2) (s_im1 : S2) (k0 : Int32) (k1 : Int32) : Option (Int32) :=
  nm (k1 + k0) fun y3 =>
  if (s_im1 0 0) = (0 : Int32) then
    (fX8_imagesThere_27_2 s_cc s_im0 s_im1 (0 : Int32) y3)
  else
    (fX8_imagesThere_27_2 s_cc s_im0 s_im1 (1 : Int32) y3)
def fX8_imagesThere (s_cc : S2) (s_im0 : S2) (s_im1 : S2) : Option (Int32) :=
  if (s_im0 0 0) = (0 : Int32) then
    (fX8_imagesThere_27 s_cc s_im0 s_im1 (0 : Int32) (0 : Int32))
  else
    (fX8_imagesThere_27 s_cc s_im0 s_im1 (1 : Int32) (0 : Int32))
theorem hdX8_imagesThere : yX8_imagesThere.cls = RX8 ∧ yX8_imagesThere.cls ≠ "java/lang/invoke/MethodHandle" ∧ yX8_imagesThere.cls ≠ "java/lang/invoke/VarHandle" ∧ (parseMethodDescriptor yX8_imagesThere.desc).map (fun d => d.parameters.length) = some 0 := by decide +kernel
theorem iwX8_imagesThere_X8 : ∀ w ∈ wsX80, w ∈ wsX8_imagesThere := by decide +kernel
theorem lkX8_imagesThere_f60 : Cond.fieldLink RX8 60 "CoachCourt" "images" "[LCoachCourt$Image;" ∈ wsX8_imagesThere := by decide +kernel
theorem iwX8_imagesThere_X1 : ∀ w ∈ wsX10, w ∈ wsX8_imagesThere := by decide +kernel
set_option maxHeartbeats 4000000 in
set_option maxRecDepth 100000 in
theorem wX8_imagesThere_27_2 {p : Program} {l : Launch} {e : Env} {s : State} {m : MethodId} {args : Array Value} {below : List Frame} {meth : Method} {c : Code} {D : va_G} {t : Nat → ClassId} {κ : Nat → Nat} {A : Nat → Prop} {a_cc : Nat → Nat} {y_cc_tape : Nat} {y_cc_teller : Nat} {y_cc_road : Nat} {y_cc_trial : Nat} {y_cc_drive : Nat} {y_cc_seeker : Nat} {y_cc_seen : Nat} {y_cc_sheets : Nat} {a_ia : Nat → Nat} {f_ia : Nat → Option Nat} {a_im0 : Nat → Nat} {y_im0_road : Nat} {y_im0_seen : Nat} {a_im1 : Nat → Nat} {y_im1_road : Nat} {y_im1_seen : Nat} {s_cc : S2} {s_im0 : S2} {s_im1 : S2} {k0 : Int32} {k1 : Int32} {out : Int32} (C : Cxt p s m args meth c cX8_imagesThere 3 RX8 wsX8_imagesThere (some .int) D t κ A) (hia0 : f_ia 0 = some (a_im0 0)) (hia1 : f_ia 1 = some (a_im1 0)) (hf : fX8_imagesThere_27_2 s_cc s_im0 s_im1 k0 k1 = some out) : ∀ (H : Heap) (locs : List Loc) (ls : Array Slot), va_P D vwCl ((wCC t a_cc y_cc_tape y_cc_teller y_cc_road y_cc_trial y_cc_drive y_cc_seeker y_cc_seen (a_ia 0) y_cc_sheets s_cc) ++ (wIA t a_ia f_ia) ++ (wImage t a_im0 y_im0_road y_im0_seen s_im0) ++ (wImage t a_im1 y_im1_road y_im1_seen s_im1)) H → va_D A ((wCC t a_cc y_cc_tape y_cc_teller y_cc_road y_cc_trial y_cc_drive y_cc_seeker y_cc_seen (a_ia 0) y_cc_sheets s_cc) ++ (wIA t a_ia f_ia) ++ (wImage t a_im0 y_im0_road y_im0_seen s_im0) ++ (wImage t a_im1 y_im1_road y_im1_seen s_im1)) → va_S A s.heap H locs → lv_has ls 3 [(0, .ref (a_cc 0)), (2, .int (1 : Int32))] → W p l e (rmL 0) s m args below meth c H locs 0 0 (MQ below (gQ D (some (.int out)) ((wCC t a_cc y_cc_tape y_cc_teller y_cc_road y_cc_trial y_cc_drive y_cc_seeker y_cc_seen (a_ia 0) y_cc_sheets s_cc) ++ (wIA t a_ia f_ia) ++ (wImage t a_im0 y_im0_road y_im0_seen s_im0) ++ (wImage t a_im1 y_im1_road y_im1_seen s_im1)) A) args s 0 0 A) (F0 m 27 ls [.int k0, .int k1]) := by
  obtain ⟨hx, hb, hr, hml, hown, hts, hC0, hlk, hA⟩ := id C
  have hK := hC0.1
  intro H locs ls hP hD hS hl
  unfold fX8_imagesThere_27_2 at hf
  refine lv_iadd hx hb dX8_imagesThere_27 ?_
  obtain ⟨y6, hy6, hf⟩ := nm_ex hf
  refine W.eq (g2 := F0 m 28 ls [.int y6]) (by rw [hy6]) ?_
  refine lv_istore_n (lv' := [(1, .int y6), (0, .ref (a_cc 0)), (2, .int (1 : Int32))]) hx hb dX8_imagesThere_28 rfl hl (by decide) rfl (fun ls hl => ?_)
  refine lv_iinc (v := (2 : Int32)) (lv' := [(2, .int (2 : Int32)), (1, .int y6), (0, .ref (a_cc 0))]) hx hb dX8_imagesThere_29 hl (k := 2) rfl (by decide) (by decide) rfl (fun ls hl => ?_)
  refine lv_goto (tgt := 4) hx hb dX8_imagesThere_32 (by decide) ?_
  refine lv_iload_n hx hb dX8_imagesThere_4 rfl (lv_at hl 0 rfl) ?_
  refine lv_iconst (v := 2) hx hb dX8_imagesThere_5 (by decide) ?_
  refine lv_icmp_ge (tgt := 35) hx hb dX8_imagesThere_6 (by decide) (fun c7 => ?_) (fun c7 => absurd c7 (by decide))
  refine lv_iload_n hx hb dX8_imagesThere_35 rfl (lv_at hl 1 rfl) ?_
  obtain rfl := so_eq hf
  exact g_iret C hP hD hS dX8_imagesThere_36
set_option maxHeartbeats 4000000 in
set_option maxRecDepth 100000 in
theorem wX8_imagesThere_27 {p : Program} {l : Launch} {e : Env} {s : State} {m : MethodId} {args : Array Value} {below : List Frame} {meth : Method} {c : Code} {D : va_G} {t : Nat → ClassId} {κ : Nat → Nat} {A : Nat → Prop} {a_cc : Nat → Nat} {y_cc_tape : Nat} {y_cc_teller : Nat} {y_cc_road : Nat} {y_cc_trial : Nat} {y_cc_drive : Nat} {y_cc_seeker : Nat} {y_cc_seen : Nat} {y_cc_sheets : Nat} {a_ia : Nat → Nat} {f_ia : Nat → Option Nat} {a_im0 : Nat → Nat} {y_im0_road : Nat} {y_im0_seen : Nat} {a_im1 : Nat → Nat} {y_im1_road : Nat} {y_im1_seen : Nat} {s_cc : S2} {s_im0 : S2} {s_im1 : S2} {k0 : Int32} {k1 : Int32} {out : Int32} (C : Cxt p s m args meth c cX8_imagesThere 3 RX8 wsX8_imagesThere (some .int) D t κ A) (hia0 : f_ia 0 = some (a_im0 0)) (hia1 : f_ia 1 = some (a_im1 0)) (hf : fX8_imagesThere_27 s_cc s_im0 s_im1 k0 k1 = some out) : ∀ (H : Heap) (locs : List Loc) (ls : Array Slot), va_P D vwCl ((wCC t a_cc y_cc_tape y_cc_teller y_cc_road y_cc_trial y_cc_drive y_cc_seeker y_cc_seen (a_ia 0) y_cc_sheets s_cc) ++ (wIA t a_ia f_ia) ++ (wImage t a_im0 y_im0_road y_im0_seen s_im0) ++ (wImage t a_im1 y_im1_road y_im1_seen s_im1)) H → va_D A ((wCC t a_cc y_cc_tape y_cc_teller y_cc_road y_cc_trial y_cc_drive y_cc_seeker y_cc_seen (a_ia 0) y_cc_sheets s_cc) ++ (wIA t a_ia f_ia) ++ (wImage t a_im0 y_im0_road y_im0_seen s_im0) ++ (wImage t a_im1 y_im1_road y_im1_seen s_im1)) → va_S A s.heap H locs → lv_has ls 3 [(0, .ref (a_cc 0)), (2, .int (0 : Int32))] → W p l e (rmL 0) s m args below meth c H locs 0 0 (MQ below (gQ D (some (.int out)) ((wCC t a_cc y_cc_tape y_cc_teller y_cc_road y_cc_trial y_cc_drive y_cc_seeker y_cc_seen (a_ia 0) y_cc_sheets s_cc) ++ (wIA t a_ia f_ia) ++ (wImage t a_im0 y_im0_road y_im0_seen s_im0) ++ (wImage t a_im1 y_im1_road y_im1_seen s_im1)) A) args s 0 0 A) (F0 m 27 ls [.int k0, .int k1]) := by
  obtain ⟨hx, hb, hr, hml, hown, hts, hC0, hlk, hA⟩ := id C
  have hK := hC0.1
  intro H locs ls hP hD hS hl
  unfold fX8_imagesThere_27 at hf
  refine lv_iadd hx hb dX8_imagesThere_27 ?_
  obtain ⟨y3, hy3, hf⟩ := nm_ex hf
  refine W.eq (g2 := F0 m 28 ls [.int y3]) (by rw [hy3]) ?_
  refine lv_istore_n (lv' := [(1, .int y3), (0, .ref (a_cc 0)), (2, .int (0 : Int32))]) hx hb dX8_imagesThere_28 rfl hl (by decide) rfl (fun ls hl => ?_)
  refine lv_iinc (v := (1 : Int32)) (lv' := [(2, .int (1 : Int32)), (1, .int y3), (0, .ref (a_cc 0))]) hx hb dX8_imagesThere_29 hl (k := 2) rfl (by decide) (by decide) rfl (fun ls hl => ?_)
  refine lv_goto (tgt := 4) hx hb dX8_imagesThere_32 (by decide) ?_
  refine lv_iload_n hx hb dX8_imagesThere_4 rfl (lv_at hl 0 rfl) ?_
  refine lv_iconst (v := 2) hx hb dX8_imagesThere_5 (by decide) ?_
  refine lv_icmp_ge (tgt := 35) hx hb dX8_imagesThere_6 (by decide) (fun c4 => absurd c4 (by decide)) (fun c4 => ?_)
  refine lv_iload_n hx hb dX8_imagesThere_9 rfl (lv_at hl 1 rfl) ?_
  refine lv_aload_n hx hb dX8_imagesThere_10 rfl (lv_at hl 2 rfl) ?_
  refine va_get (D := D) (ci := 8) (v := .ref (a_ia 0)) (C := RX8) (T := TX8) (N := 11) hx hb hts iwX8_imagesThere_X8 hown hK hP 0 rfl rfl 7 (by decide) (hts _ lkX8_imagesThere_f60) (fun _ h9 => h9) rfl dX8_imagesThere_11 ?_
  refine lv_iload_n hx hb dX8_imagesThere_14 rfl (lv_at hl 0 rfl) ?_
  refine va_aldq hx hb hK hP 2 3 rfl rfl (ixb_in (by decide)) dX8_imagesThere_15 ?_
  refine W.eq (g2 := F0 m 16 ls [.ref (a_im1 0), .int y3]) (by rw [show f_ia (Int32.toNatClampNeg (1 : Int32)) = some (a_im1 0) from hia1]; rfl) ?_
  refine va_getN (D := D) (ci := 1) (v := .int (s_im1 0 0)) (C := RX1) (T := TX1) (N := 3) hx hb hts iwX8_imagesThere_X1 hown hK hP 4 rfl rfl 2 (by decide) (hC0.2.1.f 42 rfl) (fun _ h9 => h9) rfl dX8_imagesThere_16 ?_
  refine lv_if_eq (tgt := 26) hx hb dX8_imagesThere_19 (by decide) (fun c5 => ?_) (fun c5 => ?_)
  · rw [if_pos c5] at hf
    refine lv_iconst (v := 0) hx hb dX8_imagesThere_26 (by decide) ?_
    exact wX8_imagesThere_27_2 C hia0 hia1 hf _ _ _ hP hD hS (lv_sub hl [2, 0] rfl)
  · rw [if_neg c5] at hf
    refine lv_iconst (v := 1) hx hb dX8_imagesThere_22 (by decide) ?_
    refine lv_goto (tgt := 27) hx hb dX8_imagesThere_23 (by decide) ?_
    exact wX8_imagesThere_27_2 C hia0 hia1 hf _ _ _ hP hD hS (lv_sub hl [2, 0] rfl)
set_option maxHeartbeats 4000000 in
set_option maxRecDepth 100000 in
theorem cX8_imagesThere_ok {l : Launch} {D : va_G} {t : Nat → ClassId} {κ : Nat → Nat} {a_cc : Nat → Nat} {y_cc_tape : Nat} {y_cc_teller : Nat} {y_cc_road : Nat} {y_cc_trial : Nat} {y_cc_drive : Nat} {y_cc_seeker : Nat} {y_cc_seen : Nat} {y_cc_sheets : Nat} {a_ia : Nat → Nat} {f_ia : Nat → Option Nat} {a_im0 : Nat → Nat} {y_im0_road : Nat} {y_im0_seen : Nat} {a_im1 : Nat → Nat} {y_im1_road : Nat} {y_im1_seen : Nat} {s_cc : S2} {s_im0 : S2} {s_im1 : S2} {out : Int32} (hia0 : f_ia 0 = some (a_im0 0)) (hia1 : f_ia 1 = some (a_im1 0)) (hf : fX8_imagesThere s_cc s_im0 s_im1 = some out) : Ct l D t κ yX8_imagesThere wsX8_imagesThere (rmL 0) [.ref (a_cc 0)] ((wCC t a_cc y_cc_tape y_cc_teller y_cc_road y_cc_trial y_cc_drive y_cc_seeker y_cc_seen (a_ia 0) y_cc_sheets s_cc) ++ (wIA t a_ia f_ia) ++ (wImage t a_im0 y_im0_road y_im0_seen s_im0) ++ (wImage t a_im1 y_im1_road y_im1_seen s_im1)) (some (.int out)) ((wCC t a_cc y_cc_tape y_cc_teller y_cc_road y_cc_trial y_cc_drive y_cc_seeker y_cc_seen (a_ia 0) y_cc_sheets s_cc) ++ (wIA t a_ia f_ia) ++ (wImage t a_im0 y_im0_road y_im0_seen s_im0) ++ (wImage t a_im1 y_im1_road y_im1_seen s_im1)) := by
  refine Ct.ofW (own := RX8) (cc := cX8_imagesThere) (maxL := 3) (ret := (some .int)) (by decide) rfl rfl (Nat.le_of_ble_eq_true rfl) ?_
  intro p e s m below meth c A C hP hD ls hl
  have hS : va_S A s.heap s.heap [] := va_S.rf
  obtain ⟨hx, hb, hr, hml, hown, hts, hC0, hlk, hA⟩ := id C
  have hK := hC0.1
  have hl : lv_has ls 3 [(0, .ref (a_cc 0))] := hl
  unfold fX8_imagesThere at hf
  refine lv_iconst (v := 0) hx hb dX8_imagesThere_0 (by decide) ?_
  refine lv_istore_n (lv' := [(1, .int (0 : Int32)), (0, .ref (a_cc 0))]) hx hb dX8_imagesThere_1 rfl hl (by decide) rfl (fun ls hl => ?_)
  refine lv_iconst (v := 0) hx hb dX8_imagesThere_2 (by decide) ?_
  refine lv_istore_n (lv' := [(2, .int (0 : Int32)), (1, .int (0 : Int32)), (0, .ref (a_cc 0))]) hx hb dX8_imagesThere_3 rfl hl (by decide) rfl (fun ls hl => ?_)
  refine lv_iload_n hx hb dX8_imagesThere_4 rfl (lv_at hl 0 rfl) ?_
  refine lv_iconst (v := 2) hx hb dX8_imagesThere_5 (by decide) ?_
  refine lv_icmp_ge (tgt := 35) hx hb dX8_imagesThere_6 (by decide) (fun c1 => absurd c1 (by decide)) (fun c1 => ?_)
  refine lv_iload_n hx hb dX8_imagesThere_9 rfl (lv_at hl 1 rfl) ?_
  refine lv_aload_n hx hb dX8_imagesThere_10 rfl (lv_at hl 2 rfl) ?_
  refine va_get (D := D) (ci := 8) (v := .ref (a_ia 0)) (C := RX8) (T := TX8) (N := 11) hx hb hts iwX8_imagesThere_X8 hown hK hP 0 rfl rfl 7 (by decide) (hts _ lkX8_imagesThere_f60) (fun _ h9 => h9) rfl dX8_imagesThere_11 ?_
  refine lv_iload_n hx hb dX8_imagesThere_14 rfl (lv_at hl 0 rfl) ?_
  refine va_aldq hx hb hK hP 2 3 rfl rfl (ixb_in (by decide)) dX8_imagesThere_15 ?_
  refine W.eq (g2 := F0 m 16 ls [.ref (a_im0 0), .int (0 : Int32)]) (by rw [show f_ia (Int32.toNatClampNeg (0 : Int32)) = some (a_im0 0) from hia0]; rfl) ?_
  refine va_getN (D := D) (ci := 1) (v := .int (s_im0 0 0)) (C := RX1) (T := TX1) (N := 3) hx hb hts iwX8_imagesThere_X1 hown hK hP 3 rfl rfl 2 (by decide) (hC0.2.1.f 42 rfl) (fun _ h9 => h9) rfl dX8_imagesThere_16 ?_
  refine lv_if_eq (tgt := 26) hx hb dX8_imagesThere_19 (by decide) (fun c2 => ?_) (fun c2 => ?_)
  · rw [if_pos c2] at hf
    refine lv_iconst (v := 0) hx hb dX8_imagesThere_26 (by decide) ?_
    exact wX8_imagesThere_27 C hia0 hia1 hf _ _ _ hP hD hS (lv_sub hl [2, 0] rfl)
  · rw [if_neg c2] at hf
    refine lv_iconst (v := 1) hx hb dX8_imagesThere_22 (by decide) ?_
    refine lv_goto (tgt := 27) hx hb dX8_imagesThere_23 (by decide) ?_
    exact wX8_imagesThere_27 C hia0 hia1 hf _ _ _ hP hD hS (lv_sub hl [2, 0] rfl)
/-! CoachCourt.count -/
def fX8_count (s_cc : S2) (s_tp : S2) (s_rd : S2) (s_sn : S2) (s_im0 : S2) (s_im1 : S2) (s_sh : S2) (p1 : Int32) : Option (Int32) :=
  if p1 = 0 then
    ((fX2_muddyMiles s_rd).bind fun v2 =>
    some v2)
  else
  if p1 = 1 then
    (some (s_sn 0 0))
  else
  if p1 = 2 then
    ((fX8_imagesThere s_cc s_im0 s_im1).bind fun v5 =>
    some v5)
  else
  if p1 = 3 then
    (some (s_tp 0 0))
  else
  if p1 = 4 then
    (if (s_sh 0 0) = (0 : Int32) then
      (some (-4 : Int32))
    else
      (some (s_sh 0 2)))
  else
  if p1 = 5 then
    ((fX2_windOfAll s_rd).bind fun v10 =>
    some v10)
  else
  (some (-1 : Int32))
theorem hdX8_count : yX8_count.cls = RX8 ∧ yX8_count.cls ≠ "java/lang/invoke/MethodHandle" ∧ yX8_count.cls ≠ "java/lang/invoke/VarHandle" ∧ (parseMethodDescriptor yX8_count.desc).map (fun d => d.parameters.length) = some 1 := by decide +kernel
theorem iwX8_count_X8 : ∀ w ∈ wsX80, w ∈ wsX8_count := by decide +kernel
theorem lkX8_count_f28 : Cond.fieldLink RX8 28 "CoachCourt" "road" "LCoachCourt$Road;" ∈ wsX8_count := by decide +kernel
theorem lkX8_count_f54 : Cond.fieldLink RX8 54 "CoachCourt" "seen" "LCoachCourt$Sightings;" ∈ wsX8_count := by decide +kernel
theorem iwX8_count_X5 : ∀ w ∈ wsX50, w ∈ wsX8_count := by decide +kernel
theorem lkX8_count_f10 : Cond.fieldLink RX8 10 "CoachCourt" "tape" "LCoachCourt$Tape;" ∈ wsX8_count := by decide +kernel
theorem iwX8_count_X6 : ∀ w ∈ wsX60, w ∈ wsX8_count := by decide +kernel
theorem lkX8_count_f67 : Cond.fieldLink RX8 67 "CoachCourt" "sheets" "[LCoachCourt$Sheet;" ∈ wsX8_count := by decide +kernel
theorem iwX8_count_X4 : ∀ w ∈ wsX40, w ∈ wsX8_count := by decide +kernel
set_option maxHeartbeats 4000000 in
set_option maxRecDepth 100000 in
theorem cX8_count_ok {l : Launch} {D : va_G} {t : Nat → ClassId} {κ : Nat → Nat} {a_cc : Nat → Nat} {y_cc_teller : Nat} {y_cc_trial : Nat} {y_cc_drive : Nat} {y_cc_seeker : Nat} {a_tp : Nat → Nat} {a_rd : Nat → Nat} {a_sn : Nat → Nat} {a_ia : Nat → Nat} {f_ia : Nat → Option Nat} {a_im0 : Nat → Nat} {y_im0_road : Nat} {y_im0_seen : Nat} {a_im1 : Nat → Nat} {y_im1_road : Nat} {y_im1_seen : Nat} {a_ha : Nat → Nat} {f_ha : Nat → Option Nat} {a_sh : Nat → Nat} {s_cc : S2} {s_tp : S2} {s_rd : S2} {s_sn : S2} {s_im0 : S2} {s_im1 : S2} {s_sh : S2} {p1 : Int32} {out : Int32} (hia0 : f_ia 0 = some (a_im0 0)) (hia1 : f_ia 1 = some (a_im1 0)) (hha0 : f_ha 0 = some (a_sh 0)) (hf : fX8_count s_cc s_tp s_rd s_sn s_im0 s_im1 s_sh p1 = some out) : Ct l D t κ yX8_count wsX8_count (rmL 1) [.ref (a_cc 0), .int p1] ((wCC t a_cc (a_tp 0) y_cc_teller (a_rd 0) y_cc_trial y_cc_drive y_cc_seeker (a_sn 0) (a_ia 0) (a_ha 0) s_cc) ++ (wTape t a_tp s_tp) ++ (wRoad t a_rd s_rd) ++ (wSight t a_sn s_sn) ++ (wIA t a_ia f_ia) ++ (wImage t a_im0 y_im0_road y_im0_seen s_im0) ++ (wImage t a_im1 y_im1_road y_im1_seen s_im1) ++ (wHA t a_ha f_ha) ++ (wSheet t a_sh s_sh)) (some (.int out)) ((wCC t a_cc (a_tp 0) y_cc_teller (a_rd 0) y_cc_trial y_cc_drive y_cc_seeker (a_sn 0) (a_ia 0) (a_ha 0) s_cc) ++ (wTape t a_tp s_tp) ++ (wRoad t a_rd s_rd) ++ (wSight t a_sn s_sn) ++ (wIA t a_ia f_ia) ++ (wImage t a_im0 y_im0_road y_im0_seen s_im0) ++ (wImage t a_im1 y_im1_road y_im1_seen s_im1) ++ (wHA t a_ha f_ha) ++ (wSheet t a_sh s_sh)) := by
  refine Ct.ofW (own := RX8) (cc := cX8_count) (maxL := 2) (ret := (some .int)) (by decide) rfl rfl (Nat.le_of_ble_eq_true rfl) ?_
  intro p e s m below meth c A C hP hD ls hl
  have hS : va_S A s.heap s.heap [] := va_S.rf
  obtain ⟨hx, hb, hr, hml, hown, hts, hC0, hlk, hA⟩ := id C
  have hK := hC0.1
  have hl : lv_has ls 2 [(0, .ref (a_cc 0)), (1, .int p1)] := hl
  unfold fX8_count at hf
  refine lv_iload_n hx hb dX8_count_0 rfl (lv_at hl 1 rfl) ?_
  by_cases c1 : p1 = 0
  · rw [if_pos c1] at hf
    refine lv_tableIn (tgt := 40) hx hb dX8_count_1 (by rw [c1]; decide) (by rw [c1]; decide) (by rw [c1]; rfl) (by decide) ?_
    refine lv_aload_n hx hb dX8_count_40 rfl (lv_at hl 0 rfl) ?_
    refine va_get (D := D) (ci := 8) (v := .ref (a_rd 0)) (C := RX8) (T := TX8) (N := 11) hx hb hts iwX8_count_X8 hown hK hP 0 rfl rfl 2 (by decide) (hts _ lkX8_count_f28) (fun _ h9 => h9) rfl dX8_count_41 ?_
    obtain ⟨v2, ev2, hf⟩ := bd_some hf
    refine gk_V C (As := []) (rest := []) (ci := 2) (q := (RX2, TX2, 12)) (q0 := 0) (wr := ((wCC t a_cc (a_tp 0) y_cc_teller (a_rd 0) y_cc_trial y_cc_drive y_cc_seeker (a_sn 0) (a_ia 0) (a_ha 0) s_cc) ++ (wTape t a_tp s_tp) ++ (wSight t a_sn s_sn) ++ (wIA t a_ia f_ia) ++ (wImage t a_im0 y_im0_road y_im0_seen s_im0) ++ (wImage t a_im1 y_im1_road y_im1_seen s_im1) ++ (wHA t a_ha f_ha) ++ (wSheet t a_sh s_sh))) (wf := ((wCC t a_cc (a_tp 0) y_cc_teller (a_rd 0) y_cc_trial y_cc_drive y_cc_seeker (a_sn 0) (a_ia 0) (a_ha 0) s_cc) ++ (wTape t a_tp s_tp) ++ (wRoad t a_rd s_rd) ++ (wSight t a_sn s_sn) ++ (wIA t a_ia f_ia) ++ (wImage t a_im0 y_im0_road y_im0_seen s_im0) ++ (wImage t a_im1 y_im1_road y_im1_seen s_im1) ++ (wHA t a_ha f_ha) ++ (wSheet t a_sh s_sh))) (cX2_muddyMiles_ok (l := l) (D := D) (t := t) (κ := κ) (a_rd := a_rd) ev2) gX8_count_X2_muddyMiles rfl ⟨rfl, rfl⟩ hdX2_muddyMiles ⟨Nat.le_of_ble_eq_true rfl, Nat.le_of_ble_eq_true rfl⟩ rfl rfl hP hD hS [4, 5, 6, 7, 8, 9, 10, 11, 12] [0, 1, 2, 3, 13, 14, 15, 16, 17, 18, 19, 20, 21] [0, 1, 2, 3, 13, 14, 15, 16, 17, 18, 19, 20, 21, 4, 5, 6, 7, 8, 9, 10, 11, 12] rfl rfl rfl rfl (by decide) rfl rfl rfl hl.1 (Nat.le_of_ble_eq_true rfl) dX8_count_44 (Nat.zero_le _) (Nat.zero_le _) (fun H locs hP hD hS => ?_)
    refine W.eq (g2 := F0 m 47 ls [.int v2]) rfl ?_
    obtain rfl := so_eq hf
    exact g_iret C hP hD hS dX8_count_47
  rw [if_neg c1] at hf
  by_cases c3 : p1 = 1
  · rw [if_pos c3] at hf
    refine lv_tableIn (tgt := 48) hx hb dX8_count_1 (by rw [c3]; decide) (by rw [c3]; decide) (by rw [c3]; rfl) (by decide) ?_
    refine lv_aload_n hx hb dX8_count_48 rfl (lv_at hl 0 rfl) ?_
    refine va_get (D := D) (ci := 8) (v := .ref (a_sn 0)) (C := RX8) (T := TX8) (N := 11) hx hb hts iwX8_count_X8 hown hK hP 0 rfl rfl 6 (by decide) (hts _ lkX8_count_f54) (fun _ h9 => h9) rfl dX8_count_49 ?_
    refine va_getN (D := D) (ci := 5) (v := .int (s_sn 0 0)) (C := RX5) (T := TX5) (N := 3) hx hb hts iwX8_count_X5 hown hK hP 13 rfl rfl 2 (by decide) (hC0.2.1.f 39 rfl) (fun _ h9 => h9) rfl dX8_count_52 ?_
    obtain rfl := so_eq hf
    exact g_iret C hP hD hS dX8_count_55
  rw [if_neg c3] at hf
  by_cases c4 : p1 = 2
  · rw [if_pos c4] at hf
    refine lv_tableIn (tgt := 56) hx hb dX8_count_1 (by rw [c4]; decide) (by rw [c4]; decide) (by rw [c4]; rfl) (by decide) ?_
    refine lv_aload_n hx hb dX8_count_56 rfl (lv_at hl 0 rfl) ?_
    obtain ⟨v5, ev5, hf⟩ := bd_some hf
    refine gk_V C (As := []) (rest := []) (ci := 8) (q := (RX8, TX8, 11)) (q0 := 0) (wr := ((wTape t a_tp s_tp) ++ (wRoad t a_rd s_rd) ++ (wSight t a_sn s_sn) ++ (wHA t a_ha f_ha) ++ (wSheet t a_sh s_sh))) (wf := ((wCC t a_cc (a_tp 0) y_cc_teller (a_rd 0) y_cc_trial y_cc_drive y_cc_seeker (a_sn 0) (a_ia 0) (a_ha 0) s_cc) ++ (wTape t a_tp s_tp) ++ (wRoad t a_rd s_rd) ++ (wSight t a_sn s_sn) ++ (wIA t a_ia f_ia) ++ (wImage t a_im0 y_im0_road y_im0_seen s_im0) ++ (wImage t a_im1 y_im1_road y_im1_seen s_im1) ++ (wHA t a_ha f_ha) ++ (wSheet t a_sh s_sh))) (cX8_imagesThere_ok (l := l) (D := D) (t := t) (κ := κ) (a_cc := a_cc) (a_ia := a_ia) (a_im0 := a_im0) (a_im1 := a_im1) (y_cc_tape := a_tp 0) (y_cc_teller := y_cc_teller) (y_cc_road := a_rd 0) (y_cc_trial := y_cc_trial) (y_cc_drive := y_cc_drive) (y_cc_seeker := y_cc_seeker) (y_cc_seen := a_sn 0) (y_cc_sheets := a_ha 0) (f_ia := f_ia) (y_im0_road := y_im0_road) (y_im0_seen := y_im0_seen) (y_im1_road := y_im1_road) (y_im1_seen := y_im1_seen) hia0 hia1 ev5) gX8_count_X8_imagesThere rfl ⟨rfl, rfl⟩ hdX8_imagesThere ⟨Nat.le_of_ble_eq_true rfl, Nat.le_of_ble_eq_true rfl⟩ rfl rfl hP hD hS [0, 1, 16, 17, 18] [2, 3, 4, 5, 6, 7, 8, 9, 10, 11, 12, 13, 14, 15, 19, 20, 21] [17, 18, 0, 1, 2, 3, 4, 5, 6, 7, 8, 9, 10, 11, 12, 13, 19, 20, 21, 14, 15, 16] rfl rfl rfl rfl (by decide) rfl rfl rfl hl.1 (Nat.le_of_ble_eq_true rfl) dX8_count_57 (Nat.zero_le _) (Nat.zero_le _) (fun H locs hP hD hS => ?_)
    refine W.eq (g2 := F0 m 60 ls [.int v5]) rfl ?_
    obtain rfl := so_eq hf
    exact g_iret C hP hD hS dX8_count_60
  rw [if_neg c4] at hf
  by_cases c6 : p1 = 3
  · rw [if_pos c6] at hf
    refine lv_tableIn (tgt := 61) hx hb dX8_count_1 (by rw [c6]; decide) (by rw [c6]; decide) (by rw [c6]; rfl) (by decide) ?_
    refine lv_aload_n hx hb dX8_count_61 rfl (lv_at hl 0 rfl) ?_
    refine va_get (D := D) (ci := 8) (v := .ref (a_tp 0)) (C := RX8) (T := TX8) (N := 11) hx hb hts iwX8_count_X8 hown hK hP 0 rfl rfl 0 (by decide) (hts _ lkX8_count_f10) (fun _ h9 => h9) rfl dX8_count_62 ?_
    refine va_getN (D := D) (ci := 6) (v := .int (s_tp 0 0)) (C := RX6) (T := TX6) (N := 7) hx hb hts iwX8_count_X6 hown hK hP 2 rfl rfl 1 (by decide) (hC0.2.1.f 0 rfl) (fun _ h9 => h9) rfl dX8_count_65 ?_
    obtain rfl := so_eq hf
    exact g_iret C hP hD hS dX8_count_68
  rw [if_neg c6] at hf
  by_cases c7 : p1 = 4
  · rw [if_pos c7] at hf
    refine lv_tableIn (tgt := 69) hx hb dX8_count_1 (by rw [c7]; decide) (by rw [c7]; decide) (by rw [c7]; rfl) (by decide) ?_
    refine lv_aload_n hx hb dX8_count_69 rfl (lv_at hl 0 rfl) ?_
    refine va_get (D := D) (ci := 8) (v := .ref (a_ha 0)) (C := RX8) (T := TX8) (N := 11) hx hb hts iwX8_count_X8 hown hK hP 0 rfl rfl 8 (by decide) (hts _ lkX8_count_f67) (fun _ h9 => h9) rfl dX8_count_70 ?_
    refine lv_iconst (v := 0) hx hb dX8_count_73 (by decide) ?_
    refine va_aldq hx hb hK hP 19 4 rfl rfl (ixb_in (by decide)) dX8_count_74 ?_
    refine W.eq (g2 := F0 m 75 ls [.ref (a_sh 0)]) (by rw [show f_ha (Int32.toNatClampNeg (0 : Int32)) = some (a_sh 0) from hha0]; rfl) ?_
    refine va_getN (D := D) (ci := 4) (v := .int (s_sh 0 0)) (C := RX4) (T := TX4) (N := 4) hx hb hts iwX8_count_X4 hown hK hP 20 rfl rfl 1 (by decide) (hC0.2.1.f 44 rfl) (fun _ h9 => h9) rfl dX8_count_75 ?_
    refine lv_if_eq (tgt := 93) hx hb dX8_count_78 (by decide) (fun c8 => ?_) (fun c8 => ?_)
    · rw [if_pos c8] at hf
      refine lv_bipush (v := -4) hx hb dX8_count_93 (by decide) ?_
      obtain rfl := so_eq hf
      exact g_iret C hP hD hS dX8_count_95
    · rw [if_neg c8] at hf
      refine lv_aload_n hx hb dX8_count_81 rfl (lv_at hl 0 rfl) ?_
      refine va_get (D := D) (ci := 8) (v := .ref (a_ha 0)) (C := RX8) (T := TX8) (N := 11) hx hb hts iwX8_count_X8 hown hK hP 0 rfl rfl 8 (by decide) (hts _ lkX8_count_f67) (fun _ h9 => h9) rfl dX8_count_82 ?_
      refine lv_iconst (v := 0) hx hb dX8_count_85 (by decide) ?_
      refine va_aldq hx hb hK hP 19 4 rfl rfl (ixb_in (by decide)) dX8_count_86 ?_
      refine W.eq (g2 := F0 m 87 ls [.ref (a_sh 0)]) (by rw [show f_ha (Int32.toNatClampNeg (0 : Int32)) = some (a_sh 0) from hha0]; rfl) ?_
      refine va_getN (D := D) (ci := 4) (v := .int (s_sh 0 2)) (C := RX4) (T := TX4) (N := 4) hx hb hts iwX8_count_X4 hown hK hP 20 rfl rfl 3 (by decide) (hC0.2.1.f 46 rfl) (fun _ h9 => h9) rfl dX8_count_87 ?_
      refine lv_goto (tgt := 95) hx hb dX8_count_90 (by decide) ?_
      obtain rfl := so_eq hf
      exact g_iret C hP hD hS dX8_count_95
  rw [if_neg c7] at hf
  by_cases c9 : p1 = 5
  · rw [if_pos c9] at hf
    refine lv_tableIn (tgt := 96) hx hb dX8_count_1 (by rw [c9]; decide) (by rw [c9]; decide) (by rw [c9]; rfl) (by decide) ?_
    refine lv_aload_n hx hb dX8_count_96 rfl (lv_at hl 0 rfl) ?_
    refine va_get (D := D) (ci := 8) (v := .ref (a_rd 0)) (C := RX8) (T := TX8) (N := 11) hx hb hts iwX8_count_X8 hown hK hP 0 rfl rfl 2 (by decide) (hts _ lkX8_count_f28) (fun _ h9 => h9) rfl dX8_count_97 ?_
    obtain ⟨v10, ev10, hf⟩ := bd_some hf
    refine gk_V C (As := []) (rest := []) (ci := 2) (q := (RX2, TX2, 12)) (q0 := 0) (wr := ((wCC t a_cc (a_tp 0) y_cc_teller (a_rd 0) y_cc_trial y_cc_drive y_cc_seeker (a_sn 0) (a_ia 0) (a_ha 0) s_cc) ++ (wTape t a_tp s_tp) ++ (wSight t a_sn s_sn) ++ (wIA t a_ia f_ia) ++ (wImage t a_im0 y_im0_road y_im0_seen s_im0) ++ (wImage t a_im1 y_im1_road y_im1_seen s_im1) ++ (wHA t a_ha f_ha) ++ (wSheet t a_sh s_sh))) (wf := ((wCC t a_cc (a_tp 0) y_cc_teller (a_rd 0) y_cc_trial y_cc_drive y_cc_seeker (a_sn 0) (a_ia 0) (a_ha 0) s_cc) ++ (wTape t a_tp s_tp) ++ (wRoad t a_rd s_rd) ++ (wSight t a_sn s_sn) ++ (wIA t a_ia f_ia) ++ (wImage t a_im0 y_im0_road y_im0_seen s_im0) ++ (wImage t a_im1 y_im1_road y_im1_seen s_im1) ++ (wHA t a_ha f_ha) ++ (wSheet t a_sh s_sh))) (cX2_windOfAll_ok (l := l) (D := D) (t := t) (κ := κ) (a_rd := a_rd) ev10) gX8_count_X2_windOfAll rfl ⟨rfl, rfl⟩ hdX2_windOfAll ⟨Nat.le_of_ble_eq_true rfl, Nat.le_of_ble_eq_true rfl⟩ rfl rfl hP hD hS [4, 5, 6, 7, 8, 9, 10, 11, 12] [0, 1, 2, 3, 13, 14, 15, 16, 17, 18, 19, 20, 21] [0, 1, 2, 3, 13, 14, 15, 16, 17, 18, 19, 20, 21, 4, 5, 6, 7, 8, 9, 10, 11, 12] rfl rfl rfl rfl (by decide) rfl rfl rfl hl.1 (Nat.le_of_ble_eq_true rfl) dX8_count_100 (Nat.zero_le _) (Nat.zero_le _) (fun H locs hP hD hS => ?_)
    refine W.eq (g2 := F0 m 103 ls [.int v10]) rfl ?_
    obtain rfl := so_eq hf
    exact g_iret C hP hD hS dX8_count_103
  rw [if_neg c9] at hf
  refine lv_tableOut (tgt := 104) hx hb dX8_count_1 (by have nc1 := lv_neT c1 (a := 0) (by decide); have nc3 := lv_neT c3 (a := 1) (by decide); have nc4 := lv_neT c4 (a := 2) (by decide); have nc6 := lv_neT c6 (a := 3) (by decide); have nc7 := lv_neT c7 (a := 4) (by decide); have nc9 := lv_neT c9 (a := 5) (by decide); have z := Int32.le_toInt p1; have z2 := Int32.toInt_lt p1; omega) (by decide) ?_
  refine lv_iconst (v := -1) hx hb dX8_count_104 (by decide) ?_
  obtain rfl := so_eq hf
  exact g_iret C hP hD hS dX8_count_105
