/-! CoachCourtModel.in -/
def fX9_in (p1 : Int64) (p2 : Int64) (p3 : Int64) : Option (Int32) :=
  if (lg_cmp p1 p2) < (0 : Int32) then
    (some (0 : Int32))
  else
    (if (0 : Int32) < (lg_cmp p1 p3) then
      (some (0 : Int32))
    else
      (some (1 : Int32)))
theorem hdX9_in : yX9_in.cls ≠ "java/lang/invoke/MethodHandle" ∧ yX9_in.cls ≠ "java/lang/invoke/VarHandle" ∧ (parseMethodDescriptor yX9_in.desc).map (fun d => d.parameters.length) = some 3 := by decide +kernel
set_option maxHeartbeats 4000000 in
set_option maxRecDepth 100000 in
theorem cX9_in_ok {l : Launch} {D : va_G} {t : Nat → ClassId} {κ : Nat → Nat} {p1 : Int64} {p2 : Int64} {p3 : Int64} {out : Int32} (hf : fX9_in p1 p2 p3 = some out) : Ct l D t κ yX9_in wsX9_in (rmL 0) [.long p1, .long p2, .long p3] ([] : va_W) (some (.int out)) ([] : va_W) := by
  refine Ct.ofW (own := RX9) (cc := cX9_in) (maxL := 6) (ret := (some .boolean)) (by decide) rfl rfl (Nat.le_of_ble_eq_true rfl) ?_
  intro p e s m below meth c A C hP hD ls hl
  have hS : va_S A s.heap s.heap [] := va_S.rf
  obtain ⟨hx, hb, hr, hml, hown, hts, hC0, hlk, hA⟩ := id C
  have hK := hC0.1
  have hl : lv_has ls 6 [(0, .long p1), (2, .long p2), (4, .long p3)] := hl
  unfold fX9_in at hf
  refine lv_lload_n hx hb dX9_in_0 rfl (lv_at hl 0 rfl) ?_
  refine lv_lload_n hx hb dX9_in_1 rfl (lv_at hl 1 rfl) ?_
  refine W.lcmp hx hb dX9_in_2 ?_
  refine lv_if_lt (tgt := 17) hx hb dX9_in_3 (by decide) (fun c1 => ?_) (fun c1 => ?_)
  · rw [if_pos c1] at hf
    refine lv_iconst (v := 0) hx hb dX9_in_17 (by decide) ?_
    obtain rfl := so_eq hf
    exact g_zret (v := 0) C rfl hP hD hS dX9_in_18
  · rw [if_neg c1] at hf
    refine lv_lload_n hx hb dX9_in_6 rfl (lv_at hl 0 rfl) ?_
    refine lv_lload hx hb dX9_in_7 (lv_at hl 2 rfl) ?_
    refine W.lcmp hx hb dX9_in_9 ?_
    refine lv_if_gt (tgt := 17) hx hb dX9_in_10 (by decide) (fun c2 => ?_) (fun c2 => ?_)
    · rw [if_pos c2] at hf
      refine lv_iconst (v := 0) hx hb dX9_in_17 (by decide) ?_
      obtain rfl := so_eq hf
      exact g_zret (v := 0) C rfl hP hD hS dX9_in_18
    · rw [if_neg c2] at hf
      refine lv_iconst (v := 1) hx hb dX9_in_13 (by decide) ?_
      refine lv_goto (tgt := 18) hx hb dX9_in_14 (by decide) ?_
      obtain rfl := so_eq hf
      exact g_zret (v := 1) C rfl hP hD hS dX9_in_18
/-! CoachCourtModel.flag -/
def fX9_flag (p1 : Int32) : Option (Int32) :=
  if p1 = (0 : Int32) then
    (some (0 : Int32))
  else
    (some (1 : Int32))
theorem hdX9_flag : yX9_flag.cls ≠ "java/lang/invoke/MethodHandle" ∧ yX9_flag.cls ≠ "java/lang/invoke/VarHandle" ∧ (parseMethodDescriptor yX9_flag.desc).map (fun d => d.parameters.length) = some 1 := by decide +kernel
set_option maxHeartbeats 4000000 in
set_option maxRecDepth 100000 in
theorem cX9_flag_ok {l : Launch} {D : va_G} {t : Nat → ClassId} {κ : Nat → Nat} {p1 : Int32} {out : Int32} (hf : fX9_flag p1 = some out) : Ct l D t κ yX9_flag wsX9_flag (rmL 0) [.int p1] ([] : va_W) (some (.int out)) ([] : va_W) := by
  refine Ct.ofW (own := RX9) (cc := cX9_flag) (maxL := 1) (ret := (some .int)) (by decide) rfl rfl (Nat.le_of_ble_eq_true rfl) ?_
  intro p e s m below meth c A C hP hD ls hl
  have hS : va_S A s.heap s.heap [] := va_S.rf
  obtain ⟨hx, hb, hr, hml, hown, hts, hC0, hlk, hA⟩ := id C
  have hK := hC0.1
  have hl : lv_has ls 1 [(0, .int p1)] := hl
  unfold fX9_flag at hf
  refine lv_iload_n hx hb dX9_flag_0 rfl (lv_at hl 0 rfl) ?_
  refine lv_if_eq (tgt := 8) hx hb dX9_flag_1 (by decide) (fun c1 => ?_) (fun c1 => ?_)
  · rw [if_pos c1] at hf
    refine lv_iconst (v := 0) hx hb dX9_flag_8 (by decide) ?_
    obtain rfl := so_eq hf
    exact g_iret C hP hD hS dX9_flag_9
  · rw [if_neg c1] at hf
    refine lv_iconst (v := 1) hx hb dX9_flag_4 (by decide) ?_
    refine lv_goto (tgt := 9) hx hb dX9_flag_5 (by decide) ?_
    obtain rfl := so_eq hf
    exact g_iret C hP hD hS dX9_flag_9
/-! CoachCourtModel.firstDraft -/
def fX9_firstDraft_b2 (s_mo : S2) (x1 : Int32) : Option ((Int32 × S2) ⊕ (Int32 × S2)) :=
  if (59 : Int32) ≤ x1 then
    (some (.inr (x1, s_mo)))
  else
    (gd (ixb x1 59) <|
    nm (sE s_mo 4 (Int32.toNatClampNeg x1) (0 : Int32)) fun s3 =>
    nm (x1 + (1 : Int32)) fun y4 =>
    some (.inl (y4, s3)))
def fX9_firstDraft (s_mo : S2) : Option (S2) :=
  (wh (fun (c : Int32 × S2) => fX9_firstDraft_b2 c.2 c.1) 5000 ((0 : Int32), s_mo)).bind fun x5 =>
  nm (sE x5.2 4 (Int32.toNatClampNeg (44 : Int32)) (4 : Int32)) fun s6 =>
  nm (sE s6 4 (Int32.toNatClampNeg (45 : Int32)) (99 : Int32)) fun s7 =>
  nm (sE s7 0 2 (0 : Int32)) fun s8 =>
  nm (sE s8 0 3 (0 : Int32)) fun s9 =>
  nm (sE s9 0 4 (0 : Int32)) fun s10 =>
  nm (sE s10 0 5 (0 : Int32)) fun s11 =>
  nm (sE s11 0 6 (-4 : Int32)) fun s12 =>
  some s12
theorem hdX9_firstDraft : yX9_firstDraft.cls = RX9 ∧ yX9_firstDraft.cls ≠ "java/lang/invoke/MethodHandle" ∧ yX9_firstDraft.cls ≠ "java/lang/invoke/VarHandle" ∧ (parseMethodDescriptor yX9_firstDraft.desc).map (fun d => d.parameters.length) = some 0 := by decide +kernel
theorem iwX9_firstDraft_X9 : ∀ w ∈ wsX90, w ∈ wsX9_firstDraft := by decide +kernel
theorem lkX9_firstDraft_f20 : Cond.fieldLink RX9 20 "CoachCourtModel" "draft" "[I" ∈ wsX9_firstDraft := by decide +kernel
theorem lkX9_firstDraft_f65 : Cond.fieldLink RX9 65 "CoachCourtModel" "dMiles" "I" ∈ wsX9_firstDraft := by decide +kernel
theorem lkX9_firstDraft_f69 : Cond.fieldLink RX9 69 "CoachCourtModel" "dParties" "I" ∈ wsX9_firstDraft := by decide +kernel
theorem lkX9_firstDraft_f72 : Cond.fieldLink RX9 72 "CoachCourtModel" "toldMud" "I" ∈ wsX9_firstDraft := by decide +kernel
theorem lkX9_firstDraft_f75 : Cond.fieldLink RX9 75 "CoachCourtModel" "toldLines" "I" ∈ wsX9_firstDraft := by decide +kernel
theorem lkX9_firstDraft_f78 : Cond.fieldLink RX9 78 "CoachCourtModel" "highest" "I" ∈ wsX9_firstDraft := by decide +kernel
set_option maxHeartbeats 4000000 in
set_option maxRecDepth 100000 in
theorem wX9_firstDraft_l2 {p : Program} {l : Launch} {e : Env} {s : State} {m : MethodId} {args : Array Value} {below : List Frame} {meth : Method} {c : Code} {D : va_G} {t : Nat → ClassId} {κ : Nat → Nat} {A : Nat → Prop} {a_mo : Nat → Nat} {lam : S6} {rv : Option Value} {w1 : va_W} (C : Cxt p s m args meth c cX9_firstDraft 2 RX9 wsX9_firstDraft none D t κ A) : ∀ (n : Nat) (x1 : Int32) (s_mo : S2) (x : Int32 × S2), wh (fun (c : Int32 × S2) => fX9_firstDraft_b2 c.2 c.1) n (x1, s_mo) = some x → (∀ (z : Int32 × S2), x = z → ∀ (H : Heap) (locs : List Loc) (ls : Array Slot), va_P D vwCl (wModel t a_mo z.2 lam) H → va_D A (wModel t a_mo z.2 lam) → va_S A s.heap H locs → lv_has ls 2 [(0, .ref (a_mo 0))] → W p l e (rmL 0) s m args below meth c H locs 0 0 (MQ below (gQ D rv w1 A) args s 0 0 A) (F0 m 21 ls [])) → ∀ (H : Heap) (locs : List Loc) (ls : Array Slot), va_P D vwCl (wModel t a_mo s_mo lam) H → va_D A (wModel t a_mo s_mo lam) → va_S A s.heap H locs → lv_has ls 2 [(0, .ref (a_mo 0)), (1, .int x1)] → W p l e (rmL 0) s m args below meth c H locs 0 0 (MQ below (gQ D rv w1 A) args s 0 0 A) (F0 m 2 ls []) := by
  obtain ⟨hx, hb, hr, hml, hown, hts, hC0, hlk, hA⟩ := id C
  have hK := hC0.1
  intro n
  induction n with
  | zero =>
    intro x1 s_mo x h
    exact (wh_0 h).elim
  | succ n ih =>
    intro x1 s_mo x h HX H locs ls hP hD hS hl
    obtain ⟨v, hf, hB, hX⟩ := wh_step h
    have hf : fX9_firstDraft_b2 s_mo x1 = some v := hf
    have HB : ∀ (z : Int32 × S2), v = .inl z → ∀ (H : Heap) (locs : List Loc) (ls : Array Slot), va_P D vwCl (wModel t a_mo z.2 lam) H → va_D A (wModel t a_mo z.2 lam) → va_S A s.heap H locs → lv_has ls 2 [(0, .ref (a_mo 0)), (1, .int z.1)] → W p l e (rmL 0) s m args below meth c H locs 0 0 (MQ below (gQ D rv w1 A) args s 0 0 A) (F0 m 2 ls []) := fun z hz H locs ls hP hD hS hl => ih z.1 z.2 x (hB z hz) HX H locs ls hP hD hS hl
    have HX : ∀ (z : Int32 × S2), v = .inr z → ∀ (H : Heap) (locs : List Loc) (ls : Array Slot), va_P D vwCl (wModel t a_mo z.2 lam) H → va_D A (wModel t a_mo z.2 lam) → va_S A s.heap H locs → lv_has ls 2 [(0, .ref (a_mo 0))] → W p l e (rmL 0) s m args below meth c H locs 0 0 (MQ below (gQ D rv w1 A) args s 0 0 A) (F0 m 21 ls []) := fun z hz => HX z (hX _ hz).symm
    unfold fX9_firstDraft_b2 at hf
    refine lv_iload_n hx hb dX9_firstDraft_2 rfl (lv_at hl 1 rfl) ?_
    refine lv_bipush (v := 59) hx hb dX9_firstDraft_3 (by decide) ?_
    refine lv_icmp_ge (tgt := 21) hx hb dX9_firstDraft_5 (by decide) (fun c1 => ?_) (fun c1 => ?_)
    · rw [if_pos c1] at hf
      obtain rfl := so_eq hf
      exact HX _ rfl _ _ _ hP hD hS (lv_sub hl [0] rfl)
    · rw [if_neg c1] at hf
      refine lv_aload_n hx hb dX9_firstDraft_8 rfl (lv_at hl 0 rfl) ?_
      refine va_get (D := D) (ci := 9) (v := .ref (a_mo 4)) (C := RX9) (T := TX9) (N := 37) hx hb hts iwX9_firstDraft_X9 hown hK hP 0 rfl rfl 5 (by decide) (hts _ lkX9_firstDraft_f20) (fun _ h9 => h9) rfl dX9_firstDraft_9 ?_
      refine lv_iload_n hx hb dX9_firstDraft_12 rfl (lv_at hl 1 rfl) ?_
      refine lv_iconst (v := 0) hx hb dX9_firstDraft_13 (by decide) ?_
      obtain ⟨b2, hf⟩ := gd_some hf
      obtain ⟨s3, hs3, hf⟩ := nm_ex hf
      refine va_iast hx hb hK hP hD hS 4 0 rfl rfl (ixb_in b2) dX9_firstDraft_14 (fun H locs hP hD hS => ?_)
      have hP : va_P D vwCl (wModel t a_mo s3 lam) H := by rw [hs3]; exact hP
      have hD : va_D A (wModel t a_mo s3 lam) := by rw [hs3]; exact hD
      obtain ⟨y4, hy4, hf⟩ := nm_ex hf
      refine lv_iinc (v := y4) (lv' := [(1, .int y4), (0, .ref (a_mo 0))]) hx hb dX9_firstDraft_15 hl (k := 1) rfl (by rw [hy4]; rfl) (by decide) rfl (fun ls hl => ?_)
      refine lv_goto (tgt := 2) hx hb dX9_firstDraft_18 (by decide) ?_
      obtain rfl := so_eq hf
      exact HB _ rfl _ _ _ hP hD hS (lv_sub hl [1, 0] rfl)
set_option maxHeartbeats 4000000 in
set_option maxRecDepth 100000 in
theorem cX9_firstDraft_ok {l : Launch} {D : va_G} {t : Nat → ClassId} {κ : Nat → Nat} {a_mo : Nat → Nat} {s_mo : S2} {lam : S6} {out : S2} (hf : fX9_firstDraft s_mo = some out) : Ct l D t κ yX9_firstDraft wsX9_firstDraft (rmL 0) [.ref (a_mo 0)] (wModel t a_mo s_mo lam) none (wModel t a_mo out lam) := by
  refine Ct.ofW (own := RX9) (cc := cX9_firstDraft) (maxL := 2) (ret := none) (by decide) rfl rfl (Nat.le_of_ble_eq_true rfl) ?_
  intro p e s m below meth c A C hP hD ls hl
  have hS : va_S A s.heap s.heap [] := va_S.rf
  obtain ⟨hx, hb, hr, hml, hown, hts, hC0, hlk, hA⟩ := id C
  have hK := hC0.1
  have hl : lv_has ls 2 [(0, .ref (a_mo 0))] := hl
  unfold fX9_firstDraft at hf
  refine lv_iconst (v := 0) hx hb dX9_firstDraft_0 (by decide) ?_
  refine lv_istore_n (lv' := [(1, .int (0 : Int32)), (0, .ref (a_mo 0))]) hx hb dX9_firstDraft_1 rfl hl (by decide) rfl (fun ls hl => ?_)
  obtain ⟨x5, ex5, hf⟩ := bd_some hf
  refine wX9_firstDraft_l2 C 5000 (0 : Int32) s_mo x5 ex5 (fun c9 h9 H locs ls hP hD hS hl => ?_) _ _ _ hP hD hS (lv_sub hl [1, 0] rfl)
  subst h9
  refine lv_aload_n hx hb dX9_firstDraft_21 rfl (lv_at hl 0 rfl) ?_
  refine va_get (D := D) (ci := 9) (v := .ref (a_mo 4)) (C := RX9) (T := TX9) (N := 37) hx hb hts iwX9_firstDraft_X9 hown hK hP 0 rfl rfl 5 (by decide) (hts _ lkX9_firstDraft_f20) (fun _ h9 => h9) rfl dX9_firstDraft_22 ?_
  refine lv_bipush (v := 44) hx hb dX9_firstDraft_25 (by decide) ?_
  refine lv_iconst (v := 4) hx hb dX9_firstDraft_27 (by decide) ?_
  obtain ⟨s6, hs6, hf⟩ := nm_ex hf
  refine va_iast hx hb hK hP hD hS 4 0 rfl rfl (ixb_in (by decide)) dX9_firstDraft_28 (fun H locs hP hD hS => ?_)
  have hP : va_P D vwCl (wModel t a_mo s6 lam) H := by rw [hs6]; exact hP
  have hD : va_D A (wModel t a_mo s6 lam) := by rw [hs6]; exact hD
  refine lv_aload_n hx hb dX9_firstDraft_29 rfl (lv_at hl 0 rfl) ?_
  refine va_get (D := D) (ci := 9) (v := .ref (a_mo 4)) (C := RX9) (T := TX9) (N := 37) hx hb hts iwX9_firstDraft_X9 hown hK hP 0 rfl rfl 5 (by decide) (hts _ lkX9_firstDraft_f20) (fun _ h9 => h9) rfl dX9_firstDraft_30 ?_
  refine lv_bipush (v := 45) hx hb dX9_firstDraft_33 (by decide) ?_
  refine lv_bipush (v := 99) hx hb dX9_firstDraft_35 (by decide) ?_
  obtain ⟨s7, hs7, hf⟩ := nm_ex hf
  refine va_iast hx hb hK hP hD hS 4 0 rfl rfl (ixb_in (by decide)) dX9_firstDraft_37 (fun H locs hP hD hS => ?_)
  have hP : va_P D vwCl (wModel t a_mo s7 lam) H := by rw [hs7]; exact hP
  have hD : va_D A (wModel t a_mo s7 lam) := by rw [hs7]; exact hD
  refine lv_aload_n hx hb dX9_firstDraft_38 rfl (lv_at hl 0 rfl) ?_
  refine lv_iconst (v := 0) hx hb dX9_firstDraft_39 (by decide) ?_
  obtain ⟨s8, hs8, hf⟩ := nm_ex hf
  refine va_put (D := D) (ci := 9) (v := .int (0 : Int32)) (ty := .int) (C := RX9) (T := TX9) (N := 37) hx hb hts iwX9_firstDraft_X9 tyX9 tyX9_ok nmX9 hown hK hP hD hS 0 rfl rfl 6 (by decide) (hts _ lkX9_firstDraft_f65) (fun _ h9 => h9) rfl (by decide +kernel) rfl rfl (Nat.le_of_ble_eq_true rfl) dX9_firstDraft_40 (fun H locs hP hD hS => ?_)
  have hP : va_P D vwCl (wModel t a_mo s8 lam) H := by rw [hs8]; exact hP
  have hD : va_D A (wModel t a_mo s8 lam) := by rw [hs8]; exact hD
  refine lv_aload_n hx hb dX9_firstDraft_43 rfl (lv_at hl 0 rfl) ?_
  refine lv_iconst (v := 0) hx hb dX9_firstDraft_44 (by decide) ?_
  obtain ⟨s9, hs9, hf⟩ := nm_ex hf
  refine va_put (D := D) (ci := 9) (v := .int (0 : Int32)) (ty := .int) (C := RX9) (T := TX9) (N := 37) hx hb hts iwX9_firstDraft_X9 tyX9 tyX9_ok nmX9 hown hK hP hD hS 0 rfl rfl 7 (by decide) (hts _ lkX9_firstDraft_f69) (fun _ h9 => h9) rfl (by decide +kernel) rfl rfl (Nat.le_of_ble_eq_true rfl) dX9_firstDraft_45 (fun H locs hP hD hS => ?_)
  have hP : va_P D vwCl (wModel t a_mo s9 lam) H := by rw [hs9]; exact hP
  have hD : va_D A (wModel t a_mo s9 lam) := by rw [hs9]; exact hD
  refine lv_aload_n hx hb dX9_firstDraft_48 rfl (lv_at hl 0 rfl) ?_
  refine lv_iconst (v := 0) hx hb dX9_firstDraft_49 (by decide) ?_
  obtain ⟨s10, hs10, hf⟩ := nm_ex hf
  refine va_put (D := D) (ci := 9) (v := .int (0 : Int32)) (ty := .int) (C := RX9) (T := TX9) (N := 37) hx hb hts iwX9_firstDraft_X9 tyX9 tyX9_ok nmX9 hown hK hP hD hS 0 rfl rfl 8 (by decide) (hts _ lkX9_firstDraft_f72) (fun _ h9 => h9) rfl (by decide +kernel) rfl rfl (Nat.le_of_ble_eq_true rfl) dX9_firstDraft_50 (fun H locs hP hD hS => ?_)
  have hP : va_P D vwCl (wModel t a_mo s10 lam) H := by rw [hs10]; exact hP
  have hD : va_D A (wModel t a_mo s10 lam) := by rw [hs10]; exact hD
  refine lv_aload_n hx hb dX9_firstDraft_53 rfl (lv_at hl 0 rfl) ?_
  refine lv_iconst (v := 0) hx hb dX9_firstDraft_54 (by decide) ?_
  obtain ⟨s11, hs11, hf⟩ := nm_ex hf
  refine va_put (D := D) (ci := 9) (v := .int (0 : Int32)) (ty := .int) (C := RX9) (T := TX9) (N := 37) hx hb hts iwX9_firstDraft_X9 tyX9 tyX9_ok nmX9 hown hK hP hD hS 0 rfl rfl 9 (by decide) (hts _ lkX9_firstDraft_f75) (fun _ h9 => h9) rfl (by decide +kernel) rfl rfl (Nat.le_of_ble_eq_true rfl) dX9_firstDraft_55 (fun H locs hP hD hS => ?_)
  have hP : va_P D vwCl (wModel t a_mo s11 lam) H := by rw [hs11]; exact hP
  have hD : va_D A (wModel t a_mo s11 lam) := by rw [hs11]; exact hD
  refine lv_aload_n hx hb dX9_firstDraft_58 rfl (lv_at hl 0 rfl) ?_
  refine lv_bipush (v := -4) hx hb dX9_firstDraft_59 (by decide) ?_
  obtain ⟨s12, hs12, hf⟩ := nm_ex hf
  refine va_put (D := D) (ci := 9) (v := .int (-4 : Int32)) (ty := .int) (C := RX9) (T := TX9) (N := 37) hx hb hts iwX9_firstDraft_X9 tyX9 tyX9_ok nmX9 hown hK hP hD hS 0 rfl rfl 10 (by decide) (hts _ lkX9_firstDraft_f78) (fun _ h9 => h9) rfl (by decide +kernel) rfl rfl (Nat.le_of_ble_eq_true rfl) dX9_firstDraft_61 (fun H locs hP hD hS => ?_)
  have hP : va_P D vwCl (wModel t a_mo s12 lam) H := by rw [hs12]; exact hP
  have hD : va_D A (wModel t a_mo s12 lam) := by rw [hs12]; exact hD
  obtain rfl := so_eq hf
  exact g_vret C hP hD hS dX9_firstDraft_64
/-! CoachCourtModel.keepDraft -/
def fX9_keepDraft_b2 (s_mo : S2) (x1 : Int32) : Option ((Int32 × S2) ⊕ (Int32 × S2)) :=
  if (59 : Int32) ≤ x1 then
    (some (.inr (x1, s_mo)))
  else
    (gd (ixb x1 59) <|
    gd (ixb x1 177) <|
    nm (sE s_mo 1 (Int32.toNatClampNeg x1) (s_mo 4 (Int32.toNatClampNeg x1))) fun s4 =>
    nm (x1 + (1 : Int32)) fun y5 =>
    some (.inl (y5, s4)))
def fX9_keepDraft_b44 (s_mo : S2) (x1 : Int32) : Option ((Int32 × S2) ⊕ (Int32 × S2)) :=
  if (s_mo 0 0) ≤ x1 then
    (some (.inr (x1, s_mo)))
  else
    (gd (ixb (((3 : Int32) * x1) + (2 : Int32)) 177) <|
    nm (sE s_mo 1 (Int32.toNatClampNeg (((3 : Int32) * x1) + (2 : Int32))) (((s_mo 0 4) >>> (x1 &&& 31)) &&& (1 : Int32))) fun s11 =>
    nm (x1 + (1 : Int32)) fun y12 =>
    some (.inl (y12, s11)))
def fX9_keepDraft (s_mo : S2) : Option (S2) :=
  (wh (fun (c : Int32 × S2) => fX9_keepDraft_b2 c.2 c.1) 5000 ((0 : Int32), s_mo)).bind fun x6 =>
  nm (sE x6.2 0 0 (x6.2 0 2)) fun s7 =>
  nm (sE s7 0 1 (s7 0 3)) fun s8 =>
  (wh (fun (c : Int32 × S2) => fX9_keepDraft_b44 c.2 c.1) 5000 ((0 : Int32), s8)).bind fun x13 =>
  nm (sE x13.2 3 (Int32.toNatClampNeg (0 : Int32)) (vp_nar .boolean (0 : Int32))) fun s14 =>
  nm (sE s14 3 (Int32.toNatClampNeg (1 : Int32)) (vp_nar .boolean (0 : Int32))) fun s15 =>
  some s15
theorem hdX9_keepDraft : yX9_keepDraft.cls = RX9 ∧ yX9_keepDraft.cls ≠ "java/lang/invoke/MethodHandle" ∧ yX9_keepDraft.cls ≠ "java/lang/invoke/VarHandle" ∧ (parseMethodDescriptor yX9_keepDraft.desc).map (fun d => d.parameters.length) = some 0 := by decide +kernel
theorem iwX9_keepDraft_X9 : ∀ w ∈ wsX90, w ∈ wsX9_keepDraft := by decide +kernel
theorem lkX9_keepDraft_f7 : Cond.fieldLink RX9 7 "CoachCourtModel" "st" "[I" ∈ wsX9_keepDraft := by decide +kernel
theorem lkX9_keepDraft_f20 : Cond.fieldLink RX9 20 "CoachCourtModel" "draft" "[I" ∈ wsX9_keepDraft := by decide +kernel
theorem lkX9_keepDraft_f65 : Cond.fieldLink RX9 65 "CoachCourtModel" "dMiles" "I" ∈ wsX9_keepDraft := by decide +kernel
theorem lkX9_keepDraft_f81 : Cond.fieldLink RX9 81 "CoachCourtModel" "miles" "I" ∈ wsX9_keepDraft := by decide +kernel
theorem lkX9_keepDraft_f69 : Cond.fieldLink RX9 69 "CoachCourtModel" "dParties" "I" ∈ wsX9_keepDraft := by decide +kernel
theorem lkX9_keepDraft_f84 : Cond.fieldLink RX9 84 "CoachCourtModel" "parties" "I" ∈ wsX9_keepDraft := by decide +kernel
theorem lkX9_keepDraft_f72 : Cond.fieldLink RX9 72 "CoachCourtModel" "toldMud" "I" ∈ wsX9_keepDraft := by decide +kernel
theorem lkX9_keepDraft_f16 : Cond.fieldLink RX9 16 "CoachCourtModel" "isKept" "[Z" ∈ wsX9_keepDraft := by decide +kernel
set_option maxHeartbeats 4000000 in
set_option maxRecDepth 100000 in
theorem wX9_keepDraft_l2 {p : Program} {l : Launch} {e : Env} {s : State} {m : MethodId} {args : Array Value} {below : List Frame} {meth : Method} {c : Code} {D : va_G} {t : Nat → ClassId} {κ : Nat → Nat} {A : Nat → Prop} {a_mo : Nat → Nat} {lam : S6} {rv : Option Value} {w1 : va_W} (C : Cxt p s m args meth c cX9_keepDraft 2 RX9 wsX9_keepDraft none D t κ A) : ∀ (n : Nat) (x1 : Int32) (s_mo : S2) (x : Int32 × S2), wh (fun (c : Int32 × S2) => fX9_keepDraft_b2 c.2 c.1) n (x1, s_mo) = some x → (∀ (z : Int32 × S2), x = z → ∀ (H : Heap) (locs : List Loc) (ls : Array Slot), va_P D vwCl (wModel t a_mo z.2 lam) H → va_D A (wModel t a_mo z.2 lam) → va_S A s.heap H locs → lv_has ls 2 [(0, .ref (a_mo 0))] → W p l e (rmL 0) s m args below meth c H locs 0 0 (MQ below (gQ D rv w1 A) args s 0 0 A) (F0 m 26 ls [])) → ∀ (H : Heap) (locs : List Loc) (ls : Array Slot), va_P D vwCl (wModel t a_mo s_mo lam) H → va_D A (wModel t a_mo s_mo lam) → va_S A s.heap H locs → lv_has ls 2 [(0, .ref (a_mo 0)), (1, .int x1)] → W p l e (rmL 0) s m args below meth c H locs 0 0 (MQ below (gQ D rv w1 A) args s 0 0 A) (F0 m 2 ls []) := by
  obtain ⟨hx, hb, hr, hml, hown, hts, hC0, hlk, hA⟩ := id C
  have hK := hC0.1
  intro n
  induction n with
  | zero =>
    intro x1 s_mo x h
    exact (wh_0 h).elim
  | succ n ih =>
    intro x1 s_mo x h HX H locs ls hP hD hS hl
    obtain ⟨v, hf, hB, hX⟩ := wh_step h
    have hf : fX9_keepDraft_b2 s_mo x1 = some v := hf
    have HB : ∀ (z : Int32 × S2), v = .inl z → ∀ (H : Heap) (locs : List Loc) (ls : Array Slot), va_P D vwCl (wModel t a_mo z.2 lam) H → va_D A (wModel t a_mo z.2 lam) → va_S A s.heap H locs → lv_has ls 2 [(0, .ref (a_mo 0)), (1, .int z.1)] → W p l e (rmL 0) s m args below meth c H locs 0 0 (MQ below (gQ D rv w1 A) args s 0 0 A) (F0 m 2 ls []) := fun z hz H locs ls hP hD hS hl => ih z.1 z.2 x (hB z hz) HX H locs ls hP hD hS hl
    have HX : ∀ (z : Int32 × S2), v = .inr z → ∀ (H : Heap) (locs : List Loc) (ls : Array Slot), va_P D vwCl (wModel t a_mo z.2 lam) H → va_D A (wModel t a_mo z.2 lam) → va_S A s.heap H locs → lv_has ls 2 [(0, .ref (a_mo 0))] → W p l e (rmL 0) s m args below meth c H locs 0 0 (MQ below (gQ D rv w1 A) args s 0 0 A) (F0 m 26 ls []) := fun z hz => HX z (hX _ hz).symm
    unfold fX9_keepDraft_b2 at hf
    refine lv_iload_n hx hb dX9_keepDraft_2 rfl (lv_at hl 1 rfl) ?_
    refine lv_bipush (v := 59) hx hb dX9_keepDraft_3 (by decide) ?_
    refine lv_icmp_ge (tgt := 26) hx hb dX9_keepDraft_5 (by decide) (fun c1 => ?_) (fun c1 => ?_)
    · rw [if_pos c1] at hf
      obtain rfl := so_eq hf
      exact HX _ rfl _ _ _ hP hD hS (lv_sub hl [0] rfl)
    · rw [if_neg c1] at hf
      refine lv_aload_n hx hb dX9_keepDraft_8 rfl (lv_at hl 0 rfl) ?_
      refine va_get (D := D) (ci := 9) (v := .ref (a_mo 1)) (C := RX9) (T := TX9) (N := 37) hx hb hts iwX9_keepDraft_X9 hown hK hP 0 rfl rfl 0 (by decide) (hts _ lkX9_keepDraft_f7) (fun _ h9 => h9) rfl dX9_keepDraft_9 ?_
      refine lv_iload_n hx hb dX9_keepDraft_12 rfl (lv_at hl 1 rfl) ?_
      refine lv_aload_n hx hb dX9_keepDraft_13 rfl (lv_at hl 0 rfl) ?_
      refine va_get (D := D) (ci := 9) (v := .ref (a_mo 4)) (C := RX9) (T := TX9) (N := 37) hx hb hts iwX9_keepDraft_X9 hown hK hP 0 rfl rfl 5 (by decide) (hts _ lkX9_keepDraft_f20) (fun _ h9 => h9) rfl dX9_keepDraft_14 ?_
      refine lv_iload_n hx hb dX9_keepDraft_17 rfl (lv_at hl 1 rfl) ?_
      obtain ⟨b2, hf⟩ := gd_some hf
      refine va_iald hx hb hK hP 4 0 rfl rfl (ixb_in b2) dX9_keepDraft_18 ?_
      obtain ⟨b3, hf⟩ := gd_some hf
      obtain ⟨s4, hs4, hf⟩ := nm_ex hf
      refine va_iast hx hb hK hP hD hS 1 0 rfl rfl (ixb_in b3) dX9_keepDraft_19 (fun H locs hP hD hS => ?_)
      have hP : va_P D vwCl (wModel t a_mo s4 lam) H := by rw [hs4]; exact hP
      have hD : va_D A (wModel t a_mo s4 lam) := by rw [hs4]; exact hD
      obtain ⟨y5, hy5, hf⟩ := nm_ex hf
      refine lv_iinc (v := y5) (lv' := [(1, .int y5), (0, .ref (a_mo 0))]) hx hb dX9_keepDraft_20 hl (k := 1) rfl (by rw [hy5]; rfl) (by decide) rfl (fun ls hl => ?_)
      refine lv_goto (tgt := 2) hx hb dX9_keepDraft_23 (by decide) ?_
      obtain rfl := so_eq hf
      exact HB _ rfl _ _ _ hP hD hS (lv_sub hl [1, 0] rfl)
set_option maxHeartbeats 4000000 in
set_option maxRecDepth 100000 in
theorem wX9_keepDraft_l44 {p : Program} {l : Launch} {e : Env} {s : State} {m : MethodId} {args : Array Value} {below : List Frame} {meth : Method} {c : Code} {D : va_G} {t : Nat → ClassId} {κ : Nat → Nat} {A : Nat → Prop} {a_mo : Nat → Nat} {lam : S6} {rv : Option Value} {w1 : va_W} (C : Cxt p s m args meth c cX9_keepDraft 2 RX9 wsX9_keepDraft none D t κ A) : ∀ (n : Nat) (x1 : Int32) (s_mo : S2) (x : Int32 × S2), wh (fun (c : Int32 × S2) => fX9_keepDraft_b44 c.2 c.1) n (x1, s_mo) = some x → (∀ (z : Int32 × S2), x = z → ∀ (H : Heap) (locs : List Loc) (ls : Array Slot), va_P D vwCl (wModel t a_mo z.2 lam) H → va_D A (wModel t a_mo z.2 lam) → va_S A s.heap H locs → lv_has ls 2 [(0, .ref (a_mo 0))] → W p l e (rmL 0) s m args below meth c H locs 0 0 (MQ below (gQ D rv w1 A) args s 0 0 A) (F0 m 76 ls [])) → ∀ (H : Heap) (locs : List Loc) (ls : Array Slot), va_P D vwCl (wModel t a_mo s_mo lam) H → va_D A (wModel t a_mo s_mo lam) → va_S A s.heap H locs → lv_has ls 2 [(0, .ref (a_mo 0)), (1, .int x1)] → W p l e (rmL 0) s m args below meth c H locs 0 0 (MQ below (gQ D rv w1 A) args s 0 0 A) (F0 m 44 ls []) := by
  obtain ⟨hx, hb, hr, hml, hown, hts, hC0, hlk, hA⟩ := id C
  have hK := hC0.1
  intro n
  induction n with
  | zero =>
    intro x1 s_mo x h
    exact (wh_0 h).elim
  | succ n ih =>
    intro x1 s_mo x h HX H locs ls hP hD hS hl
    obtain ⟨v, hf, hB, hX⟩ := wh_step h
    have hf : fX9_keepDraft_b44 s_mo x1 = some v := hf
    have HB : ∀ (z : Int32 × S2), v = .inl z → ∀ (H : Heap) (locs : List Loc) (ls : Array Slot), va_P D vwCl (wModel t a_mo z.2 lam) H → va_D A (wModel t a_mo z.2 lam) → va_S A s.heap H locs → lv_has ls 2 [(0, .ref (a_mo 0)), (1, .int z.1)] → W p l e (rmL 0) s m args below meth c H locs 0 0 (MQ below (gQ D rv w1 A) args s 0 0 A) (F0 m 44 ls []) := fun z hz H locs ls hP hD hS hl => ih z.1 z.2 x (hB z hz) HX H locs ls hP hD hS hl
    have HX : ∀ (z : Int32 × S2), v = .inr z → ∀ (H : Heap) (locs : List Loc) (ls : Array Slot), va_P D vwCl (wModel t a_mo z.2 lam) H → va_D A (wModel t a_mo z.2 lam) → va_S A s.heap H locs → lv_has ls 2 [(0, .ref (a_mo 0))] → W p l e (rmL 0) s m args below meth c H locs 0 0 (MQ below (gQ D rv w1 A) args s 0 0 A) (F0 m 76 ls []) := fun z hz => HX z (hX _ hz).symm
    unfold fX9_keepDraft_b44 at hf
    refine lv_iload_n hx hb dX9_keepDraft_44 rfl (lv_at hl 1 rfl) ?_
    refine lv_aload_n hx hb dX9_keepDraft_45 rfl (lv_at hl 0 rfl) ?_
    refine va_get (D := D) (ci := 9) (v := .int (s_mo 0 0)) (C := RX9) (T := TX9) (N := 37) hx hb hts iwX9_keepDraft_X9 hown hK hP 0 rfl rfl 3 (by decide) (hts _ lkX9_keepDraft_f81) (fun _ h9 => h9) rfl dX9_keepDraft_46 ?_
    refine lv_icmp_ge (tgt := 76) hx hb dX9_keepDraft_49 (by decide) (fun c9 => ?_) (fun c9 => ?_)
    · rw [if_pos c9] at hf
      obtain rfl := so_eq hf
      exact HX _ rfl _ _ _ hP hD hS (lv_sub hl [0] rfl)
    · rw [if_neg c9] at hf
      refine lv_aload_n hx hb dX9_keepDraft_52 rfl (lv_at hl 0 rfl) ?_
      refine va_get (D := D) (ci := 9) (v := .ref (a_mo 1)) (C := RX9) (T := TX9) (N := 37) hx hb hts iwX9_keepDraft_X9 hown hK hP 0 rfl rfl 0 (by decide) (hts _ lkX9_keepDraft_f7) (fun _ h9 => h9) rfl dX9_keepDraft_53 ?_
      refine lv_iconst (v := 3) hx hb dX9_keepDraft_56 (by decide) ?_
      refine lv_iload_n hx hb dX9_keepDraft_57 rfl (lv_at hl 1 rfl) ?_
      refine lv_imul hx hb dX9_keepDraft_58 ?_
      refine lv_iconst (v := 2) hx hb dX9_keepDraft_59 (by decide) ?_
      refine lv_iadd hx hb dX9_keepDraft_60 ?_
      refine lv_aload_n hx hb dX9_keepDraft_61 rfl (lv_at hl 0 rfl) ?_
      refine va_get (D := D) (ci := 9) (v := .int (s_mo 0 4)) (C := RX9) (T := TX9) (N := 37) hx hb hts iwX9_keepDraft_X9 hown hK hP 0 rfl rfl 8 (by decide) (hts _ lkX9_keepDraft_f72) (fun _ h9 => h9) rfl dX9_keepDraft_62 ?_
      refine lv_iload_n hx hb dX9_keepDraft_65 rfl (lv_at hl 1 rfl) ?_
      refine lv_ishr hx hb dX9_keepDraft_66 ?_
      refine lv_iconst (v := 1) hx hb dX9_keepDraft_67 (by decide) ?_
      refine lv_iand hx hb dX9_keepDraft_68 ?_
      obtain ⟨b10, hf⟩ := gd_some hf
      obtain ⟨s11, hs11, hf⟩ := nm_ex hf
      refine va_iast hx hb hK hP hD hS 1 0 rfl rfl (ixb_in b10) dX9_keepDraft_69 (fun H locs hP hD hS => ?_)
      have hP : va_P D vwCl (wModel t a_mo s11 lam) H := by rw [hs11]; exact hP
      have hD : va_D A (wModel t a_mo s11 lam) := by rw [hs11]; exact hD
      obtain ⟨y12, hy12, hf⟩ := nm_ex hf
      refine lv_iinc (v := y12) (lv' := [(1, .int y12), (0, .ref (a_mo 0))]) hx hb dX9_keepDraft_70 hl (k := 1) rfl (by rw [hy12]; rfl) (by decide) rfl (fun ls hl => ?_)
      refine lv_goto (tgt := 44) hx hb dX9_keepDraft_73 (by decide) ?_
      obtain rfl := so_eq hf
      exact HB _ rfl _ _ _ hP hD hS (lv_sub hl [1, 0] rfl)
set_option maxHeartbeats 4000000 in
set_option maxRecDepth 100000 in
theorem cX9_keepDraft_ok {l : Launch} {D : va_G} {t : Nat → ClassId} {κ : Nat → Nat} {a_mo : Nat → Nat} {s_mo : S2} {lam : S6} {out : S2} (hf : fX9_keepDraft s_mo = some out) : Ct l D t κ yX9_keepDraft wsX9_keepDraft (rmL 0) [.ref (a_mo 0)] (wModel t a_mo s_mo lam) none (wModel t a_mo out lam) := by
  refine Ct.ofW (own := RX9) (cc := cX9_keepDraft) (maxL := 2) (ret := none) (by decide) rfl rfl (Nat.le_of_ble_eq_true rfl) ?_
  intro p e s m below meth c A C hP hD ls hl
  have hS : va_S A s.heap s.heap [] := va_S.rf
  obtain ⟨hx, hb, hr, hml, hown, hts, hC0, hlk, hA⟩ := id C
  have hK := hC0.1
  have hl : lv_has ls 2 [(0, .ref (a_mo 0))] := hl
  unfold fX9_keepDraft at hf
  refine lv_iconst (v := 0) hx hb dX9_keepDraft_0 (by decide) ?_
  refine lv_istore_n (lv' := [(1, .int (0 : Int32)), (0, .ref (a_mo 0))]) hx hb dX9_keepDraft_1 rfl hl (by decide) rfl (fun ls hl => ?_)
  obtain ⟨x6, ex6, hf⟩ := bd_some hf
  refine wX9_keepDraft_l2 C 5000 (0 : Int32) s_mo x6 ex6 (fun c9 h9 H locs ls hP hD hS hl => ?_) _ _ _ hP hD hS (lv_sub hl [1, 0] rfl)
  subst h9
  refine lv_aload_n hx hb dX9_keepDraft_26 rfl (lv_at hl 0 rfl) ?_
  refine lv_aload_n hx hb dX9_keepDraft_27 rfl (lv_at hl 0 rfl) ?_
  refine va_get (D := D) (ci := 9) (v := .int (x6.2 0 2)) (C := RX9) (T := TX9) (N := 37) hx hb hts iwX9_keepDraft_X9 hown hK hP 0 rfl rfl 6 (by decide) (hts _ lkX9_keepDraft_f65) (fun _ h9 => h9) rfl dX9_keepDraft_28 ?_
  obtain ⟨s7, hs7, hf⟩ := nm_ex hf
  refine va_put (D := D) (ci := 9) (v := .int (x6.2 0 2)) (ty := .int) (C := RX9) (T := TX9) (N := 37) hx hb hts iwX9_keepDraft_X9 tyX9 tyX9_ok nmX9 hown hK hP hD hS 0 rfl rfl 3 (by decide) (hts _ lkX9_keepDraft_f81) (fun _ h9 => h9) rfl (by decide +kernel) rfl rfl (Nat.le_of_ble_eq_true rfl) dX9_keepDraft_31 (fun H locs hP hD hS => ?_)
  have hP : va_P D vwCl (wModel t a_mo s7 lam) H := by rw [hs7]; exact hP
  have hD : va_D A (wModel t a_mo s7 lam) := by rw [hs7]; exact hD
  refine lv_aload_n hx hb dX9_keepDraft_34 rfl (lv_at hl 0 rfl) ?_
  refine lv_aload_n hx hb dX9_keepDraft_35 rfl (lv_at hl 0 rfl) ?_
  refine va_get (D := D) (ci := 9) (v := .int (s7 0 3)) (C := RX9) (T := TX9) (N := 37) hx hb hts iwX9_keepDraft_X9 hown hK hP 0 rfl rfl 7 (by decide) (hts _ lkX9_keepDraft_f69) (fun _ h9 => h9) rfl dX9_keepDraft_36 ?_
  obtain ⟨s8, hs8, hf⟩ := nm_ex hf
  refine va_put (D := D) (ci := 9) (v := .int (s7 0 3)) (ty := .int) (C := RX9) (T := TX9) (N := 37) hx hb hts iwX9_keepDraft_X9 tyX9 tyX9_ok nmX9 hown hK hP hD hS 0 rfl rfl 4 (by decide) (hts _ lkX9_keepDraft_f84) (fun _ h9 => h9) rfl (by decide +kernel) rfl rfl (Nat.le_of_ble_eq_true rfl) dX9_keepDraft_39 (fun H locs hP hD hS => ?_)
  have hP : va_P D vwCl (wModel t a_mo s8 lam) H := by rw [hs8]; exact hP
  have hD : va_D A (wModel t a_mo s8 lam) := by rw [hs8]; exact hD
  refine lv_iconst (v := 0) hx hb dX9_keepDraft_42 (by decide) ?_
  refine lv_istore_n (lv' := [(1, .int (0 : Int32)), (0, .ref (a_mo 0))]) hx hb dX9_keepDraft_43 rfl hl (by decide) rfl (fun ls hl => ?_)
  obtain ⟨x13, ex13, hf⟩ := bd_some hf
  refine wX9_keepDraft_l44 C 5000 (0 : Int32) s8 x13 ex13 (fun c9 h9 H locs ls hP hD hS hl => ?_) _ _ _ hP hD hS (lv_sub hl [1, 0] rfl)
  subst h9
  refine lv_aload_n hx hb dX9_keepDraft_76 rfl (lv_at hl 0 rfl) ?_
  refine va_get (D := D) (ci := 9) (v := .ref (a_mo 3)) (C := RX9) (T := TX9) (N := 37) hx hb hts iwX9_keepDraft_X9 hown hK hP 0 rfl rfl 2 (by decide) (hts _ lkX9_keepDraft_f16) (fun _ h9 => h9) rfl dX9_keepDraft_77 ?_
  refine lv_iconst (v := 0) hx hb dX9_keepDraft_80 (by decide) ?_
  refine lv_iconst (v := 0) hx hb dX9_keepDraft_81 (by decide) ?_
  obtain ⟨s14, hs14, hf⟩ := nm_ex hf
  refine va_zast hx hb hK hP hD hS 3 2 rfl rfl (ixb_in (by decide)) dX9_keepDraft_82 (fun H locs hP hD hS => ?_)
  have hP : va_P D vwCl (wModel t a_mo s14 lam) H := by rw [hs14]; exact hP
  have hD : va_D A (wModel t a_mo s14 lam) := by rw [hs14]; exact hD
  refine lv_aload_n hx hb dX9_keepDraft_83 rfl (lv_at hl 0 rfl) ?_
  refine va_get (D := D) (ci := 9) (v := .ref (a_mo 3)) (C := RX9) (T := TX9) (N := 37) hx hb hts iwX9_keepDraft_X9 hown hK hP 0 rfl rfl 2 (by decide) (hts _ lkX9_keepDraft_f16) (fun _ h9 => h9) rfl dX9_keepDraft_84 ?_
  refine lv_iconst (v := 1) hx hb dX9_keepDraft_87 (by decide) ?_
  refine lv_iconst (v := 0) hx hb dX9_keepDraft_88 (by decide) ?_
  obtain ⟨s15, hs15, hf⟩ := nm_ex hf
  refine va_zast hx hb hK hP hD hS 3 2 rfl rfl (ixb_in (by decide)) dX9_keepDraft_89 (fun H locs hP hD hS => ?_)
  have hP : va_P D vwCl (wModel t a_mo s15 lam) H := by rw [hs15]; exact hP
  have hD : va_D A (wModel t a_mo s15 lam) := by rw [hs15]; exact hD
  obtain rfl := so_eq hf
  exact g_vret C hP hD hS dX9_keepDraft_90
/-! CoachCourtModel.feed -/
def fX9_feed (s_mo : S2) (p1 : Int32) : Option (Int32 × S2) :=
  (fX9_in (Int32.toInt64 p1) (0 : Int64) (127 : Int64)).bind fun v1 =>
  if v1 = (0 : Int32) then
    (some ((-1 : Int32), s_mo))
  else
    (if (s_mo 0 7) = (160 : Int32) then
      (some ((-3 : Int32), s_mo))
    else
      (gd (ixb (s_mo 0 7) 160) <|
      nm (sE s_mo 5 (Int32.toNatClampNeg (s_mo 0 7)) p1) fun s5 =>
      nm (sE s5 0 7 ((s5 0 7) + (1 : Int32))) fun s6 =>
      some (s6 0 7, s6)))
theorem hdX9_feed : yX9_feed.cls = RX9 ∧ yX9_feed.cls ≠ "java/lang/invoke/MethodHandle" ∧ yX9_feed.cls ≠ "java/lang/invoke/VarHandle" ∧ (parseMethodDescriptor yX9_feed.desc).map (fun d => d.parameters.length) = some 1 := by decide +kernel
theorem lkX9_feed_l87 : Cond.constantLong RX9 87 (127) ∈ wsX9_feed := by decide +kernel
theorem iwX9_feed_X9 : ∀ w ∈ wsX90, w ∈ wsX9_feed := by decide +kernel
theorem lkX9_feed_f93 : Cond.fieldLink RX9 93 "CoachCourtModel" "taped" "I" ∈ wsX9_feed := by decide +kernel
theorem lkX9_feed_f23 : Cond.fieldLink RX9 23 "CoachCourtModel" "tape" "[I" ∈ wsX9_feed := by decide +kernel
set_option maxHeartbeats 4000000 in
set_option maxRecDepth 100000 in
theorem cX9_feed_ok {l : Launch} {D : va_G} {t : Nat → ClassId} {κ : Nat → Nat} {a_mo : Nat → Nat} {s_mo : S2} {lam : S6} {p1 : Int32} {out : Int32 × S2} (hf : fX9_feed s_mo p1 = some out) : Ct l D t κ yX9_feed wsX9_feed (rmL 1) [.ref (a_mo 0), .int p1] (wModel t a_mo s_mo lam) (some (.int out.1)) (wModel t a_mo out.2 lam) := by
  refine Ct.ofW (own := RX9) (cc := cX9_feed) (maxL := 2) (ret := (some .int)) (by decide) rfl rfl (Nat.le_of_ble_eq_true rfl) ?_
  intro p e s m below meth c A C hP hD ls hl
  have hS : va_S A s.heap s.heap [] := va_S.rf
  obtain ⟨hx, hb, hr, hml, hown, hts, hC0, hlk, hA⟩ := id C
  have hK := hC0.1
  have hl : lv_has ls 2 [(0, .ref (a_mo 0)), (1, .int p1)] := hl
  unfold fX9_feed at hf
  refine lv_iload_n hx hb dX9_feed_0 rfl (lv_at hl 1 rfl) ?_
  refine lv_i2l hx hb dX9_feed_1 rfl ?_
  refine lv_lconst (v := 0) hx hb dX9_feed_2 (by decide) ?_
  refine lv_ldc2 hx hb hown (hts _ lkX9_feed_l87) dX9_feed_3 ?_
  obtain ⟨v1, ev1, hf⟩ := bd_some hf
  refine gk_S C (As := [.long (Int32.toInt64 p1), .long (0 : Int64), .long (127 : Int64)]) (rest := []) (cX9_in_ok (l := l) (D := D) (t := t) (κ := κ) ev1) gX9_feed_X9_in rfl ⟨rfl, rfl⟩ hdX9_in ⟨Nat.le_of_ble_eq_true rfl, Nat.le_of_ble_eq_true rfl⟩ hP hD hS rfl hl.1 (Nat.le_of_ble_eq_true rfl) dX9_feed_6 (Nat.zero_le _) (Nat.zero_le _) (fun H locs hP hD hS => ?_)
  refine W.eq (g2 := F0 m 9 ls [.int v1]) rfl ?_
  refine lv_if_ne (tgt := 14) hx hb dX9_feed_9 (by decide) (fun c2 => ?_) (fun c2 => ?_)
  · rw [if_neg c2] at hf
    refine lv_aload_n hx hb dX9_feed_14 rfl (lv_at hl 0 rfl) ?_
    refine va_get (D := D) (ci := 9) (v := .int (s_mo 0 7)) (C := RX9) (T := TX9) (N := 37) hx hb hts iwX9_feed_X9 hown hK hP 0 rfl rfl 12 (by decide) (hts _ lkX9_feed_f93) (fun _ h9 => h9) rfl dX9_feed_15 ?_
    refine lv_sipush (v := 160) hx hb dX9_feed_18 (by decide) ?_
    refine lv_icmp_ne (tgt := 27) hx hb dX9_feed_21 (by decide) (fun c3 => ?_) (fun c3 => ?_)
    · rw [if_neg c3] at hf
      refine lv_aload_n hx hb dX9_feed_27 rfl (lv_at hl 0 rfl) ?_
      refine va_get (D := D) (ci := 9) (v := .ref (a_mo 5)) (C := RX9) (T := TX9) (N := 37) hx hb hts iwX9_feed_X9 hown hK hP 0 rfl rfl 11 (by decide) (hts _ lkX9_feed_f23) (fun _ h9 => h9) rfl dX9_feed_28 ?_
      refine lv_aload_n hx hb dX9_feed_31 rfl (lv_at hl 0 rfl) ?_
      refine va_get (D := D) (ci := 9) (v := .int (s_mo 0 7)) (C := RX9) (T := TX9) (N := 37) hx hb hts iwX9_feed_X9 hown hK hP 0 rfl rfl 12 (by decide) (hts _ lkX9_feed_f93) (fun _ h9 => h9) rfl dX9_feed_32 ?_
      refine lv_iload_n hx hb dX9_feed_35 rfl (lv_at hl 1 rfl) ?_
      obtain ⟨b4, hf⟩ := gd_some hf
      obtain ⟨s5, hs5, hf⟩ := nm_ex hf
      refine va_iast hx hb hK hP hD hS 5 0 rfl rfl (ixb_in b4) dX9_feed_36 (fun H locs hP hD hS => ?_)
      have hP : va_P D vwCl (wModel t a_mo s5 lam) H := by rw [hs5]; exact hP
      have hD : va_D A (wModel t a_mo s5 lam) := by rw [hs5]; exact hD
      refine lv_aload_n hx hb dX9_feed_37 rfl (lv_at hl 0 rfl) ?_
      refine lv_dup hx hb dX9_feed_38 rfl ?_
      refine va_get (D := D) (ci := 9) (v := .int (s5 0 7)) (C := RX9) (T := TX9) (N := 37) hx hb hts iwX9_feed_X9 hown hK hP 0 rfl rfl 12 (by decide) (hts _ lkX9_feed_f93) (fun _ h9 => h9) rfl dX9_feed_39 ?_
      refine lv_iconst (v := 1) hx hb dX9_feed_42 (by decide) ?_
      refine lv_iadd hx hb dX9_feed_43 ?_
      obtain ⟨s6, hs6, hf⟩ := nm_ex hf
      refine va_put (D := D) (ci := 9) (v := .int ((s5 0 7) + (1 : Int32))) (ty := .int) (C := RX9) (T := TX9) (N := 37) hx hb hts iwX9_feed_X9 tyX9 tyX9_ok nmX9 hown hK hP hD hS 0 rfl rfl 12 (by decide) (hts _ lkX9_feed_f93) (fun _ h9 => h9) rfl (by decide +kernel) rfl rfl (Nat.le_of_ble_eq_true rfl) dX9_feed_44 (fun H locs hP hD hS => ?_)
      have hP : va_P D vwCl (wModel t a_mo s6 lam) H := by rw [hs6]; exact hP
      have hD : va_D A (wModel t a_mo s6 lam) := by rw [hs6]; exact hD
      refine lv_aload_n hx hb dX9_feed_47 rfl (lv_at hl 0 rfl) ?_
      refine va_get (D := D) (ci := 9) (v := .int (s6 0 7)) (C := RX9) (T := TX9) (N := 37) hx hb hts iwX9_feed_X9 hown hK hP 0 rfl rfl 12 (by decide) (hts _ lkX9_feed_f93) (fun _ h9 => h9) rfl dX9_feed_48 ?_
      obtain rfl := so_eq hf
      exact g_iret C hP hD hS dX9_feed_51
    · rw [if_pos c3] at hf
      refine lv_bipush (v := -3) hx hb dX9_feed_24 (by decide) ?_
      obtain rfl := so_eq hf
      exact g_iret C hP hD hS dX9_feed_26
  · rw [if_pos c2] at hf
    refine lv_iconst (v := -1) hx hb dX9_feed_12 (by decide) ?_
    obtain rfl := so_eq hf
    exact g_iret C hP hD hS dX9_feed_13
/-! CoachCourtModel.end -/
def fX9_end (s_mo : S2) (p1 : Int32) : Option (Int32 × S2) :=
  (fX9_in (Int32.toInt64 p1) (0 : Int64) (Int32.toInt64 (s_mo 0 7))).bind fun v1 =>
  if v1 = (0 : Int32) then
    (some ((-1 : Int32), s_mo))
  else
    (nm (s_mo 0 7) fun y3 =>
    nm (sE s_mo 0 7 p1) fun s4 =>
    some (y3, s4))
theorem hdX9_end : yX9_end.cls = RX9 ∧ yX9_end.cls ≠ "java/lang/invoke/MethodHandle" ∧ yX9_end.cls ≠ "java/lang/invoke/VarHandle" ∧ (parseMethodDescriptor yX9_end.desc).map (fun d => d.parameters.length) = some 1 := by decide +kernel
theorem iwX9_end_X9 : ∀ w ∈ wsX90, w ∈ wsX9_end := by decide +kernel
theorem lkX9_end_f93 : Cond.fieldLink RX9 93 "CoachCourtModel" "taped" "I" ∈ wsX9_end := by decide +kernel
set_option maxHeartbeats 4000000 in
set_option maxRecDepth 100000 in
theorem cX9_end_ok {l : Launch} {D : va_G} {t : Nat → ClassId} {κ : Nat → Nat} {a_mo : Nat → Nat} {s_mo : S2} {lam : S6} {p1 : Int32} {out : Int32 × S2} (hf : fX9_end s_mo p1 = some out) : Ct l D t κ yX9_end wsX9_end (rmL 1) [.ref (a_mo 0), .int p1] (wModel t a_mo s_mo lam) (some (.int out.1)) (wModel t a_mo out.2 lam) := by
  refine Ct.ofW (own := RX9) (cc := cX9_end) (maxL := 3) (ret := (some .int)) (by decide) rfl rfl (Nat.le_of_ble_eq_true rfl) ?_
  intro p e s m below meth c A C hP hD ls hl
  have hS : va_S A s.heap s.heap [] := va_S.rf
  obtain ⟨hx, hb, hr, hml, hown, hts, hC0, hlk, hA⟩ := id C
  have hK := hC0.1
  have hl : lv_has ls 3 [(0, .ref (a_mo 0)), (1, .int p1)] := hl
  unfold fX9_end at hf
  refine lv_iload_n hx hb dX9_end_0 rfl (lv_at hl 1 rfl) ?_
  refine lv_i2l hx hb dX9_end_1 rfl ?_
  refine lv_lconst (v := 0) hx hb dX9_end_2 (by decide) ?_
  refine lv_aload_n hx hb dX9_end_3 rfl (lv_at hl 0 rfl) ?_
  refine va_get (D := D) (ci := 9) (v := .int (s_mo 0 7)) (C := RX9) (T := TX9) (N := 37) hx hb hts iwX9_end_X9 hown hK hP 0 rfl rfl 12 (by decide) (hts _ lkX9_end_f93) (fun _ h9 => h9) rfl dX9_end_4 ?_
  refine lv_i2l hx hb dX9_end_7 rfl ?_
  obtain ⟨v1, ev1, hf⟩ := bd_some hf
  refine gk_S C (As := [.long (Int32.toInt64 p1), .long (0 : Int64), .long (Int32.toInt64 (s_mo 0 7))]) (rest := []) (cX9_in_ok (l := l) (D := D) (t := t) (κ := κ) ev1) gX9_end_X9_in rfl ⟨rfl, rfl⟩ hdX9_in ⟨Nat.le_of_ble_eq_true rfl, Nat.le_of_ble_eq_true rfl⟩ hP hD hS rfl hl.1 (Nat.le_of_ble_eq_true rfl) dX9_end_8 (Nat.zero_le _) (Nat.zero_le _) (fun H locs hP hD hS => ?_)
  refine W.eq (g2 := F0 m 11 ls [.int v1]) rfl ?_
  refine lv_if_ne (tgt := 16) hx hb dX9_end_11 (by decide) (fun c2 => ?_) (fun c2 => ?_)
  · rw [if_neg c2] at hf
    refine lv_aload_n hx hb dX9_end_16 rfl (lv_at hl 0 rfl) ?_
    refine va_get (D := D) (ci := 9) (v := .int (s_mo 0 7)) (C := RX9) (T := TX9) (N := 37) hx hb hts iwX9_end_X9 hown hK hP 0 rfl rfl 12 (by decide) (hts _ lkX9_end_f93) (fun _ h9 => h9) rfl dX9_end_17 ?_
    obtain ⟨y3, hy3, hf⟩ := nm_ex hf
    refine W.eq (g2 := F0 m 20 ls [.int y3]) (by rw [hy3]) ?_
    refine lv_istore_n (lv' := [(2, .int y3), (0, .ref (a_mo 0)), (1, .int p1)]) hx hb dX9_end_20 rfl hl (by decide) rfl (fun ls hl => ?_)
    refine lv_aload_n hx hb dX9_end_21 rfl (lv_at hl 1 rfl) ?_
    refine lv_iload_n hx hb dX9_end_22 rfl (lv_at hl 2 rfl) ?_
    obtain ⟨s4, hs4, hf⟩ := nm_ex hf
    refine va_put (D := D) (ci := 9) (v := .int p1) (ty := .int) (C := RX9) (T := TX9) (N := 37) hx hb hts iwX9_end_X9 tyX9 tyX9_ok nmX9 hown hK hP hD hS 0 rfl rfl 12 (by decide) (hts _ lkX9_end_f93) (fun _ h9 => h9) rfl (by decide +kernel) rfl rfl (Nat.le_of_ble_eq_true rfl) dX9_end_23 (fun H locs hP hD hS => ?_)
    have hP : va_P D vwCl (wModel t a_mo s4 lam) H := by rw [hs4]; exact hP
    have hD : va_D A (wModel t a_mo s4 lam) := by rw [hs4]; exact hD
    refine lv_iload_n hx hb dX9_end_26 rfl (lv_at hl 0 rfl) ?_
    obtain rfl := so_eq hf
    exact g_iret C hP hD hS dX9_end_27
  · rw [if_pos c2] at hf
    refine lv_iconst (v := -1) hx hb dX9_end_14 (by decide) ?_
    obtain rfl := so_eq hf
    exact g_iret C hP hD hS dX9_end_15
/-! CoachCourtModel.needs -/
def fX9_needs (s_mo : S2) (p1 : Int32) (p2 : Int32) : Option (S2) :=
  if p1 = (0 : Int32) then
    (if (s_mo 0 12) = (0 : Int32) then
      (nm (sE s_mo 0 12 p2) fun s3 =>
      nm (sE s3 0 13 (s3 0 9)) fun s4 =>
      some s4)
    else
      (some s_mo))
  else
    (some s_mo)
theorem hdX9_needs : yX9_needs.cls = RX9 ∧ yX9_needs.cls ≠ "java/lang/invoke/MethodHandle" ∧ yX9_needs.cls ≠ "java/lang/invoke/VarHandle" ∧ (parseMethodDescriptor yX9_needs.desc).map (fun d => d.parameters.length) = some 2 := by decide +kernel
theorem iwX9_needs_X9 : ∀ w ∈ wsX90, w ∈ wsX9_needs := by decide +kernel
theorem lkX9_needs_f96 : Cond.fieldLink RX9 96 "CoachCourtModel" "fault" "I" ∈ wsX9_needs := by decide +kernel
theorem lkX9_needs_f99 : Cond.fieldLink RX9 99 "CoachCourtModel" "from" "I" ∈ wsX9_needs := by decide +kernel
theorem lkX9_needs_f102 : Cond.fieldLink RX9 102 "CoachCourtModel" "wrongAt" "I" ∈ wsX9_needs := by decide +kernel
set_option maxHeartbeats 4000000 in
set_option maxRecDepth 100000 in
theorem cX9_needs_ok {l : Launch} {D : va_G} {t : Nat → ClassId} {κ : Nat → Nat} {a_mo : Nat → Nat} {s_mo : S2} {lam : S6} {p1 : Int32} {p2 : Int32} {out : S2} (hf : fX9_needs s_mo p1 p2 = some out) : Ct l D t κ yX9_needs wsX9_needs (rmL 0) [.ref (a_mo 0), .int p1, .int p2] (wModel t a_mo s_mo lam) none (wModel t a_mo out lam) := by
  refine Ct.ofW (own := RX9) (cc := cX9_needs) (maxL := 3) (ret := none) (by decide) rfl rfl (Nat.le_of_ble_eq_true rfl) ?_
  intro p e s m below meth c A C hP hD ls hl
  have hS : va_S A s.heap s.heap [] := va_S.rf
  obtain ⟨hx, hb, hr, hml, hown, hts, hC0, hlk, hA⟩ := id C
  have hK := hC0.1
  have hl : lv_has ls 3 [(0, .ref (a_mo 0)), (1, .int p1), (2, .int p2)] := hl
  unfold fX9_needs at hf
  refine lv_iload_n hx hb dX9_needs_0 rfl (lv_at hl 1 rfl) ?_
  refine lv_if_ne (tgt := 24) hx hb dX9_needs_1 (by decide) (fun c1 => ?_) (fun c1 => ?_)
  · rw [if_neg c1] at hf
    obtain rfl := so_eq hf
    exact g_vret C hP hD hS dX9_needs_24
  · rw [if_pos c1] at hf
    refine lv_aload_n hx hb dX9_needs_4 rfl (lv_at hl 0 rfl) ?_
    refine va_get (D := D) (ci := 9) (v := .int (s_mo 0 12)) (C := RX9) (T := TX9) (N := 37) hx hb hts iwX9_needs_X9 hown hK hP 0 rfl rfl 17 (by decide) (hts _ lkX9_needs_f96) (fun _ h9 => h9) rfl dX9_needs_5 ?_
    refine lv_if_ne (tgt := 24) hx hb dX9_needs_8 (by decide) (fun c2 => ?_) (fun c2 => ?_)
    · rw [if_neg c2] at hf
      obtain rfl := so_eq hf
      exact g_vret C hP hD hS dX9_needs_24
    · rw [if_pos c2] at hf
      refine lv_aload_n hx hb dX9_needs_11 rfl (lv_at hl 0 rfl) ?_
      refine lv_iload_n hx hb dX9_needs_12 rfl (lv_at hl 2 rfl) ?_
      obtain ⟨s3, hs3, hf⟩ := nm_ex hf
      refine va_put (D := D) (ci := 9) (v := .int p2) (ty := .int) (C := RX9) (T := TX9) (N := 37) hx hb hts iwX9_needs_X9 tyX9 tyX9_ok nmX9 hown hK hP hD hS 0 rfl rfl 17 (by decide) (hts _ lkX9_needs_f96) (fun _ h9 => h9) rfl (by decide +kernel) rfl rfl (Nat.le_of_ble_eq_true rfl) dX9_needs_13 (fun H locs hP hD hS => ?_)
      have hP : va_P D vwCl (wModel t a_mo s3 lam) H := by rw [hs3]; exact hP
      have hD : va_D A (wModel t a_mo s3 lam) := by rw [hs3]; exact hD
      refine lv_aload_n hx hb dX9_needs_16 rfl (lv_at hl 0 rfl) ?_
      refine lv_aload_n hx hb dX9_needs_17 rfl (lv_at hl 0 rfl) ?_
      refine va_get (D := D) (ci := 9) (v := .int (s3 0 9)) (C := RX9) (T := TX9) (N := 37) hx hb hts iwX9_needs_X9 hown hK hP 0 rfl rfl 14 (by decide) (hts _ lkX9_needs_f99) (fun _ h9 => h9) rfl dX9_needs_18 ?_
      obtain ⟨s4, hs4, hf⟩ := nm_ex hf
      refine va_put (D := D) (ci := 9) (v := .int (s3 0 9)) (ty := .int) (C := RX9) (T := TX9) (N := 37) hx hb hts iwX9_needs_X9 tyX9 tyX9_ok nmX9 hown hK hP hD hS 0 rfl rfl 18 (by decide) (hts _ lkX9_needs_f102) (fun _ h9 => h9) rfl (by decide +kernel) rfl rfl (Nat.le_of_ble_eq_true rfl) dX9_needs_21 (fun H locs hP hD hS => ?_)
      have hP : va_P D vwCl (wModel t a_mo s4 lam) H := by rw [hs4]; exact hP
      have hD : va_D A (wModel t a_mo s4 lam) := by rw [hs4]; exact hD
      obtain rfl := so_eq hf
      exact g_vret C hP hD hS dX9_needs_24
/-! CoachCourtModel.byteAt -/
def fX9_byteAt (s_mo : S2) (p1 : Int32) : Option (Int32) :=
  if (s_mo 0 7) ≤ p1 then
    (some (-1 : Int32))
  else
    (gd (ixb p1 160) <|
    some (s_mo 5 (Int32.toNatClampNeg p1)))
theorem hdX9_byteAt : yX9_byteAt.cls = RX9 ∧ yX9_byteAt.cls ≠ "java/lang/invoke/MethodHandle" ∧ yX9_byteAt.cls ≠ "java/lang/invoke/VarHandle" ∧ (parseMethodDescriptor yX9_byteAt.desc).map (fun d => d.parameters.length) = some 1 := by decide +kernel
theorem iwX9_byteAt_X9 : ∀ w ∈ wsX90, w ∈ wsX9_byteAt := by decide +kernel
theorem lkX9_byteAt_f93 : Cond.fieldLink RX9 93 "CoachCourtModel" "taped" "I" ∈ wsX9_byteAt := by decide +kernel
theorem lkX9_byteAt_f23 : Cond.fieldLink RX9 23 "CoachCourtModel" "tape" "[I" ∈ wsX9_byteAt := by decide +kernel
set_option maxHeartbeats 4000000 in
set_option maxRecDepth 100000 in
theorem cX9_byteAt_ok {l : Launch} {D : va_G} {t : Nat → ClassId} {κ : Nat → Nat} {a_mo : Nat → Nat} {s_mo : S2} {lam : S6} {p1 : Int32} {out : Int32} (hf : fX9_byteAt s_mo p1 = some out) : Ct l D t κ yX9_byteAt wsX9_byteAt (rmL 0) [.ref (a_mo 0), .int p1] (wModel t a_mo s_mo lam) (some (.int out)) (wModel t a_mo s_mo lam) := by
  refine Ct.ofW (own := RX9) (cc := cX9_byteAt) (maxL := 2) (ret := (some .int)) (by decide) rfl rfl (Nat.le_of_ble_eq_true rfl) ?_
  intro p e s m below meth c A C hP hD ls hl
  have hS : va_S A s.heap s.heap [] := va_S.rf
  obtain ⟨hx, hb, hr, hml, hown, hts, hC0, hlk, hA⟩ := id C
  have hK := hC0.1
  have hl : lv_has ls 2 [(0, .ref (a_mo 0)), (1, .int p1)] := hl
  unfold fX9_byteAt at hf
  refine lv_iload_n hx hb dX9_byteAt_0 rfl (lv_at hl 1 rfl) ?_
  refine lv_aload_n hx hb dX9_byteAt_1 rfl (lv_at hl 0 rfl) ?_
  refine va_get (D := D) (ci := 9) (v := .int (s_mo 0 7)) (C := RX9) (T := TX9) (N := 37) hx hb hts iwX9_byteAt_X9 hown hK hP 0 rfl rfl 12 (by decide) (hts _ lkX9_byteAt_f93) (fun _ h9 => h9) rfl dX9_byteAt_2 ?_
  refine lv_icmp_ge (tgt := 17) hx hb dX9_byteAt_5 (by decide) (fun c1 => ?_) (fun c1 => ?_)
  · rw [if_pos c1] at hf
    refine lv_iconst (v := -1) hx hb dX9_byteAt_17 (by decide) ?_
    obtain rfl := so_eq hf
    exact g_iret C hP hD hS dX9_byteAt_18
  · rw [if_neg c1] at hf
    refine lv_aload_n hx hb dX9_byteAt_8 rfl (lv_at hl 0 rfl) ?_
    refine va_get (D := D) (ci := 9) (v := .ref (a_mo 5)) (C := RX9) (T := TX9) (N := 37) hx hb hts iwX9_byteAt_X9 hown hK hP 0 rfl rfl 11 (by decide) (hts _ lkX9_byteAt_f23) (fun _ h9 => h9) rfl dX9_byteAt_9 ?_
    refine lv_iload_n hx hb dX9_byteAt_12 rfl (lv_at hl 1 rfl) ?_
    obtain ⟨b2, hf⟩ := gd_some hf
    refine va_iald hx hb hK hP 5 0 rfl rfl (ixb_in b2) dX9_byteAt_13 ?_
    refine lv_goto (tgt := 18) hx hb dX9_byteAt_14 (by decide) ?_
    obtain rfl := so_eq hf
    exact g_iret C hP hD hS dX9_byteAt_18
/-! CoachCourtModel.is -/
def fX9_is (s_mo : S2) (p1 : Int32) (p2 : Int32) (p3 : Int32) (p4 : Int32) : Option (Int32) :=
  if ((s_mo 0 8) - (s_mo 0 9)) = p1 then
    ((fX9_byteAt s_mo (s_mo 0 9)).bind fun v2 =>
    if v2 = p2 then
      ((fX9_byteAt s_mo ((s_mo 0 9) + (1 : Int32))).bind fun v4 =>
      if v4 = p3 then
        ((fX9_byteAt s_mo ((s_mo 0 9) + (2 : Int32))).bind fun v6 =>
        if v6 = p4 then
          (some (1 : Int32))
        else
          (some (0 : Int32)))
      else
        (some (0 : Int32)))
    else
      (some (0 : Int32)))
  else
    (some (0 : Int32))
theorem hdX9_is : yX9_is.cls = RX9 ∧ yX9_is.cls ≠ "java/lang/invoke/MethodHandle" ∧ yX9_is.cls ≠ "java/lang/invoke/VarHandle" ∧ (parseMethodDescriptor yX9_is.desc).map (fun d => d.parameters.length) = some 4 := by decide +kernel
theorem iwX9_is_X9 : ∀ w ∈ wsX90, w ∈ wsX9_is := by decide +kernel
theorem lkX9_is_f105 : Cond.fieldLink RX9 105 "CoachCourtModel" "pos" "I" ∈ wsX9_is := by decide +kernel
theorem lkX9_is_f99 : Cond.fieldLink RX9 99 "CoachCourtModel" "from" "I" ∈ wsX9_is := by decide +kernel
set_option maxHeartbeats 4000000 in
set_option maxRecDepth 100000 in
theorem cX9_is_ok {l : Launch} {D : va_G} {t : Nat → ClassId} {κ : Nat → Nat} {a_mo : Nat → Nat} {s_mo : S2} {lam : S6} {p1 : Int32} {p2 : Int32} {p3 : Int32} {p4 : Int32} {out : Int32} (hf : fX9_is s_mo p1 p2 p3 p4 = some out) : Ct l D t κ yX9_is wsX9_is (rmL 1) [.ref (a_mo 0), .int p1, .int p2, .int p3, .int p4] (wModel t a_mo s_mo lam) (some (.int out)) (wModel t a_mo s_mo lam) := by
  refine Ct.ofW (own := RX9) (cc := cX9_is) (maxL := 5) (ret := (some .boolean)) (by decide) rfl rfl (Nat.le_of_ble_eq_true rfl) ?_
  intro p e s m below meth c A C hP hD ls hl
  have hS : va_S A s.heap s.heap [] := va_S.rf
  obtain ⟨hx, hb, hr, hml, hown, hts, hC0, hlk, hA⟩ := id C
  have hK := hC0.1
  have hl : lv_has ls 5 [(0, .ref (a_mo 0)), (1, .int p1), (2, .int p2), (3, .int p3), (4, .int p4)] := hl
  unfold fX9_is at hf
  refine lv_aload_n hx hb dX9_is_0 rfl (lv_at hl 0 rfl) ?_
  refine va_get (D := D) (ci := 9) (v := .int (s_mo 0 8)) (C := RX9) (T := TX9) (N := 37) hx hb hts iwX9_is_X9 hown hK hP 0 rfl rfl 13 (by decide) (hts _ lkX9_is_f105) (fun _ h9 => h9) rfl dX9_is_1 ?_
  refine lv_aload_n hx hb dX9_is_4 rfl (lv_at hl 0 rfl) ?_
  refine va_get (D := D) (ci := 9) (v := .int (s_mo 0 9)) (C := RX9) (T := TX9) (N := 37) hx hb hts iwX9_is_X9 hown hK hP 0 rfl rfl 14 (by decide) (hts _ lkX9_is_f99) (fun _ h9 => h9) rfl dX9_is_5 ?_
  refine lv_isub hx hb dX9_is_8 ?_
  refine lv_iload_n hx hb dX9_is_9 rfl (lv_at hl 1 rfl) ?_
  refine lv_icmp_ne (tgt := 58) hx hb dX9_is_10 (by decide) (fun c1 => ?_) (fun c1 => ?_)
  · rw [if_neg c1] at hf
    refine lv_iconst (v := 0) hx hb dX9_is_58 (by decide) ?_
    obtain rfl := so_eq hf
    exact g_zret (v := 0) C rfl hP hD hS dX9_is_59
  · rw [if_pos c1] at hf
    refine lv_aload_n hx hb dX9_is_13 rfl (lv_at hl 0 rfl) ?_
    refine lv_aload_n hx hb dX9_is_14 rfl (lv_at hl 0 rfl) ?_
    refine va_get (D := D) (ci := 9) (v := .int (s_mo 0 9)) (C := RX9) (T := TX9) (N := 37) hx hb hts iwX9_is_X9 hown hK hP 0 rfl rfl 14 (by decide) (hts _ lkX9_is_f99) (fun _ h9 => h9) rfl dX9_is_15 ?_
    obtain ⟨v2, ev2, hf⟩ := bd_some hf
    refine gk_V0 C (As := [.int (s_mo 0 9)]) (rest := []) (ci := 9) (q := (RX9, TX9, 37)) (q0 := 0) (cX9_byteAt_ok (l := l) (D := D) (t := t) (κ := κ) (a_mo := a_mo) (lam := lam) ev2) gX9_is_X9_byteAt rfl ⟨rfl, rfl⟩ hdX9_byteAt ⟨Nat.le_of_ble_eq_true rfl, Nat.le_of_ble_eq_true rfl⟩ rfl rfl hP hD hS rfl hl.1 (Nat.le_of_ble_eq_true rfl) dX9_is_18 (Nat.zero_le _) (Nat.zero_le _) (fun H locs hP hD hS => ?_)
    refine W.eq (g2 := F0 m 21 ls [.int v2]) rfl ?_
    refine lv_iload_n hx hb dX9_is_21 rfl (lv_at hl 2 rfl) ?_
    refine lv_icmp_ne (tgt := 58) hx hb dX9_is_22 (by decide) (fun c3 => ?_) (fun c3 => ?_)
    · rw [if_neg c3] at hf
      refine lv_iconst (v := 0) hx hb dX9_is_58 (by decide) ?_
      obtain rfl := so_eq hf
      exact g_zret (v := 0) C rfl hP hD hS dX9_is_59
    · rw [if_pos c3] at hf
      refine lv_aload_n hx hb dX9_is_25 rfl (lv_at hl 0 rfl) ?_
      refine lv_aload_n hx hb dX9_is_26 rfl (lv_at hl 0 rfl) ?_
      refine va_get (D := D) (ci := 9) (v := .int (s_mo 0 9)) (C := RX9) (T := TX9) (N := 37) hx hb hts iwX9_is_X9 hown hK hP 0 rfl rfl 14 (by decide) (hts _ lkX9_is_f99) (fun _ h9 => h9) rfl dX9_is_27 ?_
      refine lv_iconst (v := 1) hx hb dX9_is_30 (by decide) ?_
      refine lv_iadd hx hb dX9_is_31 ?_
      obtain ⟨v4, ev4, hf⟩ := bd_some hf
      refine gk_V0 C (As := [.int ((s_mo 0 9) + (1 : Int32))]) (rest := []) (ci := 9) (q := (RX9, TX9, 37)) (q0 := 0) (cX9_byteAt_ok (l := l) (D := D) (t := t) (κ := κ) (a_mo := a_mo) (lam := lam) ev4) gX9_is_X9_byteAt rfl ⟨rfl, rfl⟩ hdX9_byteAt ⟨Nat.le_of_ble_eq_true rfl, Nat.le_of_ble_eq_true rfl⟩ rfl rfl hP hD hS rfl hl.1 (Nat.le_of_ble_eq_true rfl) dX9_is_32 (Nat.zero_le _) (Nat.zero_le _) (fun H locs hP hD hS => ?_)
      refine W.eq (g2 := F0 m 35 ls [.int v4]) rfl ?_
      refine lv_iload_n hx hb dX9_is_35 rfl (lv_at hl 3 rfl) ?_
      refine lv_icmp_ne (tgt := 58) hx hb dX9_is_36 (by decide) (fun c5 => ?_) (fun c5 => ?_)
      · rw [if_neg c5] at hf
        refine lv_iconst (v := 0) hx hb dX9_is_58 (by decide) ?_
        obtain rfl := so_eq hf
        exact g_zret (v := 0) C rfl hP hD hS dX9_is_59
      · rw [if_pos c5] at hf
        refine lv_aload_n hx hb dX9_is_39 rfl (lv_at hl 0 rfl) ?_
        refine lv_aload_n hx hb dX9_is_40 rfl (lv_at hl 0 rfl) ?_
        refine va_get (D := D) (ci := 9) (v := .int (s_mo 0 9)) (C := RX9) (T := TX9) (N := 37) hx hb hts iwX9_is_X9 hown hK hP 0 rfl rfl 14 (by decide) (hts _ lkX9_is_f99) (fun _ h9 => h9) rfl dX9_is_41 ?_
        refine lv_iconst (v := 2) hx hb dX9_is_44 (by decide) ?_
        refine lv_iadd hx hb dX9_is_45 ?_
        obtain ⟨v6, ev6, hf⟩ := bd_some hf
        refine gk_V0 C (As := [.int ((s_mo 0 9) + (2 : Int32))]) (rest := []) (ci := 9) (q := (RX9, TX9, 37)) (q0 := 0) (cX9_byteAt_ok (l := l) (D := D) (t := t) (κ := κ) (a_mo := a_mo) (lam := lam) ev6) gX9_is_X9_byteAt rfl ⟨rfl, rfl⟩ hdX9_byteAt ⟨Nat.le_of_ble_eq_true rfl, Nat.le_of_ble_eq_true rfl⟩ rfl rfl hP hD hS rfl hl.1 (Nat.le_of_ble_eq_true rfl) dX9_is_46 (Nat.zero_le _) (Nat.zero_le _) (fun H locs hP hD hS => ?_)
        refine W.eq (g2 := F0 m 49 ls [.int v6]) rfl ?_
        refine lv_iload hx hb dX9_is_49 (lv_at hl 4 rfl) ?_
        refine lv_icmp_ne (tgt := 58) hx hb dX9_is_51 (by decide) (fun c7 => ?_) (fun c7 => ?_)
        · rw [if_neg c7] at hf
          refine lv_iconst (v := 0) hx hb dX9_is_58 (by decide) ?_
          obtain rfl := so_eq hf
          exact g_zret (v := 0) C rfl hP hD hS dX9_is_59
        · rw [if_pos c7] at hf
          refine lv_iconst (v := 1) hx hb dX9_is_54 (by decide) ?_
          refine lv_goto (tgt := 59) hx hb dX9_is_55 (by decide) ?_
          obtain rfl := so_eq hf
          exact g_zret (v := 1) C rfl hP hD hS dX9_is_59
/-! CoachCourtModel.ends -/
def fX9_ends_50 (s_mo : S2) (x4 : Int32) : Option (Int32) :=
  if x4 = (0 : Int32) then
    (some (1 : Int32))
  else
    ((fX9_byteAt s_mo ((s_mo 0 9) + (6 : Int32))).bind fun v6 =>
    if v6 = x4 then
      (some (1 : Int32))
    else
      (some (0 : Int32)))
def fX9_ends_32 (s_mo : S2) (x3 : Int32) (x4 : Int32) : Option (Int32) :=
  if x3 = (0 : Int32) then
    (fX9_ends_50 s_mo x4)
  else
    ((fX9_byteAt s_mo ((s_mo 0 9) + (5 : Int32))).bind fun v8 =>
    if v8 = x3 then
      (fX9_ends_50 s_mo x4)
    else
      (some (0 : Int32)))
def fX9_ends (s_mo : S2) (p1 : Int32) (p2 : Int32) (p3 : Int32) (p4 : Int32) : Option (Int32) :=
  (fX9_byteAt s_mo ((s_mo 0 9) + (3 : Int32))).bind fun v1 =>
  if v1 = p1 then
    (if p2 = (0 : Int32) then
      (fX9_ends_32 s_mo p3 p4)
    else
      ((fX9_byteAt s_mo ((s_mo 0 9) + (4 : Int32))).bind fun v10 =>
      if v10 = p2 then
        (fX9_ends_32 s_mo p3 p4)
      else
        (some (0 : Int32))))
  else
    (some (0 : Int32))
theorem hdX9_ends : yX9_ends.cls = RX9 ∧ yX9_ends.cls ≠ "java/lang/invoke/MethodHandle" ∧ yX9_ends.cls ≠ "java/lang/invoke/VarHandle" ∧ (parseMethodDescriptor yX9_ends.desc).map (fun d => d.parameters.length) = some 4 := by decide +kernel
theorem iwX9_ends_X9 : ∀ w ∈ wsX90, w ∈ wsX9_ends := by decide +kernel
theorem lkX9_ends_f99 : Cond.fieldLink RX9 99 "CoachCourtModel" "from" "I" ∈ wsX9_ends := by decide +kernel
set_option maxHeartbeats 4000000 in
set_option maxRecDepth 100000 in
theorem wX9_ends_50 {p : Program} {l : Launch} {e : Env} {s : State} {m : MethodId} {args : Array Value} {below : List Frame} {meth : Method} {c : Code} {D : va_G} {t : Nat → ClassId} {κ : Nat → Nat} {A : Nat → Prop} {a_mo : Nat → Nat} {s_mo : S2} {lam : S6} {x4 : Int32} {out : Int32} (C : Cxt p s m args meth c cX9_ends 5 RX9 wsX9_ends (some .boolean) D t κ A) (hf : fX9_ends_50 s_mo x4 = some out) : ∀ (H : Heap) (locs : List Loc) (ls : Array Slot), va_P D vwCl (wModel t a_mo s_mo lam) H → va_D A (wModel t a_mo s_mo lam) → va_S A s.heap H locs → lv_has ls 5 [(0, .ref (a_mo 0)), (4, .int x4)] → W p l e (rmL 1) s m args below meth c H locs 0 0 (MQ below (gQ D (some (.int out)) (wModel t a_mo s_mo lam) A) args s 0 0 A) (F0 m 50 ls []) := by
  obtain ⟨hx, hb, hr, hml, hown, hts, hC0, hlk, hA⟩ := id C
  have hK := hC0.1
  intro H locs ls hP hD hS hl
  unfold fX9_ends_50 at hf
  refine lv_iload hx hb dX9_ends_50 (lv_at hl 1 rfl) ?_
  refine lv_if_eq (tgt := 71) hx hb dX9_ends_52 (by decide) (fun c5 => ?_) (fun c5 => ?_)
  · rw [if_pos c5] at hf
    refine lv_iconst (v := 1) hx hb dX9_ends_71 (by decide) ?_
    refine lv_goto (tgt := 76) hx hb dX9_ends_72 (by decide) ?_
    obtain rfl := so_eq hf
    exact g_zret (v := 1) C rfl hP hD hS dX9_ends_76
  · rw [if_neg c5] at hf
    refine lv_aload_n hx hb dX9_ends_55 rfl (lv_at hl 0 rfl) ?_
    refine lv_aload_n hx hb dX9_ends_56 rfl (lv_at hl 0 rfl) ?_
    refine va_get (D := D) (ci := 9) (v := .int (s_mo 0 9)) (C := RX9) (T := TX9) (N := 37) hx hb hts iwX9_ends_X9 hown hK hP 0 rfl rfl 14 (by decide) (hts _ lkX9_ends_f99) (fun _ h9 => h9) rfl dX9_ends_57 ?_
    refine lv_bipush (v := 6) hx hb dX9_ends_60 (by decide) ?_
    refine lv_iadd hx hb dX9_ends_62 ?_
    obtain ⟨v6, ev6, hf⟩ := bd_some hf
    refine gk_V0 C (As := [.int ((s_mo 0 9) + (6 : Int32))]) (rest := []) (ci := 9) (q := (RX9, TX9, 37)) (q0 := 0) (cX9_byteAt_ok (l := l) (D := D) (t := t) (κ := κ) (a_mo := a_mo) (lam := lam) ev6) gX9_ends_X9_byteAt rfl ⟨rfl, rfl⟩ hdX9_byteAt ⟨Nat.le_of_ble_eq_true rfl, Nat.le_of_ble_eq_true rfl⟩ rfl rfl hP hD hS rfl hl.1 (Nat.le_of_ble_eq_true rfl) dX9_ends_63 (Nat.zero_le _) (Nat.zero_le _) (fun H locs hP hD hS => ?_)
    refine W.eq (g2 := F0 m 66 ls [.int v6]) rfl ?_
    refine lv_iload hx hb dX9_ends_66 (lv_at hl 1 rfl) ?_
    refine lv_icmp_ne (tgt := 75) hx hb dX9_ends_68 (by decide) (fun c7 => ?_) (fun c7 => ?_)
    · rw [if_neg c7] at hf
      refine lv_iconst (v := 0) hx hb dX9_ends_75 (by decide) ?_
      obtain rfl := so_eq hf
      exact g_zret (v := 0) C rfl hP hD hS dX9_ends_76
    · rw [if_pos c7] at hf
      refine lv_iconst (v := 1) hx hb dX9_ends_71 (by decide) ?_
      refine lv_goto (tgt := 76) hx hb dX9_ends_72 (by decide) ?_
      obtain rfl := so_eq hf
      exact g_zret (v := 1) C rfl hP hD hS dX9_ends_76
set_option maxHeartbeats 4000000 in
set_option maxRecDepth 100000 in
theorem wX9_ends_32 {p : Program} {l : Launch} {e : Env} {s : State} {m : MethodId} {args : Array Value} {below : List Frame} {meth : Method} {c : Code} {D : va_G} {t : Nat → ClassId} {κ : Nat → Nat} {A : Nat → Prop} {a_mo : Nat → Nat} {s_mo : S2} {lam : S6} {x3 : Int32} {x4 : Int32} {out : Int32} (C : Cxt p s m args meth c cX9_ends 5 RX9 wsX9_ends (some .boolean) D t κ A) (hf : fX9_ends_32 s_mo x3 x4 = some out) : ∀ (H : Heap) (locs : List Loc) (ls : Array Slot), va_P D vwCl (wModel t a_mo s_mo lam) H → va_D A (wModel t a_mo s_mo lam) → va_S A s.heap H locs → lv_has ls 5 [(0, .ref (a_mo 0)), (3, .int x3), (4, .int x4)] → W p l e (rmL 1) s m args below meth c H locs 0 0 (MQ below (gQ D (some (.int out)) (wModel t a_mo s_mo lam) A) args s 0 0 A) (F0 m 32 ls []) := by
  obtain ⟨hx, hb, hr, hml, hown, hts, hC0, hlk, hA⟩ := id C
  have hK := hC0.1
  intro H locs ls hP hD hS hl
  unfold fX9_ends_32 at hf
  refine lv_iload_n hx hb dX9_ends_32 rfl (lv_at hl 1 rfl) ?_
  refine lv_if_eq (tgt := 50) hx hb dX9_ends_33 (by decide) (fun c4 => ?_) (fun c4 => ?_)
  · rw [if_pos c4] at hf
    exact wX9_ends_50 C hf _ _ _ hP hD hS (lv_sub hl [0, 2] rfl)
  · rw [if_neg c4] at hf
    refine lv_aload_n hx hb dX9_ends_36 rfl (lv_at hl 0 rfl) ?_
    refine lv_aload_n hx hb dX9_ends_37 rfl (lv_at hl 0 rfl) ?_
    refine va_get (D := D) (ci := 9) (v := .int (s_mo 0 9)) (C := RX9) (T := TX9) (N := 37) hx hb hts iwX9_ends_X9 hown hK hP 0 rfl rfl 14 (by decide) (hts _ lkX9_ends_f99) (fun _ h9 => h9) rfl dX9_ends_38 ?_
    refine lv_iconst (v := 5) hx hb dX9_ends_41 (by decide) ?_
    refine lv_iadd hx hb dX9_ends_42 ?_
    obtain ⟨v8, ev8, hf⟩ := bd_some hf
    refine gk_V0 C (As := [.int ((s_mo 0 9) + (5 : Int32))]) (rest := []) (ci := 9) (q := (RX9, TX9, 37)) (q0 := 0) (cX9_byteAt_ok (l := l) (D := D) (t := t) (κ := κ) (a_mo := a_mo) (lam := lam) ev8) gX9_ends_X9_byteAt rfl ⟨rfl, rfl⟩ hdX9_byteAt ⟨Nat.le_of_ble_eq_true rfl, Nat.le_of_ble_eq_true rfl⟩ rfl rfl hP hD hS rfl hl.1 (Nat.le_of_ble_eq_true rfl) dX9_ends_43 (Nat.zero_le _) (Nat.zero_le _) (fun H locs hP hD hS => ?_)
    refine W.eq (g2 := F0 m 46 ls [.int v8]) rfl ?_
    refine lv_iload_n hx hb dX9_ends_46 rfl (lv_at hl 1 rfl) ?_
    refine lv_icmp_ne (tgt := 75) hx hb dX9_ends_47 (by decide) (fun c9 => ?_) (fun c9 => ?_)
    · rw [if_neg c9] at hf
      refine lv_iconst (v := 0) hx hb dX9_ends_75 (by decide) ?_
      obtain rfl := so_eq hf
      exact g_zret (v := 0) C rfl hP hD hS dX9_ends_76
    · rw [if_pos c9] at hf
      exact wX9_ends_50 C hf _ _ _ hP hD hS (lv_sub hl [0, 2] rfl)
set_option maxHeartbeats 4000000 in
set_option maxRecDepth 100000 in
theorem cX9_ends_ok {l : Launch} {D : va_G} {t : Nat → ClassId} {κ : Nat → Nat} {a_mo : Nat → Nat} {s_mo : S2} {lam : S6} {p1 : Int32} {p2 : Int32} {p3 : Int32} {p4 : Int32} {out : Int32} (hf : fX9_ends s_mo p1 p2 p3 p4 = some out) : Ct l D t κ yX9_ends wsX9_ends (rmL 1) [.ref (a_mo 0), .int p1, .int p2, .int p3, .int p4] (wModel t a_mo s_mo lam) (some (.int out)) (wModel t a_mo s_mo lam) := by
  refine Ct.ofW (own := RX9) (cc := cX9_ends) (maxL := 5) (ret := (some .boolean)) (by decide) rfl rfl (Nat.le_of_ble_eq_true rfl) ?_
  intro p e s m below meth c A C hP hD ls hl
  have hS : va_S A s.heap s.heap [] := va_S.rf
  obtain ⟨hx, hb, hr, hml, hown, hts, hC0, hlk, hA⟩ := id C
  have hK := hC0.1
  have hl : lv_has ls 5 [(0, .ref (a_mo 0)), (1, .int p1), (2, .int p2), (3, .int p3), (4, .int p4)] := hl
  unfold fX9_ends at hf
  refine lv_aload_n hx hb dX9_ends_0 rfl (lv_at hl 0 rfl) ?_
  refine lv_aload_n hx hb dX9_ends_1 rfl (lv_at hl 0 rfl) ?_
  refine va_get (D := D) (ci := 9) (v := .int (s_mo 0 9)) (C := RX9) (T := TX9) (N := 37) hx hb hts iwX9_ends_X9 hown hK hP 0 rfl rfl 14 (by decide) (hts _ lkX9_ends_f99) (fun _ h9 => h9) rfl dX9_ends_2 ?_
  refine lv_iconst (v := 3) hx hb dX9_ends_5 (by decide) ?_
  refine lv_iadd hx hb dX9_ends_6 ?_
  obtain ⟨v1, ev1, hf⟩ := bd_some hf
  refine gk_V0 C (As := [.int ((s_mo 0 9) + (3 : Int32))]) (rest := []) (ci := 9) (q := (RX9, TX9, 37)) (q0 := 0) (cX9_byteAt_ok (l := l) (D := D) (t := t) (κ := κ) (a_mo := a_mo) (lam := lam) ev1) gX9_ends_X9_byteAt rfl ⟨rfl, rfl⟩ hdX9_byteAt ⟨Nat.le_of_ble_eq_true rfl, Nat.le_of_ble_eq_true rfl⟩ rfl rfl hP hD hS rfl hl.1 (Nat.le_of_ble_eq_true rfl) dX9_ends_7 (Nat.zero_le _) (Nat.zero_le _) (fun H locs hP hD hS => ?_)
  refine W.eq (g2 := F0 m 10 ls [.int v1]) rfl ?_
  refine lv_iload_n hx hb dX9_ends_10 rfl (lv_at hl 1 rfl) ?_
  refine lv_icmp_ne (tgt := 75) hx hb dX9_ends_11 (by decide) (fun c2 => ?_) (fun c2 => ?_)
  · rw [if_neg c2] at hf
    refine lv_iconst (v := 0) hx hb dX9_ends_75 (by decide) ?_
    obtain rfl := so_eq hf
    exact g_zret (v := 0) C rfl hP hD hS dX9_ends_76
  · rw [if_pos c2] at hf
    refine lv_iload_n hx hb dX9_ends_14 rfl (lv_at hl 2 rfl) ?_
    refine lv_if_eq (tgt := 32) hx hb dX9_ends_15 (by decide) (fun c3 => ?_) (fun c3 => ?_)
    · rw [if_pos c3] at hf
      exact wX9_ends_32 C hf _ _ _ hP hD hS (lv_sub hl [0, 3, 4] rfl)
    · rw [if_neg c3] at hf
      refine lv_aload_n hx hb dX9_ends_18 rfl (lv_at hl 0 rfl) ?_
      refine lv_aload_n hx hb dX9_ends_19 rfl (lv_at hl 0 rfl) ?_
      refine va_get (D := D) (ci := 9) (v := .int (s_mo 0 9)) (C := RX9) (T := TX9) (N := 37) hx hb hts iwX9_ends_X9 hown hK hP 0 rfl rfl 14 (by decide) (hts _ lkX9_ends_f99) (fun _ h9 => h9) rfl dX9_ends_20 ?_
      refine lv_iconst (v := 4) hx hb dX9_ends_23 (by decide) ?_
      refine lv_iadd hx hb dX9_ends_24 ?_
      obtain ⟨v10, ev10, hf⟩ := bd_some hf
      refine gk_V0 C (As := [.int ((s_mo 0 9) + (4 : Int32))]) (rest := []) (ci := 9) (q := (RX9, TX9, 37)) (q0 := 0) (cX9_byteAt_ok (l := l) (D := D) (t := t) (κ := κ) (a_mo := a_mo) (lam := lam) ev10) gX9_ends_X9_byteAt rfl ⟨rfl, rfl⟩ hdX9_byteAt ⟨Nat.le_of_ble_eq_true rfl, Nat.le_of_ble_eq_true rfl⟩ rfl rfl hP hD hS rfl hl.1 (Nat.le_of_ble_eq_true rfl) dX9_ends_25 (Nat.zero_le _) (Nat.zero_le _) (fun H locs hP hD hS => ?_)
      refine W.eq (g2 := F0 m 28 ls [.int v10]) rfl ?_
      refine lv_iload_n hx hb dX9_ends_28 rfl (lv_at hl 2 rfl) ?_
      refine lv_icmp_ne (tgt := 75) hx hb dX9_ends_29 (by decide) (fun c11 => ?_) (fun c11 => ?_)
      · rw [if_neg c11] at hf
        refine lv_iconst (v := 0) hx hb dX9_ends_75 (by decide) ?_
        obtain rfl := so_eq hf
        exact g_zret (v := 0) C rfl hP hD hS dX9_ends_76
      · rw [if_pos c11] at hf
        exact wX9_ends_32 C hf _ _ _ hP hD hS (lv_sub hl [0, 3, 4] rfl)
/-! CoachCourtModel.lineNow -/
def fX9_lineNow_193 (s_mo : S2) : Option (Int32) :=
  (fX9_is s_mo (4 : Int32) (115 : Int32) (110 : Int32) (111 : Int32)).bind fun v15 =>
  if v15 = (0 : Int32) then
    (some (-4 : Int32))
  else
    ((fX9_ends s_mo (119 : Int32) (0 : Int32) (0 : Int32) (0 : Int32)).bind fun v17 =>
    if v17 = (0 : Int32) then
      (some (-4 : Int32))
    else
      (some (7 : Int32)))
def fX9_lineNow_146 (s_mo : S2) : Option (Int32) :=
  (fX9_is s_mo (3 : Int32) (109 : Int32) (117 : Int32) (100 : Int32)).bind fun v11 =>
  if v11 = (0 : Int32) then
    ((fX9_is s_mo (4 : Int32) (114 : Int32) (111 : Int32) (111 : Int32)).bind fun v13 =>
    if v13 = (0 : Int32) then
      (fX9_lineNow_193 s_mo)
    else
      ((fX9_ends s_mo (109 : Int32) (0 : Int32) (0 : Int32) (0 : Int32)).bind fun v19 =>
      if v19 = (0 : Int32) then
        (fX9_lineNow_193 s_mo)
      else
        (some (6 : Int32))))
  else
    (some (5 : Int32))
def fX9_lineNow_118 (s_mo : S2) : Option (Int32) :=
  (fX9_is s_mo (4 : Int32) (109 : Int32) (105 : Int32) (108 : Int32)).bind fun v9 =>
  if v9 = (0 : Int32) then
    (fX9_lineNow_146 s_mo)
  else
    ((fX9_ends s_mo (101 : Int32) (0 : Int32) (0 : Int32) (0 : Int32)).bind fun v21 =>
    if v21 = (0 : Int32) then
      (fX9_lineNow_146 s_mo)
    else
      (some (4 : Int32)))
def fX9_lineNow_86 (s_mo : S2) : Option (Int32) :=
  (fX9_is s_mo (7 : Int32) (99 : Int32) (111 : Int32) (117 : Int32)).bind fun v7 =>
  if v7 = (0 : Int32) then
    (fX9_lineNow_118 s_mo)
  else
    ((fX9_ends s_mo (110 : Int32) (115 : Int32) (101 : Int32) (108 : Int32)).bind fun v23 =>
    if v23 = (0 : Int32) then
      (fX9_lineNow_118 s_mo)
    else
      (some (3 : Int32)))
def fX9_lineNow_58 (s_mo : S2) : Option (Int32) :=
  (fX9_is s_mo (4 : Int32) (108 : Int32) (97 : Int32) (109 : Int32)).bind fun v5 =>
  if v5 = (0 : Int32) then
    (fX9_lineNow_86 s_mo)
  else
    ((fX9_ends s_mo (101 : Int32) (0 : Int32) (0 : Int32) (0 : Int32)).bind fun v25 =>
    if v25 = (0 : Int32) then
      (fX9_lineNow_86 s_mo)
    else
      (some (2 : Int32)))
def fX9_lineNow_29 (s_mo : S2) : Option (Int32) :=
  (fX9_is s_mo (5 : Int32) (114 : Int32) (105 : Int32) (100 : Int32)).bind fun v3 =>
  if v3 = (0 : Int32) then
    (fX9_lineNow_58 s_mo)
  else
    ((fX9_ends s_mo (101 : Int32) (114 : Int32) (0 : Int32) (0 : Int32)).bind fun v27 =>
    if v27 = (0 : Int32) then
      (fX9_lineNow_58 s_mo)
    else
      (some (1 : Int32)))
def fX9_lineNow (s_mo : S2) : Option (Int32) :=
  (fX9_is s_mo (5 : Int32) (112 : Int32) (108 : Int32) (97 : Int32)).bind fun v1 =>
  if v1 = (0 : Int32) then
    (fX9_lineNow_29 s_mo)
  else
    ((fX9_ends s_mo (105 : Int32) (110 : Int32) (0 : Int32) (0 : Int32)).bind fun v29 =>
    if v29 = (0 : Int32) then
      (fX9_lineNow_29 s_mo)
    else
      (some (0 : Int32)))
theorem hdX9_lineNow : yX9_lineNow.cls = RX9 ∧ yX9_lineNow.cls ≠ "java/lang/invoke/MethodHandle" ∧ yX9_lineNow.cls ≠ "java/lang/invoke/VarHandle" ∧ (parseMethodDescriptor yX9_lineNow.desc).map (fun d => d.parameters.length) = some 0 := by decide +kernel
set_option maxHeartbeats 4000000 in
set_option maxRecDepth 100000 in
theorem wX9_lineNow_193 {p : Program} {l : Launch} {e : Env} {s : State} {m : MethodId} {args : Array Value} {below : List Frame} {meth : Method} {c : Code} {D : va_G} {t : Nat → ClassId} {κ : Nat → Nat} {A : Nat → Prop} {a_mo : Nat → Nat} {s_mo : S2} {lam : S6} {out : Int32} (C : Cxt p s m args meth c cX9_lineNow 1 RX9 wsX9_lineNow (some .int) D t κ A) (hf : fX9_lineNow_193 s_mo = some out) : ∀ (H : Heap) (locs : List Loc) (ls : Array Slot), va_P D vwCl (wModel t a_mo s_mo lam) H → va_D A (wModel t a_mo s_mo lam) → va_S A s.heap H locs → lv_has ls 1 [(0, .ref (a_mo 0))] → W p l e (rmL 2) s m args below meth c H locs 0 0 (MQ below (gQ D (some (.int out)) (wModel t a_mo s_mo lam) A) args s 0 0 A) (F0 m 193 ls []) := by
  obtain ⟨hx, hb, hr, hml, hown, hts, hC0, hlk, hA⟩ := id C
  have hK := hC0.1
  intro H locs ls hP hD hS hl
  unfold fX9_lineNow_193 at hf
  refine lv_aload_n hx hb dX9_lineNow_193 rfl (lv_at hl 0 rfl) ?_
  refine lv_iconst (v := 4) hx hb dX9_lineNow_194 (by decide) ?_
  refine lv_bipush (v := 115) hx hb dX9_lineNow_195 (by decide) ?_
  refine lv_bipush (v := 110) hx hb dX9_lineNow_197 (by decide) ?_
  refine lv_bipush (v := 111) hx hb dX9_lineNow_199 (by decide) ?_
  obtain ⟨v15, ev15, hf⟩ := bd_some hf
  refine gk_V0 C (As := [.int (4 : Int32), .int (115 : Int32), .int (110 : Int32), .int (111 : Int32)]) (rest := []) (ci := 9) (q := (RX9, TX9, 37)) (q0 := 0) (cX9_is_ok (l := l) (D := D) (t := t) (κ := κ) (a_mo := a_mo) (lam := lam) ev15) gX9_lineNow_X9_is rfl ⟨rfl, rfl⟩ hdX9_is ⟨Nat.le_of_ble_eq_true rfl, Nat.le_of_ble_eq_true rfl⟩ rfl rfl hP hD hS rfl hl.1 (Nat.le_of_ble_eq_true rfl) dX9_lineNow_201 (Nat.zero_le _) (Nat.zero_le _) (fun H locs hP hD hS => ?_)
  refine W.eq (g2 := F0 m 204 ls [.int v15]) rfl ?_
  refine lv_if_eq (tgt := 224) hx hb dX9_lineNow_204 (by decide) (fun c16 => ?_) (fun c16 => ?_)
  · rw [if_pos c16] at hf
    refine lv_bipush (v := -4) hx hb dX9_lineNow_224 (by decide) ?_
    obtain rfl := so_eq hf
    exact g_iret C hP hD hS dX9_lineNow_226
  · rw [if_neg c16] at hf
    refine lv_aload_n hx hb dX9_lineNow_207 rfl (lv_at hl 0 rfl) ?_
    refine lv_bipush (v := 119) hx hb dX9_lineNow_208 (by decide) ?_
    refine lv_iconst (v := 0) hx hb dX9_lineNow_210 (by decide) ?_
    refine lv_iconst (v := 0) hx hb dX9_lineNow_211 (by decide) ?_
    refine lv_iconst (v := 0) hx hb dX9_lineNow_212 (by decide) ?_
    obtain ⟨v17, ev17, hf⟩ := bd_some hf
    refine gk_V0 C (As := [.int (119 : Int32), .int (0 : Int32), .int (0 : Int32), .int (0 : Int32)]) (rest := []) (ci := 9) (q := (RX9, TX9, 37)) (q0 := 0) (cX9_ends_ok (l := l) (D := D) (t := t) (κ := κ) (a_mo := a_mo) (lam := lam) ev17) gX9_lineNow_X9_ends rfl ⟨rfl, rfl⟩ hdX9_ends ⟨Nat.le_of_ble_eq_true rfl, Nat.le_of_ble_eq_true rfl⟩ rfl rfl hP hD hS rfl hl.1 (Nat.le_of_ble_eq_true rfl) dX9_lineNow_213 (Nat.zero_le _) (Nat.zero_le _) (fun H locs hP hD hS => ?_)
    refine W.eq (g2 := F0 m 216 ls [.int v17]) rfl ?_
    refine lv_if_eq (tgt := 224) hx hb dX9_lineNow_216 (by decide) (fun c18 => ?_) (fun c18 => ?_)
    · rw [if_pos c18] at hf
      refine lv_bipush (v := -4) hx hb dX9_lineNow_224 (by decide) ?_
      obtain rfl := so_eq hf
      exact g_iret C hP hD hS dX9_lineNow_226
    · rw [if_neg c18] at hf
      refine lv_bipush (v := 7) hx hb dX9_lineNow_219 (by decide) ?_
      refine lv_goto (tgt := 226) hx hb dX9_lineNow_221 (by decide) ?_
      obtain rfl := so_eq hf
      exact g_iret C hP hD hS dX9_lineNow_226
set_option maxHeartbeats 4000000 in
set_option maxRecDepth 100000 in
theorem wX9_lineNow_146 {p : Program} {l : Launch} {e : Env} {s : State} {m : MethodId} {args : Array Value} {below : List Frame} {meth : Method} {c : Code} {D : va_G} {t : Nat → ClassId} {κ : Nat → Nat} {A : Nat → Prop} {a_mo : Nat → Nat} {s_mo : S2} {lam : S6} {out : Int32} (C : Cxt p s m args meth c cX9_lineNow 1 RX9 wsX9_lineNow (some .int) D t κ A) (hf : fX9_lineNow_146 s_mo = some out) : ∀ (H : Heap) (locs : List Loc) (ls : Array Slot), va_P D vwCl (wModel t a_mo s_mo lam) H → va_D A (wModel t a_mo s_mo lam) → va_S A s.heap H locs → lv_has ls 1 [(0, .ref (a_mo 0))] → W p l e (rmL 2) s m args below meth c H locs 0 0 (MQ below (gQ D (some (.int out)) (wModel t a_mo s_mo lam) A) args s 0 0 A) (F0 m 146 ls []) := by
  obtain ⟨hx, hb, hr, hml, hown, hts, hC0, hlk, hA⟩ := id C
  have hK := hC0.1
  intro H locs ls hP hD hS hl
  unfold fX9_lineNow_146 at hf
  refine lv_aload_n hx hb dX9_lineNow_146 rfl (lv_at hl 0 rfl) ?_
  refine lv_iconst (v := 3) hx hb dX9_lineNow_147 (by decide) ?_
  refine lv_bipush (v := 109) hx hb dX9_lineNow_148 (by decide) ?_
  refine lv_bipush (v := 117) hx hb dX9_lineNow_150 (by decide) ?_
  refine lv_bipush (v := 100) hx hb dX9_lineNow_152 (by decide) ?_
  obtain ⟨v11, ev11, hf⟩ := bd_some hf
  refine gk_V0 C (As := [.int (3 : Int32), .int (109 : Int32), .int (117 : Int32), .int (100 : Int32)]) (rest := []) (ci := 9) (q := (RX9, TX9, 37)) (q0 := 0) (cX9_is_ok (l := l) (D := D) (t := t) (κ := κ) (a_mo := a_mo) (lam := lam) ev11) gX9_lineNow_X9_is rfl ⟨rfl, rfl⟩ hdX9_is ⟨Nat.le_of_ble_eq_true rfl, Nat.le_of_ble_eq_true rfl⟩ rfl rfl hP hD hS rfl hl.1 (Nat.le_of_ble_eq_true rfl) dX9_lineNow_154 (Nat.zero_le _) (Nat.zero_le _) (fun H locs hP hD hS => ?_)
  refine W.eq (g2 := F0 m 157 ls [.int v11]) rfl ?_
  refine lv_if_eq (tgt := 162) hx hb dX9_lineNow_157 (by decide) (fun c12 => ?_) (fun c12 => ?_)
  · rw [if_pos c12] at hf
    refine lv_aload_n hx hb dX9_lineNow_162 rfl (lv_at hl 0 rfl) ?_
    refine lv_iconst (v := 4) hx hb dX9_lineNow_163 (by decide) ?_
    refine lv_bipush (v := 114) hx hb dX9_lineNow_164 (by decide) ?_
    refine lv_bipush (v := 111) hx hb dX9_lineNow_166 (by decide) ?_
    refine lv_bipush (v := 111) hx hb dX9_lineNow_168 (by decide) ?_
    obtain ⟨v13, ev13, hf⟩ := bd_some hf
    refine gk_V0 C (As := [.int (4 : Int32), .int (114 : Int32), .int (111 : Int32), .int (111 : Int32)]) (rest := []) (ci := 9) (q := (RX9, TX9, 37)) (q0 := 0) (cX9_is_ok (l := l) (D := D) (t := t) (κ := κ) (a_mo := a_mo) (lam := lam) ev13) gX9_lineNow_X9_is rfl ⟨rfl, rfl⟩ hdX9_is ⟨Nat.le_of_ble_eq_true rfl, Nat.le_of_ble_eq_true rfl⟩ rfl rfl hP hD hS rfl hl.1 (Nat.le_of_ble_eq_true rfl) dX9_lineNow_170 (Nat.zero_le _) (Nat.zero_le _) (fun H locs hP hD hS => ?_)
    refine W.eq (g2 := F0 m 173 ls [.int v13]) rfl ?_
    refine lv_if_eq (tgt := 193) hx hb dX9_lineNow_173 (by decide) (fun c14 => ?_) (fun c14 => ?_)
    · rw [if_pos c14] at hf
      exact wX9_lineNow_193 C hf _ _ _ hP hD hS (lv_sub hl [0] rfl)
    · rw [if_neg c14] at hf
      refine lv_aload_n hx hb dX9_lineNow_176 rfl (lv_at hl 0 rfl) ?_
      refine lv_bipush (v := 109) hx hb dX9_lineNow_177 (by decide) ?_
      refine lv_iconst (v := 0) hx hb dX9_lineNow_179 (by decide) ?_
      refine lv_iconst (v := 0) hx hb dX9_lineNow_180 (by decide) ?_
      refine lv_iconst (v := 0) hx hb dX9_lineNow_181 (by decide) ?_
      obtain ⟨v19, ev19, hf⟩ := bd_some hf
      refine gk_V0 C (As := [.int (109 : Int32), .int (0 : Int32), .int (0 : Int32), .int (0 : Int32)]) (rest := []) (ci := 9) (q := (RX9, TX9, 37)) (q0 := 0) (cX9_ends_ok (l := l) (D := D) (t := t) (κ := κ) (a_mo := a_mo) (lam := lam) ev19) gX9_lineNow_X9_ends rfl ⟨rfl, rfl⟩ hdX9_ends ⟨Nat.le_of_ble_eq_true rfl, Nat.le_of_ble_eq_true rfl⟩ rfl rfl hP hD hS rfl hl.1 (Nat.le_of_ble_eq_true rfl) dX9_lineNow_182 (Nat.zero_le _) (Nat.zero_le _) (fun H locs hP hD hS => ?_)
      refine W.eq (g2 := F0 m 185 ls [.int v19]) rfl ?_
      refine lv_if_eq (tgt := 193) hx hb dX9_lineNow_185 (by decide) (fun c20 => ?_) (fun c20 => ?_)
      · rw [if_pos c20] at hf
        exact wX9_lineNow_193 C hf _ _ _ hP hD hS (lv_sub hl [0] rfl)
      · rw [if_neg c20] at hf
        refine lv_bipush (v := 6) hx hb dX9_lineNow_188 (by decide) ?_
        refine lv_goto (tgt := 226) hx hb dX9_lineNow_190 (by decide) ?_
        obtain rfl := so_eq hf
        exact g_iret C hP hD hS dX9_lineNow_226
  · rw [if_neg c12] at hf
    refine lv_iconst (v := 5) hx hb dX9_lineNow_160 (by decide) ?_
    obtain rfl := so_eq hf
    exact g_iret C hP hD hS dX9_lineNow_161
set_option maxHeartbeats 4000000 in
set_option maxRecDepth 100000 in
theorem wX9_lineNow_118 {p : Program} {l : Launch} {e : Env} {s : State} {m : MethodId} {args : Array Value} {below : List Frame} {meth : Method} {c : Code} {D : va_G} {t : Nat → ClassId} {κ : Nat → Nat} {A : Nat → Prop} {a_mo : Nat → Nat} {s_mo : S2} {lam : S6} {out : Int32} (C : Cxt p s m args meth c cX9_lineNow 1 RX9 wsX9_lineNow (some .int) D t κ A) (hf : fX9_lineNow_118 s_mo = some out) : ∀ (H : Heap) (locs : List Loc) (ls : Array Slot), va_P D vwCl (wModel t a_mo s_mo lam) H → va_D A (wModel t a_mo s_mo lam) → va_S A s.heap H locs → lv_has ls 1 [(0, .ref (a_mo 0))] → W p l e (rmL 2) s m args below meth c H locs 0 0 (MQ below (gQ D (some (.int out)) (wModel t a_mo s_mo lam) A) args s 0 0 A) (F0 m 118 ls []) := by
  obtain ⟨hx, hb, hr, hml, hown, hts, hC0, hlk, hA⟩ := id C
  have hK := hC0.1
  intro H locs ls hP hD hS hl
  unfold fX9_lineNow_118 at hf
  refine lv_aload_n hx hb dX9_lineNow_118 rfl (lv_at hl 0 rfl) ?_
  refine lv_iconst (v := 4) hx hb dX9_lineNow_119 (by decide) ?_
  refine lv_bipush (v := 109) hx hb dX9_lineNow_120 (by decide) ?_
  refine lv_bipush (v := 105) hx hb dX9_lineNow_122 (by decide) ?_
  refine lv_bipush (v := 108) hx hb dX9_lineNow_124 (by decide) ?_
  obtain ⟨v9, ev9, hf⟩ := bd_some hf
  refine gk_V0 C (As := [.int (4 : Int32), .int (109 : Int32), .int (105 : Int32), .int (108 : Int32)]) (rest := []) (ci := 9) (q := (RX9, TX9, 37)) (q0 := 0) (cX9_is_ok (l := l) (D := D) (t := t) (κ := κ) (a_mo := a_mo) (lam := lam) ev9) gX9_lineNow_X9_is rfl ⟨rfl, rfl⟩ hdX9_is ⟨Nat.le_of_ble_eq_true rfl, Nat.le_of_ble_eq_true rfl⟩ rfl rfl hP hD hS rfl hl.1 (Nat.le_of_ble_eq_true rfl) dX9_lineNow_126 (Nat.zero_le _) (Nat.zero_le _) (fun H locs hP hD hS => ?_)
  refine W.eq (g2 := F0 m 129 ls [.int v9]) rfl ?_
  refine lv_if_eq (tgt := 146) hx hb dX9_lineNow_129 (by decide) (fun c10 => ?_) (fun c10 => ?_)
  · rw [if_pos c10] at hf
    exact wX9_lineNow_146 C hf _ _ _ hP hD hS (lv_sub hl [0] rfl)
  · rw [if_neg c10] at hf
    refine lv_aload_n hx hb dX9_lineNow_132 rfl (lv_at hl 0 rfl) ?_
    refine lv_bipush (v := 101) hx hb dX9_lineNow_133 (by decide) ?_
    refine lv_iconst (v := 0) hx hb dX9_lineNow_135 (by decide) ?_
    refine lv_iconst (v := 0) hx hb dX9_lineNow_136 (by decide) ?_
    refine lv_iconst (v := 0) hx hb dX9_lineNow_137 (by decide) ?_
    obtain ⟨v21, ev21, hf⟩ := bd_some hf
    refine gk_V0 C (As := [.int (101 : Int32), .int (0 : Int32), .int (0 : Int32), .int (0 : Int32)]) (rest := []) (ci := 9) (q := (RX9, TX9, 37)) (q0 := 0) (cX9_ends_ok (l := l) (D := D) (t := t) (κ := κ) (a_mo := a_mo) (lam := lam) ev21) gX9_lineNow_X9_ends rfl ⟨rfl, rfl⟩ hdX9_ends ⟨Nat.le_of_ble_eq_true rfl, Nat.le_of_ble_eq_true rfl⟩ rfl rfl hP hD hS rfl hl.1 (Nat.le_of_ble_eq_true rfl) dX9_lineNow_138 (Nat.zero_le _) (Nat.zero_le _) (fun H locs hP hD hS => ?_)
    refine W.eq (g2 := F0 m 141 ls [.int v21]) rfl ?_
    refine lv_if_eq (tgt := 146) hx hb dX9_lineNow_141 (by decide) (fun c22 => ?_) (fun c22 => ?_)
    · rw [if_pos c22] at hf
      exact wX9_lineNow_146 C hf _ _ _ hP hD hS (lv_sub hl [0] rfl)
    · rw [if_neg c22] at hf
      refine lv_iconst (v := 4) hx hb dX9_lineNow_144 (by decide) ?_
      obtain rfl := so_eq hf
      exact g_iret C hP hD hS dX9_lineNow_145
set_option maxHeartbeats 4000000 in
set_option maxRecDepth 100000 in
theorem wX9_lineNow_86 {p : Program} {l : Launch} {e : Env} {s : State} {m : MethodId} {args : Array Value} {below : List Frame} {meth : Method} {c : Code} {D : va_G} {t : Nat → ClassId} {κ : Nat → Nat} {A : Nat → Prop} {a_mo : Nat → Nat} {s_mo : S2} {lam : S6} {out : Int32} (C : Cxt p s m args meth c cX9_lineNow 1 RX9 wsX9_lineNow (some .int) D t κ A) (hf : fX9_lineNow_86 s_mo = some out) : ∀ (H : Heap) (locs : List Loc) (ls : Array Slot), va_P D vwCl (wModel t a_mo s_mo lam) H → va_D A (wModel t a_mo s_mo lam) → va_S A s.heap H locs → lv_has ls 1 [(0, .ref (a_mo 0))] → W p l e (rmL 2) s m args below meth c H locs 0 0 (MQ below (gQ D (some (.int out)) (wModel t a_mo s_mo lam) A) args s 0 0 A) (F0 m 86 ls []) := by
  obtain ⟨hx, hb, hr, hml, hown, hts, hC0, hlk, hA⟩ := id C
  have hK := hC0.1
  intro H locs ls hP hD hS hl
  unfold fX9_lineNow_86 at hf
  refine lv_aload_n hx hb dX9_lineNow_86 rfl (lv_at hl 0 rfl) ?_
  refine lv_bipush (v := 7) hx hb dX9_lineNow_87 (by decide) ?_
  refine lv_bipush (v := 99) hx hb dX9_lineNow_89 (by decide) ?_
  refine lv_bipush (v := 111) hx hb dX9_lineNow_91 (by decide) ?_
  refine lv_bipush (v := 117) hx hb dX9_lineNow_93 (by decide) ?_
  obtain ⟨v7, ev7, hf⟩ := bd_some hf
  refine gk_V0 C (As := [.int (7 : Int32), .int (99 : Int32), .int (111 : Int32), .int (117 : Int32)]) (rest := []) (ci := 9) (q := (RX9, TX9, 37)) (q0 := 0) (cX9_is_ok (l := l) (D := D) (t := t) (κ := κ) (a_mo := a_mo) (lam := lam) ev7) gX9_lineNow_X9_is rfl ⟨rfl, rfl⟩ hdX9_is ⟨Nat.le_of_ble_eq_true rfl, Nat.le_of_ble_eq_true rfl⟩ rfl rfl hP hD hS rfl hl.1 (Nat.le_of_ble_eq_true rfl) dX9_lineNow_95 (Nat.zero_le _) (Nat.zero_le _) (fun H locs hP hD hS => ?_)
  refine W.eq (g2 := F0 m 98 ls [.int v7]) rfl ?_
  refine lv_if_eq (tgt := 118) hx hb dX9_lineNow_98 (by decide) (fun c8 => ?_) (fun c8 => ?_)
  · rw [if_pos c8] at hf
    exact wX9_lineNow_118 C hf _ _ _ hP hD hS (lv_sub hl [0] rfl)
  · rw [if_neg c8] at hf
    refine lv_aload_n hx hb dX9_lineNow_101 rfl (lv_at hl 0 rfl) ?_
    refine lv_bipush (v := 110) hx hb dX9_lineNow_102 (by decide) ?_
    refine lv_bipush (v := 115) hx hb dX9_lineNow_104 (by decide) ?_
    refine lv_bipush (v := 101) hx hb dX9_lineNow_106 (by decide) ?_
    refine lv_bipush (v := 108) hx hb dX9_lineNow_108 (by decide) ?_
    obtain ⟨v23, ev23, hf⟩ := bd_some hf
    refine gk_V0 C (As := [.int (110 : Int32), .int (115 : Int32), .int (101 : Int32), .int (108 : Int32)]) (rest := []) (ci := 9) (q := (RX9, TX9, 37)) (q0 := 0) (cX9_ends_ok (l := l) (D := D) (t := t) (κ := κ) (a_mo := a_mo) (lam := lam) ev23) gX9_lineNow_X9_ends rfl ⟨rfl, rfl⟩ hdX9_ends ⟨Nat.le_of_ble_eq_true rfl, Nat.le_of_ble_eq_true rfl⟩ rfl rfl hP hD hS rfl hl.1 (Nat.le_of_ble_eq_true rfl) dX9_lineNow_110 (Nat.zero_le _) (Nat.zero_le _) (fun H locs hP hD hS => ?_)
    refine W.eq (g2 := F0 m 113 ls [.int v23]) rfl ?_
    refine lv_if_eq (tgt := 118) hx hb dX9_lineNow_113 (by decide) (fun c24 => ?_) (fun c24 => ?_)
    · rw [if_pos c24] at hf
      exact wX9_lineNow_118 C hf _ _ _ hP hD hS (lv_sub hl [0] rfl)
    · rw [if_neg c24] at hf
      refine lv_iconst (v := 3) hx hb dX9_lineNow_116 (by decide) ?_
      obtain rfl := so_eq hf
      exact g_iret C hP hD hS dX9_lineNow_117
set_option maxHeartbeats 4000000 in
set_option maxRecDepth 100000 in
theorem wX9_lineNow_58 {p : Program} {l : Launch} {e : Env} {s : State} {m : MethodId} {args : Array Value} {below : List Frame} {meth : Method} {c : Code} {D : va_G} {t : Nat → ClassId} {κ : Nat → Nat} {A : Nat → Prop} {a_mo : Nat → Nat} {s_mo : S2} {lam : S6} {out : Int32} (C : Cxt p s m args meth c cX9_lineNow 1 RX9 wsX9_lineNow (some .int) D t κ A) (hf : fX9_lineNow_58 s_mo = some out) : ∀ (H : Heap) (locs : List Loc) (ls : Array Slot), va_P D vwCl (wModel t a_mo s_mo lam) H → va_D A (wModel t a_mo s_mo lam) → va_S A s.heap H locs → lv_has ls 1 [(0, .ref (a_mo 0))] → W p l e (rmL 2) s m args below meth c H locs 0 0 (MQ below (gQ D (some (.int out)) (wModel t a_mo s_mo lam) A) args s 0 0 A) (F0 m 58 ls []) := by
  obtain ⟨hx, hb, hr, hml, hown, hts, hC0, hlk, hA⟩ := id C
  have hK := hC0.1
  intro H locs ls hP hD hS hl
  unfold fX9_lineNow_58 at hf
  refine lv_aload_n hx hb dX9_lineNow_58 rfl (lv_at hl 0 rfl) ?_
  refine lv_iconst (v := 4) hx hb dX9_lineNow_59 (by decide) ?_
  refine lv_bipush (v := 108) hx hb dX9_lineNow_60 (by decide) ?_
  refine lv_bipush (v := 97) hx hb dX9_lineNow_62 (by decide) ?_
  refine lv_bipush (v := 109) hx hb dX9_lineNow_64 (by decide) ?_
  obtain ⟨v5, ev5, hf⟩ := bd_some hf
  refine gk_V0 C (As := [.int (4 : Int32), .int (108 : Int32), .int (97 : Int32), .int (109 : Int32)]) (rest := []) (ci := 9) (q := (RX9, TX9, 37)) (q0 := 0) (cX9_is_ok (l := l) (D := D) (t := t) (κ := κ) (a_mo := a_mo) (lam := lam) ev5) gX9_lineNow_X9_is rfl ⟨rfl, rfl⟩ hdX9_is ⟨Nat.le_of_ble_eq_true rfl, Nat.le_of_ble_eq_true rfl⟩ rfl rfl hP hD hS rfl hl.1 (Nat.le_of_ble_eq_true rfl) dX9_lineNow_66 (Nat.zero_le _) (Nat.zero_le _) (fun H locs hP hD hS => ?_)
  refine W.eq (g2 := F0 m 69 ls [.int v5]) rfl ?_
  refine lv_if_eq (tgt := 86) hx hb dX9_lineNow_69 (by decide) (fun c6 => ?_) (fun c6 => ?_)
  · rw [if_pos c6] at hf
    exact wX9_lineNow_86 C hf _ _ _ hP hD hS (lv_sub hl [0] rfl)
  · rw [if_neg c6] at hf
    refine lv_aload_n hx hb dX9_lineNow_72 rfl (lv_at hl 0 rfl) ?_
    refine lv_bipush (v := 101) hx hb dX9_lineNow_73 (by decide) ?_
    refine lv_iconst (v := 0) hx hb dX9_lineNow_75 (by decide) ?_
    refine lv_iconst (v := 0) hx hb dX9_lineNow_76 (by decide) ?_
    refine lv_iconst (v := 0) hx hb dX9_lineNow_77 (by decide) ?_
    obtain ⟨v25, ev25, hf⟩ := bd_some hf
    refine gk_V0 C (As := [.int (101 : Int32), .int (0 : Int32), .int (0 : Int32), .int (0 : Int32)]) (rest := []) (ci := 9) (q := (RX9, TX9, 37)) (q0 := 0) (cX9_ends_ok (l := l) (D := D) (t := t) (κ := κ) (a_mo := a_mo) (lam := lam) ev25) gX9_lineNow_X9_ends rfl ⟨rfl, rfl⟩ hdX9_ends ⟨Nat.le_of_ble_eq_true rfl, Nat.le_of_ble_eq_true rfl⟩ rfl rfl hP hD hS rfl hl.1 (Nat.le_of_ble_eq_true rfl) dX9_lineNow_78 (Nat.zero_le _) (Nat.zero_le _) (fun H locs hP hD hS => ?_)
    refine W.eq (g2 := F0 m 81 ls [.int v25]) rfl ?_
    refine lv_if_eq (tgt := 86) hx hb dX9_lineNow_81 (by decide) (fun c26 => ?_) (fun c26 => ?_)
    · rw [if_pos c26] at hf
      exact wX9_lineNow_86 C hf _ _ _ hP hD hS (lv_sub hl [0] rfl)
    · rw [if_neg c26] at hf
      refine lv_iconst (v := 2) hx hb dX9_lineNow_84 (by decide) ?_
      obtain rfl := so_eq hf
      exact g_iret C hP hD hS dX9_lineNow_85
set_option maxHeartbeats 4000000 in
set_option maxRecDepth 100000 in
theorem wX9_lineNow_29 {p : Program} {l : Launch} {e : Env} {s : State} {m : MethodId} {args : Array Value} {below : List Frame} {meth : Method} {c : Code} {D : va_G} {t : Nat → ClassId} {κ : Nat → Nat} {A : Nat → Prop} {a_mo : Nat → Nat} {s_mo : S2} {lam : S6} {out : Int32} (C : Cxt p s m args meth c cX9_lineNow 1 RX9 wsX9_lineNow (some .int) D t κ A) (hf : fX9_lineNow_29 s_mo = some out) : ∀ (H : Heap) (locs : List Loc) (ls : Array Slot), va_P D vwCl (wModel t a_mo s_mo lam) H → va_D A (wModel t a_mo s_mo lam) → va_S A s.heap H locs → lv_has ls 1 [(0, .ref (a_mo 0))] → W p l e (rmL 2) s m args below meth c H locs 0 0 (MQ below (gQ D (some (.int out)) (wModel t a_mo s_mo lam) A) args s 0 0 A) (F0 m 29 ls []) := by
  obtain ⟨hx, hb, hr, hml, hown, hts, hC0, hlk, hA⟩ := id C
  have hK := hC0.1
  intro H locs ls hP hD hS hl
  unfold fX9_lineNow_29 at hf
  refine lv_aload_n hx hb dX9_lineNow_29 rfl (lv_at hl 0 rfl) ?_
  refine lv_iconst (v := 5) hx hb dX9_lineNow_30 (by decide) ?_
  refine lv_bipush (v := 114) hx hb dX9_lineNow_31 (by decide) ?_
  refine lv_bipush (v := 105) hx hb dX9_lineNow_33 (by decide) ?_
  refine lv_bipush (v := 100) hx hb dX9_lineNow_35 (by decide) ?_
  obtain ⟨v3, ev3, hf⟩ := bd_some hf
  refine gk_V0 C (As := [.int (5 : Int32), .int (114 : Int32), .int (105 : Int32), .int (100 : Int32)]) (rest := []) (ci := 9) (q := (RX9, TX9, 37)) (q0 := 0) (cX9_is_ok (l := l) (D := D) (t := t) (κ := κ) (a_mo := a_mo) (lam := lam) ev3) gX9_lineNow_X9_is rfl ⟨rfl, rfl⟩ hdX9_is ⟨Nat.le_of_ble_eq_true rfl, Nat.le_of_ble_eq_true rfl⟩ rfl rfl hP hD hS rfl hl.1 (Nat.le_of_ble_eq_true rfl) dX9_lineNow_37 (Nat.zero_le _) (Nat.zero_le _) (fun H locs hP hD hS => ?_)
  refine W.eq (g2 := F0 m 40 ls [.int v3]) rfl ?_
  refine lv_if_eq (tgt := 58) hx hb dX9_lineNow_40 (by decide) (fun c4 => ?_) (fun c4 => ?_)
  · rw [if_pos c4] at hf
    exact wX9_lineNow_58 C hf _ _ _ hP hD hS (lv_sub hl [0] rfl)
  · rw [if_neg c4] at hf
    refine lv_aload_n hx hb dX9_lineNow_43 rfl (lv_at hl 0 rfl) ?_
    refine lv_bipush (v := 101) hx hb dX9_lineNow_44 (by decide) ?_
    refine lv_bipush (v := 114) hx hb dX9_lineNow_46 (by decide) ?_
    refine lv_iconst (v := 0) hx hb dX9_lineNow_48 (by decide) ?_
    refine lv_iconst (v := 0) hx hb dX9_lineNow_49 (by decide) ?_
    obtain ⟨v27, ev27, hf⟩ := bd_some hf
    refine gk_V0 C (As := [.int (101 : Int32), .int (114 : Int32), .int (0 : Int32), .int (0 : Int32)]) (rest := []) (ci := 9) (q := (RX9, TX9, 37)) (q0 := 0) (cX9_ends_ok (l := l) (D := D) (t := t) (κ := κ) (a_mo := a_mo) (lam := lam) ev27) gX9_lineNow_X9_ends rfl ⟨rfl, rfl⟩ hdX9_ends ⟨Nat.le_of_ble_eq_true rfl, Nat.le_of_ble_eq_true rfl⟩ rfl rfl hP hD hS rfl hl.1 (Nat.le_of_ble_eq_true rfl) dX9_lineNow_50 (Nat.zero_le _) (Nat.zero_le _) (fun H locs hP hD hS => ?_)
    refine W.eq (g2 := F0 m 53 ls [.int v27]) rfl ?_
    refine lv_if_eq (tgt := 58) hx hb dX9_lineNow_53 (by decide) (fun c28 => ?_) (fun c28 => ?_)
    · rw [if_pos c28] at hf
      exact wX9_lineNow_58 C hf _ _ _ hP hD hS (lv_sub hl [0] rfl)
    · rw [if_neg c28] at hf
      refine lv_iconst (v := 1) hx hb dX9_lineNow_56 (by decide) ?_
      obtain rfl := so_eq hf
      exact g_iret C hP hD hS dX9_lineNow_57
set_option maxHeartbeats 4000000 in
set_option maxRecDepth 100000 in
theorem cX9_lineNow_ok {l : Launch} {D : va_G} {t : Nat → ClassId} {κ : Nat → Nat} {a_mo : Nat → Nat} {s_mo : S2} {lam : S6} {out : Int32} (hf : fX9_lineNow s_mo = some out) : Ct l D t κ yX9_lineNow wsX9_lineNow (rmL 2) [.ref (a_mo 0)] (wModel t a_mo s_mo lam) (some (.int out)) (wModel t a_mo s_mo lam) := by
  refine Ct.ofW (own := RX9) (cc := cX9_lineNow) (maxL := 1) (ret := (some .int)) (by decide) rfl rfl (Nat.le_of_ble_eq_true rfl) ?_
  intro p e s m below meth c A C hP hD ls hl
  have hS : va_S A s.heap s.heap [] := va_S.rf
  obtain ⟨hx, hb, hr, hml, hown, hts, hC0, hlk, hA⟩ := id C
  have hK := hC0.1
  have hl : lv_has ls 1 [(0, .ref (a_mo 0))] := hl
  unfold fX9_lineNow at hf
  refine lv_aload_n hx hb dX9_lineNow_0 rfl (lv_at hl 0 rfl) ?_
  refine lv_iconst (v := 5) hx hb dX9_lineNow_1 (by decide) ?_
  refine lv_bipush (v := 112) hx hb dX9_lineNow_2 (by decide) ?_
  refine lv_bipush (v := 108) hx hb dX9_lineNow_4 (by decide) ?_
  refine lv_bipush (v := 97) hx hb dX9_lineNow_6 (by decide) ?_
  obtain ⟨v1, ev1, hf⟩ := bd_some hf
  refine gk_V0 C (As := [.int (5 : Int32), .int (112 : Int32), .int (108 : Int32), .int (97 : Int32)]) (rest := []) (ci := 9) (q := (RX9, TX9, 37)) (q0 := 0) (cX9_is_ok (l := l) (D := D) (t := t) (κ := κ) (a_mo := a_mo) (lam := lam) ev1) gX9_lineNow_X9_is rfl ⟨rfl, rfl⟩ hdX9_is ⟨Nat.le_of_ble_eq_true rfl, Nat.le_of_ble_eq_true rfl⟩ rfl rfl hP hD hS rfl hl.1 (Nat.le_of_ble_eq_true rfl) dX9_lineNow_8 (Nat.zero_le _) (Nat.zero_le _) (fun H locs hP hD hS => ?_)
  refine W.eq (g2 := F0 m 11 ls [.int v1]) rfl ?_
  refine lv_if_eq (tgt := 29) hx hb dX9_lineNow_11 (by decide) (fun c2 => ?_) (fun c2 => ?_)
  · rw [if_pos c2] at hf
    exact wX9_lineNow_29 C hf _ _ _ hP hD hS (lv_sub hl [0] rfl)
  · rw [if_neg c2] at hf
    refine lv_aload_n hx hb dX9_lineNow_14 rfl (lv_at hl 0 rfl) ?_
    refine lv_bipush (v := 105) hx hb dX9_lineNow_15 (by decide) ?_
    refine lv_bipush (v := 110) hx hb dX9_lineNow_17 (by decide) ?_
    refine lv_iconst (v := 0) hx hb dX9_lineNow_19 (by decide) ?_
    refine lv_iconst (v := 0) hx hb dX9_lineNow_20 (by decide) ?_
    obtain ⟨v29, ev29, hf⟩ := bd_some hf
    refine gk_V0 C (As := [.int (105 : Int32), .int (110 : Int32), .int (0 : Int32), .int (0 : Int32)]) (rest := []) (ci := 9) (q := (RX9, TX9, 37)) (q0 := 0) (cX9_ends_ok (l := l) (D := D) (t := t) (κ := κ) (a_mo := a_mo) (lam := lam) ev29) gX9_lineNow_X9_ends rfl ⟨rfl, rfl⟩ hdX9_ends ⟨Nat.le_of_ble_eq_true rfl, Nat.le_of_ble_eq_true rfl⟩ rfl rfl hP hD hS rfl hl.1 (Nat.le_of_ble_eq_true rfl) dX9_lineNow_21 (Nat.zero_le _) (Nat.zero_le _) (fun H locs hP hD hS => ?_)
    refine W.eq (g2 := F0 m 24 ls [.int v29]) rfl ?_
    refine lv_if_eq (tgt := 29) hx hb dX9_lineNow_24 (by decide) (fun c30 => ?_) (fun c30 => ?_)
    · rw [if_pos c30] at hf
      exact wX9_lineNow_29 C hf _ _ _ hP hD hS (lv_sub hl [0] rfl)
    · rw [if_neg c30] at hf
      refine lv_iconst (v := 0) hx hb dX9_lineNow_27 (by decide) ?_
      obtain rfl := so_eq hf
      exact g_iret C hP hD hS dX9_lineNow_28
/-! CoachCourtModel.next -/
def fX9_next_b8 (s_mo : S2) : Option ((S2) ⊕ (S2)) :=
  (fX9_byteAt s_mo (s_mo 0 8)).bind fun v2 =>
  if v2 = (32 : Int32) then
    (nm (sE s_mo 0 8 ((s_mo 0 8) + (1 : Int32))) fun s4 =>
    some (.inl s4))
  else
    (some (.inr s_mo))
def fX9_next_260 (s_mo : S2) (k0 : Int32) : Option (S2) :=
  (fX9_needs s_mo k0 (1 : Int32)).bind fun v15 =>
  nm (sE v15 0 8 ((v15 0 8) + (1 : Int32))) fun s16 =>
  some s16
def fX9_next_201 (s_mo : S2) (k0 : Int32) : Option ((S2) ⊕ (S2)) :=
  nm (sE s_mo 0 11 k0) fun s23 =>
  nm (sE s23 0 8 ((s23 0 8) + (1 : Int32))) fun s24 =>
  some (.inl s24)
def fX9_next_b140 (s_mo : S2) : Option ((S2) ⊕ (S2)) :=
  (fX9_byteAt s_mo (s_mo 0 8)).bind fun v19 =>
  (fX9_in (Int32.toInt64 v19) (48 : Int64) (57 : Int64)).bind fun v20 =>
  if v20 = (0 : Int32) then
    (some (.inr s_mo))
  else
    (if (2 : Int32) ≤ ((s_mo 0 8) - (s_mo 0 9)) then
      (fX9_next_201 s_mo (s_mo 0 11))
    else
      ((fX9_byteAt s_mo (s_mo 0 8)).bind fun v25 =>
      fX9_next_201 s_mo ((((10 : Int32) * (s_mo 0 11)) + v25) - (48 : Int32))))
def fX9_next_236 (s_mo : S2) (k0 : Int32) : Option (S2) :=
  (fX9_needs s_mo k0 (1 : Int32)).bind fun v28 =>
  some v28
def fX9_next_b82 (s_mo : S2) : Option ((S2) ⊕ (S2)) :=
  (fX9_byteAt s_mo (s_mo 0 8)).bind fun v30 =>
  (fX9_in (Int32.toInt64 v30) (97 : Int64) (122 : Int64)).bind fun v31 =>
  if v31 = (0 : Int32) then
    (some (.inr s_mo))
  else
    (nm (sE s_mo 0 8 ((s_mo 0 8) + (1 : Int32))) fun s33 =>
    some (.inl s33))
def fX9_next (s_mo : S2) : Option (S2) :=
  if (s_mo 0 12) ≤ (0 : Int32) then
    ((wh (fun (c : S2) => fX9_next_b8 c) 5000 s_mo).bind fun x5 =>
    nm (sE x5 0 9 (x5 0 8)) fun s6 =>
    (fX9_byteAt s6 (s6 0 8)).bind fun v7 =>
    if (0 : Int32) ≤ v7 then
      ((fX9_in (Int32.toInt64 v7) (97 : Int64) (122 : Int64)).bind fun v9 =>
      if v9 = (0 : Int32) then
        ((fX9_in (Int32.toInt64 v7) (48 : Int64) (57 : Int64)).bind fun v11 =>
        if v11 = (0 : Int32) then
          (nm (sE s6 0 10 (3 : Int32)) fun s13 =>
          if v7 = (59 : Int32) then
            (fX9_next_260 s13 (1 : Int32))
          else
            (fX9_next_260 s13 (0 : Int32)))
        else
          (nm (sE s6 0 10 (2 : Int32)) fun s17 =>
          nm (sE s17 0 11 (0 : Int32)) fun s18 =>
          (wh (fun (c : S2) => fX9_next_b140 c) 5000 s18).bind fun x26 =>
          if (2 : Int32) < ((x26 0 8) - (x26 0 9)) then
            (fX9_next_236 x26 (0 : Int32))
          else
            (fX9_next_236 x26 (1 : Int32))))
      else
        (nm (sE s6 0 10 (1 : Int32)) fun s29 =>
        (wh (fun (c : S2) => fX9_next_b82 c) 5000 s29).bind fun x34 =>
        some x34))
    else
      (nm (sE s6 0 10 (0 : Int32)) fun s35 =>
      some s35))
  else
    (some s_mo)
theorem hdX9_next : yX9_next.cls = RX9 ∧ yX9_next.cls ≠ "java/lang/invoke/MethodHandle" ∧ yX9_next.cls ≠ "java/lang/invoke/VarHandle" ∧ (parseMethodDescriptor yX9_next.desc).map (fun d => d.parameters.length) = some 0 := by decide +kernel
theorem iwX9_next_X9 : ∀ w ∈ wsX90, w ∈ wsX9_next := by decide +kernel
theorem lkX9_next_f96 : Cond.fieldLink RX9 96 "CoachCourtModel" "fault" "I" ∈ wsX9_next := by decide +kernel
theorem lkX9_next_f105 : Cond.fieldLink RX9 105 "CoachCourtModel" "pos" "I" ∈ wsX9_next := by decide +kernel
theorem lkX9_next_f99 : Cond.fieldLink RX9 99 "CoachCourtModel" "from" "I" ∈ wsX9_next := by decide +kernel
theorem lkX9_next_l122 : Cond.constantLong RX9 122 (97) ∈ wsX9_next := by decide +kernel
theorem lkX9_next_l124 : Cond.constantLong RX9 124 (122) ∈ wsX9_next := by decide +kernel
theorem lkX9_next_l126 : Cond.constantLong RX9 126 (48) ∈ wsX9_next := by decide +kernel
theorem lkX9_next_l128 : Cond.constantLong RX9 128 (57) ∈ wsX9_next := by decide +kernel
theorem lkX9_next_f119 : Cond.fieldLink RX9 119 "CoachCourtModel" "sort" "I" ∈ wsX9_next := by decide +kernel
theorem lkX9_next_f130 : Cond.fieldLink RX9 130 "CoachCourtModel" "value" "I" ∈ wsX9_next := by decide +kernel
set_option maxHeartbeats 4000000 in
set_option maxRecDepth 100000 in
theorem wX9_next_l8 {p : Program} {l : Launch} {e : Env} {s : State} {m : MethodId} {args : Array Value} {below : List Frame} {meth : Method} {c : Code} {D : va_G} {t : Nat → ClassId} {κ : Nat → Nat} {A : Nat → Prop} {a_mo : Nat → Nat} {lam : S6} {rv : Option Value} {w1 : va_W} (C : Cxt p s m args meth c cX9_next 2 RX9 wsX9_next none D t κ A) : ∀ (n : Nat) (s_mo : S2) (x : S2), wh (fun (c : S2) => fX9_next_b8 c) n s_mo = some x → (∀ (z : S2), x = z → ∀ (H : Heap) (locs : List Loc) (ls : Array Slot), va_P D vwCl (wModel t a_mo z lam) H → va_D A (wModel t a_mo z lam) → va_S A s.heap H locs → lv_has ls 2 [(0, .ref (a_mo 0))] → W p l e (rmL 1) s m args below meth c H locs 0 0 (MQ below (gQ D rv w1 A) args s 0 0 A) (F0 m 34 ls [])) → ∀ (H : Heap) (locs : List Loc) (ls : Array Slot), va_P D vwCl (wModel t a_mo s_mo lam) H → va_D A (wModel t a_mo s_mo lam) → va_S A s.heap H locs → lv_has ls 2 [(0, .ref (a_mo 0))] → W p l e (rmL 1) s m args below meth c H locs 0 0 (MQ below (gQ D rv w1 A) args s 0 0 A) (F0 m 8 ls []) := by
  obtain ⟨hx, hb, hr, hml, hown, hts, hC0, hlk, hA⟩ := id C
  have hK := hC0.1
  intro n
  induction n with
  | zero =>
    intro s_mo x h
    exact (wh_0 h).elim
  | succ n ih =>
    intro s_mo x h HX H locs ls hP hD hS hl
    obtain ⟨v, hf, hB, hX⟩ := wh_step h
    have hf : fX9_next_b8 s_mo = some v := hf
    have HB : ∀ (z : S2), v = .inl z → ∀ (H : Heap) (locs : List Loc) (ls : Array Slot), va_P D vwCl (wModel t a_mo z lam) H → va_D A (wModel t a_mo z lam) → va_S A s.heap H locs → lv_has ls 2 [(0, .ref (a_mo 0))] → W p l e (rmL 1) s m args below meth c H locs 0 0 (MQ below (gQ D rv w1 A) args s 0 0 A) (F0 m 8 ls []) := fun z hz H locs ls hP hD hS hl => ih z x (hB z hz) HX H locs ls hP hD hS hl
    have HX : ∀ (z : S2), v = .inr z → ∀ (H : Heap) (locs : List Loc) (ls : Array Slot), va_P D vwCl (wModel t a_mo z lam) H → va_D A (wModel t a_mo z lam) → va_S A s.heap H locs → lv_has ls 2 [(0, .ref (a_mo 0))] → W p l e (rmL 1) s m args below meth c H locs 0 0 (MQ below (gQ D rv w1 A) args s 0 0 A) (F0 m 34 ls []) := fun z hz => HX z (hX _ hz).symm
    unfold fX9_next_b8 at hf
    refine lv_aload_n hx hb dX9_next_8 rfl (lv_at hl 0 rfl) ?_
    refine lv_aload_n hx hb dX9_next_9 rfl (lv_at hl 0 rfl) ?_
    refine va_get (D := D) (ci := 9) (v := .int (s_mo 0 8)) (C := RX9) (T := TX9) (N := 37) hx hb hts iwX9_next_X9 hown hK hP 0 rfl rfl 13 (by decide) (hts _ lkX9_next_f105) (fun _ h9 => h9) rfl dX9_next_10 ?_
    obtain ⟨v2, ev2, hf⟩ := bd_some hf
    refine gk_V0 C (As := [.int (s_mo 0 8)]) (rest := []) (ci := 9) (q := (RX9, TX9, 37)) (q0 := 0) (cX9_byteAt_ok (l := l) (D := D) (t := t) (κ := κ) (a_mo := a_mo) (lam := lam) ev2) gX9_next_X9_byteAt rfl ⟨rfl, rfl⟩ hdX9_byteAt ⟨Nat.le_of_ble_eq_true rfl, Nat.le_of_ble_eq_true rfl⟩ rfl rfl hP hD hS rfl hl.1 (Nat.le_of_ble_eq_true rfl) dX9_next_13 (Nat.zero_le _) (Nat.zero_le _) (fun H locs hP hD hS => ?_)
    refine W.eq (g2 := F0 m 16 ls [.int v2]) rfl ?_
    refine lv_bipush (v := 32) hx hb dX9_next_16 (by decide) ?_
    refine lv_icmp_ne (tgt := 34) hx hb dX9_next_18 (by decide) (fun c3 => ?_) (fun c3 => ?_)
    · rw [if_neg c3] at hf
      obtain rfl := so_eq hf
      exact HX _ rfl _ _ _ hP hD hS (lv_sub hl [0] rfl)
    · rw [if_pos c3] at hf
      refine lv_aload_n hx hb dX9_next_21 rfl (lv_at hl 0 rfl) ?_
      refine lv_dup hx hb dX9_next_22 rfl ?_
      refine va_get (D := D) (ci := 9) (v := .int (s_mo 0 8)) (C := RX9) (T := TX9) (N := 37) hx hb hts iwX9_next_X9 hown hK hP 0 rfl rfl 13 (by decide) (hts _ lkX9_next_f105) (fun _ h9 => h9) rfl dX9_next_23 ?_
      refine lv_iconst (v := 1) hx hb dX9_next_26 (by decide) ?_
      refine lv_iadd hx hb dX9_next_27 ?_
      obtain ⟨s4, hs4, hf⟩ := nm_ex hf
      refine va_put (D := D) (ci := 9) (v := .int ((s_mo 0 8) + (1 : Int32))) (ty := .int) (C := RX9) (T := TX9) (N := 37) hx hb hts iwX9_next_X9 tyX9 tyX9_ok nmX9 hown hK hP hD hS 0 rfl rfl 13 (by decide) (hts _ lkX9_next_f105) (fun _ h9 => h9) rfl (by decide +kernel) rfl rfl (Nat.le_of_ble_eq_true rfl) dX9_next_28 (fun H locs hP hD hS => ?_)
      have hP : va_P D vwCl (wModel t a_mo s4 lam) H := by rw [hs4]; exact hP
      have hD : va_D A (wModel t a_mo s4 lam) := by rw [hs4]; exact hD
      refine lv_goto (tgt := 8) hx hb dX9_next_31 (by decide) ?_
      obtain rfl := so_eq hf
      exact HB _ rfl _ _ _ hP hD hS (lv_sub hl [0] rfl)
set_option maxHeartbeats 4000000 in
set_option maxRecDepth 100000 in
theorem wX9_next_260 {p : Program} {l : Launch} {e : Env} {s : State} {m : MethodId} {args : Array Value} {below : List Frame} {meth : Method} {c : Code} {D : va_G} {t : Nat → ClassId} {κ : Nat → Nat} {A : Nat → Prop} {a_mo : Nat → Nat} {s_mo : S2} {lam : S6} {k0 : Int32} {out : S2} (C : Cxt p s m args meth c cX9_next 2 RX9 wsX9_next none D t κ A) (hf : fX9_next_260 s_mo k0 = some out) : ∀ (H : Heap) (locs : List Loc) (ls : Array Slot), va_P D vwCl (wModel t a_mo s_mo lam) H → va_D A (wModel t a_mo s_mo lam) → va_S A s.heap H locs → lv_has ls 2 [(0, .ref (a_mo 0))] → W p l e (rmL 1) s m args below meth c H locs 0 0 (MQ below (gQ D none (wModel t a_mo out lam) A) args s 0 0 A) (F0 m 260 ls [.int k0, .ref (a_mo 0)]) := by
  obtain ⟨hx, hb, hr, hml, hown, hts, hC0, hlk, hA⟩ := id C
  have hK := hC0.1
  intro H locs ls hP hD hS hl
  unfold fX9_next_260 at hf
  refine lv_iconst (v := 1) hx hb dX9_next_260 (by decide) ?_
  obtain ⟨v15, ev15, hf⟩ := bd_some hf
  refine gk_V0 C (As := [.int k0, .int (1 : Int32)]) (rest := []) (ci := 9) (q := (RX9, TX9, 37)) (q0 := 0) (cX9_needs_ok (l := l) (D := D) (t := t) (κ := κ) (a_mo := a_mo) (lam := lam) ev15) gX9_next_X9_needs rfl ⟨rfl, rfl⟩ hdX9_needs ⟨Nat.le_of_ble_eq_true rfl, Nat.le_of_ble_eq_true rfl⟩ rfl rfl hP hD hS rfl hl.1 (Nat.le_of_ble_eq_true rfl) dX9_next_261 (Nat.zero_le _) (Nat.zero_le _) (fun H locs hP hD hS => ?_)
  refine W.eq (g2 := F0 m 264 ls []) rfl ?_
  refine lv_aload_n hx hb dX9_next_264 rfl (lv_at hl 0 rfl) ?_
  refine lv_dup hx hb dX9_next_265 rfl ?_
  refine va_get (D := D) (ci := 9) (v := .int (v15 0 8)) (C := RX9) (T := TX9) (N := 37) hx hb hts iwX9_next_X9 hown hK hP 0 rfl rfl 13 (by decide) (hts _ lkX9_next_f105) (fun _ h9 => h9) rfl dX9_next_266 ?_
  refine lv_iconst (v := 1) hx hb dX9_next_269 (by decide) ?_
  refine lv_iadd hx hb dX9_next_270 ?_
  obtain ⟨s16, hs16, hf⟩ := nm_ex hf
  refine va_put (D := D) (ci := 9) (v := .int ((v15 0 8) + (1 : Int32))) (ty := .int) (C := RX9) (T := TX9) (N := 37) hx hb hts iwX9_next_X9 tyX9 tyX9_ok nmX9 hown hK hP hD hS 0 rfl rfl 13 (by decide) (hts _ lkX9_next_f105) (fun _ h9 => h9) rfl (by decide +kernel) rfl rfl (Nat.le_of_ble_eq_true rfl) dX9_next_271 (fun H locs hP hD hS => ?_)
  have hP : va_P D vwCl (wModel t a_mo s16 lam) H := by rw [hs16]; exact hP
  have hD : va_D A (wModel t a_mo s16 lam) := by rw [hs16]; exact hD
  obtain rfl := so_eq hf
  exact g_vret C hP hD hS dX9_next_274
set_option maxHeartbeats 4000000 in
set_option maxRecDepth 100000 in
theorem wX9_next_201 {p : Program} {l : Launch} {e : Env} {s : State} {m : MethodId} {args : Array Value} {below : List Frame} {meth : Method} {c : Code} {D : va_G} {t : Nat → ClassId} {κ : Nat → Nat} {A : Nat → Prop} {a_mo : Nat → Nat} {s_mo : S2} {lam : S6} {k0 : Int32} {rv : Option Value} {w1 : va_W} {v : (S2) ⊕ (S2)} (C : Cxt p s m args meth c cX9_next 2 RX9 wsX9_next none D t κ A) (hf : fX9_next_201 s_mo k0 = some v) (HB : ∀ (z : S2), v = .inl z → ∀ (H : Heap) (locs : List Loc) (ls : Array Slot), va_P D vwCl (wModel t a_mo z lam) H → va_D A (wModel t a_mo z lam) → va_S A s.heap H locs → lv_has ls 2 [(0, .ref (a_mo 0))] → W p l e (rmL 1) s m args below meth c H locs 0 0 (MQ below (gQ D rv w1 A) args s 0 0 A) (F0 m 140 ls [])) : ∀ (H : Heap) (locs : List Loc) (ls : Array Slot), va_P D vwCl (wModel t a_mo s_mo lam) H → va_D A (wModel t a_mo s_mo lam) → va_S A s.heap H locs → lv_has ls 2 [(0, .ref (a_mo 0))] → W p l e (rmL 1) s m args below meth c H locs 0 0 (MQ below (gQ D rv w1 A) args s 0 0 A) (F0 m 201 ls [.int k0, .ref (a_mo 0)]) := by
  obtain ⟨hx, hb, hr, hml, hown, hts, hC0, hlk, hA⟩ := id C
  have hK := hC0.1
  intro H locs ls hP hD hS hl
  unfold fX9_next_201 at hf
  obtain ⟨s23, hs23, hf⟩ := nm_ex hf
  refine va_put (D := D) (ci := 9) (v := .int k0) (ty := .int) (C := RX9) (T := TX9) (N := 37) hx hb hts iwX9_next_X9 tyX9 tyX9_ok nmX9 hown hK hP hD hS 0 rfl rfl 16 (by decide) (hts _ lkX9_next_f130) (fun _ h9 => h9) rfl (by decide +kernel) rfl rfl (Nat.le_of_ble_eq_true rfl) dX9_next_201 (fun H locs hP hD hS => ?_)
  have hP : va_P D vwCl (wModel t a_mo s23 lam) H := by rw [hs23]; exact hP
  have hD : va_D A (wModel t a_mo s23 lam) := by rw [hs23]; exact hD
  refine lv_aload_n hx hb dX9_next_204 rfl (lv_at hl 0 rfl) ?_
  refine lv_dup hx hb dX9_next_205 rfl ?_
  refine va_get (D := D) (ci := 9) (v := .int (s23 0 8)) (C := RX9) (T := TX9) (N := 37) hx hb hts iwX9_next_X9 hown hK hP 0 rfl rfl 13 (by decide) (hts _ lkX9_next_f105) (fun _ h9 => h9) rfl dX9_next_206 ?_
  refine lv_iconst (v := 1) hx hb dX9_next_209 (by decide) ?_
  refine lv_iadd hx hb dX9_next_210 ?_
  obtain ⟨s24, hs24, hf⟩ := nm_ex hf
  refine va_put (D := D) (ci := 9) (v := .int ((s23 0 8) + (1 : Int32))) (ty := .int) (C := RX9) (T := TX9) (N := 37) hx hb hts iwX9_next_X9 tyX9 tyX9_ok nmX9 hown hK hP hD hS 0 rfl rfl 13 (by decide) (hts _ lkX9_next_f105) (fun _ h9 => h9) rfl (by decide +kernel) rfl rfl (Nat.le_of_ble_eq_true rfl) dX9_next_211 (fun H locs hP hD hS => ?_)
  have hP : va_P D vwCl (wModel t a_mo s24 lam) H := by rw [hs24]; exact hP
  have hD : va_D A (wModel t a_mo s24 lam) := by rw [hs24]; exact hD
  refine lv_goto (tgt := 140) hx hb dX9_next_214 (by decide) ?_
  obtain rfl := so_eq hf
  exact HB _ rfl _ _ _ hP hD hS (lv_sub hl [0] rfl)
set_option maxHeartbeats 4000000 in
set_option maxRecDepth 100000 in
theorem wX9_next_l140 {p : Program} {l : Launch} {e : Env} {s : State} {m : MethodId} {args : Array Value} {below : List Frame} {meth : Method} {c : Code} {D : va_G} {t : Nat → ClassId} {κ : Nat → Nat} {A : Nat → Prop} {a_mo : Nat → Nat} {lam : S6} {rv : Option Value} {w1 : va_W} (C : Cxt p s m args meth c cX9_next 2 RX9 wsX9_next none D t κ A) : ∀ (n : Nat) (s_mo : S2) (x : S2), wh (fun (c : S2) => fX9_next_b140 c) n s_mo = some x → (∀ (z : S2), x = z → ∀ (H : Heap) (locs : List Loc) (ls : Array Slot), va_P D vwCl (wModel t a_mo z lam) H → va_D A (wModel t a_mo z lam) → va_S A s.heap H locs → lv_has ls 2 [(0, .ref (a_mo 0))] → W p l e (rmL 1) s m args below meth c H locs 0 0 (MQ below (gQ D rv w1 A) args s 0 0 A) (F0 m 217 ls [])) → ∀ (H : Heap) (locs : List Loc) (ls : Array Slot), va_P D vwCl (wModel t a_mo s_mo lam) H → va_D A (wModel t a_mo s_mo lam) → va_S A s.heap H locs → lv_has ls 2 [(0, .ref (a_mo 0))] → W p l e (rmL 1) s m args below meth c H locs 0 0 (MQ below (gQ D rv w1 A) args s 0 0 A) (F0 m 140 ls []) := by
  obtain ⟨hx, hb, hr, hml, hown, hts, hC0, hlk, hA⟩ := id C
  have hK := hC0.1
  intro n
  induction n with
  | zero =>
    intro s_mo x h
    exact (wh_0 h).elim
  | succ n ih =>
    intro s_mo x h HX H locs ls hP hD hS hl
    obtain ⟨v, hf, hB, hX⟩ := wh_step h
    have hf : fX9_next_b140 s_mo = some v := hf
    have HB : ∀ (z : S2), v = .inl z → ∀ (H : Heap) (locs : List Loc) (ls : Array Slot), va_P D vwCl (wModel t a_mo z lam) H → va_D A (wModel t a_mo z lam) → va_S A s.heap H locs → lv_has ls 2 [(0, .ref (a_mo 0))] → W p l e (rmL 1) s m args below meth c H locs 0 0 (MQ below (gQ D rv w1 A) args s 0 0 A) (F0 m 140 ls []) := fun z hz H locs ls hP hD hS hl => ih z x (hB z hz) HX H locs ls hP hD hS hl
    have HX : ∀ (z : S2), v = .inr z → ∀ (H : Heap) (locs : List Loc) (ls : Array Slot), va_P D vwCl (wModel t a_mo z lam) H → va_D A (wModel t a_mo z lam) → va_S A s.heap H locs → lv_has ls 2 [(0, .ref (a_mo 0))] → W p l e (rmL 1) s m args below meth c H locs 0 0 (MQ below (gQ D rv w1 A) args s 0 0 A) (F0 m 217 ls []) := fun z hz => HX z (hX _ hz).symm
    unfold fX9_next_b140 at hf
    refine lv_aload_n hx hb dX9_next_140 rfl (lv_at hl 0 rfl) ?_
    refine lv_aload_n hx hb dX9_next_141 rfl (lv_at hl 0 rfl) ?_
    refine va_get (D := D) (ci := 9) (v := .int (s_mo 0 8)) (C := RX9) (T := TX9) (N := 37) hx hb hts iwX9_next_X9 hown hK hP 0 rfl rfl 13 (by decide) (hts _ lkX9_next_f105) (fun _ h9 => h9) rfl dX9_next_142 ?_
    obtain ⟨v19, ev19, hf⟩ := bd_some hf
    refine gk_V0 C (As := [.int (s_mo 0 8)]) (rest := []) (ci := 9) (q := (RX9, TX9, 37)) (q0 := 0) (cX9_byteAt_ok (l := l) (D := D) (t := t) (κ := κ) (a_mo := a_mo) (lam := lam) ev19) gX9_next_X9_byteAt rfl ⟨rfl, rfl⟩ hdX9_byteAt ⟨Nat.le_of_ble_eq_true rfl, Nat.le_of_ble_eq_true rfl⟩ rfl rfl hP hD hS rfl hl.1 (Nat.le_of_ble_eq_true rfl) dX9_next_145 (Nat.zero_le _) (Nat.zero_le _) (fun H locs hP hD hS => ?_)
    refine W.eq (g2 := F0 m 148 ls [.int v19]) rfl ?_
    refine lv_i2l hx hb dX9_next_148 rfl ?_
    refine lv_ldc2 hx hb hown (hts _ lkX9_next_l126) dX9_next_149 ?_
    refine lv_ldc2 hx hb hown (hts _ lkX9_next_l128) dX9_next_152 ?_
    obtain ⟨v20, ev20, hf⟩ := bd_some hf
    refine gk_S C (As := [.long (Int32.toInt64 v19), .long (48 : Int64), .long (57 : Int64)]) (rest := []) (cX9_in_ok (l := l) (D := D) (t := t) (κ := κ) ev20) gX9_next_X9_in rfl ⟨rfl, rfl⟩ hdX9_in ⟨Nat.le_of_ble_eq_true rfl, Nat.le_of_ble_eq_true rfl⟩ hP hD hS rfl hl.1 (Nat.le_of_ble_eq_true rfl) dX9_next_155 (Nat.zero_le _) (Nat.zero_le _) (fun H locs hP hD hS => ?_)
    refine W.eq (g2 := F0 m 158 ls [.int v20]) rfl ?_
    refine lv_if_eq (tgt := 217) hx hb dX9_next_158 (by decide) (fun c21 => ?_) (fun c21 => ?_)
    · rw [if_pos c21] at hf
      obtain rfl := so_eq hf
      exact HX _ rfl _ _ _ hP hD hS (lv_sub hl [0] rfl)
    · rw [if_neg c21] at hf
      refine lv_aload_n hx hb dX9_next_161 rfl (lv_at hl 0 rfl) ?_
      refine lv_aload_n hx hb dX9_next_162 rfl (lv_at hl 0 rfl) ?_
      refine va_get (D := D) (ci := 9) (v := .int (s_mo 0 8)) (C := RX9) (T := TX9) (N := 37) hx hb hts iwX9_next_X9 hown hK hP 0 rfl rfl 13 (by decide) (hts _ lkX9_next_f105) (fun _ h9 => h9) rfl dX9_next_163 ?_
      refine lv_aload_n hx hb dX9_next_166 rfl (lv_at hl 0 rfl) ?_
      refine va_get (D := D) (ci := 9) (v := .int (s_mo 0 9)) (C := RX9) (T := TX9) (N := 37) hx hb hts iwX9_next_X9 hown hK hP 0 rfl rfl 14 (by decide) (hts _ lkX9_next_f99) (fun _ h9 => h9) rfl dX9_next_167 ?_
      refine lv_isub hx hb dX9_next_170 ?_
      refine lv_iconst (v := 2) hx hb dX9_next_171 (by decide) ?_
      refine lv_icmp_ge (tgt := 197) hx hb dX9_next_172 (by decide) (fun c22 => ?_) (fun c22 => ?_)
      · rw [if_pos c22] at hf
        refine lv_aload_n hx hb dX9_next_197 rfl (lv_at hl 0 rfl) ?_
        refine va_get (D := D) (ci := 9) (v := .int (s_mo 0 11)) (C := RX9) (T := TX9) (N := 37) hx hb hts iwX9_next_X9 hown hK hP 0 rfl rfl 16 (by decide) (hts _ lkX9_next_f130) (fun _ h9 => h9) rfl dX9_next_198 ?_
        exact wX9_next_201 C hf HB _ _ _ hP hD hS (lv_sub hl [0] rfl)
      · rw [if_neg c22] at hf
        refine lv_bipush (v := 10) hx hb dX9_next_175 (by decide) ?_
        refine lv_aload_n hx hb dX9_next_177 rfl (lv_at hl 0 rfl) ?_
        refine va_get (D := D) (ci := 9) (v := .int (s_mo 0 11)) (C := RX9) (T := TX9) (N := 37) hx hb hts iwX9_next_X9 hown hK hP 0 rfl rfl 16 (by decide) (hts _ lkX9_next_f130) (fun _ h9 => h9) rfl dX9_next_178 ?_
        refine lv_imul hx hb dX9_next_181 ?_
        refine lv_aload_n hx hb dX9_next_182 rfl (lv_at hl 0 rfl) ?_
        refine lv_aload_n hx hb dX9_next_183 rfl (lv_at hl 0 rfl) ?_
        refine va_get (D := D) (ci := 9) (v := .int (s_mo 0 8)) (C := RX9) (T := TX9) (N := 37) hx hb hts iwX9_next_X9 hown hK hP 0 rfl rfl 13 (by decide) (hts _ lkX9_next_f105) (fun _ h9 => h9) rfl dX9_next_184 ?_
        obtain ⟨v25, ev25, hf⟩ := bd_some hf
        refine gk_V0 C (As := [.int (s_mo 0 8)]) (rest := [.int ((10 : Int32) * (s_mo 0 11)), .ref (a_mo 0)]) (ci := 9) (q := (RX9, TX9, 37)) (q0 := 0) (cX9_byteAt_ok (l := l) (D := D) (t := t) (κ := κ) (a_mo := a_mo) (lam := lam) ev25) gX9_next_X9_byteAt rfl ⟨rfl, rfl⟩ hdX9_byteAt ⟨Nat.le_of_ble_eq_true rfl, Nat.le_of_ble_eq_true rfl⟩ rfl rfl hP hD hS rfl hl.1 (Nat.le_of_ble_eq_true rfl) dX9_next_187 (Nat.zero_le _) (Nat.zero_le _) (fun H locs hP hD hS => ?_)
        refine W.eq (g2 := F0 m 190 ls [.int v25, .int ((10 : Int32) * (s_mo 0 11)), .ref (a_mo 0)]) rfl ?_
        refine lv_iadd hx hb dX9_next_190 ?_
        refine lv_bipush (v := 48) hx hb dX9_next_191 (by decide) ?_
        refine lv_isub hx hb dX9_next_193 ?_
        refine lv_goto (tgt := 201) hx hb dX9_next_194 (by decide) ?_
        exact wX9_next_201 C hf HB _ _ _ hP hD hS (lv_sub hl [0] rfl)
set_option maxHeartbeats 4000000 in
set_option maxRecDepth 100000 in
theorem wX9_next_236 {p : Program} {l : Launch} {e : Env} {s : State} {m : MethodId} {args : Array Value} {below : List Frame} {meth : Method} {c : Code} {D : va_G} {t : Nat → ClassId} {κ : Nat → Nat} {A : Nat → Prop} {a_mo : Nat → Nat} {s_mo : S2} {lam : S6} {k0 : Int32} {out : S2} (C : Cxt p s m args meth c cX9_next 2 RX9 wsX9_next none D t κ A) (hf : fX9_next_236 s_mo k0 = some out) : ∀ (H : Heap) (locs : List Loc) (ls : Array Slot), va_P D vwCl (wModel t a_mo s_mo lam) H → va_D A (wModel t a_mo s_mo lam) → va_S A s.heap H locs → lv_has ls 2 [] → W p l e (rmL 1) s m args below meth c H locs 0 0 (MQ below (gQ D none (wModel t a_mo out lam) A) args s 0 0 A) (F0 m 236 ls [.int k0, .ref (a_mo 0)]) := by
  obtain ⟨hx, hb, hr, hml, hown, hts, hC0, hlk, hA⟩ := id C
  have hK := hC0.1
  intro H locs ls hP hD hS hl
  unfold fX9_next_236 at hf
  refine lv_iconst (v := 1) hx hb dX9_next_236 (by decide) ?_
  obtain ⟨v28, ev28, hf⟩ := bd_some hf
  refine gk_V0 C (As := [.int k0, .int (1 : Int32)]) (rest := []) (ci := 9) (q := (RX9, TX9, 37)) (q0 := 0) (cX9_needs_ok (l := l) (D := D) (t := t) (κ := κ) (a_mo := a_mo) (lam := lam) ev28) gX9_next_X9_needs rfl ⟨rfl, rfl⟩ hdX9_needs ⟨Nat.le_of_ble_eq_true rfl, Nat.le_of_ble_eq_true rfl⟩ rfl rfl hP hD hS rfl hl.1 (Nat.le_of_ble_eq_true rfl) dX9_next_237 (Nat.zero_le _) (Nat.zero_le _) (fun H locs hP hD hS => ?_)
  refine W.eq (g2 := F0 m 240 ls []) rfl ?_
  refine lv_goto (tgt := 274) hx hb dX9_next_240 (by decide) ?_
  obtain rfl := so_eq hf
  exact g_vret C hP hD hS dX9_next_274
set_option maxHeartbeats 4000000 in
set_option maxRecDepth 100000 in
theorem wX9_next_l82 {p : Program} {l : Launch} {e : Env} {s : State} {m : MethodId} {args : Array Value} {below : List Frame} {meth : Method} {c : Code} {D : va_G} {t : Nat → ClassId} {κ : Nat → Nat} {A : Nat → Prop} {a_mo : Nat → Nat} {lam : S6} {rv : Option Value} {w1 : va_W} (C : Cxt p s m args meth c cX9_next 2 RX9 wsX9_next none D t κ A) : ∀ (n : Nat) (s_mo : S2) (x : S2), wh (fun (c : S2) => fX9_next_b82 c) n s_mo = some x → (∀ (z : S2), x = z → ∀ (H : Heap) (locs : List Loc) (ls : Array Slot), va_P D vwCl (wModel t a_mo z lam) H → va_D A (wModel t a_mo z lam) → va_S A s.heap H locs → lv_has ls 2 [] → W p l e (rmL 1) s m args below meth c H locs 0 0 (MQ below (gQ D rv w1 A) args s 0 0 A) (F0 m 274 ls [])) → ∀ (H : Heap) (locs : List Loc) (ls : Array Slot), va_P D vwCl (wModel t a_mo s_mo lam) H → va_D A (wModel t a_mo s_mo lam) → va_S A s.heap H locs → lv_has ls 2 [(0, .ref (a_mo 0))] → W p l e (rmL 1) s m args below meth c H locs 0 0 (MQ below (gQ D rv w1 A) args s 0 0 A) (F0 m 82 ls []) := by
  obtain ⟨hx, hb, hr, hml, hown, hts, hC0, hlk, hA⟩ := id C
  have hK := hC0.1
  intro n
  induction n with
  | zero =>
    intro s_mo x h
    exact (wh_0 h).elim
  | succ n ih =>
    intro s_mo x h HX H locs ls hP hD hS hl
    obtain ⟨v, hf, hB, hX⟩ := wh_step h
    have hf : fX9_next_b82 s_mo = some v := hf
    have HB : ∀ (z : S2), v = .inl z → ∀ (H : Heap) (locs : List Loc) (ls : Array Slot), va_P D vwCl (wModel t a_mo z lam) H → va_D A (wModel t a_mo z lam) → va_S A s.heap H locs → lv_has ls 2 [(0, .ref (a_mo 0))] → W p l e (rmL 1) s m args below meth c H locs 0 0 (MQ below (gQ D rv w1 A) args s 0 0 A) (F0 m 82 ls []) := fun z hz H locs ls hP hD hS hl => ih z x (hB z hz) HX H locs ls hP hD hS hl
    have HX : ∀ (z : S2), v = .inr z → ∀ (H : Heap) (locs : List Loc) (ls : Array Slot), va_P D vwCl (wModel t a_mo z lam) H → va_D A (wModel t a_mo z lam) → va_S A s.heap H locs → lv_has ls 2 [] → W p l e (rmL 1) s m args below meth c H locs 0 0 (MQ below (gQ D rv w1 A) args s 0 0 A) (F0 m 274 ls []) := fun z hz => HX z (hX _ hz).symm
    unfold fX9_next_b82 at hf
    refine lv_aload_n hx hb dX9_next_82 rfl (lv_at hl 0 rfl) ?_
    refine lv_aload_n hx hb dX9_next_83 rfl (lv_at hl 0 rfl) ?_
    refine va_get (D := D) (ci := 9) (v := .int (s_mo 0 8)) (C := RX9) (T := TX9) (N := 37) hx hb hts iwX9_next_X9 hown hK hP 0 rfl rfl 13 (by decide) (hts _ lkX9_next_f105) (fun _ h9 => h9) rfl dX9_next_84 ?_
    obtain ⟨v30, ev30, hf⟩ := bd_some hf
    refine gk_V0 C (As := [.int (s_mo 0 8)]) (rest := []) (ci := 9) (q := (RX9, TX9, 37)) (q0 := 0) (cX9_byteAt_ok (l := l) (D := D) (t := t) (κ := κ) (a_mo := a_mo) (lam := lam) ev30) gX9_next_X9_byteAt rfl ⟨rfl, rfl⟩ hdX9_byteAt ⟨Nat.le_of_ble_eq_true rfl, Nat.le_of_ble_eq_true rfl⟩ rfl rfl hP hD hS rfl hl.1 (Nat.le_of_ble_eq_true rfl) dX9_next_87 (Nat.zero_le _) (Nat.zero_le _) (fun H locs hP hD hS => ?_)
    refine W.eq (g2 := F0 m 90 ls [.int v30]) rfl ?_
    refine lv_i2l hx hb dX9_next_90 rfl ?_
    refine lv_ldc2 hx hb hown (hts _ lkX9_next_l122) dX9_next_91 ?_
    refine lv_ldc2 hx hb hown (hts _ lkX9_next_l124) dX9_next_94 ?_
    obtain ⟨v31, ev31, hf⟩ := bd_some hf
    refine gk_S C (As := [.long (Int32.toInt64 v30), .long (97 : Int64), .long (122 : Int64)]) (rest := []) (cX9_in_ok (l := l) (D := D) (t := t) (κ := κ) ev31) gX9_next_X9_in rfl ⟨rfl, rfl⟩ hdX9_in ⟨Nat.le_of_ble_eq_true rfl, Nat.le_of_ble_eq_true rfl⟩ hP hD hS rfl hl.1 (Nat.le_of_ble_eq_true rfl) dX9_next_97 (Nat.zero_le _) (Nat.zero_le _) (fun H locs hP hD hS => ?_)
    refine W.eq (g2 := F0 m 100 ls [.int v31]) rfl ?_
    refine lv_if_eq (tgt := 274) hx hb dX9_next_100 (by decide) (fun c32 => ?_) (fun c32 => ?_)
    · rw [if_pos c32] at hf
      obtain rfl := so_eq hf
      exact HX _ rfl _ _ _ hP hD hS (lv_sub hl [] rfl)
    · rw [if_neg c32] at hf
      refine lv_aload_n hx hb dX9_next_103 rfl (lv_at hl 0 rfl) ?_
      refine lv_dup hx hb dX9_next_104 rfl ?_
      refine va_get (D := D) (ci := 9) (v := .int (s_mo 0 8)) (C := RX9) (T := TX9) (N := 37) hx hb hts iwX9_next_X9 hown hK hP 0 rfl rfl 13 (by decide) (hts _ lkX9_next_f105) (fun _ h9 => h9) rfl dX9_next_105 ?_
      refine lv_iconst (v := 1) hx hb dX9_next_108 (by decide) ?_
      refine lv_iadd hx hb dX9_next_109 ?_
      obtain ⟨s33, hs33, hf⟩ := nm_ex hf
      refine va_put (D := D) (ci := 9) (v := .int ((s_mo 0 8) + (1 : Int32))) (ty := .int) (C := RX9) (T := TX9) (N := 37) hx hb hts iwX9_next_X9 tyX9 tyX9_ok nmX9 hown hK hP hD hS 0 rfl rfl 13 (by decide) (hts _ lkX9_next_f105) (fun _ h9 => h9) rfl (by decide +kernel) rfl rfl (Nat.le_of_ble_eq_true rfl) dX9_next_110 (fun H locs hP hD hS => ?_)
      have hP : va_P D vwCl (wModel t a_mo s33 lam) H := by rw [hs33]; exact hP
      have hD : va_D A (wModel t a_mo s33 lam) := by rw [hs33]; exact hD
      refine lv_goto (tgt := 82) hx hb dX9_next_113 (by decide) ?_
      obtain rfl := so_eq hf
      exact HB _ rfl _ _ _ hP hD hS (lv_sub hl [0] rfl)
set_option maxHeartbeats 4000000 in
set_option maxRecDepth 100000 in
theorem cX9_next_ok {l : Launch} {D : va_G} {t : Nat → ClassId} {κ : Nat → Nat} {a_mo : Nat → Nat} {s_mo : S2} {lam : S6} {out : S2} (hf : fX9_next s_mo = some out) : Ct l D t κ yX9_next wsX9_next (rmL 1) [.ref (a_mo 0)] (wModel t a_mo s_mo lam) none (wModel t a_mo out lam) := by
  refine Ct.ofW (own := RX9) (cc := cX9_next) (maxL := 2) (ret := none) (by decide) rfl rfl (Nat.le_of_ble_eq_true rfl) ?_
  intro p e s m below meth c A C hP hD ls hl
  have hS : va_S A s.heap s.heap [] := va_S.rf
  obtain ⟨hx, hb, hr, hml, hown, hts, hC0, hlk, hA⟩ := id C
  have hK := hC0.1
  have hl : lv_has ls 2 [(0, .ref (a_mo 0))] := hl
  unfold fX9_next at hf
  refine lv_aload_n hx hb dX9_next_0 rfl (lv_at hl 0 rfl) ?_
  refine va_get (D := D) (ci := 9) (v := .int (s_mo 0 12)) (C := RX9) (T := TX9) (N := 37) hx hb hts iwX9_next_X9 hown hK hP 0 rfl rfl 17 (by decide) (hts _ lkX9_next_f96) (fun _ h9 => h9) rfl dX9_next_1 ?_
  refine lv_if_le (tgt := 8) hx hb dX9_next_4 (by decide) (fun c1 => ?_) (fun c1 => ?_)
  · rw [if_pos c1] at hf
    obtain ⟨x5, ex5, hf⟩ := bd_some hf
    refine wX9_next_l8 C 5000 s_mo x5 ex5 (fun c9 h9 H locs ls hP hD hS hl => ?_) _ _ _ hP hD hS (lv_sub hl [0] rfl)
    subst h9
    refine lv_aload_n hx hb dX9_next_34 rfl (lv_at hl 0 rfl) ?_
    refine lv_aload_n hx hb dX9_next_35 rfl (lv_at hl 0 rfl) ?_
    refine va_get (D := D) (ci := 9) (v := .int (x5 0 8)) (C := RX9) (T := TX9) (N := 37) hx hb hts iwX9_next_X9 hown hK hP 0 rfl rfl 13 (by decide) (hts _ lkX9_next_f105) (fun _ h9 => h9) rfl dX9_next_36 ?_
    obtain ⟨s6, hs6, hf⟩ := nm_ex hf
    refine va_put (D := D) (ci := 9) (v := .int (x5 0 8)) (ty := .int) (C := RX9) (T := TX9) (N := 37) hx hb hts iwX9_next_X9 tyX9 tyX9_ok nmX9 hown hK hP hD hS 0 rfl rfl 14 (by decide) (hts _ lkX9_next_f99) (fun _ h9 => h9) rfl (by decide +kernel) rfl rfl (Nat.le_of_ble_eq_true rfl) dX9_next_39 (fun H locs hP hD hS => ?_)
    have hP : va_P D vwCl (wModel t a_mo s6 lam) H := by rw [hs6]; exact hP
    have hD : va_D A (wModel t a_mo s6 lam) := by rw [hs6]; exact hD
    refine lv_aload_n hx hb dX9_next_42 rfl (lv_at hl 0 rfl) ?_
    refine lv_aload_n hx hb dX9_next_43 rfl (lv_at hl 0 rfl) ?_
    refine va_get (D := D) (ci := 9) (v := .int (s6 0 8)) (C := RX9) (T := TX9) (N := 37) hx hb hts iwX9_next_X9 hown hK hP 0 rfl rfl 13 (by decide) (hts _ lkX9_next_f105) (fun _ h9 => h9) rfl dX9_next_44 ?_
    obtain ⟨v7, ev7, hf⟩ := bd_some hf
    refine gk_V0 C (As := [.int (s6 0 8)]) (rest := []) (ci := 9) (q := (RX9, TX9, 37)) (q0 := 0) (cX9_byteAt_ok (l := l) (D := D) (t := t) (κ := κ) (a_mo := a_mo) (lam := lam) ev7) gX9_next_X9_byteAt rfl ⟨rfl, rfl⟩ hdX9_byteAt ⟨Nat.le_of_ble_eq_true rfl, Nat.le_of_ble_eq_true rfl⟩ rfl rfl hP hD hS rfl hl.1 (Nat.le_of_ble_eq_true rfl) dX9_next_47 (Nat.zero_le _) (Nat.zero_le _) (fun H locs hP hD hS => ?_)
    refine W.eq (g2 := F0 m 50 ls [.int v7]) rfl ?_
    refine lv_istore_n (lv' := [(1, .int v7), (0, .ref (a_mo 0))]) hx hb dX9_next_50 rfl hl (by decide) rfl (fun ls hl => ?_)
    refine lv_iload_n hx hb dX9_next_51 rfl (lv_at hl 0 rfl) ?_
    refine lv_if_ge (tgt := 63) hx hb dX9_next_52 (by decide) (fun c8 => ?_) (fun c8 => ?_)
    · rw [if_pos c8] at hf
      refine lv_iload_n hx hb dX9_next_63 rfl (lv_at hl 0 rfl) ?_
      refine lv_i2l hx hb dX9_next_64 rfl ?_
      refine lv_ldc2 hx hb hown (hts _ lkX9_next_l122) dX9_next_65 ?_
      refine lv_ldc2 hx hb hown (hts _ lkX9_next_l124) dX9_next_68 ?_
      obtain ⟨v9, ev9, hf⟩ := bd_some hf
      refine gk_S C (As := [.long (Int32.toInt64 v7), .long (97 : Int64), .long (122 : Int64)]) (rest := []) (cX9_in_ok (l := l) (D := D) (t := t) (κ := κ) ev9) gX9_next_X9_in rfl ⟨rfl, rfl⟩ hdX9_in ⟨Nat.le_of_ble_eq_true rfl, Nat.le_of_ble_eq_true rfl⟩ hP hD hS rfl hl.1 (Nat.le_of_ble_eq_true rfl) dX9_next_71 (Nat.zero_le _) (Nat.zero_le _) (fun H locs hP hD hS => ?_)
      refine W.eq (g2 := F0 m 74 ls [.int v9]) rfl ?_
      refine lv_if_eq (tgt := 116) hx hb dX9_next_74 (by decide) (fun c10 => ?_) (fun c10 => ?_)
      · rw [if_pos c10] at hf
        refine lv_iload_n hx hb dX9_next_116 rfl (lv_at hl 0 rfl) ?_
        refine lv_i2l hx hb dX9_next_117 rfl ?_
        refine lv_ldc2 hx hb hown (hts _ lkX9_next_l126) dX9_next_118 ?_
        refine lv_ldc2 hx hb hown (hts _ lkX9_next_l128) dX9_next_121 ?_
        obtain ⟨v11, ev11, hf⟩ := bd_some hf
        refine gk_S C (As := [.long (Int32.toInt64 v7), .long (48 : Int64), .long (57 : Int64)]) (rest := []) (cX9_in_ok (l := l) (D := D) (t := t) (κ := κ) ev11) gX9_next_X9_in rfl ⟨rfl, rfl⟩ hdX9_in ⟨Nat.le_of_ble_eq_true rfl, Nat.le_of_ble_eq_true rfl⟩ hP hD hS rfl hl.1 (Nat.le_of_ble_eq_true rfl) dX9_next_124 (Nat.zero_le _) (Nat.zero_le _) (fun H locs hP hD hS => ?_)
        refine W.eq (g2 := F0 m 127 ls [.int v11]) rfl ?_
        refine lv_if_eq (tgt := 243) hx hb dX9_next_127 (by decide) (fun c12 => ?_) (fun c12 => ?_)
        · rw [if_pos c12] at hf
          refine lv_aload_n hx hb dX9_next_243 rfl (lv_at hl 1 rfl) ?_
          refine lv_iconst (v := 3) hx hb dX9_next_244 (by decide) ?_
          obtain ⟨s13, hs13, hf⟩ := nm_ex hf
          refine va_put (D := D) (ci := 9) (v := .int (3 : Int32)) (ty := .int) (C := RX9) (T := TX9) (N := 37) hx hb hts iwX9_next_X9 tyX9 tyX9_ok nmX9 hown hK hP hD hS 0 rfl rfl 15 (by decide) (hts _ lkX9_next_f119) (fun _ h9 => h9) rfl (by decide +kernel) rfl rfl (Nat.le_of_ble_eq_true rfl) dX9_next_245 (fun H locs hP hD hS => ?_)
          have hP : va_P D vwCl (wModel t a_mo s13 lam) H := by rw [hs13]; exact hP
          have hD : va_D A (wModel t a_mo s13 lam) := by rw [hs13]; exact hD
          refine lv_aload_n hx hb dX9_next_248 rfl (lv_at hl 1 rfl) ?_
          refine lv_iload_n hx hb dX9_next_249 rfl (lv_at hl 0 rfl) ?_
          refine lv_bipush (v := 59) hx hb dX9_next_250 (by decide) ?_
          refine lv_icmp_ne (tgt := 259) hx hb dX9_next_252 (by decide) (fun c14 => ?_) (fun c14 => ?_)
          · rw [if_neg c14] at hf
            refine lv_iconst (v := 0) hx hb dX9_next_259 (by decide) ?_
            exact wX9_next_260 C hf _ _ _ hP hD hS (lv_sub hl [1] rfl)
          · rw [if_pos c14] at hf
            refine lv_iconst (v := 1) hx hb dX9_next_255 (by decide) ?_
            refine lv_goto (tgt := 260) hx hb dX9_next_256 (by decide) ?_
            exact wX9_next_260 C hf _ _ _ hP hD hS (lv_sub hl [1] rfl)
        · rw [if_neg c12] at hf
          refine lv_aload_n hx hb dX9_next_130 rfl (lv_at hl 1 rfl) ?_
          refine lv_iconst (v := 2) hx hb dX9_next_131 (by decide) ?_
          obtain ⟨s17, hs17, hf⟩ := nm_ex hf
          refine va_put (D := D) (ci := 9) (v := .int (2 : Int32)) (ty := .int) (C := RX9) (T := TX9) (N := 37) hx hb hts iwX9_next_X9 tyX9 tyX9_ok nmX9 hown hK hP hD hS 0 rfl rfl 15 (by decide) (hts _ lkX9_next_f119) (fun _ h9 => h9) rfl (by decide +kernel) rfl rfl (Nat.le_of_ble_eq_true rfl) dX9_next_132 (fun H locs hP hD hS => ?_)
          have hP : va_P D vwCl (wModel t a_mo s17 lam) H := by rw [hs17]; exact hP
          have hD : va_D A (wModel t a_mo s17 lam) := by rw [hs17]; exact hD
          refine lv_aload_n hx hb dX9_next_135 rfl (lv_at hl 1 rfl) ?_
          refine lv_iconst (v := 0) hx hb dX9_next_136 (by decide) ?_
          obtain ⟨s18, hs18, hf⟩ := nm_ex hf
          refine va_put (D := D) (ci := 9) (v := .int (0 : Int32)) (ty := .int) (C := RX9) (T := TX9) (N := 37) hx hb hts iwX9_next_X9 tyX9 tyX9_ok nmX9 hown hK hP hD hS 0 rfl rfl 16 (by decide) (hts _ lkX9_next_f130) (fun _ h9 => h9) rfl (by decide +kernel) rfl rfl (Nat.le_of_ble_eq_true rfl) dX9_next_137 (fun H locs hP hD hS => ?_)
          have hP : va_P D vwCl (wModel t a_mo s18 lam) H := by rw [hs18]; exact hP
          have hD : va_D A (wModel t a_mo s18 lam) := by rw [hs18]; exact hD
          obtain ⟨x26, ex26, hf⟩ := bd_some hf
          refine wX9_next_l140 C 5000 s18 x26 ex26 (fun c9 h9 H locs ls hP hD hS hl => ?_) _ _ _ hP hD hS (lv_sub hl [1] rfl)
          subst h9
          refine lv_aload_n hx hb dX9_next_217 rfl (lv_at hl 0 rfl) ?_
          refine lv_aload_n hx hb dX9_next_218 rfl (lv_at hl 0 rfl) ?_
          refine va_get (D := D) (ci := 9) (v := .int (x26 0 8)) (C := RX9) (T := TX9) (N := 37) hx hb hts iwX9_next_X9 hown hK hP 0 rfl rfl 13 (by decide) (hts _ lkX9_next_f105) (fun _ h9 => h9) rfl dX9_next_219 ?_
          refine lv_aload_n hx hb dX9_next_222 rfl (lv_at hl 0 rfl) ?_
          refine va_get (D := D) (ci := 9) (v := .int (x26 0 9)) (C := RX9) (T := TX9) (N := 37) hx hb hts iwX9_next_X9 hown hK hP 0 rfl rfl 14 (by decide) (hts _ lkX9_next_f99) (fun _ h9 => h9) rfl dX9_next_223 ?_
          refine lv_isub hx hb dX9_next_226 ?_
          refine lv_iconst (v := 2) hx hb dX9_next_227 (by decide) ?_
          refine lv_icmp_gt (tgt := 235) hx hb dX9_next_228 (by decide) (fun c27 => ?_) (fun c27 => ?_)
          · rw [if_pos c27] at hf
            refine lv_iconst (v := 0) hx hb dX9_next_235 (by decide) ?_
            exact wX9_next_236 C hf _ _ _ hP hD hS (lv_sub hl [] rfl)
          · rw [if_neg c27] at hf
            refine lv_iconst (v := 1) hx hb dX9_next_231 (by decide) ?_
            refine lv_goto (tgt := 236) hx hb dX9_next_232 (by decide) ?_
            exact wX9_next_236 C hf _ _ _ hP hD hS (lv_sub hl [] rfl)
      · rw [if_neg c10] at hf
        refine lv_aload_n hx hb dX9_next_77 rfl (lv_at hl 1 rfl) ?_
        refine lv_iconst (v := 1) hx hb dX9_next_78 (by decide) ?_
        obtain ⟨s29, hs29, hf⟩ := nm_ex hf
        refine va_put (D := D) (ci := 9) (v := .int (1 : Int32)) (ty := .int) (C := RX9) (T := TX9) (N := 37) hx hb hts iwX9_next_X9 tyX9 tyX9_ok nmX9 hown hK hP hD hS 0 rfl rfl 15 (by decide) (hts _ lkX9_next_f119) (fun _ h9 => h9) rfl (by decide +kernel) rfl rfl (Nat.le_of_ble_eq_true rfl) dX9_next_79 (fun H locs hP hD hS => ?_)
        have hP : va_P D vwCl (wModel t a_mo s29 lam) H := by rw [hs29]; exact hP
        have hD : va_D A (wModel t a_mo s29 lam) := by rw [hs29]; exact hD
        obtain ⟨x34, ex34, hf⟩ := bd_some hf
        refine wX9_next_l82 C 5000 s29 x34 ex34 (fun c9 h9 H locs ls hP hD hS hl => ?_) _ _ _ hP hD hS (lv_sub hl [1] rfl)
        subst h9
        obtain rfl := so_eq hf
        exact g_vret C hP hD hS dX9_next_274
    · rw [if_neg c8] at hf
      refine lv_aload_n hx hb dX9_next_55 rfl (lv_at hl 1 rfl) ?_
      refine lv_iconst (v := 0) hx hb dX9_next_56 (by decide) ?_
      obtain ⟨s35, hs35, hf⟩ := nm_ex hf
      refine va_put (D := D) (ci := 9) (v := .int (0 : Int32)) (ty := .int) (C := RX9) (T := TX9) (N := 37) hx hb hts iwX9_next_X9 tyX9 tyX9_ok nmX9 hown hK hP hD hS 0 rfl rfl 15 (by decide) (hts _ lkX9_next_f119) (fun _ h9 => h9) rfl (by decide +kernel) rfl rfl (Nat.le_of_ble_eq_true rfl) dX9_next_57 (fun H locs hP hD hS => ?_)
      have hP : va_P D vwCl (wModel t a_mo s35 lam) H := by rw [hs35]; exact hP
      have hD : va_D A (wModel t a_mo s35 lam) := by rw [hs35]; exact hD
      refine lv_goto (tgt := 274) hx hb dX9_next_60 (by decide) ?_
      obtain rfl := so_eq hf
      exact g_vret C hP hD hS dX9_next_274
  · rw [if_neg c1] at hf
    obtain rfl := so_eq hf
    exact g_vret C hP hD hS dX9_next_7
/-! CoachCourtModel.looked -/
def fX9_looked_49 (s_mo : S2) : Option (Int32 × S2) :=
  if (s_mo 0 12) = (0 : Int32) then
    (some (s_mo 0 11, s_mo))
  else
    (some ((0 : Int32), s_mo))
def fX9_looked_25 (s_mo : S2) (x1 : Int32) (x2 : Int32) : Option (Int32 × S2) :=
  if (s_mo 0 12) = (0 : Int32) then
    ((fX9_in (Int32.toInt64 (s_mo 0 11)) (Int32.toInt64 x1) (Int32.toInt64 x2)).bind fun v4 =>
    (fX9_needs s_mo v4 (3 : Int32)).bind fun v5 =>
    fX9_looked_49 v5)
  else
    (fX9_looked_49 s_mo)
def fX9_looked_21 (s_mo : S2) (x1 : Int32) (x2 : Int32) (k0 : Int32) : Option (Int32 × S2) :=
  (fX9_needs s_mo k0 (2 : Int32)).bind fun v7 =>
  fX9_looked_25 v7 x1 x2
def fX9_looked (s_mo : S2) (p1 : Int32) (p2 : Int32) : Option (Int32 × S2) :=
  if (s_mo 0 12) = (0 : Int32) then
    (if (s_mo 0 10) = (2 : Int32) then
      (fX9_looked_21 s_mo p1 p2 (1 : Int32))
    else
      (fX9_looked_21 s_mo p1 p2 (0 : Int32)))
  else
    (fX9_looked_25 s_mo p1 p2)
theorem hdX9_looked : yX9_looked.cls = RX9 ∧ yX9_looked.cls ≠ "java/lang/invoke/MethodHandle" ∧ yX9_looked.cls ≠ "java/lang/invoke/VarHandle" ∧ (parseMethodDescriptor yX9_looked.desc).map (fun d => d.parameters.length) = some 2 := by decide +kernel
theorem iwX9_looked_X9 : ∀ w ∈ wsX90, w ∈ wsX9_looked := by decide +kernel
theorem lkX9_looked_f96 : Cond.fieldLink RX9 96 "CoachCourtModel" "fault" "I" ∈ wsX9_looked := by decide +kernel
theorem lkX9_looked_f130 : Cond.fieldLink RX9 130 "CoachCourtModel" "value" "I" ∈ wsX9_looked := by decide +kernel
theorem lkX9_looked_f119 : Cond.fieldLink RX9 119 "CoachCourtModel" "sort" "I" ∈ wsX9_looked := by decide +kernel
set_option maxHeartbeats 4000000 in
set_option maxRecDepth 100000 in
theorem wX9_looked_49 {p : Program} {l : Launch} {e : Env} {s : State} {m : MethodId} {args : Array Value} {below : List Frame} {meth : Method} {c : Code} {D : va_G} {t : Nat → ClassId} {κ : Nat → Nat} {A : Nat → Prop} {a_mo : Nat → Nat} {s_mo : S2} {lam : S6} {out : Int32 × S2} (C : Cxt p s m args meth c cX9_looked 3 RX9 wsX9_looked (some .int) D t κ A) (hf : fX9_looked_49 s_mo = some out) : ∀ (H : Heap) (locs : List Loc) (ls : Array Slot), va_P D vwCl (wModel t a_mo s_mo lam) H → va_D A (wModel t a_mo s_mo lam) → va_S A s.heap H locs → lv_has ls 3 [(0, .ref (a_mo 0))] → W p l e (rmL 1) s m args below meth c H locs 0 0 (MQ below (gQ D (some (.int out.1)) (wModel t a_mo out.2 lam) A) args s 0 0 A) (F0 m 49 ls []) := by
  obtain ⟨hx, hb, hr, hml, hown, hts, hC0, hlk, hA⟩ := id C
  have hK := hC0.1
  intro H locs ls hP hD hS hl
  unfold fX9_looked_49 at hf
  refine lv_aload_n hx hb dX9_looked_49 rfl (lv_at hl 0 rfl) ?_
  refine va_get (D := D) (ci := 9) (v := .int (s_mo 0 12)) (C := RX9) (T := TX9) (N := 37) hx hb hts iwX9_looked_X9 hown hK hP 0 rfl rfl 17 (by decide) (hts _ lkX9_looked_f96) (fun _ h9 => h9) rfl dX9_looked_50 ?_
  refine lv_if_ne (tgt := 63) hx hb dX9_looked_53 (by decide) (fun c3 => ?_) (fun c3 => ?_)
  · rw [if_neg c3] at hf
    refine lv_iconst (v := 0) hx hb dX9_looked_63 (by decide) ?_
    obtain rfl := so_eq hf
    exact g_iret C hP hD hS dX9_looked_64
  · rw [if_pos c3] at hf
    refine lv_aload_n hx hb dX9_looked_56 rfl (lv_at hl 0 rfl) ?_
    refine va_get (D := D) (ci := 9) (v := .int (s_mo 0 11)) (C := RX9) (T := TX9) (N := 37) hx hb hts iwX9_looked_X9 hown hK hP 0 rfl rfl 16 (by decide) (hts _ lkX9_looked_f130) (fun _ h9 => h9) rfl dX9_looked_57 ?_
    refine lv_goto (tgt := 64) hx hb dX9_looked_60 (by decide) ?_
    obtain rfl := so_eq hf
    exact g_iret C hP hD hS dX9_looked_64
set_option maxHeartbeats 4000000 in
set_option maxRecDepth 100000 in
theorem wX9_looked_25 {p : Program} {l : Launch} {e : Env} {s : State} {m : MethodId} {args : Array Value} {below : List Frame} {meth : Method} {c : Code} {D : va_G} {t : Nat → ClassId} {κ : Nat → Nat} {A : Nat → Prop} {a_mo : Nat → Nat} {s_mo : S2} {lam : S6} {x1 : Int32} {x2 : Int32} {out : Int32 × S2} (C : Cxt p s m args meth c cX9_looked 3 RX9 wsX9_looked (some .int) D t κ A) (hf : fX9_looked_25 s_mo x1 x2 = some out) : ∀ (H : Heap) (locs : List Loc) (ls : Array Slot), va_P D vwCl (wModel t a_mo s_mo lam) H → va_D A (wModel t a_mo s_mo lam) → va_S A s.heap H locs → lv_has ls 3 [(0, .ref (a_mo 0)), (1, .int x1), (2, .int x2)] → W p l e (rmL 1) s m args below meth c H locs 0 0 (MQ below (gQ D (some (.int out.1)) (wModel t a_mo out.2 lam) A) args s 0 0 A) (F0 m 25 ls []) := by
  obtain ⟨hx, hb, hr, hml, hown, hts, hC0, hlk, hA⟩ := id C
  have hK := hC0.1
  intro H locs ls hP hD hS hl
  unfold fX9_looked_25 at hf
  refine lv_aload_n hx hb dX9_looked_25 rfl (lv_at hl 0 rfl) ?_
  refine va_get (D := D) (ci := 9) (v := .int (s_mo 0 12)) (C := RX9) (T := TX9) (N := 37) hx hb hts iwX9_looked_X9 hown hK hP 0 rfl rfl 17 (by decide) (hts _ lkX9_looked_f96) (fun _ h9 => h9) rfl dX9_looked_26 ?_
  refine lv_if_ne (tgt := 49) hx hb dX9_looked_29 (by decide) (fun c2 => ?_) (fun c2 => ?_)
  · rw [if_neg c2] at hf
    exact wX9_looked_49 C hf _ _ _ hP hD hS (lv_sub hl [0] rfl)
  · rw [if_pos c2] at hf
    refine lv_aload_n hx hb dX9_looked_32 rfl (lv_at hl 0 rfl) ?_
    refine lv_aload_n hx hb dX9_looked_33 rfl (lv_at hl 0 rfl) ?_
    refine va_get (D := D) (ci := 9) (v := .int (s_mo 0 11)) (C := RX9) (T := TX9) (N := 37) hx hb hts iwX9_looked_X9 hown hK hP 0 rfl rfl 16 (by decide) (hts _ lkX9_looked_f130) (fun _ h9 => h9) rfl dX9_looked_34 ?_
    refine lv_i2l hx hb dX9_looked_37 rfl ?_
    refine lv_iload_n hx hb dX9_looked_38 rfl (lv_at hl 1 rfl) ?_
    refine lv_i2l hx hb dX9_looked_39 rfl ?_
    refine lv_iload_n hx hb dX9_looked_40 rfl (lv_at hl 2 rfl) ?_
    refine lv_i2l hx hb dX9_looked_41 rfl ?_
    obtain ⟨v4, ev4, hf⟩ := bd_some hf
    refine gk_S C (As := [.long (Int32.toInt64 (s_mo 0 11)), .long (Int32.toInt64 x1), .long (Int32.toInt64 x2)]) (rest := [.ref (a_mo 0)]) (cX9_in_ok (l := l) (D := D) (t := t) (κ := κ) ev4) gX9_looked_X9_in rfl ⟨rfl, rfl⟩ hdX9_in ⟨Nat.le_of_ble_eq_true rfl, Nat.le_of_ble_eq_true rfl⟩ hP hD hS rfl hl.1 (Nat.le_of_ble_eq_true rfl) dX9_looked_42 (Nat.zero_le _) (Nat.zero_le _) (fun H locs hP hD hS => ?_)
    refine W.eq (g2 := F0 m 45 ls [.int v4, .ref (a_mo 0)]) rfl ?_
    refine lv_iconst (v := 3) hx hb dX9_looked_45 (by decide) ?_
    obtain ⟨v5, ev5, hf⟩ := bd_some hf
    refine gk_V0 C (As := [.int v4, .int (3 : Int32)]) (rest := []) (ci := 9) (q := (RX9, TX9, 37)) (q0 := 0) (cX9_needs_ok (l := l) (D := D) (t := t) (κ := κ) (a_mo := a_mo) (lam := lam) ev5) gX9_looked_X9_needs rfl ⟨rfl, rfl⟩ hdX9_needs ⟨Nat.le_of_ble_eq_true rfl, Nat.le_of_ble_eq_true rfl⟩ rfl rfl hP hD hS rfl hl.1 (Nat.le_of_ble_eq_true rfl) dX9_looked_46 (Nat.zero_le _) (Nat.zero_le _) (fun H locs hP hD hS => ?_)
    refine W.eq (g2 := F0 m 49 ls []) rfl ?_
    exact wX9_looked_49 C hf _ _ _ hP hD hS (lv_sub hl [0] rfl)
set_option maxHeartbeats 4000000 in
set_option maxRecDepth 100000 in
theorem wX9_looked_21 {p : Program} {l : Launch} {e : Env} {s : State} {m : MethodId} {args : Array Value} {below : List Frame} {meth : Method} {c : Code} {D : va_G} {t : Nat → ClassId} {κ : Nat → Nat} {A : Nat → Prop} {a_mo : Nat → Nat} {s_mo : S2} {lam : S6} {x1 : Int32} {x2 : Int32} {k0 : Int32} {out : Int32 × S2} (C : Cxt p s m args meth c cX9_looked 3 RX9 wsX9_looked (some .int) D t κ A) (hf : fX9_looked_21 s_mo x1 x2 k0 = some out) : ∀ (H : Heap) (locs : List Loc) (ls : Array Slot), va_P D vwCl (wModel t a_mo s_mo lam) H → va_D A (wModel t a_mo s_mo lam) → va_S A s.heap H locs → lv_has ls 3 [(0, .ref (a_mo 0)), (1, .int x1), (2, .int x2)] → W p l e (rmL 1) s m args below meth c H locs 0 0 (MQ below (gQ D (some (.int out.1)) (wModel t a_mo out.2 lam) A) args s 0 0 A) (F0 m 21 ls [.int k0, .ref (a_mo 0)]) := by
  obtain ⟨hx, hb, hr, hml, hown, hts, hC0, hlk, hA⟩ := id C
  have hK := hC0.1
  intro H locs ls hP hD hS hl
  unfold fX9_looked_21 at hf
  refine lv_iconst (v := 2) hx hb dX9_looked_21 (by decide) ?_
  obtain ⟨v7, ev7, hf⟩ := bd_some hf
  refine gk_V0 C (As := [.int k0, .int (2 : Int32)]) (rest := []) (ci := 9) (q := (RX9, TX9, 37)) (q0 := 0) (cX9_needs_ok (l := l) (D := D) (t := t) (κ := κ) (a_mo := a_mo) (lam := lam) ev7) gX9_looked_X9_needs rfl ⟨rfl, rfl⟩ hdX9_needs ⟨Nat.le_of_ble_eq_true rfl, Nat.le_of_ble_eq_true rfl⟩ rfl rfl hP hD hS rfl hl.1 (Nat.le_of_ble_eq_true rfl) dX9_looked_22 (Nat.zero_le _) (Nat.zero_le _) (fun H locs hP hD hS => ?_)
  refine W.eq (g2 := F0 m 25 ls []) rfl ?_
  exact wX9_looked_25 C hf _ _ _ hP hD hS (lv_sub hl [0, 1, 2] rfl)
set_option maxHeartbeats 4000000 in
set_option maxRecDepth 100000 in
theorem cX9_looked_ok {l : Launch} {D : va_G} {t : Nat → ClassId} {κ : Nat → Nat} {a_mo : Nat → Nat} {s_mo : S2} {lam : S6} {p1 : Int32} {p2 : Int32} {out : Int32 × S2} (hf : fX9_looked s_mo p1 p2 = some out) : Ct l D t κ yX9_looked wsX9_looked (rmL 1) [.ref (a_mo 0), .int p1, .int p2] (wModel t a_mo s_mo lam) (some (.int out.1)) (wModel t a_mo out.2 lam) := by
  refine Ct.ofW (own := RX9) (cc := cX9_looked) (maxL := 3) (ret := (some .int)) (by decide) rfl rfl (Nat.le_of_ble_eq_true rfl) ?_
  intro p e s m below meth c A C hP hD ls hl
  have hS : va_S A s.heap s.heap [] := va_S.rf
  obtain ⟨hx, hb, hr, hml, hown, hts, hC0, hlk, hA⟩ := id C
  have hK := hC0.1
  have hl : lv_has ls 3 [(0, .ref (a_mo 0)), (1, .int p1), (2, .int p2)] := hl
  unfold fX9_looked at hf
  refine lv_aload_n hx hb dX9_looked_0 rfl (lv_at hl 0 rfl) ?_
  refine va_get (D := D) (ci := 9) (v := .int (s_mo 0 12)) (C := RX9) (T := TX9) (N := 37) hx hb hts iwX9_looked_X9 hown hK hP 0 rfl rfl 17 (by decide) (hts _ lkX9_looked_f96) (fun _ h9 => h9) rfl dX9_looked_1 ?_
  refine lv_if_ne (tgt := 25) hx hb dX9_looked_4 (by decide) (fun c1 => ?_) (fun c1 => ?_)
  · rw [if_neg c1] at hf
    exact wX9_looked_25 C hf _ _ _ hP hD hS (lv_sub hl [0, 1, 2] rfl)
  · rw [if_pos c1] at hf
    refine lv_aload_n hx hb dX9_looked_7 rfl (lv_at hl 0 rfl) ?_
    refine lv_aload_n hx hb dX9_looked_8 rfl (lv_at hl 0 rfl) ?_
    refine va_get (D := D) (ci := 9) (v := .int (s_mo 0 10)) (C := RX9) (T := TX9) (N := 37) hx hb hts iwX9_looked_X9 hown hK hP 0 rfl rfl 15 (by decide) (hts _ lkX9_looked_f119) (fun _ h9 => h9) rfl dX9_looked_9 ?_
    refine lv_iconst (v := 2) hx hb dX9_looked_12 (by decide) ?_
    refine lv_icmp_ne (tgt := 20) hx hb dX9_looked_13 (by decide) (fun c6 => ?_) (fun c6 => ?_)
    · rw [if_neg c6] at hf
      refine lv_iconst (v := 0) hx hb dX9_looked_20 (by decide) ?_
      exact wX9_looked_21 C hf _ _ _ hP hD hS (lv_sub hl [0, 1, 2] rfl)
    · rw [if_pos c6] at hf
      refine lv_iconst (v := 1) hx hb dX9_looked_16 (by decide) ?_
      refine lv_goto (tgt := 21) hx hb dX9_looked_17 (by decide) ?_
      exact wX9_looked_21 C hf _ _ _ hP hD hS (lv_sub hl [0, 1, 2] rfl)
/-! CoachCourtModel.readNumber -/
def fX9_readNumber (s_mo : S2) (p1 : Int32) (p2 : Int32) : Option (Int32 × S2) :=
  (fX9_looked s_mo p1 p2).bind fun v1 =>
  nm v1.1 fun y2 =>
  (fX9_next v1.2).bind fun v3 =>
  some (y2, v3)
theorem hdX9_readNumber : yX9_readNumber.cls = RX9 ∧ yX9_readNumber.cls ≠ "java/lang/invoke/MethodHandle" ∧ yX9_readNumber.cls ≠ "java/lang/invoke/VarHandle" ∧ (parseMethodDescriptor yX9_readNumber.desc).map (fun d => d.parameters.length) = some 2 := by decide +kernel
set_option maxHeartbeats 4000000 in
set_option maxRecDepth 100000 in
theorem cX9_readNumber_ok {l : Launch} {D : va_G} {t : Nat → ClassId} {κ : Nat → Nat} {a_mo : Nat → Nat} {s_mo : S2} {lam : S6} {p1 : Int32} {p2 : Int32} {out : Int32 × S2} (hf : fX9_readNumber s_mo p1 p2 = some out) : Ct l D t κ yX9_readNumber wsX9_readNumber (rmL 2) [.ref (a_mo 0), .int p1, .int p2] (wModel t a_mo s_mo lam) (some (.int out.1)) (wModel t a_mo out.2 lam) := by
  refine Ct.ofW (own := RX9) (cc := cX9_readNumber) (maxL := 4) (ret := (some .int)) (by decide) rfl rfl (Nat.le_of_ble_eq_true rfl) ?_
  intro p e s m below meth c A C hP hD ls hl
  have hS : va_S A s.heap s.heap [] := va_S.rf
  obtain ⟨hx, hb, hr, hml, hown, hts, hC0, hlk, hA⟩ := id C
  have hK := hC0.1
  have hl : lv_has ls 4 [(0, .ref (a_mo 0)), (1, .int p1), (2, .int p2)] := hl
  unfold fX9_readNumber at hf
  refine lv_aload_n hx hb dX9_readNumber_0 rfl (lv_at hl 0 rfl) ?_
  refine lv_iload_n hx hb dX9_readNumber_1 rfl (lv_at hl 1 rfl) ?_
  refine lv_iload_n hx hb dX9_readNumber_2 rfl (lv_at hl 2 rfl) ?_
  obtain ⟨v1, ev1, hf⟩ := bd_some hf
  refine gk_V0 C (As := [.int p1, .int p2]) (rest := []) (ci := 9) (q := (RX9, TX9, 37)) (q0 := 0) (cX9_looked_ok (l := l) (D := D) (t := t) (κ := κ) (a_mo := a_mo) (lam := lam) ev1) gX9_readNumber_X9_looked rfl ⟨rfl, rfl⟩ hdX9_looked ⟨Nat.le_of_ble_eq_true rfl, Nat.le_of_ble_eq_true rfl⟩ rfl rfl hP hD hS rfl hl.1 (Nat.le_of_ble_eq_true rfl) dX9_readNumber_3 (Nat.zero_le _) (Nat.zero_le _) (fun H locs hP hD hS => ?_)
  refine W.eq (g2 := F0 m 6 ls [.int v1.1]) rfl ?_
  obtain ⟨y2, hy2, hf⟩ := nm_ex hf
  refine W.eq (g2 := F0 m 6 ls [.int y2]) (by rw [hy2]) ?_
  refine lv_istore_n (lv' := [(3, .int y2), (0, .ref (a_mo 0)), (1, .int p1), (2, .int p2)]) hx hb dX9_readNumber_6 rfl hl (by decide) rfl (fun ls hl => ?_)
  refine lv_aload_n hx hb dX9_readNumber_7 rfl (lv_at hl 1 rfl) ?_
  obtain ⟨v3, ev3, hf⟩ := bd_some hf
  refine gk_V0 C (As := []) (rest := []) (ci := 9) (q := (RX9, TX9, 37)) (q0 := 0) (cX9_next_ok (l := l) (D := D) (t := t) (κ := κ) (a_mo := a_mo) (lam := lam) ev3) gX9_readNumber_X9_next rfl ⟨rfl, rfl⟩ hdX9_next ⟨Nat.le_of_ble_eq_true rfl, Nat.le_of_ble_eq_true rfl⟩ rfl rfl hP hD hS rfl hl.1 (Nat.le_of_ble_eq_true rfl) dX9_readNumber_8 (Nat.zero_le _) (Nat.zero_le _) (fun H locs hP hD hS => ?_)
  refine W.eq (g2 := F0 m 11 ls []) rfl ?_
  refine lv_iload_n hx hb dX9_readNumber_11 rfl (lv_at hl 0 rfl) ?_
  obtain rfl := so_eq hf
  exact g_iret C hP hD hS dX9_readNumber_12
/-! CoachCourtModel.readMud -/
def fX9_readMud_68 (s_mo : S2) : Option (S2) :=
  (fX9_next s_mo).bind fun v4 =>
  some v4
def fX9_readMud_65 (s_mo : S2) (k0 : Int32) : Option (S2) :=
  nm (sE s_mo 0 6 k0) fun s9 =>
  fX9_readMud_68 s9
def fX9_readMud_32 (s_mo : S2) (x1 : Int32) (k0 : Int32) : Option (S2) :=
  (fX9_needs s_mo k0 (4 : Int32)).bind fun v6 =>
  nm (sE v6 0 4 ((v6 0 4) ||| ((1 : Int32) <<< (x1 &&& 31)))) fun s7 =>
  if x1 ≤ (s7 0 6) then
    (fX9_readMud_65 s7 (s7 0 6))
  else
    (fX9_readMud_65 s7 x1)
def fX9_readMud (s_mo : S2) : Option (S2) :=
  (fX9_looked s_mo (0 : Int32) (7 : Int32)).bind fun v1 =>
  nm v1.1 fun y2 =>
  if (v1.2 0 12) = (0 : Int32) then
    (if (((v1.2 0 4) >>> (y2 &&& 31)) &&& (1 : Int32)) = (0 : Int32) then
      (fX9_readMud_32 v1.2 y2 (1 : Int32))
    else
      (fX9_readMud_32 v1.2 y2 (0 : Int32)))
  else
    (fX9_readMud_68 v1.2)
theorem hdX9_readMud : yX9_readMud.cls = RX9 ∧ yX9_readMud.cls ≠ "java/lang/invoke/MethodHandle" ∧ yX9_readMud.cls ≠ "java/lang/invoke/VarHandle" ∧ (parseMethodDescriptor yX9_readMud.desc).map (fun d => d.parameters.length) = some 0 := by decide +kernel
theorem iwX9_readMud_X9 : ∀ w ∈ wsX90, w ∈ wsX9_readMud := by decide +kernel
theorem lkX9_readMud_f96 : Cond.fieldLink RX9 96 "CoachCourtModel" "fault" "I" ∈ wsX9_readMud := by decide +kernel
theorem lkX9_readMud_f72 : Cond.fieldLink RX9 72 "CoachCourtModel" "toldMud" "I" ∈ wsX9_readMud := by decide +kernel
theorem lkX9_readMud_f78 : Cond.fieldLink RX9 78 "CoachCourtModel" "highest" "I" ∈ wsX9_readMud := by decide +kernel
set_option maxHeartbeats 4000000 in
set_option maxRecDepth 100000 in
theorem wX9_readMud_68 {p : Program} {l : Launch} {e : Env} {s : State} {m : MethodId} {args : Array Value} {below : List Frame} {meth : Method} {c : Code} {D : va_G} {t : Nat → ClassId} {κ : Nat → Nat} {A : Nat → Prop} {a_mo : Nat → Nat} {s_mo : S2} {lam : S6} {out : S2} (C : Cxt p s m args meth c cX9_readMud 2 RX9 wsX9_readMud none D t κ A) (hf : fX9_readMud_68 s_mo = some out) : ∀ (H : Heap) (locs : List Loc) (ls : Array Slot), va_P D vwCl (wModel t a_mo s_mo lam) H → va_D A (wModel t a_mo s_mo lam) → va_S A s.heap H locs → lv_has ls 2 [(0, .ref (a_mo 0))] → W p l e (rmL 2) s m args below meth c H locs 0 0 (MQ below (gQ D none (wModel t a_mo out lam) A) args s 0 0 A) (F0 m 68 ls []) := by
  obtain ⟨hx, hb, hr, hml, hown, hts, hC0, hlk, hA⟩ := id C
  have hK := hC0.1
  intro H locs ls hP hD hS hl
  unfold fX9_readMud_68 at hf
  refine lv_aload_n hx hb dX9_readMud_68 rfl (lv_at hl 0 rfl) ?_
  obtain ⟨v4, ev4, hf⟩ := bd_some hf
  refine gk_V0 C (As := []) (rest := []) (ci := 9) (q := (RX9, TX9, 37)) (q0 := 0) (cX9_next_ok (l := l) (D := D) (t := t) (κ := κ) (a_mo := a_mo) (lam := lam) ev4) gX9_readMud_X9_next rfl ⟨rfl, rfl⟩ hdX9_next ⟨Nat.le_of_ble_eq_true rfl, Nat.le_of_ble_eq_true rfl⟩ rfl rfl hP hD hS rfl hl.1 (Nat.le_of_ble_eq_true rfl) dX9_readMud_69 (Nat.zero_le _) (Nat.zero_le _) (fun H locs hP hD hS => ?_)
  refine W.eq (g2 := F0 m 72 ls []) rfl ?_
  obtain rfl := so_eq hf
  exact g_vret C hP hD hS dX9_readMud_72
set_option maxHeartbeats 4000000 in
set_option maxRecDepth 100000 in
theorem wX9_readMud_65 {p : Program} {l : Launch} {e : Env} {s : State} {m : MethodId} {args : Array Value} {below : List Frame} {meth : Method} {c : Code} {D : va_G} {t : Nat → ClassId} {κ : Nat → Nat} {A : Nat → Prop} {a_mo : Nat → Nat} {s_mo : S2} {lam : S6} {k0 : Int32} {out : S2} (C : Cxt p s m args meth c cX9_readMud 2 RX9 wsX9_readMud none D t κ A) (hf : fX9_readMud_65 s_mo k0 = some out) : ∀ (H : Heap) (locs : List Loc) (ls : Array Slot), va_P D vwCl (wModel t a_mo s_mo lam) H → va_D A (wModel t a_mo s_mo lam) → va_S A s.heap H locs → lv_has ls 2 [(0, .ref (a_mo 0))] → W p l e (rmL 2) s m args below meth c H locs 0 0 (MQ below (gQ D none (wModel t a_mo out lam) A) args s 0 0 A) (F0 m 65 ls [.int k0, .ref (a_mo 0)]) := by
  obtain ⟨hx, hb, hr, hml, hown, hts, hC0, hlk, hA⟩ := id C
  have hK := hC0.1
  intro H locs ls hP hD hS hl
  unfold fX9_readMud_65 at hf
  obtain ⟨s9, hs9, hf⟩ := nm_ex hf
  refine va_put (D := D) (ci := 9) (v := .int k0) (ty := .int) (C := RX9) (T := TX9) (N := 37) hx hb hts iwX9_readMud_X9 tyX9 tyX9_ok nmX9 hown hK hP hD hS 0 rfl rfl 10 (by decide) (hts _ lkX9_readMud_f78) (fun _ h9 => h9) rfl (by decide +kernel) rfl rfl (Nat.le_of_ble_eq_true rfl) dX9_readMud_65 (fun H locs hP hD hS => ?_)
  have hP : va_P D vwCl (wModel t a_mo s9 lam) H := by rw [hs9]; exact hP
  have hD : va_D A (wModel t a_mo s9 lam) := by rw [hs9]; exact hD
  exact wX9_readMud_68 C hf _ _ _ hP hD hS (lv_sub hl [0] rfl)
set_option maxHeartbeats 4000000 in
set_option maxRecDepth 100000 in
theorem wX9_readMud_32 {p : Program} {l : Launch} {e : Env} {s : State} {m : MethodId} {args : Array Value} {below : List Frame} {meth : Method} {c : Code} {D : va_G} {t : Nat → ClassId} {κ : Nat → Nat} {A : Nat → Prop} {a_mo : Nat → Nat} {s_mo : S2} {lam : S6} {x1 : Int32} {k0 : Int32} {out : S2} (C : Cxt p s m args meth c cX9_readMud 2 RX9 wsX9_readMud none D t κ A) (hf : fX9_readMud_32 s_mo x1 k0 = some out) : ∀ (H : Heap) (locs : List Loc) (ls : Array Slot), va_P D vwCl (wModel t a_mo s_mo lam) H → va_D A (wModel t a_mo s_mo lam) → va_S A s.heap H locs → lv_has ls 2 [(0, .ref (a_mo 0)), (1, .int x1)] → W p l e (rmL 2) s m args below meth c H locs 0 0 (MQ below (gQ D none (wModel t a_mo out lam) A) args s 0 0 A) (F0 m 32 ls [.int k0, .ref (a_mo 0)]) := by
  obtain ⟨hx, hb, hr, hml, hown, hts, hC0, hlk, hA⟩ := id C
  have hK := hC0.1
  intro H locs ls hP hD hS hl
  unfold fX9_readMud_32 at hf
  refine lv_iconst (v := 4) hx hb dX9_readMud_32 (by decide) ?_
  obtain ⟨v6, ev6, hf⟩ := bd_some hf
  refine gk_V0 C (As := [.int k0, .int (4 : Int32)]) (rest := []) (ci := 9) (q := (RX9, TX9, 37)) (q0 := 0) (cX9_needs_ok (l := l) (D := D) (t := t) (κ := κ) (a_mo := a_mo) (lam := lam) ev6) gX9_readMud_X9_needs rfl ⟨rfl, rfl⟩ hdX9_needs ⟨Nat.le_of_ble_eq_true rfl, Nat.le_of_ble_eq_true rfl⟩ rfl rfl hP hD hS rfl hl.1 (Nat.le_of_ble_eq_true rfl) dX9_readMud_33 (Nat.zero_le _) (Nat.zero_le _) (fun H locs hP hD hS => ?_)
  refine W.eq (g2 := F0 m 36 ls []) rfl ?_
  refine lv_aload_n hx hb dX9_readMud_36 rfl (lv_at hl 0 rfl) ?_
  refine lv_dup hx hb dX9_readMud_37 rfl ?_
  refine va_get (D := D) (ci := 9) (v := .int (v6 0 4)) (C := RX9) (T := TX9) (N := 37) hx hb hts iwX9_readMud_X9 hown hK hP 0 rfl rfl 8 (by decide) (hts _ lkX9_readMud_f72) (fun _ h9 => h9) rfl dX9_readMud_38 ?_
  refine lv_iconst (v := 1) hx hb dX9_readMud_41 (by decide) ?_
  refine lv_iload_n hx hb dX9_readMud_42 rfl (lv_at hl 1 rfl) ?_
  refine lv_ishl hx hb dX9_readMud_43 ?_
  refine lv_ior hx hb dX9_readMud_44 ?_
  obtain ⟨s7, hs7, hf⟩ := nm_ex hf
  refine va_put (D := D) (ci := 9) (v := .int ((v6 0 4) ||| ((1 : Int32) <<< (x1 &&& 31)))) (ty := .int) (C := RX9) (T := TX9) (N := 37) hx hb hts iwX9_readMud_X9 tyX9 tyX9_ok nmX9 hown hK hP hD hS 0 rfl rfl 8 (by decide) (hts _ lkX9_readMud_f72) (fun _ h9 => h9) rfl (by decide +kernel) rfl rfl (Nat.le_of_ble_eq_true rfl) dX9_readMud_45 (fun H locs hP hD hS => ?_)
  have hP : va_P D vwCl (wModel t a_mo s7 lam) H := by rw [hs7]; exact hP
  have hD : va_D A (wModel t a_mo s7 lam) := by rw [hs7]; exact hD
  refine lv_aload_n hx hb dX9_readMud_48 rfl (lv_at hl 0 rfl) ?_
  refine lv_iload_n hx hb dX9_readMud_49 rfl (lv_at hl 1 rfl) ?_
  refine lv_aload_n hx hb dX9_readMud_50 rfl (lv_at hl 0 rfl) ?_
  refine va_get (D := D) (ci := 9) (v := .int (s7 0 6)) (C := RX9) (T := TX9) (N := 37) hx hb hts iwX9_readMud_X9 hown hK hP 0 rfl rfl 10 (by decide) (hts _ lkX9_readMud_f78) (fun _ h9 => h9) rfl dX9_readMud_51 ?_
  refine lv_icmp_le (tgt := 61) hx hb dX9_readMud_54 (by decide) (fun c8 => ?_) (fun c8 => ?_)
  · rw [if_pos c8] at hf
    refine lv_aload_n hx hb dX9_readMud_61 rfl (lv_at hl 0 rfl) ?_
    refine va_get (D := D) (ci := 9) (v := .int (s7 0 6)) (C := RX9) (T := TX9) (N := 37) hx hb hts iwX9_readMud_X9 hown hK hP 0 rfl rfl 10 (by decide) (hts _ lkX9_readMud_f78) (fun _ h9 => h9) rfl dX9_readMud_62 ?_
    exact wX9_readMud_65 C hf _ _ _ hP hD hS (lv_sub hl [0] rfl)
  · rw [if_neg c8] at hf
    refine lv_iload_n hx hb dX9_readMud_57 rfl (lv_at hl 1 rfl) ?_
    refine lv_goto (tgt := 65) hx hb dX9_readMud_58 (by decide) ?_
    exact wX9_readMud_65 C hf _ _ _ hP hD hS (lv_sub hl [0] rfl)
set_option maxHeartbeats 4000000 in
set_option maxRecDepth 100000 in
theorem cX9_readMud_ok {l : Launch} {D : va_G} {t : Nat → ClassId} {κ : Nat → Nat} {a_mo : Nat → Nat} {s_mo : S2} {lam : S6} {out : S2} (hf : fX9_readMud s_mo = some out) : Ct l D t κ yX9_readMud wsX9_readMud (rmL 2) [.ref (a_mo 0)] (wModel t a_mo s_mo lam) none (wModel t a_mo out lam) := by
  refine Ct.ofW (own := RX9) (cc := cX9_readMud) (maxL := 2) (ret := none) (by decide) rfl rfl (Nat.le_of_ble_eq_true rfl) ?_
  intro p e s m below meth c A C hP hD ls hl
  have hS : va_S A s.heap s.heap [] := va_S.rf
  obtain ⟨hx, hb, hr, hml, hown, hts, hC0, hlk, hA⟩ := id C
  have hK := hC0.1
  have hl : lv_has ls 2 [(0, .ref (a_mo 0))] := hl
  unfold fX9_readMud at hf
  refine lv_aload_n hx hb dX9_readMud_0 rfl (lv_at hl 0 rfl) ?_
  refine lv_iconst (v := 0) hx hb dX9_readMud_1 (by decide) ?_
  refine lv_bipush (v := 7) hx hb dX9_readMud_2 (by decide) ?_
  obtain ⟨v1, ev1, hf⟩ := bd_some hf
  refine gk_V0 C (As := [.int (0 : Int32), .int (7 : Int32)]) (rest := []) (ci := 9) (q := (RX9, TX9, 37)) (q0 := 0) (cX9_looked_ok (l := l) (D := D) (t := t) (κ := κ) (a_mo := a_mo) (lam := lam) ev1) gX9_readMud_X9_looked rfl ⟨rfl, rfl⟩ hdX9_looked ⟨Nat.le_of_ble_eq_true rfl, Nat.le_of_ble_eq_true rfl⟩ rfl rfl hP hD hS rfl hl.1 (Nat.le_of_ble_eq_true rfl) dX9_readMud_4 (Nat.zero_le _) (Nat.zero_le _) (fun H locs hP hD hS => ?_)
  refine W.eq (g2 := F0 m 7 ls [.int v1.1]) rfl ?_
  obtain ⟨y2, hy2, hf⟩ := nm_ex hf
  refine W.eq (g2 := F0 m 7 ls [.int y2]) (by rw [hy2]) ?_
  refine lv_istore_n (lv' := [(1, .int y2), (0, .ref (a_mo 0))]) hx hb dX9_readMud_7 rfl hl (by decide) rfl (fun ls hl => ?_)
  refine lv_aload_n hx hb dX9_readMud_8 rfl (lv_at hl 1 rfl) ?_
  refine va_get (D := D) (ci := 9) (v := .int (v1.2 0 12)) (C := RX9) (T := TX9) (N := 37) hx hb hts iwX9_readMud_X9 hown hK hP 0 rfl rfl 17 (by decide) (hts _ lkX9_readMud_f96) (fun _ h9 => h9) rfl dX9_readMud_9 ?_
  refine lv_if_ne (tgt := 68) hx hb dX9_readMud_12 (by decide) (fun c3 => ?_) (fun c3 => ?_)
  · rw [if_neg c3] at hf
    exact wX9_readMud_68 C hf _ _ _ hP hD hS (lv_sub hl [1] rfl)
  · rw [if_pos c3] at hf
    refine lv_aload_n hx hb dX9_readMud_15 rfl (lv_at hl 1 rfl) ?_
    refine lv_aload_n hx hb dX9_readMud_16 rfl (lv_at hl 1 rfl) ?_
    refine va_get (D := D) (ci := 9) (v := .int (v1.2 0 4)) (C := RX9) (T := TX9) (N := 37) hx hb hts iwX9_readMud_X9 hown hK hP 0 rfl rfl 8 (by decide) (hts _ lkX9_readMud_f72) (fun _ h9 => h9) rfl dX9_readMud_17 ?_
    refine lv_iload_n hx hb dX9_readMud_20 rfl (lv_at hl 0 rfl) ?_
    refine lv_ishr hx hb dX9_readMud_21 ?_
    refine lv_iconst (v := 1) hx hb dX9_readMud_22 (by decide) ?_
    refine lv_iand hx hb dX9_readMud_23 ?_
    refine lv_if_ne (tgt := 31) hx hb dX9_readMud_24 (by decide) (fun c5 => ?_) (fun c5 => ?_)
    · rw [if_neg c5] at hf
      refine lv_iconst (v := 0) hx hb dX9_readMud_31 (by decide) ?_
      exact wX9_readMud_32 C hf _ _ _ hP hD hS (lv_sub hl [1, 0] rfl)
    · rw [if_pos c5] at hf
      refine lv_iconst (v := 1) hx hb dX9_readMud_27 (by decide) ?_
      refine lv_goto (tgt := 32) hx hb dX9_readMud_28 (by decide) ?_
      exact wX9_readMud_32 C hf _ _ _ hP hD hS (lv_sub hl [1, 0] rfl)
/-! CoachCourtModel.readParty -/
def fX9_readParty_109 (s_mo : S2) (k0 : Int32) : Option (S2) :=
  nm (sE s_mo 0 6 k0) fun s17 =>
  nm (sE s17 0 3 ((s17 0 3) + (1 : Int32))) fun s18 =>
  some s18
def fX9_readParty (s_mo : S2) (p1 : Int32) : Option (S2) :=
  nm ((24 : Int32) + ((5 : Int32) * (s_mo 0 3))) fun y1 =>
  gd (ixb (y1 + (0 : Int32)) 59) <|
  nm (sE s_mo 4 (Int32.toNatClampNeg (y1 + (0 : Int32))) p1) fun s3 =>
  (fX9_readNumber s3 (0 : Int32) (99 : Int32)).bind fun v4 =>
  gd (ixb (y1 + (1 : Int32)) 59) <|
  nm (sE v4.2 4 (Int32.toNatClampNeg (y1 + (1 : Int32))) v4.1) fun s6 =>
  (fX9_readNumber s6 (1 : Int32) (20 : Int32)).bind fun v7 =>
  gd (ixb (y1 + (2 : Int32)) 59) <|
  nm (sE v7.2 4 (Int32.toNatClampNeg (y1 + (2 : Int32))) v7.1) fun s9 =>
  (fX9_readNumber s9 (0 : Int32) (3 : Int32)).bind fun v10 =>
  gd (ixb (y1 + (3 : Int32)) 59) <|
  nm (sE v10.2 4 (Int32.toNatClampNeg (y1 + (3 : Int32))) v10.1) fun s12 =>
  (fX9_readNumber s12 (0 : Int32) (7 : Int32)).bind fun v13 =>
  gd (ixb (y1 + (4 : Int32)) 59) <|
  nm (sE v13.2 4 (Int32.toNatClampNeg (y1 + (4 : Int32))) v13.1) fun s15 =>
  if (s15 4 (Int32.toNatClampNeg (y1 + (4 : Int32)))) ≤ (s15 0 6) then
    (fX9_readParty_109 s15 (s15 0 6))
  else
    (fX9_readParty_109 s15 (s15 4 (Int32.toNatClampNeg (y1 + (4 : Int32)))))
theorem hdX9_readParty : yX9_readParty.cls = RX9 ∧ yX9_readParty.cls ≠ "java/lang/invoke/MethodHandle" ∧ yX9_readParty.cls ≠ "java/lang/invoke/VarHandle" ∧ (parseMethodDescriptor yX9_readParty.desc).map (fun d => d.parameters.length) = some 1 := by decide +kernel
theorem iwX9_readParty_X9 : ∀ w ∈ wsX90, w ∈ wsX9_readParty := by decide +kernel
theorem lkX9_readParty_f69 : Cond.fieldLink RX9 69 "CoachCourtModel" "dParties" "I" ∈ wsX9_readParty := by decide +kernel
theorem lkX9_readParty_f20 : Cond.fieldLink RX9 20 "CoachCourtModel" "draft" "[I" ∈ wsX9_readParty := by decide +kernel
theorem lkX9_readParty_f78 : Cond.fieldLink RX9 78 "CoachCourtModel" "highest" "I" ∈ wsX9_readParty := by decide +kernel
set_option maxHeartbeats 4000000 in
set_option maxRecDepth 100000 in
theorem wX9_readParty_109 {p : Program} {l : Launch} {e : Env} {s : State} {m : MethodId} {args : Array Value} {below : List Frame} {meth : Method} {c : Code} {D : va_G} {t : Nat → ClassId} {κ : Nat → Nat} {A : Nat → Prop} {a_mo : Nat → Nat} {s_mo : S2} {lam : S6} {k0 : Int32} {out : S2} (C : Cxt p s m args meth c cX9_readParty 3 RX9 wsX9_readParty none D t κ A) (hf : fX9_readParty_109 s_mo k0 = some out) : ∀ (H : Heap) (locs : List Loc) (ls : Array Slot), va_P D vwCl (wModel t a_mo s_mo lam) H → va_D A (wModel t a_mo s_mo lam) → va_S A s.heap H locs → lv_has ls 3 [(0, .ref (a_mo 0))] → W p l e (rmL 3) s m args below meth c H locs 0 0 (MQ below (gQ D none (wModel t a_mo out lam) A) args s 0 0 A) (F0 m 109 ls [.int k0, .ref (a_mo 0)]) := by
  obtain ⟨hx, hb, hr, hml, hown, hts, hC0, hlk, hA⟩ := id C
  have hK := hC0.1
  intro H locs ls hP hD hS hl
  unfold fX9_readParty_109 at hf
  obtain ⟨s17, hs17, hf⟩ := nm_ex hf
  refine va_put (D := D) (ci := 9) (v := .int k0) (ty := .int) (C := RX9) (T := TX9) (N := 37) hx hb hts iwX9_readParty_X9 tyX9 tyX9_ok nmX9 hown hK hP hD hS 0 rfl rfl 10 (by decide) (hts _ lkX9_readParty_f78) (fun _ h9 => h9) rfl (by decide +kernel) rfl rfl (Nat.le_of_ble_eq_true rfl) dX9_readParty_109 (fun H locs hP hD hS => ?_)
  have hP : va_P D vwCl (wModel t a_mo s17 lam) H := by rw [hs17]; exact hP
  have hD : va_D A (wModel t a_mo s17 lam) := by rw [hs17]; exact hD
  refine lv_aload_n hx hb dX9_readParty_112 rfl (lv_at hl 0 rfl) ?_
  refine lv_dup hx hb dX9_readParty_113 rfl ?_
  refine va_get (D := D) (ci := 9) (v := .int (s17 0 3)) (C := RX9) (T := TX9) (N := 37) hx hb hts iwX9_readParty_X9 hown hK hP 0 rfl rfl 7 (by decide) (hts _ lkX9_readParty_f69) (fun _ h9 => h9) rfl dX9_readParty_114 ?_
  refine lv_iconst (v := 1) hx hb dX9_readParty_117 (by decide) ?_
  refine lv_iadd hx hb dX9_readParty_118 ?_
  obtain ⟨s18, hs18, hf⟩ := nm_ex hf
  refine va_put (D := D) (ci := 9) (v := .int ((s17 0 3) + (1 : Int32))) (ty := .int) (C := RX9) (T := TX9) (N := 37) hx hb hts iwX9_readParty_X9 tyX9 tyX9_ok nmX9 hown hK hP hD hS 0 rfl rfl 7 (by decide) (hts _ lkX9_readParty_f69) (fun _ h9 => h9) rfl (by decide +kernel) rfl rfl (Nat.le_of_ble_eq_true rfl) dX9_readParty_119 (fun H locs hP hD hS => ?_)
  have hP : va_P D vwCl (wModel t a_mo s18 lam) H := by rw [hs18]; exact hP
  have hD : va_D A (wModel t a_mo s18 lam) := by rw [hs18]; exact hD
  obtain rfl := so_eq hf
  exact g_vret C hP hD hS dX9_readParty_122
set_option maxHeartbeats 4000000 in
set_option maxRecDepth 100000 in
theorem cX9_readParty_ok {l : Launch} {D : va_G} {t : Nat → ClassId} {κ : Nat → Nat} {a_mo : Nat → Nat} {s_mo : S2} {lam : S6} {p1 : Int32} {out : S2} (hf : fX9_readParty s_mo p1 = some out) : Ct l D t κ yX9_readParty wsX9_readParty (rmL 3) [.ref (a_mo 0), .int p1] (wModel t a_mo s_mo lam) none (wModel t a_mo out lam) := by
  refine Ct.ofW (own := RX9) (cc := cX9_readParty) (maxL := 3) (ret := none) (by decide) rfl rfl (Nat.le_of_ble_eq_true rfl) ?_
  intro p e s m below meth c A C hP hD ls hl
  have hS : va_S A s.heap s.heap [] := va_S.rf
  obtain ⟨hx, hb, hr, hml, hown, hts, hC0, hlk, hA⟩ := id C
  have hK := hC0.1
  have hl : lv_has ls 3 [(0, .ref (a_mo 0)), (1, .int p1)] := hl
  unfold fX9_readParty at hf
  refine lv_bipush (v := 24) hx hb dX9_readParty_0 (by decide) ?_
  refine lv_iconst (v := 5) hx hb dX9_readParty_2 (by decide) ?_
  refine lv_aload_n hx hb dX9_readParty_3 rfl (lv_at hl 0 rfl) ?_
  refine va_get (D := D) (ci := 9) (v := .int (s_mo 0 3)) (C := RX9) (T := TX9) (N := 37) hx hb hts iwX9_readParty_X9 hown hK hP 0 rfl rfl 7 (by decide) (hts _ lkX9_readParty_f69) (fun _ h9 => h9) rfl dX9_readParty_4 ?_
  refine lv_imul hx hb dX9_readParty_7 ?_
  refine lv_iadd hx hb dX9_readParty_8 ?_
  obtain ⟨y1, hy1, hf⟩ := nm_ex hf
  refine W.eq (g2 := F0 m 9 ls [.int y1]) (by rw [hy1]) ?_
  refine lv_istore_n (lv' := [(2, .int y1), (0, .ref (a_mo 0)), (1, .int p1)]) hx hb dX9_readParty_9 rfl hl (by decide) rfl (fun ls hl => ?_)
  refine lv_aload_n hx hb dX9_readParty_10 rfl (lv_at hl 1 rfl) ?_
  refine va_get (D := D) (ci := 9) (v := .ref (a_mo 4)) (C := RX9) (T := TX9) (N := 37) hx hb hts iwX9_readParty_X9 hown hK hP 0 rfl rfl 5 (by decide) (hts _ lkX9_readParty_f20) (fun _ h9 => h9) rfl dX9_readParty_11 ?_
  refine lv_iload_n hx hb dX9_readParty_14 rfl (lv_at hl 0 rfl) ?_
  refine lv_iconst (v := 0) hx hb dX9_readParty_15 (by decide) ?_
  refine lv_iadd hx hb dX9_readParty_16 ?_
  refine lv_iload_n hx hb dX9_readParty_17 rfl (lv_at hl 2 rfl) ?_
  obtain ⟨b2, hf⟩ := gd_some hf
  obtain ⟨s3, hs3, hf⟩ := nm_ex hf
  refine va_iast hx hb hK hP hD hS 4 0 rfl rfl (ixb_in b2) dX9_readParty_18 (fun H locs hP hD hS => ?_)
  have hP : va_P D vwCl (wModel t a_mo s3 lam) H := by rw [hs3]; exact hP
  have hD : va_D A (wModel t a_mo s3 lam) := by rw [hs3]; exact hD
  refine lv_aload_n hx hb dX9_readParty_19 rfl (lv_at hl 1 rfl) ?_
  refine va_get (D := D) (ci := 9) (v := .ref (a_mo 4)) (C := RX9) (T := TX9) (N := 37) hx hb hts iwX9_readParty_X9 hown hK hP 0 rfl rfl 5 (by decide) (hts _ lkX9_readParty_f20) (fun _ h9 => h9) rfl dX9_readParty_20 ?_
  refine lv_iload_n hx hb dX9_readParty_23 rfl (lv_at hl 0 rfl) ?_
  refine lv_iconst (v := 1) hx hb dX9_readParty_24 (by decide) ?_
  refine lv_iadd hx hb dX9_readParty_25 ?_
  refine lv_aload_n hx hb dX9_readParty_26 rfl (lv_at hl 1 rfl) ?_
  refine lv_iconst (v := 0) hx hb dX9_readParty_27 (by decide) ?_
  refine lv_bipush (v := 99) hx hb dX9_readParty_28 (by decide) ?_
  obtain ⟨v4, ev4, hf⟩ := bd_some hf
  refine gk_V0 C (As := [.int (0 : Int32), .int (99 : Int32)]) (rest := [.int (y1 + (1 : Int32)), .ref (a_mo 4)]) (ci := 9) (q := (RX9, TX9, 37)) (q0 := 0) (cX9_readNumber_ok (l := l) (D := D) (t := t) (κ := κ) (a_mo := a_mo) (lam := lam) ev4) gX9_readParty_X9_readNumber rfl ⟨rfl, rfl⟩ hdX9_readNumber ⟨Nat.le_of_ble_eq_true rfl, Nat.le_of_ble_eq_true rfl⟩ rfl rfl hP hD hS rfl hl.1 (Nat.le_of_ble_eq_true rfl) dX9_readParty_30 (Nat.zero_le _) (Nat.zero_le _) (fun H locs hP hD hS => ?_)
  refine W.eq (g2 := F0 m 33 ls [.int v4.1, .int (y1 + (1 : Int32)), .ref (a_mo 4)]) rfl ?_
  obtain ⟨b5, hf⟩ := gd_some hf
  obtain ⟨s6, hs6, hf⟩ := nm_ex hf
  refine va_iast hx hb hK hP hD hS 4 0 rfl rfl (ixb_in b5) dX9_readParty_33 (fun H locs hP hD hS => ?_)
  have hP : va_P D vwCl (wModel t a_mo s6 lam) H := by rw [hs6]; exact hP
  have hD : va_D A (wModel t a_mo s6 lam) := by rw [hs6]; exact hD
  refine lv_aload_n hx hb dX9_readParty_34 rfl (lv_at hl 1 rfl) ?_
  refine va_get (D := D) (ci := 9) (v := .ref (a_mo 4)) (C := RX9) (T := TX9) (N := 37) hx hb hts iwX9_readParty_X9 hown hK hP 0 rfl rfl 5 (by decide) (hts _ lkX9_readParty_f20) (fun _ h9 => h9) rfl dX9_readParty_35 ?_
  refine lv_iload_n hx hb dX9_readParty_38 rfl (lv_at hl 0 rfl) ?_
  refine lv_iconst (v := 2) hx hb dX9_readParty_39 (by decide) ?_
  refine lv_iadd hx hb dX9_readParty_40 ?_
  refine lv_aload_n hx hb dX9_readParty_41 rfl (lv_at hl 1 rfl) ?_
  refine lv_iconst (v := 1) hx hb dX9_readParty_42 (by decide) ?_
  refine lv_bipush (v := 20) hx hb dX9_readParty_43 (by decide) ?_
  obtain ⟨v7, ev7, hf⟩ := bd_some hf
  refine gk_V0 C (As := [.int (1 : Int32), .int (20 : Int32)]) (rest := [.int (y1 + (2 : Int32)), .ref (a_mo 4)]) (ci := 9) (q := (RX9, TX9, 37)) (q0 := 0) (cX9_readNumber_ok (l := l) (D := D) (t := t) (κ := κ) (a_mo := a_mo) (lam := lam) ev7) gX9_readParty_X9_readNumber rfl ⟨rfl, rfl⟩ hdX9_readNumber ⟨Nat.le_of_ble_eq_true rfl, Nat.le_of_ble_eq_true rfl⟩ rfl rfl hP hD hS rfl hl.1 (Nat.le_of_ble_eq_true rfl) dX9_readParty_45 (Nat.zero_le _) (Nat.zero_le _) (fun H locs hP hD hS => ?_)
  refine W.eq (g2 := F0 m 48 ls [.int v7.1, .int (y1 + (2 : Int32)), .ref (a_mo 4)]) rfl ?_
  obtain ⟨b8, hf⟩ := gd_some hf
  obtain ⟨s9, hs9, hf⟩ := nm_ex hf
  refine va_iast hx hb hK hP hD hS 4 0 rfl rfl (ixb_in b8) dX9_readParty_48 (fun H locs hP hD hS => ?_)
  have hP : va_P D vwCl (wModel t a_mo s9 lam) H := by rw [hs9]; exact hP
  have hD : va_D A (wModel t a_mo s9 lam) := by rw [hs9]; exact hD
  refine lv_aload_n hx hb dX9_readParty_49 rfl (lv_at hl 1 rfl) ?_
  refine va_get (D := D) (ci := 9) (v := .ref (a_mo 4)) (C := RX9) (T := TX9) (N := 37) hx hb hts iwX9_readParty_X9 hown hK hP 0 rfl rfl 5 (by decide) (hts _ lkX9_readParty_f20) (fun _ h9 => h9) rfl dX9_readParty_50 ?_
  refine lv_iload_n hx hb dX9_readParty_53 rfl (lv_at hl 0 rfl) ?_
  refine lv_iconst (v := 3) hx hb dX9_readParty_54 (by decide) ?_
  refine lv_iadd hx hb dX9_readParty_55 ?_
  refine lv_aload_n hx hb dX9_readParty_56 rfl (lv_at hl 1 rfl) ?_
  refine lv_iconst (v := 0) hx hb dX9_readParty_57 (by decide) ?_
  refine lv_iconst (v := 3) hx hb dX9_readParty_58 (by decide) ?_
  obtain ⟨v10, ev10, hf⟩ := bd_some hf
  refine gk_V0 C (As := [.int (0 : Int32), .int (3 : Int32)]) (rest := [.int (y1 + (3 : Int32)), .ref (a_mo 4)]) (ci := 9) (q := (RX9, TX9, 37)) (q0 := 0) (cX9_readNumber_ok (l := l) (D := D) (t := t) (κ := κ) (a_mo := a_mo) (lam := lam) ev10) gX9_readParty_X9_readNumber rfl ⟨rfl, rfl⟩ hdX9_readNumber ⟨Nat.le_of_ble_eq_true rfl, Nat.le_of_ble_eq_true rfl⟩ rfl rfl hP hD hS rfl hl.1 (Nat.le_of_ble_eq_true rfl) dX9_readParty_59 (Nat.zero_le _) (Nat.zero_le _) (fun H locs hP hD hS => ?_)
  refine W.eq (g2 := F0 m 62 ls [.int v10.1, .int (y1 + (3 : Int32)), .ref (a_mo 4)]) rfl ?_
  obtain ⟨b11, hf⟩ := gd_some hf
  obtain ⟨s12, hs12, hf⟩ := nm_ex hf
  refine va_iast hx hb hK hP hD hS 4 0 rfl rfl (ixb_in b11) dX9_readParty_62 (fun H locs hP hD hS => ?_)
  have hP : va_P D vwCl (wModel t a_mo s12 lam) H := by rw [hs12]; exact hP
  have hD : va_D A (wModel t a_mo s12 lam) := by rw [hs12]; exact hD
  refine lv_aload_n hx hb dX9_readParty_63 rfl (lv_at hl 1 rfl) ?_
  refine va_get (D := D) (ci := 9) (v := .ref (a_mo 4)) (C := RX9) (T := TX9) (N := 37) hx hb hts iwX9_readParty_X9 hown hK hP 0 rfl rfl 5 (by decide) (hts _ lkX9_readParty_f20) (fun _ h9 => h9) rfl dX9_readParty_64 ?_
  refine lv_iload_n hx hb dX9_readParty_67 rfl (lv_at hl 0 rfl) ?_
  refine lv_iconst (v := 4) hx hb dX9_readParty_68 (by decide) ?_
  refine lv_iadd hx hb dX9_readParty_69 ?_
  refine lv_aload_n hx hb dX9_readParty_70 rfl (lv_at hl 1 rfl) ?_
  refine lv_iconst (v := 0) hx hb dX9_readParty_71 (by decide) ?_
  refine lv_bipush (v := 7) hx hb dX9_readParty_72 (by decide) ?_
  obtain ⟨v13, ev13, hf⟩ := bd_some hf
  refine gk_V0 C (As := [.int (0 : Int32), .int (7 : Int32)]) (rest := [.int (y1 + (4 : Int32)), .ref (a_mo 4)]) (ci := 9) (q := (RX9, TX9, 37)) (q0 := 0) (cX9_readNumber_ok (l := l) (D := D) (t := t) (κ := κ) (a_mo := a_mo) (lam := lam) ev13) gX9_readParty_X9_readNumber rfl ⟨rfl, rfl⟩ hdX9_readNumber ⟨Nat.le_of_ble_eq_true rfl, Nat.le_of_ble_eq_true rfl⟩ rfl rfl hP hD hS rfl hl.1 (Nat.le_of_ble_eq_true rfl) dX9_readParty_74 (Nat.zero_le _) (Nat.zero_le _) (fun H locs hP hD hS => ?_)
  refine W.eq (g2 := F0 m 77 ls [.int v13.1, .int (y1 + (4 : Int32)), .ref (a_mo 4)]) rfl ?_
  obtain ⟨b14, hf⟩ := gd_some hf
  obtain ⟨s15, hs15, hf⟩ := nm_ex hf
  refine va_iast hx hb hK hP hD hS 4 0 rfl rfl (ixb_in b14) dX9_readParty_77 (fun H locs hP hD hS => ?_)
  have hP : va_P D vwCl (wModel t a_mo s15 lam) H := by rw [hs15]; exact hP
  have hD : va_D A (wModel t a_mo s15 lam) := by rw [hs15]; exact hD
  refine lv_aload_n hx hb dX9_readParty_78 rfl (lv_at hl 1 rfl) ?_
  refine lv_aload_n hx hb dX9_readParty_79 rfl (lv_at hl 1 rfl) ?_
  refine va_get (D := D) (ci := 9) (v := .ref (a_mo 4)) (C := RX9) (T := TX9) (N := 37) hx hb hts iwX9_readParty_X9 hown hK hP 0 rfl rfl 5 (by decide) (hts _ lkX9_readParty_f20) (fun _ h9 => h9) rfl dX9_readParty_80 ?_
  refine lv_iload_n hx hb dX9_readParty_83 rfl (lv_at hl 0 rfl) ?_
  refine lv_iconst (v := 4) hx hb dX9_readParty_84 (by decide) ?_
  refine lv_iadd hx hb dX9_readParty_85 ?_
  refine va_iald hx hb hK hP 4 0 rfl rfl (ixb_in b14) dX9_readParty_86 ?_
  refine lv_aload_n hx hb dX9_readParty_87 rfl (lv_at hl 1 rfl) ?_
  refine va_get (D := D) (ci := 9) (v := .int (s15 0 6)) (C := RX9) (T := TX9) (N := 37) hx hb hts iwX9_readParty_X9 hown hK hP 0 rfl rfl 10 (by decide) (hts _ lkX9_readParty_f78) (fun _ h9 => h9) rfl dX9_readParty_88 ?_
  refine lv_icmp_le (tgt := 105) hx hb dX9_readParty_91 (by decide) (fun c16 => ?_) (fun c16 => ?_)
  · rw [if_pos c16] at hf
    refine lv_aload_n hx hb dX9_readParty_105 rfl (lv_at hl 1 rfl) ?_
    refine va_get (D := D) (ci := 9) (v := .int (s15 0 6)) (C := RX9) (T := TX9) (N := 37) hx hb hts iwX9_readParty_X9 hown hK hP 0 rfl rfl 10 (by decide) (hts _ lkX9_readParty_f78) (fun _ h9 => h9) rfl dX9_readParty_106 ?_
    exact wX9_readParty_109 C hf _ _ _ hP hD hS (lv_sub hl [1] rfl)
  · rw [if_neg c16] at hf
    refine lv_aload_n hx hb dX9_readParty_94 rfl (lv_at hl 1 rfl) ?_
    refine va_get (D := D) (ci := 9) (v := .ref (a_mo 4)) (C := RX9) (T := TX9) (N := 37) hx hb hts iwX9_readParty_X9 hown hK hP 0 rfl rfl 5 (by decide) (hts _ lkX9_readParty_f20) (fun _ h9 => h9) rfl dX9_readParty_95 ?_
    refine lv_iload_n hx hb dX9_readParty_98 rfl (lv_at hl 0 rfl) ?_
    refine lv_iconst (v := 4) hx hb dX9_readParty_99 (by decide) ?_
    refine lv_iadd hx hb dX9_readParty_100 ?_
    refine va_iald hx hb hK hP 4 0 rfl rfl (ixb_in b14) dX9_readParty_101 ?_
    refine lv_goto (tgt := 109) hx hb dX9_readParty_102 (by decide) ?_
    exact wX9_readParty_109 C hf _ _ _ hP hD hS (lv_sub hl [1] rfl)
/-! CoachCourtModel.readLineOf -/
def fX9_readLineOf (s_mo : S2) (p1 : Int32) : Option (S2) :=
  if p1 = 4 then
    ((fX9_readNumber s_mo (0 : Int32) (3 : Int32)).bind fun v2 =>
    gd (ixb (((3 : Int32) * (s_mo 0 2)) + (0 : Int32)) 59) <|
    nm (sE v2.2 4 (Int32.toNatClampNeg (((3 : Int32) * (s_mo 0 2)) + (0 : Int32))) v2.1) fun s4 =>
    (fX9_readNumber s4 (0 : Int32) (3 : Int32)).bind fun v5 =>
    gd (ixb (((3 : Int32) * (s4 0 2)) + (1 : Int32)) 59) <|
    nm (sE v5.2 4 (Int32.toNatClampNeg (((3 : Int32) * (s4 0 2)) + (1 : Int32))) v5.1) fun s7 =>
    nm (sE s7 0 2 ((s7 0 2) + (1 : Int32))) fun s8 =>
    some s8)
  else
  if p1 = 5 then
    ((fX9_readMud s_mo).bind fun v10 =>
    some v10)
  else
  if p1 = 6 then
    ((fX9_readNumber s_mo (1 : Int32) (4 : Int32)).bind fun v12 =>
    nm (sE v12.2 4 (Int32.toNatClampNeg (44 : Int32)) v12.1) fun s13 =>
    some s13)
  else
  if p1 = 7 then
    ((fX9_readNumber s_mo (0 : Int32) (99 : Int32)).bind fun v15 =>
    nm (sE v15.2 4 (Int32.toNatClampNeg (45 : Int32)) v15.1) fun s16 =>
    some s16)
  else
  ((fX9_readParty s_mo p1).bind fun v17 =>
  some v17)
theorem hdX9_readLineOf : yX9_readLineOf.cls = RX9 ∧ yX9_readLineOf.cls ≠ "java/lang/invoke/MethodHandle" ∧ yX9_readLineOf.cls ≠ "java/lang/invoke/VarHandle" ∧ (parseMethodDescriptor yX9_readLineOf.desc).map (fun d => d.parameters.length) = some 1 := by decide +kernel
theorem iwX9_readLineOf_X9 : ∀ w ∈ wsX90, w ∈ wsX9_readLineOf := by decide +kernel
theorem lkX9_readLineOf_f20 : Cond.fieldLink RX9 20 "CoachCourtModel" "draft" "[I" ∈ wsX9_readLineOf := by decide +kernel
theorem lkX9_readLineOf_f65 : Cond.fieldLink RX9 65 "CoachCourtModel" "dMiles" "I" ∈ wsX9_readLineOf := by decide +kernel
set_option maxHeartbeats 4000000 in
set_option maxRecDepth 100000 in
theorem cX9_readLineOf_ok {l : Launch} {D : va_G} {t : Nat → ClassId} {κ : Nat → Nat} {a_mo : Nat → Nat} {s_mo : S2} {lam : S6} {p1 : Int32} {out : S2} (hf : fX9_readLineOf s_mo p1 = some out) : Ct l D t κ yX9_readLineOf wsX9_readLineOf (rmL 4) [.ref (a_mo 0), .int p1] (wModel t a_mo s_mo lam) none (wModel t a_mo out lam) := by
  refine Ct.ofW (own := RX9) (cc := cX9_readLineOf) (maxL := 2) (ret := none) (by decide) rfl rfl (Nat.le_of_ble_eq_true rfl) ?_
  intro p e s m below meth c A C hP hD ls hl
  have hS : va_S A s.heap s.heap [] := va_S.rf
  obtain ⟨hx, hb, hr, hml, hown, hts, hC0, hlk, hA⟩ := id C
  have hK := hC0.1
  have hl : lv_has ls 2 [(0, .ref (a_mo 0)), (1, .int p1)] := hl
  unfold fX9_readLineOf at hf
  refine lv_iload_n hx hb dX9_readLineOf_0 rfl (lv_at hl 1 rfl) ?_
  by_cases c1 : p1 = 4
  · rw [if_pos c1] at hf
    refine lv_tableIn (tgt := 32) hx hb dX9_readLineOf_1 (by rw [c1]; decide) (by rw [c1]; decide) (by rw [c1]; rfl) (by decide) ?_
    refine lv_aload_n hx hb dX9_readLineOf_32 rfl (lv_at hl 0 rfl) ?_
    refine va_get (D := D) (ci := 9) (v := .ref (a_mo 4)) (C := RX9) (T := TX9) (N := 37) hx hb hts iwX9_readLineOf_X9 hown hK hP 0 rfl rfl 5 (by decide) (hts _ lkX9_readLineOf_f20) (fun _ h9 => h9) rfl dX9_readLineOf_33 ?_
    refine lv_iconst (v := 3) hx hb dX9_readLineOf_36 (by decide) ?_
    refine lv_aload_n hx hb dX9_readLineOf_37 rfl (lv_at hl 0 rfl) ?_
    refine va_get (D := D) (ci := 9) (v := .int (s_mo 0 2)) (C := RX9) (T := TX9) (N := 37) hx hb hts iwX9_readLineOf_X9 hown hK hP 0 rfl rfl 6 (by decide) (hts _ lkX9_readLineOf_f65) (fun _ h9 => h9) rfl dX9_readLineOf_38 ?_
    refine lv_imul hx hb dX9_readLineOf_41 ?_
    refine lv_iconst (v := 0) hx hb dX9_readLineOf_42 (by decide) ?_
    refine lv_iadd hx hb dX9_readLineOf_43 ?_
    refine lv_aload_n hx hb dX9_readLineOf_44 rfl (lv_at hl 0 rfl) ?_
    refine lv_iconst (v := 0) hx hb dX9_readLineOf_45 (by decide) ?_
    refine lv_iconst (v := 3) hx hb dX9_readLineOf_46 (by decide) ?_
    obtain ⟨v2, ev2, hf⟩ := bd_some hf
    refine gk_V0 C (As := [.int (0 : Int32), .int (3 : Int32)]) (rest := [.int (((3 : Int32) * (s_mo 0 2)) + (0 : Int32)), .ref (a_mo 4)]) (ci := 9) (q := (RX9, TX9, 37)) (q0 := 0) (cX9_readNumber_ok (l := l) (D := D) (t := t) (κ := κ) (a_mo := a_mo) (lam := lam) ev2) gX9_readLineOf_X9_readNumber rfl ⟨rfl, rfl⟩ hdX9_readNumber ⟨Nat.le_of_ble_eq_true rfl, Nat.le_of_ble_eq_true rfl⟩ rfl rfl hP hD hS rfl hl.1 (Nat.le_of_ble_eq_true rfl) dX9_readLineOf_47 (Nat.zero_le _) (Nat.zero_le _) (fun H locs hP hD hS => ?_)
    refine W.eq (g2 := F0 m 50 ls [.int v2.1, .int (((3 : Int32) * (s_mo 0 2)) + (0 : Int32)), .ref (a_mo 4)]) rfl ?_
    obtain ⟨b3, hf⟩ := gd_some hf
    obtain ⟨s4, hs4, hf⟩ := nm_ex hf
    refine va_iast hx hb hK hP hD hS 4 0 rfl rfl (ixb_in b3) dX9_readLineOf_50 (fun H locs hP hD hS => ?_)
    have hP : va_P D vwCl (wModel t a_mo s4 lam) H := by rw [hs4]; exact hP
    have hD : va_D A (wModel t a_mo s4 lam) := by rw [hs4]; exact hD
    refine lv_aload_n hx hb dX9_readLineOf_51 rfl (lv_at hl 0 rfl) ?_
    refine va_get (D := D) (ci := 9) (v := .ref (a_mo 4)) (C := RX9) (T := TX9) (N := 37) hx hb hts iwX9_readLineOf_X9 hown hK hP 0 rfl rfl 5 (by decide) (hts _ lkX9_readLineOf_f20) (fun _ h9 => h9) rfl dX9_readLineOf_52 ?_
    refine lv_iconst (v := 3) hx hb dX9_readLineOf_55 (by decide) ?_
    refine lv_aload_n hx hb dX9_readLineOf_56 rfl (lv_at hl 0 rfl) ?_
    refine va_get (D := D) (ci := 9) (v := .int (s4 0 2)) (C := RX9) (T := TX9) (N := 37) hx hb hts iwX9_readLineOf_X9 hown hK hP 0 rfl rfl 6 (by decide) (hts _ lkX9_readLineOf_f65) (fun _ h9 => h9) rfl dX9_readLineOf_57 ?_
    refine lv_imul hx hb dX9_readLineOf_60 ?_
    refine lv_iconst (v := 1) hx hb dX9_readLineOf_61 (by decide) ?_
    refine lv_iadd hx hb dX9_readLineOf_62 ?_
    refine lv_aload_n hx hb dX9_readLineOf_63 rfl (lv_at hl 0 rfl) ?_
    refine lv_iconst (v := 0) hx hb dX9_readLineOf_64 (by decide) ?_
    refine lv_iconst (v := 3) hx hb dX9_readLineOf_65 (by decide) ?_
    obtain ⟨v5, ev5, hf⟩ := bd_some hf
    refine gk_V0 C (As := [.int (0 : Int32), .int (3 : Int32)]) (rest := [.int (((3 : Int32) * (s4 0 2)) + (1 : Int32)), .ref (a_mo 4)]) (ci := 9) (q := (RX9, TX9, 37)) (q0 := 0) (cX9_readNumber_ok (l := l) (D := D) (t := t) (κ := κ) (a_mo := a_mo) (lam := lam) ev5) gX9_readLineOf_X9_readNumber rfl ⟨rfl, rfl⟩ hdX9_readNumber ⟨Nat.le_of_ble_eq_true rfl, Nat.le_of_ble_eq_true rfl⟩ rfl rfl hP hD hS rfl hl.1 (Nat.le_of_ble_eq_true rfl) dX9_readLineOf_66 (Nat.zero_le _) (Nat.zero_le _) (fun H locs hP hD hS => ?_)
    refine W.eq (g2 := F0 m 69 ls [.int v5.1, .int (((3 : Int32) * (s4 0 2)) + (1 : Int32)), .ref (a_mo 4)]) rfl ?_
    obtain ⟨b6, hf⟩ := gd_some hf
    obtain ⟨s7, hs7, hf⟩ := nm_ex hf
    refine va_iast hx hb hK hP hD hS 4 0 rfl rfl (ixb_in b6) dX9_readLineOf_69 (fun H locs hP hD hS => ?_)
    have hP : va_P D vwCl (wModel t a_mo s7 lam) H := by rw [hs7]; exact hP
    have hD : va_D A (wModel t a_mo s7 lam) := by rw [hs7]; exact hD
    refine lv_aload_n hx hb dX9_readLineOf_70 rfl (lv_at hl 0 rfl) ?_
    refine lv_dup hx hb dX9_readLineOf_71 rfl ?_
    refine va_get (D := D) (ci := 9) (v := .int (s7 0 2)) (C := RX9) (T := TX9) (N := 37) hx hb hts iwX9_readLineOf_X9 hown hK hP 0 rfl rfl 6 (by decide) (hts _ lkX9_readLineOf_f65) (fun _ h9 => h9) rfl dX9_readLineOf_72 ?_
    refine lv_iconst (v := 1) hx hb dX9_readLineOf_75 (by decide) ?_
    refine lv_iadd hx hb dX9_readLineOf_76 ?_
    obtain ⟨s8, hs8, hf⟩ := nm_ex hf
    refine va_put (D := D) (ci := 9) (v := .int ((s7 0 2) + (1 : Int32))) (ty := .int) (C := RX9) (T := TX9) (N := 37) hx hb hts iwX9_readLineOf_X9 tyX9 tyX9_ok nmX9 hown hK hP hD hS 0 rfl rfl 6 (by decide) (hts _ lkX9_readLineOf_f65) (fun _ h9 => h9) rfl (by decide +kernel) rfl rfl (Nat.le_of_ble_eq_true rfl) dX9_readLineOf_77 (fun H locs hP hD hS => ?_)
    have hP : va_P D vwCl (wModel t a_mo s8 lam) H := by rw [hs8]; exact hP
    have hD : va_D A (wModel t a_mo s8 lam) := by rw [hs8]; exact hD
    refine lv_goto (tgt := 128) hx hb dX9_readLineOf_80 (by decide) ?_
    obtain rfl := so_eq hf
    exact g_vret C hP hD hS dX9_readLineOf_128
  rw [if_neg c1] at hf
  by_cases c9 : p1 = 5
  · rw [if_pos c9] at hf
    refine lv_tableIn (tgt := 83) hx hb dX9_readLineOf_1 (by rw [c9]; decide) (by rw [c9]; decide) (by rw [c9]; rfl) (by decide) ?_
    refine lv_aload_n hx hb dX9_readLineOf_83 rfl (lv_at hl 0 rfl) ?_
    obtain ⟨v10, ev10, hf⟩ := bd_some hf
    refine gk_V0 C (As := []) (rest := []) (ci := 9) (q := (RX9, TX9, 37)) (q0 := 0) (cX9_readMud_ok (l := l) (D := D) (t := t) (κ := κ) (a_mo := a_mo) (lam := lam) ev10) gX9_readLineOf_X9_readMud rfl ⟨rfl, rfl⟩ hdX9_readMud ⟨Nat.le_of_ble_eq_true rfl, Nat.le_of_ble_eq_true rfl⟩ rfl rfl hP hD hS rfl hl.1 (Nat.le_of_ble_eq_true rfl) dX9_readLineOf_84 (Nat.zero_le _) (Nat.zero_le _) (fun H locs hP hD hS => ?_)
    refine W.eq (g2 := F0 m 87 ls []) rfl ?_
    refine lv_goto (tgt := 128) hx hb dX9_readLineOf_87 (by decide) ?_
    obtain rfl := so_eq hf
    exact g_vret C hP hD hS dX9_readLineOf_128
  rw [if_neg c9] at hf
  by_cases c11 : p1 = 6
  · rw [if_pos c11] at hf
    refine lv_tableIn (tgt := 90) hx hb dX9_readLineOf_1 (by rw [c11]; decide) (by rw [c11]; decide) (by rw [c11]; rfl) (by decide) ?_
    refine lv_aload_n hx hb dX9_readLineOf_90 rfl (lv_at hl 0 rfl) ?_
    refine va_get (D := D) (ci := 9) (v := .ref (a_mo 4)) (C := RX9) (T := TX9) (N := 37) hx hb hts iwX9_readLineOf_X9 hown hK hP 0 rfl rfl 5 (by decide) (hts _ lkX9_readLineOf_f20) (fun _ h9 => h9) rfl dX9_readLineOf_91 ?_
    refine lv_bipush (v := 44) hx hb dX9_readLineOf_94 (by decide) ?_
    refine lv_aload_n hx hb dX9_readLineOf_96 rfl (lv_at hl 0 rfl) ?_
    refine lv_iconst (v := 1) hx hb dX9_readLineOf_97 (by decide) ?_
    refine lv_iconst (v := 4) hx hb dX9_readLineOf_98 (by decide) ?_
    obtain ⟨v12, ev12, hf⟩ := bd_some hf
    refine gk_V0 C (As := [.int (1 : Int32), .int (4 : Int32)]) (rest := [.int (44 : Int32), .ref (a_mo 4)]) (ci := 9) (q := (RX9, TX9, 37)) (q0 := 0) (cX9_readNumber_ok (l := l) (D := D) (t := t) (κ := κ) (a_mo := a_mo) (lam := lam) ev12) gX9_readLineOf_X9_readNumber rfl ⟨rfl, rfl⟩ hdX9_readNumber ⟨Nat.le_of_ble_eq_true rfl, Nat.le_of_ble_eq_true rfl⟩ rfl rfl hP hD hS rfl hl.1 (Nat.le_of_ble_eq_true rfl) dX9_readLineOf_99 (Nat.zero_le _) (Nat.zero_le _) (fun H locs hP hD hS => ?_)
    refine W.eq (g2 := F0 m 102 ls [.int v12.1, .int (44 : Int32), .ref (a_mo 4)]) rfl ?_
    obtain ⟨s13, hs13, hf⟩ := nm_ex hf
    refine va_iast hx hb hK hP hD hS 4 0 rfl rfl (ixb_in (by decide)) dX9_readLineOf_102 (fun H locs hP hD hS => ?_)
    have hP : va_P D vwCl (wModel t a_mo s13 lam) H := by rw [hs13]; exact hP
    have hD : va_D A (wModel t a_mo s13 lam) := by rw [hs13]; exact hD
    refine lv_goto (tgt := 128) hx hb dX9_readLineOf_103 (by decide) ?_
    obtain rfl := so_eq hf
    exact g_vret C hP hD hS dX9_readLineOf_128
  rw [if_neg c11] at hf
  by_cases c14 : p1 = 7
  · rw [if_pos c14] at hf
    refine lv_tableIn (tgt := 106) hx hb dX9_readLineOf_1 (by rw [c14]; decide) (by rw [c14]; decide) (by rw [c14]; rfl) (by decide) ?_
    refine lv_aload_n hx hb dX9_readLineOf_106 rfl (lv_at hl 0 rfl) ?_
    refine va_get (D := D) (ci := 9) (v := .ref (a_mo 4)) (C := RX9) (T := TX9) (N := 37) hx hb hts iwX9_readLineOf_X9 hown hK hP 0 rfl rfl 5 (by decide) (hts _ lkX9_readLineOf_f20) (fun _ h9 => h9) rfl dX9_readLineOf_107 ?_
    refine lv_bipush (v := 45) hx hb dX9_readLineOf_110 (by decide) ?_
    refine lv_aload_n hx hb dX9_readLineOf_112 rfl (lv_at hl 0 rfl) ?_
    refine lv_iconst (v := 0) hx hb dX9_readLineOf_113 (by decide) ?_
    refine lv_bipush (v := 99) hx hb dX9_readLineOf_114 (by decide) ?_
    obtain ⟨v15, ev15, hf⟩ := bd_some hf
    refine gk_V0 C (As := [.int (0 : Int32), .int (99 : Int32)]) (rest := [.int (45 : Int32), .ref (a_mo 4)]) (ci := 9) (q := (RX9, TX9, 37)) (q0 := 0) (cX9_readNumber_ok (l := l) (D := D) (t := t) (κ := κ) (a_mo := a_mo) (lam := lam) ev15) gX9_readLineOf_X9_readNumber rfl ⟨rfl, rfl⟩ hdX9_readNumber ⟨Nat.le_of_ble_eq_true rfl, Nat.le_of_ble_eq_true rfl⟩ rfl rfl hP hD hS rfl hl.1 (Nat.le_of_ble_eq_true rfl) dX9_readLineOf_116 (Nat.zero_le _) (Nat.zero_le _) (fun H locs hP hD hS => ?_)
    refine W.eq (g2 := F0 m 119 ls [.int v15.1, .int (45 : Int32), .ref (a_mo 4)]) rfl ?_
    obtain ⟨s16, hs16, hf⟩ := nm_ex hf
    refine va_iast hx hb hK hP hD hS 4 0 rfl rfl (ixb_in (by decide)) dX9_readLineOf_119 (fun H locs hP hD hS => ?_)
    have hP : va_P D vwCl (wModel t a_mo s16 lam) H := by rw [hs16]; exact hP
    have hD : va_D A (wModel t a_mo s16 lam) := by rw [hs16]; exact hD
    refine lv_goto (tgt := 128) hx hb dX9_readLineOf_120 (by decide) ?_
    obtain rfl := so_eq hf
    exact g_vret C hP hD hS dX9_readLineOf_128
  rw [if_neg c14] at hf
  refine lv_tableOut (tgt := 123) hx hb dX9_readLineOf_1 (by have nc1 := lv_neT c1 (a := 4) (by decide); have nc9 := lv_neT c9 (a := 5) (by decide); have nc11 := lv_neT c11 (a := 6) (by decide); have nc14 := lv_neT c14 (a := 7) (by decide); have z := Int32.le_toInt p1; have z2 := Int32.toInt_lt p1; omega) (by decide) ?_
  refine lv_aload_n hx hb dX9_readLineOf_123 rfl (lv_at hl 0 rfl) ?_
  refine lv_iload_n hx hb dX9_readLineOf_124 rfl (lv_at hl 1 rfl) ?_
  obtain ⟨v17, ev17, hf⟩ := bd_some hf
  refine gk_V0 C (As := [.int p1]) (rest := []) (ci := 9) (q := (RX9, TX9, 37)) (q0 := 0) (cX9_readParty_ok (l := l) (D := D) (t := t) (κ := κ) (a_mo := a_mo) (lam := lam) ev17) gX9_readLineOf_X9_readParty rfl ⟨rfl, rfl⟩ hdX9_readParty ⟨Nat.le_of_ble_eq_true rfl, Nat.le_of_ble_eq_true rfl⟩ rfl rfl hP hD hS rfl hl.1 (Nat.le_of_ble_eq_true rfl) dX9_readLineOf_125 (Nat.zero_le _) (Nat.zero_le _) (fun H locs hP hD hS => ?_)
  refine W.eq (g2 := F0 m 128 ls []) rfl ?_
  obtain rfl := so_eq hf
  exact g_vret C hP hD hS dX9_readLineOf_128
/-! CoachCourtModel.readLine -/
def fX9_readLine_167 (s_mo : S2) : Option (S2) :=
  (fX9_next s_mo).bind fun v12 =>
  some v12
def fX9_readLine_163 (s_mo : S2) (k0 : Int32) : Option (S2) :=
  (fX9_needs s_mo k0 (2 : Int32)).bind fun v14 =>
  fX9_readLine_167 v14
def fX9_readLine_125 (s_mo : S2) (x1 : Int32) : Option (S2) :=
  (fX9_next s_mo).bind fun v8 =>
  if (v8 0 12) ≤ (0 : Int32) then
    ((fX9_readLineOf v8 x1).bind fun v10 =>
    if (v10 0 12) = (0 : Int32) then
      (if (v10 0 10) = (3 : Int32) then
        (fX9_readLine_163 v10 (1 : Int32))
      else
        (fX9_readLine_163 v10 (0 : Int32)))
    else
      (fX9_readLine_167 v10))
  else
    (some v8)
def fX9_readLine_109 (s_mo : S2) (x1 : Int32) (k0 : Int32) : Option (S2) :=
  (fX9_needs s_mo k0 (4 : Int32)).bind fun v17 =>
  nm (sE v17 0 5 ((v17 0 5) ||| ((1 : Int32) <<< (x1 &&& 31)))) fun s18 =>
  fX9_readLine_125 s18 x1
def fX9_readLine_75 (s_mo : S2) (x1 : Int32) (k0 : Int32) : Option (S2) :=
  (fX9_needs s_mo k0 (5 : Int32)).bind fun v6 =>
  if (v6 0 12) = (0 : Int32) then
    (if x1 < (6 : Int32) then
      (fX9_readLine_125 v6 x1)
    else
      (if (((v6 0 5) >>> (x1 &&& 31)) &&& (1 : Int32)) = (0 : Int32) then
        (fX9_readLine_109 v6 x1 (1 : Int32))
      else
        (fX9_readLine_109 v6 x1 (0 : Int32))))
  else
    (fX9_readLine_125 v6 x1)
def fX9_readLine_30 (s_mo : S2) (x1 : Int32) (k0 : Int32) : Option (S2) :=
  (fX9_needs s_mo k0 (2 : Int32)).bind fun v3 =>
  if x1 = (4 : Int32) then
    (if (8 : Int32) ≤ (v3 0 2) then
      (fX9_readLine_75 v3 x1 (0 : Int32))
    else
      (fX9_readLine_75 v3 x1 (1 : Int32)))
  else
    (if (4 : Int32) < x1 then
      (fX9_readLine_75 v3 x1 (1 : Int32))
    else
      (if (4 : Int32) ≤ (v3 0 3) then
        (fX9_readLine_75 v3 x1 (0 : Int32))
      else
        (fX9_readLine_75 v3 x1 (1 : Int32))))
def fX9_readLine_17 (s_mo : S2) (k0 : Int32) : Option (S2) :=
  if k0 = (-4 : Int32) then
    (fX9_readLine_30 s_mo k0 (0 : Int32))
  else
    (fX9_readLine_30 s_mo k0 (1 : Int32))
def fX9_readLine (s_mo : S2) : Option (S2) :=
  if (s_mo 0 10) = (1 : Int32) then
    ((fX9_lineNow s_mo).bind fun v21 =>
    fX9_readLine_17 s_mo v21)
  else
    (fX9_readLine_17 s_mo (-4 : Int32))
theorem hdX9_readLine : yX9_readLine.cls = RX9 ∧ yX9_readLine.cls ≠ "java/lang/invoke/MethodHandle" ∧ yX9_readLine.cls ≠ "java/lang/invoke/VarHandle" ∧ (parseMethodDescriptor yX9_readLine.desc).map (fun d => d.parameters.length) = some 0 := by decide +kernel
theorem iwX9_readLine_X9 : ∀ w ∈ wsX90, w ∈ wsX9_readLine := by decide +kernel
theorem lkX9_readLine_f119 : Cond.fieldLink RX9 119 "CoachCourtModel" "sort" "I" ∈ wsX9_readLine := by decide +kernel
theorem lkX9_readLine_f96 : Cond.fieldLink RX9 96 "CoachCourtModel" "fault" "I" ∈ wsX9_readLine := by decide +kernel
theorem lkX9_readLine_f75 : Cond.fieldLink RX9 75 "CoachCourtModel" "toldLines" "I" ∈ wsX9_readLine := by decide +kernel
theorem lkX9_readLine_f69 : Cond.fieldLink RX9 69 "CoachCourtModel" "dParties" "I" ∈ wsX9_readLine := by decide +kernel
theorem lkX9_readLine_f65 : Cond.fieldLink RX9 65 "CoachCourtModel" "dMiles" "I" ∈ wsX9_readLine := by decide +kernel
set_option maxHeartbeats 4000000 in
set_option maxRecDepth 100000 in
theorem wX9_readLine_167 {p : Program} {l : Launch} {e : Env} {s : State} {m : MethodId} {args : Array Value} {below : List Frame} {meth : Method} {c : Code} {D : va_G} {t : Nat → ClassId} {κ : Nat → Nat} {A : Nat → Prop} {a_mo : Nat → Nat} {s_mo : S2} {lam : S6} {out : S2} (C : Cxt p s m args meth c cX9_readLine 2 RX9 wsX9_readLine none D t κ A) (hf : fX9_readLine_167 s_mo = some out) : ∀ (H : Heap) (locs : List Loc) (ls : Array Slot), va_P D vwCl (wModel t a_mo s_mo lam) H → va_D A (wModel t a_mo s_mo lam) → va_S A s.heap H locs → lv_has ls 2 [(0, .ref (a_mo 0))] → W p l e (rmL 5) s m args below meth c H locs 0 0 (MQ below (gQ D none (wModel t a_mo out lam) A) args s 0 0 A) (F0 m 167 ls []) := by
  obtain ⟨hx, hb, hr, hml, hown, hts, hC0, hlk, hA⟩ := id C
  have hK := hC0.1
  intro H locs ls hP hD hS hl
  unfold fX9_readLine_167 at hf
  refine lv_aload_n hx hb dX9_readLine_167 rfl (lv_at hl 0 rfl) ?_
  obtain ⟨v12, ev12, hf⟩ := bd_some hf
  refine gk_V0 C (As := []) (rest := []) (ci := 9) (q := (RX9, TX9, 37)) (q0 := 0) (cX9_next_ok (l := l) (D := D) (t := t) (κ := κ) (a_mo := a_mo) (lam := lam) ev12) gX9_readLine_X9_next rfl ⟨rfl, rfl⟩ hdX9_next ⟨Nat.le_of_ble_eq_true rfl, Nat.le_of_ble_eq_true rfl⟩ rfl rfl hP hD hS rfl hl.1 (Nat.le_of_ble_eq_true rfl) dX9_readLine_168 (Nat.zero_le _) (Nat.zero_le _) (fun H locs hP hD hS => ?_)
  refine W.eq (g2 := F0 m 171 ls []) rfl ?_
  obtain rfl := so_eq hf
  exact g_vret C hP hD hS dX9_readLine_171
set_option maxHeartbeats 4000000 in
set_option maxRecDepth 100000 in
theorem wX9_readLine_163 {p : Program} {l : Launch} {e : Env} {s : State} {m : MethodId} {args : Array Value} {below : List Frame} {meth : Method} {c : Code} {D : va_G} {t : Nat → ClassId} {κ : Nat → Nat} {A : Nat → Prop} {a_mo : Nat → Nat} {s_mo : S2} {lam : S6} {k0 : Int32} {out : S2} (C : Cxt p s m args meth c cX9_readLine 2 RX9 wsX9_readLine none D t κ A) (hf : fX9_readLine_163 s_mo k0 = some out) : ∀ (H : Heap) (locs : List Loc) (ls : Array Slot), va_P D vwCl (wModel t a_mo s_mo lam) H → va_D A (wModel t a_mo s_mo lam) → va_S A s.heap H locs → lv_has ls 2 [(0, .ref (a_mo 0))] → W p l e (rmL 5) s m args below meth c H locs 0 0 (MQ below (gQ D none (wModel t a_mo out lam) A) args s 0 0 A) (F0 m 163 ls [.int k0, .ref (a_mo 0)]) := by
  obtain ⟨hx, hb, hr, hml, hown, hts, hC0, hlk, hA⟩ := id C
  have hK := hC0.1
  intro H locs ls hP hD hS hl
  unfold fX9_readLine_163 at hf
  refine lv_iconst (v := 2) hx hb dX9_readLine_163 (by decide) ?_
  obtain ⟨v14, ev14, hf⟩ := bd_some hf
  refine gk_V0 C (As := [.int k0, .int (2 : Int32)]) (rest := []) (ci := 9) (q := (RX9, TX9, 37)) (q0 := 0) (cX9_needs_ok (l := l) (D := D) (t := t) (κ := κ) (a_mo := a_mo) (lam := lam) ev14) gX9_readLine_X9_needs rfl ⟨rfl, rfl⟩ hdX9_needs ⟨Nat.le_of_ble_eq_true rfl, Nat.le_of_ble_eq_true rfl⟩ rfl rfl hP hD hS rfl hl.1 (Nat.le_of_ble_eq_true rfl) dX9_readLine_164 (Nat.zero_le _) (Nat.zero_le _) (fun H locs hP hD hS => ?_)
  refine W.eq (g2 := F0 m 167 ls []) rfl ?_
  exact wX9_readLine_167 C hf _ _ _ hP hD hS (lv_sub hl [0] rfl)
set_option maxHeartbeats 4000000 in
set_option maxRecDepth 100000 in
theorem wX9_readLine_125 {p : Program} {l : Launch} {e : Env} {s : State} {m : MethodId} {args : Array Value} {below : List Frame} {meth : Method} {c : Code} {D : va_G} {t : Nat → ClassId} {κ : Nat → Nat} {A : Nat → Prop} {a_mo : Nat → Nat} {s_mo : S2} {lam : S6} {x1 : Int32} {out : S2} (C : Cxt p s m args meth c cX9_readLine 2 RX9 wsX9_readLine none D t κ A) (hf : fX9_readLine_125 s_mo x1 = some out) : ∀ (H : Heap) (locs : List Loc) (ls : Array Slot), va_P D vwCl (wModel t a_mo s_mo lam) H → va_D A (wModel t a_mo s_mo lam) → va_S A s.heap H locs → lv_has ls 2 [(0, .ref (a_mo 0)), (1, .int x1)] → W p l e (rmL 5) s m args below meth c H locs 0 0 (MQ below (gQ D none (wModel t a_mo out lam) A) args s 0 0 A) (F0 m 125 ls []) := by
  obtain ⟨hx, hb, hr, hml, hown, hts, hC0, hlk, hA⟩ := id C
  have hK := hC0.1
  intro H locs ls hP hD hS hl
  unfold fX9_readLine_125 at hf
  refine lv_aload_n hx hb dX9_readLine_125 rfl (lv_at hl 0 rfl) ?_
  obtain ⟨v8, ev8, hf⟩ := bd_some hf
  refine gk_V0 C (As := []) (rest := []) (ci := 9) (q := (RX9, TX9, 37)) (q0 := 0) (cX9_next_ok (l := l) (D := D) (t := t) (κ := κ) (a_mo := a_mo) (lam := lam) ev8) gX9_readLine_X9_next rfl ⟨rfl, rfl⟩ hdX9_next ⟨Nat.le_of_ble_eq_true rfl, Nat.le_of_ble_eq_true rfl⟩ rfl rfl hP hD hS rfl hl.1 (Nat.le_of_ble_eq_true rfl) dX9_readLine_126 (Nat.zero_le _) (Nat.zero_le _) (fun H locs hP hD hS => ?_)
  refine W.eq (g2 := F0 m 129 ls []) rfl ?_
  refine lv_aload_n hx hb dX9_readLine_129 rfl (lv_at hl 0 rfl) ?_
  refine va_get (D := D) (ci := 9) (v := .int (v8 0 12)) (C := RX9) (T := TX9) (N := 37) hx hb hts iwX9_readLine_X9 hown hK hP 0 rfl rfl 17 (by decide) (hts _ lkX9_readLine_f96) (fun _ h9 => h9) rfl dX9_readLine_130 ?_
  refine lv_if_le (tgt := 137) hx hb dX9_readLine_133 (by decide) (fun c9 => ?_) (fun c9 => ?_)
  · rw [if_pos c9] at hf
    refine lv_aload_n hx hb dX9_readLine_137 rfl (lv_at hl 0 rfl) ?_
    refine lv_iload_n hx hb dX9_readLine_138 rfl (lv_at hl 1 rfl) ?_
    obtain ⟨v10, ev10, hf⟩ := bd_some hf
    refine gk_V0 C (As := [.int x1]) (rest := []) (ci := 9) (q := (RX9, TX9, 37)) (q0 := 0) (cX9_readLineOf_ok (l := l) (D := D) (t := t) (κ := κ) (a_mo := a_mo) (lam := lam) ev10) gX9_readLine_X9_readLineOf rfl ⟨rfl, rfl⟩ hdX9_readLineOf ⟨Nat.le_of_ble_eq_true rfl, Nat.le_of_ble_eq_true rfl⟩ rfl rfl hP hD hS rfl hl.1 (Nat.le_of_ble_eq_true rfl) dX9_readLine_139 (Nat.zero_le _) (Nat.zero_le _) (fun H locs hP hD hS => ?_)
    refine W.eq (g2 := F0 m 142 ls []) rfl ?_
    refine lv_aload_n hx hb dX9_readLine_142 rfl (lv_at hl 0 rfl) ?_
    refine va_get (D := D) (ci := 9) (v := .int (v10 0 12)) (C := RX9) (T := TX9) (N := 37) hx hb hts iwX9_readLine_X9 hown hK hP 0 rfl rfl 17 (by decide) (hts _ lkX9_readLine_f96) (fun _ h9 => h9) rfl dX9_readLine_143 ?_
    refine lv_if_ne (tgt := 167) hx hb dX9_readLine_146 (by decide) (fun c11 => ?_) (fun c11 => ?_)
    · rw [if_neg c11] at hf
      exact wX9_readLine_167 C hf _ _ _ hP hD hS (lv_sub hl [0] rfl)
    · rw [if_pos c11] at hf
      refine lv_aload_n hx hb dX9_readLine_149 rfl (lv_at hl 0 rfl) ?_
      refine lv_aload_n hx hb dX9_readLine_150 rfl (lv_at hl 0 rfl) ?_
      refine va_get (D := D) (ci := 9) (v := .int (v10 0 10)) (C := RX9) (T := TX9) (N := 37) hx hb hts iwX9_readLine_X9 hown hK hP 0 rfl rfl 15 (by decide) (hts _ lkX9_readLine_f119) (fun _ h9 => h9) rfl dX9_readLine_151 ?_
      refine lv_iconst (v := 3) hx hb dX9_readLine_154 (by decide) ?_
      refine lv_icmp_ne (tgt := 162) hx hb dX9_readLine_155 (by decide) (fun c13 => ?_) (fun c13 => ?_)
      · rw [if_neg c13] at hf
        refine lv_iconst (v := 0) hx hb dX9_readLine_162 (by decide) ?_
        exact wX9_readLine_163 C hf _ _ _ hP hD hS (lv_sub hl [0] rfl)
      · rw [if_pos c13] at hf
        refine lv_iconst (v := 1) hx hb dX9_readLine_158 (by decide) ?_
        refine lv_goto (tgt := 163) hx hb dX9_readLine_159 (by decide) ?_
        exact wX9_readLine_163 C hf _ _ _ hP hD hS (lv_sub hl [0] rfl)
  · rw [if_neg c9] at hf
    obtain rfl := so_eq hf
    exact g_vret C hP hD hS dX9_readLine_136
set_option maxHeartbeats 4000000 in
set_option maxRecDepth 100000 in
theorem wX9_readLine_109 {p : Program} {l : Launch} {e : Env} {s : State} {m : MethodId} {args : Array Value} {below : List Frame} {meth : Method} {c : Code} {D : va_G} {t : Nat → ClassId} {κ : Nat → Nat} {A : Nat → Prop} {a_mo : Nat → Nat} {s_mo : S2} {lam : S6} {x1 : Int32} {k0 : Int32} {out : S2} (C : Cxt p s m args meth c cX9_readLine 2 RX9 wsX9_readLine none D t κ A) (hf : fX9_readLine_109 s_mo x1 k0 = some out) : ∀ (H : Heap) (locs : List Loc) (ls : Array Slot), va_P D vwCl (wModel t a_mo s_mo lam) H → va_D A (wModel t a_mo s_mo lam) → va_S A s.heap H locs → lv_has ls 2 [(0, .ref (a_mo 0)), (1, .int x1)] → W p l e (rmL 5) s m args below meth c H locs 0 0 (MQ below (gQ D none (wModel t a_mo out lam) A) args s 0 0 A) (F0 m 109 ls [.int k0, .ref (a_mo 0)]) := by
  obtain ⟨hx, hb, hr, hml, hown, hts, hC0, hlk, hA⟩ := id C
  have hK := hC0.1
  intro H locs ls hP hD hS hl
  unfold fX9_readLine_109 at hf
  refine lv_iconst (v := 4) hx hb dX9_readLine_109 (by decide) ?_
  obtain ⟨v17, ev17, hf⟩ := bd_some hf
  refine gk_V0 C (As := [.int k0, .int (4 : Int32)]) (rest := []) (ci := 9) (q := (RX9, TX9, 37)) (q0 := 0) (cX9_needs_ok (l := l) (D := D) (t := t) (κ := κ) (a_mo := a_mo) (lam := lam) ev17) gX9_readLine_X9_needs rfl ⟨rfl, rfl⟩ hdX9_needs ⟨Nat.le_of_ble_eq_true rfl, Nat.le_of_ble_eq_true rfl⟩ rfl rfl hP hD hS rfl hl.1 (Nat.le_of_ble_eq_true rfl) dX9_readLine_110 (Nat.zero_le _) (Nat.zero_le _) (fun H locs hP hD hS => ?_)
  refine W.eq (g2 := F0 m 113 ls []) rfl ?_
  refine lv_aload_n hx hb dX9_readLine_113 rfl (lv_at hl 0 rfl) ?_
  refine lv_dup hx hb dX9_readLine_114 rfl ?_
  refine va_get (D := D) (ci := 9) (v := .int (v17 0 5)) (C := RX9) (T := TX9) (N := 37) hx hb hts iwX9_readLine_X9 hown hK hP 0 rfl rfl 9 (by decide) (hts _ lkX9_readLine_f75) (fun _ h9 => h9) rfl dX9_readLine_115 ?_
  refine lv_iconst (v := 1) hx hb dX9_readLine_118 (by decide) ?_
  refine lv_iload_n hx hb dX9_readLine_119 rfl (lv_at hl 1 rfl) ?_
  refine lv_ishl hx hb dX9_readLine_120 ?_
  refine lv_ior hx hb dX9_readLine_121 ?_
  obtain ⟨s18, hs18, hf⟩ := nm_ex hf
  refine va_put (D := D) (ci := 9) (v := .int ((v17 0 5) ||| ((1 : Int32) <<< (x1 &&& 31)))) (ty := .int) (C := RX9) (T := TX9) (N := 37) hx hb hts iwX9_readLine_X9 tyX9 tyX9_ok nmX9 hown hK hP hD hS 0 rfl rfl 9 (by decide) (hts _ lkX9_readLine_f75) (fun _ h9 => h9) rfl (by decide +kernel) rfl rfl (Nat.le_of_ble_eq_true rfl) dX9_readLine_122 (fun H locs hP hD hS => ?_)
  have hP : va_P D vwCl (wModel t a_mo s18 lam) H := by rw [hs18]; exact hP
  have hD : va_D A (wModel t a_mo s18 lam) := by rw [hs18]; exact hD
  exact wX9_readLine_125 C hf _ _ _ hP hD hS (lv_sub hl [0, 1] rfl)
set_option maxHeartbeats 4000000 in
set_option maxRecDepth 100000 in
theorem wX9_readLine_75 {p : Program} {l : Launch} {e : Env} {s : State} {m : MethodId} {args : Array Value} {below : List Frame} {meth : Method} {c : Code} {D : va_G} {t : Nat → ClassId} {κ : Nat → Nat} {A : Nat → Prop} {a_mo : Nat → Nat} {s_mo : S2} {lam : S6} {x1 : Int32} {k0 : Int32} {out : S2} (C : Cxt p s m args meth c cX9_readLine 2 RX9 wsX9_readLine none D t κ A) (hf : fX9_readLine_75 s_mo x1 k0 = some out) : ∀ (H : Heap) (locs : List Loc) (ls : Array Slot), va_P D vwCl (wModel t a_mo s_mo lam) H → va_D A (wModel t a_mo s_mo lam) → va_S A s.heap H locs → lv_has ls 2 [(0, .ref (a_mo 0)), (1, .int x1)] → W p l e (rmL 5) s m args below meth c H locs 0 0 (MQ below (gQ D none (wModel t a_mo out lam) A) args s 0 0 A) (F0 m 75 ls [.int k0, .ref (a_mo 0)]) := by
  obtain ⟨hx, hb, hr, hml, hown, hts, hC0, hlk, hA⟩ := id C
  have hK := hC0.1
  intro H locs ls hP hD hS hl
  unfold fX9_readLine_75 at hf
  refine lv_iconst (v := 5) hx hb dX9_readLine_75 (by decide) ?_
  obtain ⟨v6, ev6, hf⟩ := bd_some hf
  refine gk_V0 C (As := [.int k0, .int (5 : Int32)]) (rest := []) (ci := 9) (q := (RX9, TX9, 37)) (q0 := 0) (cX9_needs_ok (l := l) (D := D) (t := t) (κ := κ) (a_mo := a_mo) (lam := lam) ev6) gX9_readLine_X9_needs rfl ⟨rfl, rfl⟩ hdX9_needs ⟨Nat.le_of_ble_eq_true rfl, Nat.le_of_ble_eq_true rfl⟩ rfl rfl hP hD hS rfl hl.1 (Nat.le_of_ble_eq_true rfl) dX9_readLine_76 (Nat.zero_le _) (Nat.zero_le _) (fun H locs hP hD hS => ?_)
  refine W.eq (g2 := F0 m 79 ls []) rfl ?_
  refine lv_aload_n hx hb dX9_readLine_79 rfl (lv_at hl 0 rfl) ?_
  refine va_get (D := D) (ci := 9) (v := .int (v6 0 12)) (C := RX9) (T := TX9) (N := 37) hx hb hts iwX9_readLine_X9 hown hK hP 0 rfl rfl 17 (by decide) (hts _ lkX9_readLine_f96) (fun _ h9 => h9) rfl dX9_readLine_80 ?_
  refine lv_if_ne (tgt := 125) hx hb dX9_readLine_83 (by decide) (fun c7 => ?_) (fun c7 => ?_)
  · rw [if_neg c7] at hf
    exact wX9_readLine_125 C hf _ _ _ hP hD hS (lv_sub hl [0, 1] rfl)
  · rw [if_pos c7] at hf
    refine lv_iload_n hx hb dX9_readLine_86 rfl (lv_at hl 1 rfl) ?_
    refine lv_bipush (v := 6) hx hb dX9_readLine_87 (by decide) ?_
    refine lv_icmp_lt (tgt := 125) hx hb dX9_readLine_89 (by decide) (fun c15 => ?_) (fun c15 => ?_)
    · rw [if_pos c15] at hf
      exact wX9_readLine_125 C hf _ _ _ hP hD hS (lv_sub hl [0, 1] rfl)
    · rw [if_neg c15] at hf
      refine lv_aload_n hx hb dX9_readLine_92 rfl (lv_at hl 0 rfl) ?_
      refine lv_aload_n hx hb dX9_readLine_93 rfl (lv_at hl 0 rfl) ?_
      refine va_get (D := D) (ci := 9) (v := .int (v6 0 5)) (C := RX9) (T := TX9) (N := 37) hx hb hts iwX9_readLine_X9 hown hK hP 0 rfl rfl 9 (by decide) (hts _ lkX9_readLine_f75) (fun _ h9 => h9) rfl dX9_readLine_94 ?_
      refine lv_iload_n hx hb dX9_readLine_97 rfl (lv_at hl 1 rfl) ?_
      refine lv_ishr hx hb dX9_readLine_98 ?_
      refine lv_iconst (v := 1) hx hb dX9_readLine_99 (by decide) ?_
      refine lv_iand hx hb dX9_readLine_100 ?_
      refine lv_if_ne (tgt := 108) hx hb dX9_readLine_101 (by decide) (fun c16 => ?_) (fun c16 => ?_)
      · rw [if_neg c16] at hf
        refine lv_iconst (v := 0) hx hb dX9_readLine_108 (by decide) ?_
        exact wX9_readLine_109 C hf _ _ _ hP hD hS (lv_sub hl [0, 1] rfl)
      · rw [if_pos c16] at hf
        refine lv_iconst (v := 1) hx hb dX9_readLine_104 (by decide) ?_
        refine lv_goto (tgt := 109) hx hb dX9_readLine_105 (by decide) ?_
        exact wX9_readLine_109 C hf _ _ _ hP hD hS (lv_sub hl [0, 1] rfl)
set_option maxHeartbeats 4000000 in
set_option maxRecDepth 100000 in
theorem wX9_readLine_30 {p : Program} {l : Launch} {e : Env} {s : State} {m : MethodId} {args : Array Value} {below : List Frame} {meth : Method} {c : Code} {D : va_G} {t : Nat → ClassId} {κ : Nat → Nat} {A : Nat → Prop} {a_mo : Nat → Nat} {s_mo : S2} {lam : S6} {x1 : Int32} {k0 : Int32} {out : S2} (C : Cxt p s m args meth c cX9_readLine 2 RX9 wsX9_readLine none D t κ A) (hf : fX9_readLine_30 s_mo x1 k0 = some out) : ∀ (H : Heap) (locs : List Loc) (ls : Array Slot), va_P D vwCl (wModel t a_mo s_mo lam) H → va_D A (wModel t a_mo s_mo lam) → va_S A s.heap H locs → lv_has ls 2 [(0, .ref (a_mo 0)), (1, .int x1)] → W p l e (rmL 5) s m args below meth c H locs 0 0 (MQ below (gQ D none (wModel t a_mo out lam) A) args s 0 0 A) (F0 m 30 ls [.int k0, .ref (a_mo 0)]) := by
  obtain ⟨hx, hb, hr, hml, hown, hts, hC0, hlk, hA⟩ := id C
  have hK := hC0.1
  intro H locs ls hP hD hS hl
  unfold fX9_readLine_30 at hf
  refine lv_iconst (v := 2) hx hb dX9_readLine_30 (by decide) ?_
  obtain ⟨v3, ev3, hf⟩ := bd_some hf
  refine gk_V0 C (As := [.int k0, .int (2 : Int32)]) (rest := []) (ci := 9) (q := (RX9, TX9, 37)) (q0 := 0) (cX9_needs_ok (l := l) (D := D) (t := t) (κ := κ) (a_mo := a_mo) (lam := lam) ev3) gX9_readLine_X9_needs rfl ⟨rfl, rfl⟩ hdX9_needs ⟨Nat.le_of_ble_eq_true rfl, Nat.le_of_ble_eq_true rfl⟩ rfl rfl hP hD hS rfl hl.1 (Nat.le_of_ble_eq_true rfl) dX9_readLine_31 (Nat.zero_le _) (Nat.zero_le _) (fun H locs hP hD hS => ?_)
  refine W.eq (g2 := F0 m 34 ls []) rfl ?_
  refine lv_aload_n hx hb dX9_readLine_34 rfl (lv_at hl 0 rfl) ?_
  refine lv_iload_n hx hb dX9_readLine_35 rfl (lv_at hl 1 rfl) ?_
  refine lv_iconst (v := 4) hx hb dX9_readLine_36 (by decide) ?_
  refine lv_icmp_ne (tgt := 57) hx hb dX9_readLine_37 (by decide) (fun c4 => ?_) (fun c4 => ?_)
  · rw [if_neg c4] at hf
    refine lv_iload_n hx hb dX9_readLine_57 rfl (lv_at hl 1 rfl) ?_
    refine lv_iconst (v := 4) hx hb dX9_readLine_58 (by decide) ?_
    refine lv_icmp_gt (tgt := 70) hx hb dX9_readLine_59 (by decide) (fun c5 => ?_) (fun c5 => ?_)
    · rw [if_pos c5] at hf
      refine lv_iconst (v := 1) hx hb dX9_readLine_70 (by decide) ?_
      refine lv_goto (tgt := 75) hx hb dX9_readLine_71 (by decide) ?_
      exact wX9_readLine_75 C hf _ _ _ hP hD hS (lv_sub hl [0, 1] rfl)
    · rw [if_neg c5] at hf
      refine lv_aload_n hx hb dX9_readLine_62 rfl (lv_at hl 0 rfl) ?_
      refine va_get (D := D) (ci := 9) (v := .int (v3 0 3)) (C := RX9) (T := TX9) (N := 37) hx hb hts iwX9_readLine_X9 hown hK hP 0 rfl rfl 7 (by decide) (hts _ lkX9_readLine_f69) (fun _ h9 => h9) rfl dX9_readLine_63 ?_
      refine lv_iconst (v := 4) hx hb dX9_readLine_66 (by decide) ?_
      refine lv_icmp_ge (tgt := 74) hx hb dX9_readLine_67 (by decide) (fun c19 => ?_) (fun c19 => ?_)
      · rw [if_pos c19] at hf
        refine lv_iconst (v := 0) hx hb dX9_readLine_74 (by decide) ?_
        exact wX9_readLine_75 C hf _ _ _ hP hD hS (lv_sub hl [0, 1] rfl)
      · rw [if_neg c19] at hf
        refine lv_iconst (v := 1) hx hb dX9_readLine_70 (by decide) ?_
        refine lv_goto (tgt := 75) hx hb dX9_readLine_71 (by decide) ?_
        exact wX9_readLine_75 C hf _ _ _ hP hD hS (lv_sub hl [0, 1] rfl)
  · rw [if_pos c4] at hf
    refine lv_aload_n hx hb dX9_readLine_40 rfl (lv_at hl 0 rfl) ?_
    refine va_get (D := D) (ci := 9) (v := .int (v3 0 2)) (C := RX9) (T := TX9) (N := 37) hx hb hts iwX9_readLine_X9 hown hK hP 0 rfl rfl 6 (by decide) (hts _ lkX9_readLine_f65) (fun _ h9 => h9) rfl dX9_readLine_41 ?_
    refine lv_bipush (v := 8) hx hb dX9_readLine_44 (by decide) ?_
    refine lv_icmp_ge (tgt := 53) hx hb dX9_readLine_46 (by decide) (fun c20 => ?_) (fun c20 => ?_)
    · rw [if_pos c20] at hf
      refine lv_iconst (v := 0) hx hb dX9_readLine_53 (by decide) ?_
      refine lv_goto (tgt := 75) hx hb dX9_readLine_54 (by decide) ?_
      exact wX9_readLine_75 C hf _ _ _ hP hD hS (lv_sub hl [0, 1] rfl)
    · rw [if_neg c20] at hf
      refine lv_iconst (v := 1) hx hb dX9_readLine_49 (by decide) ?_
      refine lv_goto (tgt := 75) hx hb dX9_readLine_50 (by decide) ?_
      exact wX9_readLine_75 C hf _ _ _ hP hD hS (lv_sub hl [0, 1] rfl)
set_option maxHeartbeats 4000000 in
set_option maxRecDepth 100000 in
theorem wX9_readLine_17 {p : Program} {l : Launch} {e : Env} {s : State} {m : MethodId} {args : Array Value} {below : List Frame} {meth : Method} {c : Code} {D : va_G} {t : Nat → ClassId} {κ : Nat → Nat} {A : Nat → Prop} {a_mo : Nat → Nat} {s_mo : S2} {lam : S6} {k0 : Int32} {out : S2} (C : Cxt p s m args meth c cX9_readLine 2 RX9 wsX9_readLine none D t κ A) (hf : fX9_readLine_17 s_mo k0 = some out) : ∀ (H : Heap) (locs : List Loc) (ls : Array Slot), va_P D vwCl (wModel t a_mo s_mo lam) H → va_D A (wModel t a_mo s_mo lam) → va_S A s.heap H locs → lv_has ls 2 [(0, .ref (a_mo 0))] → W p l e (rmL 5) s m args below meth c H locs 0 0 (MQ below (gQ D none (wModel t a_mo out lam) A) args s 0 0 A) (F0 m 17 ls [.int k0]) := by
  obtain ⟨hx, hb, hr, hml, hown, hts, hC0, hlk, hA⟩ := id C
  have hK := hC0.1
  intro H locs ls hP hD hS hl
  unfold fX9_readLine_17 at hf
  refine lv_istore_n (lv' := [(1, .int k0), (0, .ref (a_mo 0))]) hx hb dX9_readLine_17 rfl hl (by decide) rfl (fun ls hl => ?_)
  refine lv_aload_n hx hb dX9_readLine_18 rfl (lv_at hl 1 rfl) ?_
  refine lv_iload_n hx hb dX9_readLine_19 rfl (lv_at hl 0 rfl) ?_
  refine lv_bipush (v := -4) hx hb dX9_readLine_20 (by decide) ?_
  refine lv_icmp_eq (tgt := 29) hx hb dX9_readLine_22 (by decide) (fun c2 => ?_) (fun c2 => ?_)
  · rw [if_pos c2] at hf
    refine lv_iconst (v := 0) hx hb dX9_readLine_29 (by decide) ?_
    exact wX9_readLine_30 C hf _ _ _ hP hD hS (lv_sub hl [1, 0] rfl)
  · rw [if_neg c2] at hf
    refine lv_iconst (v := 1) hx hb dX9_readLine_25 (by decide) ?_
    refine lv_goto (tgt := 30) hx hb dX9_readLine_26 (by decide) ?_
    exact wX9_readLine_30 C hf _ _ _ hP hD hS (lv_sub hl [1, 0] rfl)
set_option maxHeartbeats 4000000 in
set_option maxRecDepth 100000 in
theorem cX9_readLine_ok {l : Launch} {D : va_G} {t : Nat → ClassId} {κ : Nat → Nat} {a_mo : Nat → Nat} {s_mo : S2} {lam : S6} {out : S2} (hf : fX9_readLine s_mo = some out) : Ct l D t κ yX9_readLine wsX9_readLine (rmL 5) [.ref (a_mo 0)] (wModel t a_mo s_mo lam) none (wModel t a_mo out lam) := by
  refine Ct.ofW (own := RX9) (cc := cX9_readLine) (maxL := 2) (ret := none) (by decide) rfl rfl (Nat.le_of_ble_eq_true rfl) ?_
  intro p e s m below meth c A C hP hD ls hl
  have hS : va_S A s.heap s.heap [] := va_S.rf
  obtain ⟨hx, hb, hr, hml, hown, hts, hC0, hlk, hA⟩ := id C
  have hK := hC0.1
  have hl : lv_has ls 2 [(0, .ref (a_mo 0))] := hl
  unfold fX9_readLine at hf
  refine lv_aload_n hx hb dX9_readLine_0 rfl (lv_at hl 0 rfl) ?_
  refine va_get (D := D) (ci := 9) (v := .int (s_mo 0 10)) (C := RX9) (T := TX9) (N := 37) hx hb hts iwX9_readLine_X9 hown hK hP 0 rfl rfl 15 (by decide) (hts _ lkX9_readLine_f119) (fun _ h9 => h9) rfl dX9_readLine_1 ?_
  refine lv_iconst (v := 1) hx hb dX9_readLine_4 (by decide) ?_
  refine lv_icmp_ne (tgt := 15) hx hb dX9_readLine_5 (by decide) (fun c1 => ?_) (fun c1 => ?_)
  · rw [if_neg c1] at hf
    refine lv_bipush (v := -4) hx hb dX9_readLine_15 (by decide) ?_
    exact wX9_readLine_17 C hf _ _ _ hP hD hS (lv_sub hl [0] rfl)
  · rw [if_pos c1] at hf
    refine lv_aload_n hx hb dX9_readLine_8 rfl (lv_at hl 0 rfl) ?_
    obtain ⟨v21, ev21, hf⟩ := bd_some hf
    refine gk_V0 C (As := []) (rest := []) (ci := 9) (q := (RX9, TX9, 37)) (q0 := 0) (cX9_lineNow_ok (l := l) (D := D) (t := t) (κ := κ) (a_mo := a_mo) (lam := lam) ev21) gX9_readLine_X9_lineNow rfl ⟨rfl, rfl⟩ hdX9_lineNow ⟨Nat.le_of_ble_eq_true rfl, Nat.le_of_ble_eq_true rfl⟩ rfl rfl hP hD hS rfl hl.1 (Nat.le_of_ble_eq_true rfl) dX9_readLine_9 (Nat.zero_le _) (Nat.zero_le _) (fun H locs hP hD hS => ?_)
    refine W.eq (g2 := F0 m 12 ls [.int v21]) rfl ?_
    refine lv_goto (tgt := 17) hx hb dX9_readLine_12 (by decide) ?_
    exact wX9_readLine_17 C hf _ _ _ hP hD hS (lv_sub hl [0] rfl)
/-! CoachCourtModel.text -/
def fX9_text_b20 (s_mo : S2) (x1 : Int32) : Option ((Int32 × S2) ⊕ (Int32 × S2)) :=
  if (s_mo 0 12) = (0 : Int32) then
    (if (s_mo 0 10) = (0 : Int32) then
      (some (.inr (x1, s_mo)))
    else
      ((fX9_readLine s_mo).bind fun v7 =>
      nm (x1 + (1 : Int32)) fun y8 =>
      some (.inl (y8, v7))))
  else
    (some (.inr (x1, s_mo)))
def fX9_text_73 (s_mo : S2) (x1 : Int32) : Option (Int32 × S2) :=
  nm (sE s_mo 0 7 (0 : Int32)) fun s11 =>
  if (s11 0 12) ≤ (0 : Int32) then
    ((fX9_keepDraft s11).bind fun v13 =>
    some (x1, v13))
  else
    (some ((-10 : Int32) - (s11 0 13), s11))
def fX9_text_68 (s_mo : S2) (x1 : Int32) (k0 : Int32) : Option (Int32 × S2) :=
  (fX9_needs s_mo k0 (6 : Int32)).bind fun v15 =>
  fX9_text_73 v15 x1
def fX9_text_44 (s_mo : S2) (x1 : Int32) : Option (Int32 × S2) :=
  if (s_mo 0 12) = (0 : Int32) then
    (if (s_mo 0 2) ≤ (s_mo 0 6) then
      (fX9_text_68 s_mo x1 (0 : Int32))
    else
      (fX9_text_68 s_mo x1 (1 : Int32)))
  else
    (fX9_text_73 s_mo x1)
def fX9_text (s_mo : S2) : Option (Int32 × S2) :=
  nm (sE s_mo 0 12 (0 : Int32)) fun s1 =>
  nm (sE s1 0 8 (0 : Int32)) fun s2 =>
  (fX9_firstDraft s2).bind fun v3 =>
  (fX9_next v3).bind fun v4 =>
  (wh (fun (c : Int32 × S2) => fX9_text_b20 c.2 c.1) 5000 ((0 : Int32), v4)).bind fun x9 =>
  fX9_text_44 x9.2 x9.1
theorem hdX9_text : yX9_text.cls = RX9 ∧ yX9_text.cls ≠ "java/lang/invoke/MethodHandle" ∧ yX9_text.cls ≠ "java/lang/invoke/VarHandle" ∧ (parseMethodDescriptor yX9_text.desc).map (fun d => d.parameters.length) = some 0 := by decide +kernel
theorem iwX9_text_X9 : ∀ w ∈ wsX90, w ∈ wsX9_text := by decide +kernel
theorem lkX9_text_f96 : Cond.fieldLink RX9 96 "CoachCourtModel" "fault" "I" ∈ wsX9_text := by decide +kernel
theorem lkX9_text_f105 : Cond.fieldLink RX9 105 "CoachCourtModel" "pos" "I" ∈ wsX9_text := by decide +kernel
theorem lkX9_text_f119 : Cond.fieldLink RX9 119 "CoachCourtModel" "sort" "I" ∈ wsX9_text := by decide +kernel
theorem lkX9_text_f93 : Cond.fieldLink RX9 93 "CoachCourtModel" "taped" "I" ∈ wsX9_text := by decide +kernel
theorem lkX9_text_f102 : Cond.fieldLink RX9 102 "CoachCourtModel" "wrongAt" "I" ∈ wsX9_text := by decide +kernel
theorem lkX9_text_f78 : Cond.fieldLink RX9 78 "CoachCourtModel" "highest" "I" ∈ wsX9_text := by decide +kernel
theorem lkX9_text_f65 : Cond.fieldLink RX9 65 "CoachCourtModel" "dMiles" "I" ∈ wsX9_text := by decide +kernel
set_option maxHeartbeats 4000000 in
set_option maxRecDepth 100000 in
theorem wX9_text_l20 {p : Program} {l : Launch} {e : Env} {s : State} {m : MethodId} {args : Array Value} {below : List Frame} {meth : Method} {c : Code} {D : va_G} {t : Nat → ClassId} {κ : Nat → Nat} {A : Nat → Prop} {a_mo : Nat → Nat} {lam : S6} {rv : Option Value} {w1 : va_W} (C : Cxt p s m args meth c cX9_text 2 RX9 wsX9_text (some .int) D t κ A) : ∀ (n : Nat) (x1 : Int32) (s_mo : S2) (x : Int32 × S2), wh (fun (c : Int32 × S2) => fX9_text_b20 c.2 c.1) n (x1, s_mo) = some x → (∀ (z : Int32 × S2), x = z → ∀ (H : Heap) (locs : List Loc) (ls : Array Slot), va_P D vwCl (wModel t a_mo z.2 lam) H → va_D A (wModel t a_mo z.2 lam) → va_S A s.heap H locs → lv_has ls 2 [(0, .ref (a_mo 0)), (1, .int z.1)] → W p l e (rmL 6) s m args below meth c H locs 0 0 (MQ below (gQ D rv w1 A) args s 0 0 A) (F0 m 44 ls [])) → ∀ (H : Heap) (locs : List Loc) (ls : Array Slot), va_P D vwCl (wModel t a_mo s_mo lam) H → va_D A (wModel t a_mo s_mo lam) → va_S A s.heap H locs → lv_has ls 2 [(0, .ref (a_mo 0)), (1, .int x1)] → W p l e (rmL 6) s m args below meth c H locs 0 0 (MQ below (gQ D rv w1 A) args s 0 0 A) (F0 m 20 ls []) := by
  obtain ⟨hx, hb, hr, hml, hown, hts, hC0, hlk, hA⟩ := id C
  have hK := hC0.1
  intro n
  induction n with
  | zero =>
    intro x1 s_mo x h
    exact (wh_0 h).elim
  | succ n ih =>
    intro x1 s_mo x h HX H locs ls hP hD hS hl
    obtain ⟨v, hf, hB, hX⟩ := wh_step h
    have hf : fX9_text_b20 s_mo x1 = some v := hf
    have HB : ∀ (z : Int32 × S2), v = .inl z → ∀ (H : Heap) (locs : List Loc) (ls : Array Slot), va_P D vwCl (wModel t a_mo z.2 lam) H → va_D A (wModel t a_mo z.2 lam) → va_S A s.heap H locs → lv_has ls 2 [(0, .ref (a_mo 0)), (1, .int z.1)] → W p l e (rmL 6) s m args below meth c H locs 0 0 (MQ below (gQ D rv w1 A) args s 0 0 A) (F0 m 20 ls []) := fun z hz H locs ls hP hD hS hl => ih z.1 z.2 x (hB z hz) HX H locs ls hP hD hS hl
    have HX : ∀ (z : Int32 × S2), v = .inr z → ∀ (H : Heap) (locs : List Loc) (ls : Array Slot), va_P D vwCl (wModel t a_mo z.2 lam) H → va_D A (wModel t a_mo z.2 lam) → va_S A s.heap H locs → lv_has ls 2 [(0, .ref (a_mo 0)), (1, .int z.1)] → W p l e (rmL 6) s m args below meth c H locs 0 0 (MQ below (gQ D rv w1 A) args s 0 0 A) (F0 m 44 ls []) := fun z hz => HX z (hX _ hz).symm
    unfold fX9_text_b20 at hf
    refine lv_aload_n hx hb dX9_text_20 rfl (lv_at hl 0 rfl) ?_
    refine va_get (D := D) (ci := 9) (v := .int (s_mo 0 12)) (C := RX9) (T := TX9) (N := 37) hx hb hts iwX9_text_X9 hown hK hP 0 rfl rfl 17 (by decide) (hts _ lkX9_text_f96) (fun _ h9 => h9) rfl dX9_text_21 ?_
    refine lv_if_ne (tgt := 44) hx hb dX9_text_24 (by decide) (fun c5 => ?_) (fun c5 => ?_)
    · rw [if_neg c5] at hf
      obtain rfl := so_eq hf
      exact HX _ rfl _ _ _ hP hD hS (lv_sub hl [0, 1] rfl)
    · rw [if_pos c5] at hf
      refine lv_aload_n hx hb dX9_text_27 rfl (lv_at hl 0 rfl) ?_
      refine va_get (D := D) (ci := 9) (v := .int (s_mo 0 10)) (C := RX9) (T := TX9) (N := 37) hx hb hts iwX9_text_X9 hown hK hP 0 rfl rfl 15 (by decide) (hts _ lkX9_text_f119) (fun _ h9 => h9) rfl dX9_text_28 ?_
      refine lv_if_eq (tgt := 44) hx hb dX9_text_31 (by decide) (fun c6 => ?_) (fun c6 => ?_)
      · rw [if_pos c6] at hf
        obtain rfl := so_eq hf
        exact HX _ rfl _ _ _ hP hD hS (lv_sub hl [0, 1] rfl)
      · rw [if_neg c6] at hf
        refine lv_aload_n hx hb dX9_text_34 rfl (lv_at hl 0 rfl) ?_
        obtain ⟨v7, ev7, hf⟩ := bd_some hf
        refine gk_V0 C (As := []) (rest := []) (ci := 9) (q := (RX9, TX9, 37)) (q0 := 0) (cX9_readLine_ok (l := l) (D := D) (t := t) (κ := κ) (a_mo := a_mo) (lam := lam) ev7) gX9_text_X9_readLine rfl ⟨rfl, rfl⟩ hdX9_readLine ⟨Nat.le_of_ble_eq_true rfl, Nat.le_of_ble_eq_true rfl⟩ rfl rfl hP hD hS rfl hl.1 (Nat.le_of_ble_eq_true rfl) dX9_text_35 (Nat.zero_le _) (Nat.zero_le _) (fun H locs hP hD hS => ?_)
        refine W.eq (g2 := F0 m 38 ls []) rfl ?_
        obtain ⟨y8, hy8, hf⟩ := nm_ex hf
        refine lv_iinc (v := y8) (lv' := [(1, .int y8), (0, .ref (a_mo 0))]) hx hb dX9_text_38 hl (k := 1) rfl (by rw [hy8]; rfl) (by decide) rfl (fun ls hl => ?_)
        refine lv_goto (tgt := 20) hx hb dX9_text_41 (by decide) ?_
        obtain rfl := so_eq hf
        exact HB _ rfl _ _ _ hP hD hS (lv_sub hl [1, 0] rfl)
set_option maxHeartbeats 4000000 in
set_option maxRecDepth 100000 in
theorem wX9_text_73 {p : Program} {l : Launch} {e : Env} {s : State} {m : MethodId} {args : Array Value} {below : List Frame} {meth : Method} {c : Code} {D : va_G} {t : Nat → ClassId} {κ : Nat → Nat} {A : Nat → Prop} {a_mo : Nat → Nat} {s_mo : S2} {lam : S6} {x1 : Int32} {out : Int32 × S2} (C : Cxt p s m args meth c cX9_text 2 RX9 wsX9_text (some .int) D t κ A) (hf : fX9_text_73 s_mo x1 = some out) : ∀ (H : Heap) (locs : List Loc) (ls : Array Slot), va_P D vwCl (wModel t a_mo s_mo lam) H → va_D A (wModel t a_mo s_mo lam) → va_S A s.heap H locs → lv_has ls 2 [(0, .ref (a_mo 0)), (1, .int x1)] → W p l e (rmL 6) s m args below meth c H locs 0 0 (MQ below (gQ D (some (.int out.1)) (wModel t a_mo out.2 lam) A) args s 0 0 A) (F0 m 73 ls []) := by
  obtain ⟨hx, hb, hr, hml, hown, hts, hC0, hlk, hA⟩ := id C
  have hK := hC0.1
  intro H locs ls hP hD hS hl
  unfold fX9_text_73 at hf
  refine lv_aload_n hx hb dX9_text_73 rfl (lv_at hl 0 rfl) ?_
  refine lv_iconst (v := 0) hx hb dX9_text_74 (by decide) ?_
  obtain ⟨s11, hs11, hf⟩ := nm_ex hf
  refine va_put (D := D) (ci := 9) (v := .int (0 : Int32)) (ty := .int) (C := RX9) (T := TX9) (N := 37) hx hb hts iwX9_text_X9 tyX9 tyX9_ok nmX9 hown hK hP hD hS 0 rfl rfl 12 (by decide) (hts _ lkX9_text_f93) (fun _ h9 => h9) rfl (by decide +kernel) rfl rfl (Nat.le_of_ble_eq_true rfl) dX9_text_75 (fun H locs hP hD hS => ?_)
  have hP : va_P D vwCl (wModel t a_mo s11 lam) H := by rw [hs11]; exact hP
  have hD : va_D A (wModel t a_mo s11 lam) := by rw [hs11]; exact hD
  refine lv_aload_n hx hb dX9_text_78 rfl (lv_at hl 0 rfl) ?_
  refine va_get (D := D) (ci := 9) (v := .int (s11 0 12)) (C := RX9) (T := TX9) (N := 37) hx hb hts iwX9_text_X9 hown hK hP 0 rfl rfl 17 (by decide) (hts _ lkX9_text_f96) (fun _ h9 => h9) rfl dX9_text_79 ?_
  refine lv_if_le (tgt := 93) hx hb dX9_text_82 (by decide) (fun c12 => ?_) (fun c12 => ?_)
  · rw [if_pos c12] at hf
    refine lv_aload_n hx hb dX9_text_93 rfl (lv_at hl 0 rfl) ?_
    obtain ⟨v13, ev13, hf⟩ := bd_some hf
    refine gk_V0 C (As := []) (rest := []) (ci := 9) (q := (RX9, TX9, 37)) (q0 := 0) (cX9_keepDraft_ok (l := l) (D := D) (t := t) (κ := κ) (a_mo := a_mo) (lam := lam) ev13) gX9_text_X9_keepDraft rfl ⟨rfl, rfl⟩ hdX9_keepDraft ⟨Nat.le_of_ble_eq_true rfl, Nat.le_of_ble_eq_true rfl⟩ rfl rfl hP hD hS rfl hl.1 (Nat.le_of_ble_eq_true rfl) dX9_text_94 (Nat.zero_le _) (Nat.zero_le _) (fun H locs hP hD hS => ?_)
    refine W.eq (g2 := F0 m 97 ls []) rfl ?_
    refine lv_iload_n hx hb dX9_text_97 rfl (lv_at hl 1 rfl) ?_
    obtain rfl := so_eq hf
    exact g_iret C hP hD hS dX9_text_98
  · rw [if_neg c12] at hf
    refine lv_bipush (v := -10) hx hb dX9_text_85 (by decide) ?_
    refine lv_aload_n hx hb dX9_text_87 rfl (lv_at hl 0 rfl) ?_
    refine va_get (D := D) (ci := 9) (v := .int (s11 0 13)) (C := RX9) (T := TX9) (N := 37) hx hb hts iwX9_text_X9 hown hK hP 0 rfl rfl 18 (by decide) (hts _ lkX9_text_f102) (fun _ h9 => h9) rfl dX9_text_88 ?_
    refine lv_isub hx hb dX9_text_91 ?_
    obtain rfl := so_eq hf
    exact g_iret C hP hD hS dX9_text_92
set_option maxHeartbeats 4000000 in
set_option maxRecDepth 100000 in
theorem wX9_text_68 {p : Program} {l : Launch} {e : Env} {s : State} {m : MethodId} {args : Array Value} {below : List Frame} {meth : Method} {c : Code} {D : va_G} {t : Nat → ClassId} {κ : Nat → Nat} {A : Nat → Prop} {a_mo : Nat → Nat} {s_mo : S2} {lam : S6} {x1 : Int32} {k0 : Int32} {out : Int32 × S2} (C : Cxt p s m args meth c cX9_text 2 RX9 wsX9_text (some .int) D t κ A) (hf : fX9_text_68 s_mo x1 k0 = some out) : ∀ (H : Heap) (locs : List Loc) (ls : Array Slot), va_P D vwCl (wModel t a_mo s_mo lam) H → va_D A (wModel t a_mo s_mo lam) → va_S A s.heap H locs → lv_has ls 2 [(0, .ref (a_mo 0)), (1, .int x1)] → W p l e (rmL 6) s m args below meth c H locs 0 0 (MQ below (gQ D (some (.int out.1)) (wModel t a_mo out.2 lam) A) args s 0 0 A) (F0 m 68 ls [.int k0, .ref (a_mo 0)]) := by
  obtain ⟨hx, hb, hr, hml, hown, hts, hC0, hlk, hA⟩ := id C
  have hK := hC0.1
  intro H locs ls hP hD hS hl
  unfold fX9_text_68 at hf
  refine lv_bipush (v := 6) hx hb dX9_text_68 (by decide) ?_
  obtain ⟨v15, ev15, hf⟩ := bd_some hf
  refine gk_V0 C (As := [.int k0, .int (6 : Int32)]) (rest := []) (ci := 9) (q := (RX9, TX9, 37)) (q0 := 0) (cX9_needs_ok (l := l) (D := D) (t := t) (κ := κ) (a_mo := a_mo) (lam := lam) ev15) gX9_text_X9_needs rfl ⟨rfl, rfl⟩ hdX9_needs ⟨Nat.le_of_ble_eq_true rfl, Nat.le_of_ble_eq_true rfl⟩ rfl rfl hP hD hS rfl hl.1 (Nat.le_of_ble_eq_true rfl) dX9_text_70 (Nat.zero_le _) (Nat.zero_le _) (fun H locs hP hD hS => ?_)
  refine W.eq (g2 := F0 m 73 ls []) rfl ?_
  exact wX9_text_73 C hf _ _ _ hP hD hS (lv_sub hl [0, 1] rfl)
set_option maxHeartbeats 4000000 in
set_option maxRecDepth 100000 in
theorem wX9_text_44 {p : Program} {l : Launch} {e : Env} {s : State} {m : MethodId} {args : Array Value} {below : List Frame} {meth : Method} {c : Code} {D : va_G} {t : Nat → ClassId} {κ : Nat → Nat} {A : Nat → Prop} {a_mo : Nat → Nat} {s_mo : S2} {lam : S6} {x1 : Int32} {out : Int32 × S2} (C : Cxt p s m args meth c cX9_text 2 RX9 wsX9_text (some .int) D t κ A) (hf : fX9_text_44 s_mo x1 = some out) : ∀ (H : Heap) (locs : List Loc) (ls : Array Slot), va_P D vwCl (wModel t a_mo s_mo lam) H → va_D A (wModel t a_mo s_mo lam) → va_S A s.heap H locs → lv_has ls 2 [(0, .ref (a_mo 0)), (1, .int x1)] → W p l e (rmL 6) s m args below meth c H locs 0 0 (MQ below (gQ D (some (.int out.1)) (wModel t a_mo out.2 lam) A) args s 0 0 A) (F0 m 44 ls []) := by
  obtain ⟨hx, hb, hr, hml, hown, hts, hC0, hlk, hA⟩ := id C
  have hK := hC0.1
  intro H locs ls hP hD hS hl
  unfold fX9_text_44 at hf
  refine lv_aload_n hx hb dX9_text_44 rfl (lv_at hl 0 rfl) ?_
  refine va_get (D := D) (ci := 9) (v := .int (s_mo 0 12)) (C := RX9) (T := TX9) (N := 37) hx hb hts iwX9_text_X9 hown hK hP 0 rfl rfl 17 (by decide) (hts _ lkX9_text_f96) (fun _ h9 => h9) rfl dX9_text_45 ?_
  refine lv_if_ne (tgt := 73) hx hb dX9_text_48 (by decide) (fun c10 => ?_) (fun c10 => ?_)
  · rw [if_neg c10] at hf
    exact wX9_text_73 C hf _ _ _ hP hD hS (lv_sub hl [0, 1] rfl)
  · rw [if_pos c10] at hf
    refine lv_aload_n hx hb dX9_text_51 rfl (lv_at hl 0 rfl) ?_
    refine lv_aload_n hx hb dX9_text_52 rfl (lv_at hl 0 rfl) ?_
    refine va_get (D := D) (ci := 9) (v := .int (s_mo 0 6)) (C := RX9) (T := TX9) (N := 37) hx hb hts iwX9_text_X9 hown hK hP 0 rfl rfl 10 (by decide) (hts _ lkX9_text_f78) (fun _ h9 => h9) rfl dX9_text_53 ?_
    refine lv_aload_n hx hb dX9_text_56 rfl (lv_at hl 0 rfl) ?_
    refine va_get (D := D) (ci := 9) (v := .int (s_mo 0 2)) (C := RX9) (T := TX9) (N := 37) hx hb hts iwX9_text_X9 hown hK hP 0 rfl rfl 6 (by decide) (hts _ lkX9_text_f65) (fun _ h9 => h9) rfl dX9_text_57 ?_
    refine lv_icmp_ge (tgt := 67) hx hb dX9_text_60 (by decide) (fun c14 => ?_) (fun c14 => ?_)
    · rw [if_pos c14] at hf
      refine lv_iconst (v := 0) hx hb dX9_text_67 (by decide) ?_
      exact wX9_text_68 C hf _ _ _ hP hD hS (lv_sub hl [0, 1] rfl)
    · rw [if_neg c14] at hf
      refine lv_iconst (v := 1) hx hb dX9_text_63 (by decide) ?_
      refine lv_goto (tgt := 68) hx hb dX9_text_64 (by decide) ?_
      exact wX9_text_68 C hf _ _ _ hP hD hS (lv_sub hl [0, 1] rfl)
set_option maxHeartbeats 4000000 in
set_option maxRecDepth 100000 in
theorem cX9_text_ok {l : Launch} {D : va_G} {t : Nat → ClassId} {κ : Nat → Nat} {a_mo : Nat → Nat} {s_mo : S2} {lam : S6} {out : Int32 × S2} (hf : fX9_text s_mo = some out) : Ct l D t κ yX9_text wsX9_text (rmL 6) [.ref (a_mo 0)] (wModel t a_mo s_mo lam) (some (.int out.1)) (wModel t a_mo out.2 lam) := by
  refine Ct.ofW (own := RX9) (cc := cX9_text) (maxL := 2) (ret := (some .int)) (by decide) rfl rfl (Nat.le_of_ble_eq_true rfl) ?_
  intro p e s m below meth c A C hP hD ls hl
  have hS : va_S A s.heap s.heap [] := va_S.rf
  obtain ⟨hx, hb, hr, hml, hown, hts, hC0, hlk, hA⟩ := id C
  have hK := hC0.1
  have hl : lv_has ls 2 [(0, .ref (a_mo 0))] := hl
  unfold fX9_text at hf
  refine lv_iconst (v := 0) hx hb dX9_text_0 (by decide) ?_
  refine lv_istore_n (lv' := [(1, .int (0 : Int32)), (0, .ref (a_mo 0))]) hx hb dX9_text_1 rfl hl (by decide) rfl (fun ls hl => ?_)
  refine lv_aload_n hx hb dX9_text_2 rfl (lv_at hl 1 rfl) ?_
  refine lv_iconst (v := 0) hx hb dX9_text_3 (by decide) ?_
  obtain ⟨s1, hs1, hf⟩ := nm_ex hf
  refine va_put (D := D) (ci := 9) (v := .int (0 : Int32)) (ty := .int) (C := RX9) (T := TX9) (N := 37) hx hb hts iwX9_text_X9 tyX9 tyX9_ok nmX9 hown hK hP hD hS 0 rfl rfl 17 (by decide) (hts _ lkX9_text_f96) (fun _ h9 => h9) rfl (by decide +kernel) rfl rfl (Nat.le_of_ble_eq_true rfl) dX9_text_4 (fun H locs hP hD hS => ?_)
  have hP : va_P D vwCl (wModel t a_mo s1 lam) H := by rw [hs1]; exact hP
  have hD : va_D A (wModel t a_mo s1 lam) := by rw [hs1]; exact hD
  refine lv_aload_n hx hb dX9_text_7 rfl (lv_at hl 1 rfl) ?_
  refine lv_iconst (v := 0) hx hb dX9_text_8 (by decide) ?_
  obtain ⟨s2, hs2, hf⟩ := nm_ex hf
  refine va_put (D := D) (ci := 9) (v := .int (0 : Int32)) (ty := .int) (C := RX9) (T := TX9) (N := 37) hx hb hts iwX9_text_X9 tyX9 tyX9_ok nmX9 hown hK hP hD hS 0 rfl rfl 13 (by decide) (hts _ lkX9_text_f105) (fun _ h9 => h9) rfl (by decide +kernel) rfl rfl (Nat.le_of_ble_eq_true rfl) dX9_text_9 (fun H locs hP hD hS => ?_)
  have hP : va_P D vwCl (wModel t a_mo s2 lam) H := by rw [hs2]; exact hP
  have hD : va_D A (wModel t a_mo s2 lam) := by rw [hs2]; exact hD
  refine lv_aload_n hx hb dX9_text_12 rfl (lv_at hl 1 rfl) ?_
  obtain ⟨v3, ev3, hf⟩ := bd_some hf
  refine gk_V0 C (As := []) (rest := []) (ci := 9) (q := (RX9, TX9, 37)) (q0 := 0) (cX9_firstDraft_ok (l := l) (D := D) (t := t) (κ := κ) (a_mo := a_mo) (lam := lam) ev3) gX9_text_X9_firstDraft rfl ⟨rfl, rfl⟩ hdX9_firstDraft ⟨Nat.le_of_ble_eq_true rfl, Nat.le_of_ble_eq_true rfl⟩ rfl rfl hP hD hS rfl hl.1 (Nat.le_of_ble_eq_true rfl) dX9_text_13 (Nat.zero_le _) (Nat.zero_le _) (fun H locs hP hD hS => ?_)
  refine W.eq (g2 := F0 m 16 ls []) rfl ?_
  refine lv_aload_n hx hb dX9_text_16 rfl (lv_at hl 1 rfl) ?_
  obtain ⟨v4, ev4, hf⟩ := bd_some hf
  refine gk_V0 C (As := []) (rest := []) (ci := 9) (q := (RX9, TX9, 37)) (q0 := 0) (cX9_next_ok (l := l) (D := D) (t := t) (κ := κ) (a_mo := a_mo) (lam := lam) ev4) gX9_text_X9_next rfl ⟨rfl, rfl⟩ hdX9_next ⟨Nat.le_of_ble_eq_true rfl, Nat.le_of_ble_eq_true rfl⟩ rfl rfl hP hD hS rfl hl.1 (Nat.le_of_ble_eq_true rfl) dX9_text_17 (Nat.zero_le _) (Nat.zero_le _) (fun H locs hP hD hS => ?_)
  refine W.eq (g2 := F0 m 20 ls []) rfl ?_
  obtain ⟨x9, ex9, hf⟩ := bd_some hf
  refine wX9_text_l20 C 5000 (0 : Int32) v4 x9 ex9 (fun c9 h9 H locs ls hP hD hS hl => ?_) _ _ _ hP hD hS (lv_sub hl [1, 0] rfl)
  subst h9
  exact wX9_text_44 C hf _ _ _ hP hD hS (lv_sub hl [0, 1] rfl)
/-! CoachCourtModel.fault -/
def fX9_fault (s_mo : S2) : Option (Int32) :=
  some (s_mo 0 12)
theorem hdX9_fault : yX9_fault.cls = RX9 ∧ yX9_fault.cls ≠ "java/lang/invoke/MethodHandle" ∧ yX9_fault.cls ≠ "java/lang/invoke/VarHandle" ∧ (parseMethodDescriptor yX9_fault.desc).map (fun d => d.parameters.length) = some 0 := by decide +kernel
theorem iwX9_fault_X9 : ∀ w ∈ wsX90, w ∈ wsX9_fault := by decide +kernel
theorem lkX9_fault_f96 : Cond.fieldLink RX9 96 "CoachCourtModel" "fault" "I" ∈ wsX9_fault := by decide +kernel
set_option maxHeartbeats 4000000 in
set_option maxRecDepth 100000 in
theorem cX9_fault_ok {l : Launch} {D : va_G} {t : Nat → ClassId} {κ : Nat → Nat} {a_mo : Nat → Nat} {s_mo : S2} {lam : S6} {out : Int32} (hf : fX9_fault s_mo = some out) : Ct l D t κ yX9_fault wsX9_fault (rmL 0) [.ref (a_mo 0)] (wModel t a_mo s_mo lam) (some (.int out)) (wModel t a_mo s_mo lam) := by
  refine Ct.ofW (own := RX9) (cc := cX9_fault) (maxL := 1) (ret := (some .int)) (by decide) rfl rfl (Nat.le_of_ble_eq_true rfl) ?_
  intro p e s m below meth c A C hP hD ls hl
  have hS : va_S A s.heap s.heap [] := va_S.rf
  obtain ⟨hx, hb, hr, hml, hown, hts, hC0, hlk, hA⟩ := id C
  have hK := hC0.1
  have hl : lv_has ls 1 [(0, .ref (a_mo 0))] := hl
  unfold fX9_fault at hf
  refine lv_aload_n hx hb dX9_fault_0 rfl (lv_at hl 0 rfl) ?_
  refine va_get (D := D) (ci := 9) (v := .int (s_mo 0 12)) (C := RX9) (T := TX9) (N := 37) hx hb hts iwX9_fault_X9 hown hK hP 0 rfl rfl 17 (by decide) (hts _ lkX9_fault_f96) (fun _ h9 => h9) rfl dX9_fault_1 ?_
  obtain rfl := so_eq hf
  exact g_iret C hP hD hS dX9_fault_4
