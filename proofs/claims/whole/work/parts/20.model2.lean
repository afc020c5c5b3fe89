/-! CoachCourtModel.isMile -/
def fX9_isMile (s_mo : S2) (p1 : Int32) : Option (Int32) :=
  (fX9_in (Int32.toInt64 p1) (0 : Int64) (Int32.toInt64 ((s_mo 0 0) - (1 : Int32)))).bind fun v1 =>
  gd (bzb v1) <|
  some v1
theorem hdX9_isMile : yX9_isMile.cls = RX9 ∧ yX9_isMile.cls ≠ "java/lang/invoke/MethodHandle" ∧ yX9_isMile.cls ≠ "java/lang/invoke/VarHandle" ∧ (parseMethodDescriptor yX9_isMile.desc).map (fun d => d.parameters.length) = some 1 := by decide +kernel
theorem iwX9_isMile_X9 : ∀ w ∈ wsX90, w ∈ wsX9_isMile := by decide +kernel
theorem lkX9_isMile_f81 : Cond.fieldLink RX9 81 "CoachCourtModel" "miles" "I" ∈ wsX9_isMile := by decide +kernel
set_option maxHeartbeats 4000000 in
set_option maxRecDepth 100000 in
theorem cX9_isMile_ok {l : Launch} {D : va_G} {t : Nat → ClassId} {κ : Nat → Nat} {a_mo : Nat → Nat} {s_mo : S2} {lam : S6} {p1 : Int32} {out : Int32} (hf : fX9_isMile s_mo p1 = some out) : Ct l D t κ yX9_isMile wsX9_isMile (rmL 1) [.ref (a_mo 0), .int p1] (wModel t a_mo s_mo lam) (some (.int out)) (wModel t a_mo s_mo lam) := by
  refine Ct.ofW (own := RX9) (cc := cX9_isMile) (maxL := 2) (ret := (some .boolean)) (by decide) rfl rfl (Nat.le_of_ble_eq_true rfl) ?_
  intro p e s m below meth c A C hP hD ls hl
  have hS : va_S A s.heap s.heap [] := va_S.rf
  obtain ⟨hx, hb, hr, hml, hown, hts, hC0, hlk, hA⟩ := id C
  have hK := hC0.1
  have hl : lv_has ls 2 [(0, .ref (a_mo 0)), (1, .int p1)] := hl
  unfold fX9_isMile at hf
  refine lv_iload_n hx hb dX9_isMile_0 rfl (lv_at hl 1 rfl) ?_
  refine lv_i2l hx hb dX9_isMile_1 rfl ?_
  refine lv_lconst (v := 0) hx hb dX9_isMile_2 (by decide) ?_
  refine lv_aload_n hx hb dX9_isMile_3 rfl (lv_at hl 0 rfl) ?_
  refine va_get (D := D) (ci := 9) (v := .int (s_mo 0 0)) (C := RX9) (T := TX9) (N := 37) hx hb hts iwX9_isMile_X9 hown hK hP 0 rfl rfl 3 (by decide) (hts _ lkX9_isMile_f81) (fun _ h9 => h9) rfl dX9_isMile_4 ?_
  refine lv_iconst (v := 1) hx hb dX9_isMile_7 (by decide) ?_
  refine lv_isub hx hb dX9_isMile_8 ?_
  refine lv_i2l hx hb dX9_isMile_9 rfl ?_
  obtain ⟨v1, ev1, hf⟩ := bd_some hf
  refine gk_S C (As := [.long (Int32.toInt64 p1), .long (0 : Int64), .long (Int32.toInt64 ((s_mo 0 0) - (1 : Int32)))]) (rest := []) (cX9_in_ok (l := l) (D := D) (t := t) (κ := κ) ev1) gX9_isMile_X9_in rfl ⟨rfl, rfl⟩ hdX9_in ⟨Nat.le_of_ble_eq_true rfl, Nat.le_of_ble_eq_true rfl⟩ hP hD hS rfl hl.1 (Nat.le_of_ble_eq_true rfl) dX9_isMile_10 (Nat.zero_le _) (Nat.zero_le _) (fun H locs hP hD hS => ?_)
  refine W.eq (g2 := F0 m 13 ls [.int v1]) rfl ?_
  obtain ⟨b2, hf⟩ := gd_some hf
  obtain rfl := so_eq hf
  exact g_zret C (bzb_nar b2) hP hD hS dX9_isMile_13
/-! CoachCourtModel.isParty -/
def fX9_isParty (s_mo : S2) (p1 : Int32) : Option (Int32) :=
  (fX9_in (Int32.toInt64 p1) (0 : Int64) (Int32.toInt64 ((s_mo 0 1) - (1 : Int32)))).bind fun v1 =>
  gd (bzb v1) <|
  some v1
theorem hdX9_isParty : yX9_isParty.cls = RX9 ∧ yX9_isParty.cls ≠ "java/lang/invoke/MethodHandle" ∧ yX9_isParty.cls ≠ "java/lang/invoke/VarHandle" ∧ (parseMethodDescriptor yX9_isParty.desc).map (fun d => d.parameters.length) = some 1 := by decide +kernel
theorem iwX9_isParty_X9 : ∀ w ∈ wsX90, w ∈ wsX9_isParty := by decide +kernel
theorem lkX9_isParty_f84 : Cond.fieldLink RX9 84 "CoachCourtModel" "parties" "I" ∈ wsX9_isParty := by decide +kernel
set_option maxHeartbeats 4000000 in
set_option maxRecDepth 100000 in
theorem cX9_isParty_ok {l : Launch} {D : va_G} {t : Nat → ClassId} {κ : Nat → Nat} {a_mo : Nat → Nat} {s_mo : S2} {lam : S6} {p1 : Int32} {out : Int32} (hf : fX9_isParty s_mo p1 = some out) : Ct l D t κ yX9_isParty wsX9_isParty (rmL 1) [.ref (a_mo 0), .int p1] (wModel t a_mo s_mo lam) (some (.int out)) (wModel t a_mo s_mo lam) := by
  refine Ct.ofW (own := RX9) (cc := cX9_isParty) (maxL := 2) (ret := (some .boolean)) (by decide) rfl rfl (Nat.le_of_ble_eq_true rfl) ?_
  intro p e s m below meth c A C hP hD ls hl
  have hS : va_S A s.heap s.heap [] := va_S.rf
  obtain ⟨hx, hb, hr, hml, hown, hts, hC0, hlk, hA⟩ := id C
  have hK := hC0.1
  have hl : lv_has ls 2 [(0, .ref (a_mo 0)), (1, .int p1)] := hl
  unfold fX9_isParty at hf
  refine lv_iload_n hx hb dX9_isParty_0 rfl (lv_at hl 1 rfl) ?_
  refine lv_i2l hx hb dX9_isParty_1 rfl ?_
  refine lv_lconst (v := 0) hx hb dX9_isParty_2 (by decide) ?_
  refine lv_aload_n hx hb dX9_isParty_3 rfl (lv_at hl 0 rfl) ?_
  refine va_get (D := D) (ci := 9) (v := .int (s_mo 0 1)) (C := RX9) (T := TX9) (N := 37) hx hb hts iwX9_isParty_X9 hown hK hP 0 rfl rfl 4 (by decide) (hts _ lkX9_isParty_f84) (fun _ h9 => h9) rfl dX9_isParty_4 ?_
  refine lv_iconst (v := 1) hx hb dX9_isParty_7 (by decide) ?_
  refine lv_isub hx hb dX9_isParty_8 ?_
  refine lv_i2l hx hb dX9_isParty_9 rfl ?_
  obtain ⟨v1, ev1, hf⟩ := bd_some hf
  refine gk_S C (As := [.long (Int32.toInt64 p1), .long (0 : Int64), .long (Int32.toInt64 ((s_mo 0 1) - (1 : Int32)))]) (rest := []) (cX9_in_ok (l := l) (D := D) (t := t) (κ := κ) ev1) gX9_isParty_X9_in rfl ⟨rfl, rfl⟩ hdX9_in ⟨Nat.le_of_ble_eq_true rfl, Nat.le_of_ble_eq_true rfl⟩ hP hD hS rfl hl.1 (Nat.le_of_ble_eq_true rfl) dX9_isParty_10 (Nat.zero_le _) (Nat.zero_le _) (fun H locs hP hD hS => ?_)
  refine W.eq (g2 := F0 m 13 ls [.int v1]) rfl ?_
  obtain ⟨b2, hf⟩ := gd_some hf
  obtain rfl := so_eq hf
  exact g_zret C (bzb_nar b2) hP hD hS dX9_isParty_13
/-! CoachCourtModel.isPart -/
def fX9_isPart (p1 : Int32) : Option (Int32) :=
  (fX9_in (Int32.toInt64 p1) (0 : Int64) (1 : Int64)).bind fun v1 =>
  gd (bzb v1) <|
  some v1
theorem hdX9_isPart : yX9_isPart.cls ≠ "java/lang/invoke/MethodHandle" ∧ yX9_isPart.cls ≠ "java/lang/invoke/VarHandle" ∧ (parseMethodDescriptor yX9_isPart.desc).map (fun d => d.parameters.length) = some 1 := by decide +kernel
set_option maxHeartbeats 4000000 in
set_option maxRecDepth 100000 in
theorem cX9_isPart_ok {l : Launch} {D : va_G} {t : Nat → ClassId} {κ : Nat → Nat} {p1 : Int32} {out : Int32} (hf : fX9_isPart p1 = some out) : Ct l D t κ yX9_isPart wsX9_isPart (rmL 1) [.int p1] ([] : va_W) (some (.int out)) ([] : va_W) := by
  refine Ct.ofW (own := RX9) (cc := cX9_isPart) (maxL := 1) (ret := (some .boolean)) (by decide) rfl rfl (Nat.le_of_ble_eq_true rfl) ?_
  intro p e s m below meth c A C hP hD ls hl
  have hS : va_S A s.heap s.heap [] := va_S.rf
  obtain ⟨hx, hb, hr, hml, hown, hts, hC0, hlk, hA⟩ := id C
  have hK := hC0.1
  have hl : lv_has ls 1 [(0, .int p1)] := hl
  unfold fX9_isPart at hf
  refine lv_iload_n hx hb dX9_isPart_0 rfl (lv_at hl 0 rfl) ?_
  refine lv_i2l hx hb dX9_isPart_1 rfl ?_
  refine lv_lconst (v := 0) hx hb dX9_isPart_2 (by decide) ?_
  refine lv_lconst (v := 1) hx hb dX9_isPart_3 (by decide) ?_
  obtain ⟨v1, ev1, hf⟩ := bd_some hf
  refine gk_S C (As := [.long (Int32.toInt64 p1), .long (0 : Int64), .long (1 : Int64)]) (rest := []) (cX9_in_ok (l := l) (D := D) (t := t) (κ := κ) ev1) gX9_isPart_X9_in rfl ⟨rfl, rfl⟩ hdX9_in ⟨Nat.le_of_ble_eq_true rfl, Nat.le_of_ble_eq_true rfl⟩ hP hD hS rfl hl.1 (Nat.le_of_ble_eq_true rfl) dX9_isPart_4 (Nat.zero_le _) (Nat.zero_le _) (fun H locs hP hD hS => ?_)
  refine W.eq (g2 := F0 m 7 ls [.int v1]) rfl ?_
  obtain ⟨b2, hf⟩ := gd_some hf
  obtain rfl := so_eq hf
  exact g_zret C (bzb_nar b2) hP hD hS dX9_isPart_7
/-! CoachCourtModel.starts -/
def fX9_starts_b2 (s_mo : S2) (x1 : Int32) : Option ((Int32 × S2) ⊕ (Int32 × S2)) :=
  if (59 : Int32) ≤ x1 then
    (some (.inr (x1, s_mo)))
  else
    (gd (ixb x1 177) <|
    gd (ixb x1 59) <|
    nm (sE s_mo 2 (Int32.toNatClampNeg x1) (s_mo 1 (Int32.toNatClampNeg x1))) fun s4 =>
    nm (x1 + (1 : Int32)) fun y5 =>
    some (.inl (y5, s4)))
def fX9_starts (s_mo : S2) : Option (S2) :=
  (wh (fun (c : Int32 × S2) => fX9_starts_b2 c.2 c.1) 5000 ((0 : Int32), s_mo)).bind fun x6 =>
  some x6.2
theorem hdX9_starts : yX9_starts.cls = RX9 ∧ yX9_starts.cls ≠ "java/lang/invoke/MethodHandle" ∧ yX9_starts.cls ≠ "java/lang/invoke/VarHandle" ∧ (parseMethodDescriptor yX9_starts.desc).map (fun d => d.parameters.length) = some 0 := by decide +kernel
theorem iwX9_starts_X9 : ∀ w ∈ wsX90, w ∈ wsX9_starts := by decide +kernel
theorem lkX9_starts_f13 : Cond.fieldLink RX9 13 "CoachCourtModel" "now" "[I" ∈ wsX9_starts := by decide +kernel
theorem lkX9_starts_f7 : Cond.fieldLink RX9 7 "CoachCourtModel" "st" "[I" ∈ wsX9_starts := by decide +kernel
set_option maxHeartbeats 4000000 in
set_option maxRecDepth 100000 in
theorem wX9_starts_l2 {p : Program} {l : Launch} {e : Env} {s : State} {m : MethodId} {args : Array Value} {below : List Frame} {meth : Method} {c : Code} {D : va_G} {t : Nat → ClassId} {κ : Nat → Nat} {A : Nat → Prop} {a_mo : Nat → Nat} {lam : S6} {rv : Option Value} {w1 : va_W} (C : Cxt p s m args meth c cX9_starts 2 RX9 wsX9_starts none D t κ A) : ∀ (n : Nat) (x1 : Int32) (s_mo : S2) (x : Int32 × S2), wh (fun (c : Int32 × S2) => fX9_starts_b2 c.2 c.1) n (x1, s_mo) = some x → (∀ (z : Int32 × S2), x = z → ∀ (H : Heap) (locs : List Loc) (ls : Array Slot), va_P D vwCl (wModel t a_mo z.2 lam) H → va_D A (wModel t a_mo z.2 lam) → va_S A s.heap H locs → lv_has ls 2 [] → W p l e (rmL 0) s m args below meth c H locs 0 0 (MQ below (gQ D rv w1 A) args s 0 0 A) (F0 m 26 ls [])) → ∀ (H : Heap) (locs : List Loc) (ls : Array Slot), va_P D vwCl (wModel t a_mo s_mo lam) H → va_D A (wModel t a_mo s_mo lam) → va_S A s.heap H locs → lv_has ls 2 [(0, .ref (a_mo 0)), (1, .int x1)] → W p l e (rmL 0) s m args below meth c H locs 0 0 (MQ below (gQ D rv w1 A) args s 0 0 A) (F0 m 2 ls []) := by
  obtain ⟨hx, hb, hr, hml, hown, hts, hC0, hlk, hA⟩ := id C
  have hK := hC0.1
  intro n
  induction n with
  | zero =>
    intro x1 s_mo x h
    exact (wh_0 h).elim
  | succ n ih =>
    intro x1 s_mo x h HX H locs ls hP hD hS hl
    obtain ⟨v, hf, hB, hX⟩ := wh_step h
    have hf : fX9_starts_b2 s_mo x1 = some v := hf
    have HB : ∀ (z : Int32 × S2), v = .inl z → ∀ (H : Heap) (locs : List Loc) (ls : Array Slot), va_P D vwCl (wModel t a_mo z.2 lam) H → va_D A (wModel t a_mo z.2 lam) → va_S A s.heap H locs → lv_has ls 2 [(0, .ref (a_mo 0)), (1, .int z.1)] → W p l e (rmL 0) s m args below meth c H locs 0 0 (MQ below (gQ D rv w1 A) args s 0 0 A) (F0 m 2 ls []) := fun z hz H locs ls hP hD hS hl => ih z.1 z.2 x (hB z hz) HX H locs ls hP hD hS hl
    have HX : ∀ (z : Int32 × S2), v = .inr z → ∀ (H : Heap) (locs : List Loc) (ls : Array Slot), va_P D vwCl (wModel t a_mo z.2 lam) H → va_D A (wModel t a_mo z.2 lam) → va_S A s.heap H locs → lv_has ls 2 [] → W p l e (rmL 0) s m args below meth c H locs 0 0 (MQ below (gQ D rv w1 A) args s 0 0 A) (F0 m 26 ls []) := fun z hz => HX z (hX _ hz).symm
    unfold fX9_starts_b2 at hf
    refine lv_iload_n hx hb dX9_starts_2 rfl (lv_at hl 1 rfl) ?_
    refine lv_bipush (v := 59) hx hb dX9_starts_3 (by decide) ?_
    refine lv_icmp_ge (tgt := 26) hx hb dX9_starts_5 (by decide) (fun c1 => ?_) (fun c1 => ?_)
    · rw [if_pos c1] at hf
      obtain rfl := so_eq hf
      exact HX _ rfl _ _ _ hP hD hS (lv_sub hl [] rfl)
    · rw [if_neg c1] at hf
      refine lv_aload_n hx hb dX9_starts_8 rfl (lv_at hl 0 rfl) ?_
      refine va_get (D := D) (ci := 9) (v := .ref (a_mo 2)) (C := RX9) (T := TX9) (N := 37) hx hb hts iwX9_starts_X9 hown hK hP 0 rfl rfl 1 (by decide) (hts _ lkX9_starts_f13) (fun _ h9 => h9) rfl dX9_starts_9 ?_
      refine lv_iload_n hx hb dX9_starts_12 rfl (lv_at hl 1 rfl) ?_
      refine lv_aload_n hx hb dX9_starts_13 rfl (lv_at hl 0 rfl) ?_
      refine va_get (D := D) (ci := 9) (v := .ref (a_mo 1)) (C := RX9) (T := TX9) (N := 37) hx hb hts iwX9_starts_X9 hown hK hP 0 rfl rfl 0 (by decide) (hts _ lkX9_starts_f7) (fun _ h9 => h9) rfl dX9_starts_14 ?_
      refine lv_iload_n hx hb dX9_starts_17 rfl (lv_at hl 1 rfl) ?_
      obtain ⟨b2, hf⟩ := gd_some hf
      refine va_iald hx hb hK hP 1 0 rfl rfl (ixb_in b2) dX9_starts_18 ?_
      obtain ⟨b3, hf⟩ := gd_some hf
      obtain ⟨s4, hs4, hf⟩ := nm_ex hf
      refine va_iast hx hb hK hP hD hS 2 0 rfl rfl (ixb_in b3) dX9_starts_19 (fun H locs hP hD hS => ?_)
      have hP : va_P D vwCl (wModel t a_mo s4 lam) H := by rw [hs4]; exact hP
      have hD : va_D A (wModel t a_mo s4 lam) := by rw [hs4]; exact hD
      obtain ⟨y5, hy5, hf⟩ := nm_ex hf
      refine lv_iinc (v := y5) (lv' := [(1, .int y5), (0, .ref (a_mo 0))]) hx hb dX9_starts_20 hl (k := 1) rfl (by rw [hy5]; rfl) (by decide) rfl (fun ls hl => ?_)
      refine lv_goto (tgt := 2) hx hb dX9_starts_23 (by decide) ?_
      obtain rfl := so_eq hf
      exact HB _ rfl _ _ _ hP hD hS (lv_sub hl [1, 0] rfl)
set_option maxHeartbeats 4000000 in
set_option maxRecDepth 100000 in
theorem cX9_starts_ok {l : Launch} {D : va_G} {t : Nat → ClassId} {κ : Nat → Nat} {a_mo : Nat → Nat} {s_mo : S2} {lam : S6} {out : S2} (hf : fX9_starts s_mo = some out) : Ct l D t κ yX9_starts wsX9_starts (rmL 0) [.ref (a_mo 0)] (wModel t a_mo s_mo lam) none (wModel t a_mo out lam) := by
  refine Ct.ofW (own := RX9) (cc := cX9_starts) (maxL := 2) (ret := none) (by decide) rfl rfl (Nat.le_of_ble_eq_true rfl) ?_
  intro p e s m below meth c A C hP hD ls hl
  have hS : va_S A s.heap s.heap [] := va_S.rf
  obtain ⟨hx, hb, hr, hml, hown, hts, hC0, hlk, hA⟩ := id C
  have hK := hC0.1
  have hl : lv_has ls 2 [(0, .ref (a_mo 0))] := hl
  unfold fX9_starts at hf
  refine lv_iconst (v := 0) hx hb dX9_starts_0 (by decide) ?_
  refine lv_istore_n (lv' := [(1, .int (0 : Int32)), (0, .ref (a_mo 0))]) hx hb dX9_starts_1 rfl hl (by decide) rfl (fun ls hl => ?_)
  obtain ⟨x6, ex6, hf⟩ := bd_some hf
  refine wX9_starts_l2 C 5000 (0 : Int32) s_mo x6 ex6 (fun c9 h9 H locs ls hP hD hS hl => ?_) _ _ _ hP hD hS (lv_sub hl [1, 0] rfl)
  subst h9
  obtain rfl := so_eq hf
  exact g_vret C hP hD hS dX9_starts_26
/-! CoachCourtModel.ofMile -/
def fX9_ofMile (s_mo : S2) (p1 : Int32) (p2 : Int32) : Option (Int32) :=
  gd (ixb (((3 : Int32) * p1) + p2) 59) <|
  some (s_mo 2 (Int32.toNatClampNeg (((3 : Int32) * p1) + p2)))
theorem hdX9_ofMile : yX9_ofMile.cls = RX9 ∧ yX9_ofMile.cls ≠ "java/lang/invoke/MethodHandle" ∧ yX9_ofMile.cls ≠ "java/lang/invoke/VarHandle" ∧ (parseMethodDescriptor yX9_ofMile.desc).map (fun d => d.parameters.length) = some 2 := by decide +kernel
theorem iwX9_ofMile_X9 : ∀ w ∈ wsX90, w ∈ wsX9_ofMile := by decide +kernel
theorem lkX9_ofMile_f13 : Cond.fieldLink RX9 13 "CoachCourtModel" "now" "[I" ∈ wsX9_ofMile := by decide +kernel
set_option maxHeartbeats 4000000 in
set_option maxRecDepth 100000 in
theorem cX9_ofMile_ok {l : Launch} {D : va_G} {t : Nat → ClassId} {κ : Nat → Nat} {a_mo : Nat → Nat} {s_mo : S2} {lam : S6} {p1 : Int32} {p2 : Int32} {out : Int32} (hf : fX9_ofMile s_mo p1 p2 = some out) : Ct l D t κ yX9_ofMile wsX9_ofMile (rmL 0) [.ref (a_mo 0), .int p1, .int p2] (wModel t a_mo s_mo lam) (some (.int out)) (wModel t a_mo s_mo lam) := by
  refine Ct.ofW (own := RX9) (cc := cX9_ofMile) (maxL := 3) (ret := (some .int)) (by decide) rfl rfl (Nat.le_of_ble_eq_true rfl) ?_
  intro p e s m below meth c A C hP hD ls hl
  have hS : va_S A s.heap s.heap [] := va_S.rf
  obtain ⟨hx, hb, hr, hml, hown, hts, hC0, hlk, hA⟩ := id C
  have hK := hC0.1
  have hl : lv_has ls 3 [(0, .ref (a_mo 0)), (1, .int p1), (2, .int p2)] := hl
  unfold fX9_ofMile at hf
  refine lv_aload_n hx hb dX9_ofMile_0 rfl (lv_at hl 0 rfl) ?_
  refine va_get (D := D) (ci := 9) (v := .ref (a_mo 2)) (C := RX9) (T := TX9) (N := 37) hx hb hts iwX9_ofMile_X9 hown hK hP 0 rfl rfl 1 (by decide) (hts _ lkX9_ofMile_f13) (fun _ h9 => h9) rfl dX9_ofMile_1 ?_
  refine lv_iconst (v := 3) hx hb dX9_ofMile_4 (by decide) ?_
  refine lv_iload_n hx hb dX9_ofMile_5 rfl (lv_at hl 1 rfl) ?_
  refine lv_imul hx hb dX9_ofMile_6 ?_
  refine lv_iload_n hx hb dX9_ofMile_7 rfl (lv_at hl 2 rfl) ?_
  refine lv_iadd hx hb dX9_ofMile_8 ?_
  obtain ⟨b1, hf⟩ := gd_some hf
  refine va_iald hx hb hK hP 2 0 rfl rfl (ixb_in b1) dX9_ofMile_9 ?_
  obtain rfl := so_eq hf
  exact g_iret C hP hD hS dX9_ofMile_10
/-! CoachCourtModel.of -/
def fX9_of (s_mo : S2) (p1 : Int32) (p2 : Int32) : Option (Int32) :=
  gd (ixb (((24 : Int32) + ((5 : Int32) * p1)) + p2) 59) <|
  some (s_mo 2 (Int32.toNatClampNeg (((24 : Int32) + ((5 : Int32) * p1)) + p2)))
theorem hdX9_of : yX9_of.cls = RX9 ∧ yX9_of.cls ≠ "java/lang/invoke/MethodHandle" ∧ yX9_of.cls ≠ "java/lang/invoke/VarHandle" ∧ (parseMethodDescriptor yX9_of.desc).map (fun d => d.parameters.length) = some 2 := by decide +kernel
theorem iwX9_of_X9 : ∀ w ∈ wsX90, w ∈ wsX9_of := by decide +kernel
theorem lkX9_of_f13 : Cond.fieldLink RX9 13 "CoachCourtModel" "now" "[I" ∈ wsX9_of := by decide +kernel
set_option maxHeartbeats 4000000 in
set_option maxRecDepth 100000 in
theorem cX9_of_ok {l : Launch} {D : va_G} {t : Nat → ClassId} {κ : Nat → Nat} {a_mo : Nat → Nat} {s_mo : S2} {lam : S6} {p1 : Int32} {p2 : Int32} {out : Int32} (hf : fX9_of s_mo p1 p2 = some out) : Ct l D t κ yX9_of wsX9_of (rmL 0) [.ref (a_mo 0), .int p1, .int p2] (wModel t a_mo s_mo lam) (some (.int out)) (wModel t a_mo s_mo lam) := by
  refine Ct.ofW (own := RX9) (cc := cX9_of) (maxL := 3) (ret := (some .int)) (by decide) rfl rfl (Nat.le_of_ble_eq_true rfl) ?_
  intro p e s m below meth c A C hP hD ls hl
  have hS : va_S A s.heap s.heap [] := va_S.rf
  obtain ⟨hx, hb, hr, hml, hown, hts, hC0, hlk, hA⟩ := id C
  have hK := hC0.1
  have hl : lv_has ls 3 [(0, .ref (a_mo 0)), (1, .int p1), (2, .int p2)] := hl
  unfold fX9_of at hf
  refine lv_aload_n hx hb dX9_of_0 rfl (lv_at hl 0 rfl) ?_
  refine va_get (D := D) (ci := 9) (v := .ref (a_mo 2)) (C := RX9) (T := TX9) (N := 37) hx hb hts iwX9_of_X9 hown hK hP 0 rfl rfl 1 (by decide) (hts _ lkX9_of_f13) (fun _ h9 => h9) rfl dX9_of_1 ?_
  refine lv_bipush (v := 24) hx hb dX9_of_4 (by decide) ?_
  refine lv_iconst (v := 5) hx hb dX9_of_6 (by decide) ?_
  refine lv_iload_n hx hb dX9_of_7 rfl (lv_at hl 1 rfl) ?_
  refine lv_imul hx hb dX9_of_8 ?_
  refine lv_iadd hx hb dX9_of_9 ?_
  refine lv_iload_n hx hb dX9_of_10 rfl (lv_at hl 2 rfl) ?_
  refine lv_iadd hx hb dX9_of_11 ?_
  obtain ⟨b1, hf⟩ := gd_some hf
  refine va_iald hx hb hK hP 2 0 rfl rfl (ixb_in b1) dX9_of_12 ?_
  obtain rfl := so_eq hf
  exact g_iret C hP hD hS dX9_of_13
/-! CoachCourtModel.minutes -/
def fX9_minutes (s_mo : S2) (p1 : Int32) : Option (Int32) :=
  (fX9_ofMile s_mo p1 (1 : Int32)).bind fun v1 =>
  (fX9_ofMile s_mo p1 (2 : Int32)).bind fun v2 =>
  some (((2 : Int32) + ((2 : Int32) * v1)) + ((3 : Int32) * v2))
theorem hdX9_minutes : yX9_minutes.cls = RX9 ∧ yX9_minutes.cls ≠ "java/lang/invoke/MethodHandle" ∧ yX9_minutes.cls ≠ "java/lang/invoke/VarHandle" ∧ (parseMethodDescriptor yX9_minutes.desc).map (fun d => d.parameters.length) = some 1 := by decide +kernel
set_option maxHeartbeats 4000000 in
set_option maxRecDepth 100000 in
theorem cX9_minutes_ok {l : Launch} {D : va_G} {t : Nat → ClassId} {κ : Nat → Nat} {a_mo : Nat → Nat} {s_mo : S2} {lam : S6} {p1 : Int32} {out : Int32} (hf : fX9_minutes s_mo p1 = some out) : Ct l D t κ yX9_minutes wsX9_minutes (rmL 1) [.ref (a_mo 0), .int p1] (wModel t a_mo s_mo lam) (some (.int out)) (wModel t a_mo s_mo lam) := by
  refine Ct.ofW (own := RX9) (cc := cX9_minutes) (maxL := 2) (ret := (some .int)) (by decide) rfl rfl (Nat.le_of_ble_eq_true rfl) ?_
  intro p e s m below meth c A C hP hD ls hl
  have hS : va_S A s.heap s.heap [] := va_S.rf
  obtain ⟨hx, hb, hr, hml, hown, hts, hC0, hlk, hA⟩ := id C
  have hK := hC0.1
  have hl : lv_has ls 2 [(0, .ref (a_mo 0)), (1, .int p1)] := hl
  unfold fX9_minutes at hf
  refine lv_iconst (v := 2) hx hb dX9_minutes_0 (by decide) ?_
  refine lv_iconst (v := 2) hx hb dX9_minutes_1 (by decide) ?_
  refine lv_aload_n hx hb dX9_minutes_2 rfl (lv_at hl 0 rfl) ?_
  refine lv_iload_n hx hb dX9_minutes_3 rfl (lv_at hl 1 rfl) ?_
  refine lv_iconst (v := 1) hx hb dX9_minutes_4 (by decide) ?_
  obtain ⟨v1, ev1, hf⟩ := bd_some hf
  refine gk_V0 C (As := [.int p1, .int (1 : Int32)]) (rest := [.int (2 : Int32), .int (2 : Int32)]) (ci := 9) (q := (RX9, TX9, 37)) (q0 := 0) (cX9_ofMile_ok (l := l) (D := D) (t := t) (κ := κ) (a_mo := a_mo) (lam := lam) ev1) gX9_minutes_X9_ofMile rfl ⟨rfl, rfl⟩ hdX9_ofMile ⟨Nat.le_of_ble_eq_true rfl, Nat.le_of_ble_eq_true rfl⟩ rfl rfl hP hD hS rfl hl.1 (Nat.le_of_ble_eq_true rfl) dX9_minutes_5 (Nat.zero_le _) (Nat.zero_le _) (fun H locs hP hD hS => ?_)
  refine W.eq (g2 := F0 m 8 ls [.int v1, .int (2 : Int32), .int (2 : Int32)]) rfl ?_
  refine lv_imul hx hb dX9_minutes_8 ?_
  refine lv_iadd hx hb dX9_minutes_9 ?_
  refine lv_iconst (v := 3) hx hb dX9_minutes_10 (by decide) ?_
  refine lv_aload_n hx hb dX9_minutes_11 rfl (lv_at hl 0 rfl) ?_
  refine lv_iload_n hx hb dX9_minutes_12 rfl (lv_at hl 1 rfl) ?_
  refine lv_iconst (v := 2) hx hb dX9_minutes_13 (by decide) ?_
  obtain ⟨v2, ev2, hf⟩ := bd_some hf
  refine gk_V0 C (As := [.int p1, .int (2 : Int32)]) (rest := [.int (3 : Int32), .int ((2 : Int32) + ((2 : Int32) * v1))]) (ci := 9) (q := (RX9, TX9, 37)) (q0 := 0) (cX9_ofMile_ok (l := l) (D := D) (t := t) (κ := κ) (a_mo := a_mo) (lam := lam) ev2) gX9_minutes_X9_ofMile rfl ⟨rfl, rfl⟩ hdX9_ofMile ⟨Nat.le_of_ble_eq_true rfl, Nat.le_of_ble_eq_true rfl⟩ rfl rfl hP hD hS rfl hl.1 (Nat.le_of_ble_eq_true rfl) dX9_minutes_14 (Nat.zero_le _) (Nat.zero_le _) (fun H locs hP hD hS => ?_)
  refine W.eq (g2 := F0 m 17 ls [.int v2, .int (3 : Int32), .int ((2 : Int32) + ((2 : Int32) * v1))]) rfl ?_
  refine lv_imul hx hb dX9_minutes_17 ?_
  refine lv_iadd hx hb dX9_minutes_18 ?_
  obtain rfl := so_eq hf
  exact g_iret C hP hD hS dX9_minutes_19
/-! CoachCourtModel.hearing -/
def fX9_hearing_28 (s_mo : S2) (x1 : Int32) : Option (Int32) :=
  (fX9_minutes s_mo x1).bind fun v3 =>
  some v3
def fX9_hearing (s_mo : S2) (p1 : Int32) : Option (Int32) :=
  (fX9_ofMile s_mo p1 (1 : Int32)).bind fun v1 =>
  if v1 = (0 : Int32) then
    ((fX9_ofMile s_mo p1 (2 : Int32)).bind fun v4 =>
    if v4 = (0 : Int32) then
      ((fX9_minutes s_mo p1).bind fun v6 =>
      some (v6 / (2 : Int32)))
    else
      (fX9_hearing_28 s_mo p1))
  else
    (fX9_hearing_28 s_mo p1)
theorem hdX9_hearing : yX9_hearing.cls = RX9 ∧ yX9_hearing.cls ≠ "java/lang/invoke/MethodHandle" ∧ yX9_hearing.cls ≠ "java/lang/invoke/VarHandle" ∧ (parseMethodDescriptor yX9_hearing.desc).map (fun d => d.parameters.length) = some 1 := by decide +kernel
set_option maxHeartbeats 4000000 in
set_option maxRecDepth 100000 in
theorem wX9_hearing_28 {p : Program} {l : Launch} {e : Env} {s : State} {m : MethodId} {args : Array Value} {below : List Frame} {meth : Method} {c : Code} {D : va_G} {t : Nat → ClassId} {κ : Nat → Nat} {A : Nat → Prop} {a_mo : Nat → Nat} {s_mo : S2} {lam : S6} {x1 : Int32} {out : Int32} (C : Cxt p s m args meth c cX9_hearing 2 RX9 wsX9_hearing (some .int) D t κ A) (hf : fX9_hearing_28 s_mo x1 = some out) : ∀ (H : Heap) (locs : List Loc) (ls : Array Slot), va_P D vwCl (wModel t a_mo s_mo lam) H → va_D A (wModel t a_mo s_mo lam) → va_S A s.heap H locs → lv_has ls 2 [(0, .ref (a_mo 0)), (1, .int x1)] → W p l e (rmL 2) s m args below meth c H locs 0 0 (MQ below (gQ D (some (.int out)) (wModel t a_mo s_mo lam) A) args s 0 0 A) (F0 m 28 ls []) := by
  obtain ⟨hx, hb, hr, hml, hown, hts, hC0, hlk, hA⟩ := id C
  have hK := hC0.1
  intro H locs ls hP hD hS hl
  unfold fX9_hearing_28 at hf
  refine lv_aload_n hx hb dX9_hearing_28 rfl (lv_at hl 0 rfl) ?_
  refine lv_iload_n hx hb dX9_hearing_29 rfl (lv_at hl 1 rfl) ?_
  obtain ⟨v3, ev3, hf⟩ := bd_some hf
  refine gk_V0 C (As := [.int x1]) (rest := []) (ci := 9) (q := (RX9, TX9, 37)) (q0 := 0) (cX9_minutes_ok (l := l) (D := D) (t := t) (κ := κ) (a_mo := a_mo) (lam := lam) ev3) gX9_hearing_X9_minutes rfl ⟨rfl, rfl⟩ hdX9_minutes ⟨Nat.le_of_ble_eq_true rfl, Nat.le_of_ble_eq_true rfl⟩ rfl rfl hP hD hS rfl hl.1 (Nat.le_of_ble_eq_true rfl) dX9_hearing_30 (Nat.zero_le _) (Nat.zero_le _) (fun H locs hP hD hS => ?_)
  refine W.eq (g2 := F0 m 33 ls [.int v3]) rfl ?_
  obtain rfl := so_eq hf
  exact g_iret C hP hD hS dX9_hearing_33
set_option maxHeartbeats 4000000 in
set_option maxRecDepth 100000 in
theorem cX9_hearing_ok {l : Launch} {D : va_G} {t : Nat → ClassId} {κ : Nat → Nat} {a_mo : Nat → Nat} {s_mo : S2} {lam : S6} {p1 : Int32} {out : Int32} (hf : fX9_hearing s_mo p1 = some out) : Ct l D t κ yX9_hearing wsX9_hearing (rmL 2) [.ref (a_mo 0), .int p1] (wModel t a_mo s_mo lam) (some (.int out)) (wModel t a_mo s_mo lam) := by
  refine Ct.ofW (own := RX9) (cc := cX9_hearing) (maxL := 2) (ret := (some .int)) (by decide) rfl rfl (Nat.le_of_ble_eq_true rfl) ?_
  intro p e s m below meth c A C hP hD ls hl
  have hS : va_S A s.heap s.heap [] := va_S.rf
  obtain ⟨hx, hb, hr, hml, hown, hts, hC0, hlk, hA⟩ := id C
  have hK := hC0.1
  have hl : lv_has ls 2 [(0, .ref (a_mo 0)), (1, .int p1)] := hl
  unfold fX9_hearing at hf
  refine lv_aload_n hx hb dX9_hearing_0 rfl (lv_at hl 0 rfl) ?_
  refine lv_iload_n hx hb dX9_hearing_1 rfl (lv_at hl 1 rfl) ?_
  refine lv_iconst (v := 1) hx hb dX9_hearing_2 (by decide) ?_
  obtain ⟨v1, ev1, hf⟩ := bd_some hf
  refine gk_V0 C (As := [.int p1, .int (1 : Int32)]) (rest := []) (ci := 9) (q := (RX9, TX9, 37)) (q0 := 0) (cX9_ofMile_ok (l := l) (D := D) (t := t) (κ := κ) (a_mo := a_mo) (lam := lam) ev1) gX9_hearing_X9_ofMile rfl ⟨rfl, rfl⟩ hdX9_ofMile ⟨Nat.le_of_ble_eq_true rfl, Nat.le_of_ble_eq_true rfl⟩ rfl rfl hP hD hS rfl hl.1 (Nat.le_of_ble_eq_true rfl) dX9_hearing_3 (Nat.zero_le _) (Nat.zero_le _) (fun H locs hP hD hS => ?_)
  refine W.eq (g2 := F0 m 6 ls [.int v1]) rfl ?_
  refine lv_if_ne (tgt := 28) hx hb dX9_hearing_6 (by decide) (fun c2 => ?_) (fun c2 => ?_)
  · rw [if_neg c2] at hf
    exact wX9_hearing_28 C hf _ _ _ hP hD hS (lv_sub hl [0, 1] rfl)
  · rw [if_pos c2] at hf
    refine lv_aload_n hx hb dX9_hearing_9 rfl (lv_at hl 0 rfl) ?_
    refine lv_iload_n hx hb dX9_hearing_10 rfl (lv_at hl 1 rfl) ?_
    refine lv_iconst (v := 2) hx hb dX9_hearing_11 (by decide) ?_
    obtain ⟨v4, ev4, hf⟩ := bd_some hf
    refine gk_V0 C (As := [.int p1, .int (2 : Int32)]) (rest := []) (ci := 9) (q := (RX9, TX9, 37)) (q0 := 0) (cX9_ofMile_ok (l := l) (D := D) (t := t) (κ := κ) (a_mo := a_mo) (lam := lam) ev4) gX9_hearing_X9_ofMile rfl ⟨rfl, rfl⟩ hdX9_ofMile ⟨Nat.le_of_ble_eq_true rfl, Nat.le_of_ble_eq_true rfl⟩ rfl rfl hP hD hS rfl hl.1 (Nat.le_of_ble_eq_true rfl) dX9_hearing_12 (Nat.zero_le _) (Nat.zero_le _) (fun H locs hP hD hS => ?_)
    refine W.eq (g2 := F0 m 15 ls [.int v4]) rfl ?_
    refine lv_if_ne (tgt := 28) hx hb dX9_hearing_15 (by decide) (fun c5 => ?_) (fun c5 => ?_)
    · rw [if_neg c5] at hf
      exact wX9_hearing_28 C hf _ _ _ hP hD hS (lv_sub hl [0, 1] rfl)
    · rw [if_pos c5] at hf
      refine lv_aload_n hx hb dX9_hearing_18 rfl (lv_at hl 0 rfl) ?_
      refine lv_iload_n hx hb dX9_hearing_19 rfl (lv_at hl 1 rfl) ?_
      obtain ⟨v6, ev6, hf⟩ := bd_some hf
      refine gk_V0 C (As := [.int p1]) (rest := []) (ci := 9) (q := (RX9, TX9, 37)) (q0 := 0) (cX9_minutes_ok (l := l) (D := D) (t := t) (κ := κ) (a_mo := a_mo) (lam := lam) ev6) gX9_hearing_X9_minutes rfl ⟨rfl, rfl⟩ hdX9_minutes ⟨Nat.le_of_ble_eq_true rfl, Nat.le_of_ble_eq_true rfl⟩ rfl rfl hP hD hS rfl hl.1 (Nat.le_of_ble_eq_true rfl) dX9_hearing_20 (Nat.zero_le _) (Nat.zero_le _) (fun H locs hP hD hS => ?_)
      refine W.eq (g2 := F0 m 23 ls [.int v6]) rfl ?_
      refine lv_iconst (v := 2) hx hb dX9_hearing_23 (by decide) ?_
      refine lv_idiv hx hb dX9_hearing_24 (by decide) ?_
      refine lv_goto (tgt := 33) hx hb dX9_hearing_25 (by decide) ?_
      obtain rfl := so_eq hf
      exact g_iret C hP hD hS dX9_hearing_33
/-! CoachCourtModel.strainOf -/
def fX9_strainOf (s_mo : S2) (p1 : Int32) (p2 : Int32) : Option (Int32) :=
  (fX9_minutes s_mo p2).bind fun v1 =>
  (fX9_ofMile s_mo p2 (1 : Int32)).bind fun v2 =>
  nm (v1 + v2) fun y3 =>
  (fX9_of s_mo p1 (0 : Int32)).bind fun v4 =>
  if v4 = (1 : Int32) then
    (some (y3 / (2 : Int32)))
  else
    (if v4 = (2 : Int32) then
      (some ((2 : Int32) * y3))
    else
      (some y3))
theorem hdX9_strainOf : yX9_strainOf.cls = RX9 ∧ yX9_strainOf.cls ≠ "java/lang/invoke/MethodHandle" ∧ yX9_strainOf.cls ≠ "java/lang/invoke/VarHandle" ∧ (parseMethodDescriptor yX9_strainOf.desc).map (fun d => d.parameters.length) = some 2 := by decide +kernel
set_option maxHeartbeats 4000000 in
set_option maxRecDepth 100000 in
theorem cX9_strainOf_ok {l : Launch} {D : va_G} {t : Nat → ClassId} {κ : Nat → Nat} {a_mo : Nat → Nat} {s_mo : S2} {lam : S6} {p1 : Int32} {p2 : Int32} {out : Int32} (hf : fX9_strainOf s_mo p1 p2 = some out) : Ct l D t κ yX9_strainOf wsX9_strainOf (rmL 2) [.ref (a_mo 0), .int p1, .int p2] (wModel t a_mo s_mo lam) (some (.int out)) (wModel t a_mo s_mo lam) := by
  refine Ct.ofW (own := RX9) (cc := cX9_strainOf) (maxL := 5) (ret := (some .int)) (by decide) rfl rfl (Nat.le_of_ble_eq_true rfl) ?_
  intro p e s m below meth c A C hP hD ls hl
  have hS : va_S A s.heap s.heap [] := va_S.rf
  obtain ⟨hx, hb, hr, hml, hown, hts, hC0, hlk, hA⟩ := id C
  have hK := hC0.1
  have hl : lv_has ls 5 [(0, .ref (a_mo 0)), (1, .int p1), (2, .int p2)] := hl
  unfold fX9_strainOf at hf
  refine lv_aload_n hx hb dX9_strainOf_0 rfl (lv_at hl 0 rfl) ?_
  refine lv_iload_n hx hb dX9_strainOf_1 rfl (lv_at hl 2 rfl) ?_
  obtain ⟨v1, ev1, hf⟩ := bd_some hf
  refine gk_V0 C (As := [.int p2]) (rest := []) (ci := 9) (q := (RX9, TX9, 37)) (q0 := 0) (cX9_minutes_ok (l := l) (D := D) (t := t) (κ := κ) (a_mo := a_mo) (lam := lam) ev1) gX9_strainOf_X9_minutes rfl ⟨rfl, rfl⟩ hdX9_minutes ⟨Nat.le_of_ble_eq_true rfl, Nat.le_of_ble_eq_true rfl⟩ rfl rfl hP hD hS rfl hl.1 (Nat.le_of_ble_eq_true rfl) dX9_strainOf_2 (Nat.zero_le _) (Nat.zero_le _) (fun H locs hP hD hS => ?_)
  refine W.eq (g2 := F0 m 5 ls [.int v1]) rfl ?_
  refine lv_aload_n hx hb dX9_strainOf_5 rfl (lv_at hl 0 rfl) ?_
  refine lv_iload_n hx hb dX9_strainOf_6 rfl (lv_at hl 2 rfl) ?_
  refine lv_iconst (v := 1) hx hb dX9_strainOf_7 (by decide) ?_
  obtain ⟨v2, ev2, hf⟩ := bd_some hf
  refine gk_V0 C (As := [.int p2, .int (1 : Int32)]) (rest := [.int v1]) (ci := 9) (q := (RX9, TX9, 37)) (q0 := 0) (cX9_ofMile_ok (l := l) (D := D) (t := t) (κ := κ) (a_mo := a_mo) (lam := lam) ev2) gX9_strainOf_X9_ofMile rfl ⟨rfl, rfl⟩ hdX9_ofMile ⟨Nat.le_of_ble_eq_true rfl, Nat.le_of_ble_eq_true rfl⟩ rfl rfl hP hD hS rfl hl.1 (Nat.le_of_ble_eq_true rfl) dX9_strainOf_8 (Nat.zero_le _) (Nat.zero_le _) (fun H locs hP hD hS => ?_)
  refine W.eq (g2 := F0 m 11 ls [.int v2, .int v1]) rfl ?_
  refine lv_iadd hx hb dX9_strainOf_11 ?_
  obtain ⟨y3, hy3, hf⟩ := nm_ex hf
  refine W.eq (g2 := F0 m 12 ls [.int y3]) (by rw [hy3]) ?_
  refine lv_istore_n (lv' := [(3, .int y3), (0, .ref (a_mo 0)), (1, .int p1), (2, .int p2)]) hx hb dX9_strainOf_12 rfl hl (by decide) rfl (fun ls hl => ?_)
  refine lv_aload_n hx hb dX9_strainOf_13 rfl (lv_at hl 1 rfl) ?_
  refine lv_iload_n hx hb dX9_strainOf_14 rfl (lv_at hl 2 rfl) ?_
  refine lv_iconst (v := 0) hx hb dX9_strainOf_15 (by decide) ?_
  obtain ⟨v4, ev4, hf⟩ := bd_some hf
  refine gk_V0 C (As := [.int p1, .int (0 : Int32)]) (rest := []) (ci := 9) (q := (RX9, TX9, 37)) (q0 := 0) (cX9_of_ok (l := l) (D := D) (t := t) (κ := κ) (a_mo := a_mo) (lam := lam) ev4) gX9_strainOf_X9_of rfl ⟨rfl, rfl⟩ hdX9_of ⟨Nat.le_of_ble_eq_true rfl, Nat.le_of_ble_eq_true rfl⟩ rfl rfl hP hD hS rfl hl.1 (Nat.le_of_ble_eq_true rfl) dX9_strainOf_16 (Nat.zero_le _) (Nat.zero_le _) (fun H locs hP hD hS => ?_)
  refine W.eq (g2 := F0 m 19 ls [.int v4]) rfl ?_
  refine lv_istore (lv' := [(4, .int v4), (3, .int y3), (0, .ref (a_mo 0)), (1, .int p1), (2, .int p2)]) hx hb dX9_strainOf_19 hl (by decide) rfl (fun ls hl => ?_)
  refine lv_iload hx hb dX9_strainOf_21 (lv_at hl 0 rfl) ?_
  refine lv_iconst (v := 1) hx hb dX9_strainOf_23 (by decide) ?_
  refine lv_icmp_ne (tgt := 33) hx hb dX9_strainOf_24 (by decide) (fun c5 => ?_) (fun c5 => ?_)
  · rw [if_neg c5] at hf
    refine lv_iload hx hb dX9_strainOf_33 (lv_at hl 0 rfl) ?_
    refine lv_iconst (v := 2) hx hb dX9_strainOf_35 (by decide) ?_
    refine lv_icmp_ne (tgt := 45) hx hb dX9_strainOf_36 (by decide) (fun c6 => ?_) (fun c6 => ?_)
    · rw [if_neg c6] at hf
      refine lv_iload_n hx hb dX9_strainOf_45 rfl (lv_at hl 1 rfl) ?_
      obtain rfl := so_eq hf
      exact g_iret C hP hD hS dX9_strainOf_46
    · rw [if_pos c6] at hf
      refine lv_iconst (v := 2) hx hb dX9_strainOf_39 (by decide) ?_
      refine lv_iload_n hx hb dX9_strainOf_40 rfl (lv_at hl 1 rfl) ?_
      refine lv_imul hx hb dX9_strainOf_41 ?_
      refine lv_goto (tgt := 46) hx hb dX9_strainOf_42 (by decide) ?_
      obtain rfl := so_eq hf
      exact g_iret C hP hD hS dX9_strainOf_46
  · rw [if_pos c5] at hf
    refine lv_iload_n hx hb dX9_strainOf_27 rfl (lv_at hl 1 rfl) ?_
    refine lv_iconst (v := 2) hx hb dX9_strainOf_28 (by decide) ?_
    refine lv_idiv hx hb dX9_strainOf_29 (by decide) ?_
    refine lv_goto (tgt := 46) hx hb dX9_strainOf_30 (by decide) ?_
    obtain rfl := so_eq hf
    exact g_iret C hP hD hS dX9_strainOf_46
/-! CoachCourtModel.canRun -/
def fX9_canRun_41 (s_mo : S2) (x1 : Int32) (x2 : Int32) (x3 : Int32) (k0 : Int32) : Option (Int32) :=
  if (s_mo 2 (Int32.toNatClampNeg (44 : Int32))) ≤ x3 then
    (some (0 : Int32))
  else
    (gd (ixb x1 4) <|
    (fX9_strainOf s_mo x1 x2).bind fun v5 =>
    if (s_mo 9 (Int32.toNatClampNeg x1)) < v5 then
      (some (0 : Int32))
    else
      (if k0 = (0 : Int32) then
        (some (1 : Int32))
      else
        (some (0 : Int32))))
def fX9_canRun (s_mo : S2) (p1 : Int32) (p2 : Int32) (p3 : Int32) : Option (Int32) :=
  (fX9_of s_mo p1 (0 : Int32)).bind fun v1 =>
  if v1 = (3 : Int32) then
    (gd (ixb p1 4) <|
    if (s_mo 10 (Int32.toNatClampNeg p1)) = (0 : Int32) then
      (fX9_canRun_41 s_mo p1 p2 p3 (0 : Int32))
    else
      ((fX9_ofMile s_mo p2 (0 : Int32)).bind fun v10 =>
      (fX9_ofMile s_mo (p2 - (1 : Int32)) (0 : Int32)).bind fun v11 =>
      if v10 = v11 then
        (fX9_canRun_41 s_mo p1 p2 p3 (0 : Int32))
      else
        (fX9_canRun_41 s_mo p1 p2 p3 (1 : Int32))))
  else
    (fX9_canRun_41 s_mo p1 p2 p3 (0 : Int32))
theorem hdX9_canRun : yX9_canRun.cls = RX9 ∧ yX9_canRun.cls ≠ "java/lang/invoke/MethodHandle" ∧ yX9_canRun.cls ≠ "java/lang/invoke/VarHandle" ∧ (parseMethodDescriptor yX9_canRun.desc).map (fun d => d.parameters.length) = some 3 := by decide +kernel
theorem iwX9_canRun_X9 : ∀ w ∈ wsX90, w ∈ wsX9_canRun := by decide +kernel
theorem lkX9_canRun_f13 : Cond.fieldLink RX9 13 "CoachCourtModel" "now" "[I" ∈ wsX9_canRun := by decide +kernel
theorem lkX9_canRun_f35 : Cond.fieldLink RX9 35 "CoachCourtModel" "wind" "[I" ∈ wsX9_canRun := by decide +kernel
theorem lkX9_canRun_f38 : Cond.fieldLink RX9 38 "CoachCourtModel" "runs" "[Z" ∈ wsX9_canRun := by decide +kernel
set_option maxHeartbeats 4000000 in
set_option maxRecDepth 100000 in
theorem wX9_canRun_41 {p : Program} {l : Launch} {e : Env} {s : State} {m : MethodId} {args : Array Value} {below : List Frame} {meth : Method} {c : Code} {D : va_G} {t : Nat → ClassId} {κ : Nat → Nat} {A : Nat → Prop} {a_mo : Nat → Nat} {s_mo : S2} {lam : S6} {x1 : Int32} {x2 : Int32} {x3 : Int32} {k0 : Int32} {out : Int32} (C : Cxt p s m args meth c cX9_canRun 5 RX9 wsX9_canRun (some .boolean) D t κ A) (hf : fX9_canRun_41 s_mo x1 x2 x3 k0 = some out) : ∀ (H : Heap) (locs : List Loc) (ls : Array Slot), va_P D vwCl (wModel t a_mo s_mo lam) H → va_D A (wModel t a_mo s_mo lam) → va_S A s.heap H locs → lv_has ls 5 [(0, .ref (a_mo 0)), (1, .int x1), (2, .int x2), (3, .int x3)] → W p l e (rmL 3) s m args below meth c H locs 0 0 (MQ below (gQ D (some (.int out)) (wModel t a_mo s_mo lam) A) args s 0 0 A) (F0 m 41 ls [.int k0]) := by
  obtain ⟨hx, hb, hr, hml, hown, hts, hC0, hlk, hA⟩ := id C
  have hK := hC0.1
  intro H locs ls hP hD hS hl
  unfold fX9_canRun_41 at hf
  refine lv_istore (lv' := [(4, .int k0), (0, .ref (a_mo 0)), (1, .int x1), (2, .int x2), (3, .int x3)]) hx hb dX9_canRun_41 hl (by decide) rfl (fun ls hl => ?_)
  refine lv_iload_n hx hb dX9_canRun_43 rfl (lv_at hl 4 rfl) ?_
  refine lv_aload_n hx hb dX9_canRun_44 rfl (lv_at hl 1 rfl) ?_
  refine va_get (D := D) (ci := 9) (v := .ref (a_mo 2)) (C := RX9) (T := TX9) (N := 37) hx hb hts iwX9_canRun_X9 hown hK hP 0 rfl rfl 1 (by decide) (hts _ lkX9_canRun_f13) (fun _ h9 => h9) rfl dX9_canRun_45 ?_
  refine lv_bipush (v := 44) hx hb dX9_canRun_48 (by decide) ?_
  refine va_iald hx hb hK hP 2 0 rfl rfl (ixb_in (by decide)) dX9_canRun_50 ?_
  refine lv_icmp_ge (tgt := 78) hx hb dX9_canRun_51 (by decide) (fun c3 => ?_) (fun c3 => ?_)
  · rw [if_pos c3] at hf
    refine lv_iconst (v := 0) hx hb dX9_canRun_78 (by decide) ?_
    obtain rfl := so_eq hf
    exact g_zret (v := 0) C rfl hP hD hS dX9_canRun_79
  · rw [if_neg c3] at hf
    refine lv_aload_n hx hb dX9_canRun_54 rfl (lv_at hl 1 rfl) ?_
    refine va_get (D := D) (ci := 9) (v := .ref (a_mo 9)) (C := RX9) (T := TX9) (N := 37) hx hb hts iwX9_canRun_X9 hown hK hP 0 rfl rfl 22 (by decide) (hts _ lkX9_canRun_f35) (fun _ h9 => h9) rfl dX9_canRun_55 ?_
    refine lv_iload_n hx hb dX9_canRun_58 rfl (lv_at hl 2 rfl) ?_
    obtain ⟨b4, hf⟩ := gd_some hf
    refine va_iald hx hb hK hP 9 0 rfl rfl (ixb_in b4) dX9_canRun_59 ?_
    refine lv_aload_n hx hb dX9_canRun_60 rfl (lv_at hl 1 rfl) ?_
    refine lv_iload_n hx hb dX9_canRun_61 rfl (lv_at hl 2 rfl) ?_
    refine lv_iload_n hx hb dX9_canRun_62 rfl (lv_at hl 3 rfl) ?_
    obtain ⟨v5, ev5, hf⟩ := bd_some hf
    refine gk_V0 C (As := [.int x1, .int x2]) (rest := [.int (s_mo 9 (Int32.toNatClampNeg x1))]) (ci := 9) (q := (RX9, TX9, 37)) (q0 := 0) (cX9_strainOf_ok (l := l) (D := D) (t := t) (κ := κ) (a_mo := a_mo) (lam := lam) ev5) gX9_canRun_X9_strainOf rfl ⟨rfl, rfl⟩ hdX9_strainOf ⟨Nat.le_of_ble_eq_true rfl, Nat.le_of_ble_eq_true rfl⟩ rfl rfl hP hD hS rfl hl.1 (Nat.le_of_ble_eq_true rfl) dX9_canRun_63 (Nat.zero_le _) (Nat.zero_le _) (fun H locs hP hD hS => ?_)
    refine W.eq (g2 := F0 m 66 ls [.int v5, .int (s_mo 9 (Int32.toNatClampNeg x1))]) rfl ?_
    refine lv_icmp_lt (tgt := 78) hx hb dX9_canRun_66 (by decide) (fun c6 => ?_) (fun c6 => ?_)
    · rw [if_pos c6] at hf
      refine lv_iconst (v := 0) hx hb dX9_canRun_78 (by decide) ?_
      obtain rfl := so_eq hf
      exact g_zret (v := 0) C rfl hP hD hS dX9_canRun_79
    · rw [if_neg c6] at hf
      refine lv_iload hx hb dX9_canRun_69 (lv_at hl 0 rfl) ?_
      refine lv_if_ne (tgt := 78) hx hb dX9_canRun_71 (by decide) (fun c7 => ?_) (fun c7 => ?_)
      · rw [if_neg c7] at hf
        refine lv_iconst (v := 0) hx hb dX9_canRun_78 (by decide) ?_
        obtain rfl := so_eq hf
        exact g_zret (v := 0) C rfl hP hD hS dX9_canRun_79
      · rw [if_pos c7] at hf
        refine lv_iconst (v := 1) hx hb dX9_canRun_74 (by decide) ?_
        refine lv_goto (tgt := 79) hx hb dX9_canRun_75 (by decide) ?_
        obtain rfl := so_eq hf
        exact g_zret (v := 1) C rfl hP hD hS dX9_canRun_79
set_option maxHeartbeats 4000000 in
set_option maxRecDepth 100000 in
theorem cX9_canRun_ok {l : Launch} {D : va_G} {t : Nat → ClassId} {κ : Nat → Nat} {a_mo : Nat → Nat} {s_mo : S2} {lam : S6} {p1 : Int32} {p2 : Int32} {p3 : Int32} {out : Int32} (hf : fX9_canRun s_mo p1 p2 p3 = some out) : Ct l D t κ yX9_canRun wsX9_canRun (rmL 3) [.ref (a_mo 0), .int p1, .int p2, .int p3] (wModel t a_mo s_mo lam) (some (.int out)) (wModel t a_mo s_mo lam) := by
  refine Ct.ofW (own := RX9) (cc := cX9_canRun) (maxL := 5) (ret := (some .boolean)) (by decide) rfl rfl (Nat.le_of_ble_eq_true rfl) ?_
  intro p e s m below meth c A C hP hD ls hl
  have hS : va_S A s.heap s.heap [] := va_S.rf
  obtain ⟨hx, hb, hr, hml, hown, hts, hC0, hlk, hA⟩ := id C
  have hK := hC0.1
  have hl : lv_has ls 5 [(0, .ref (a_mo 0)), (1, .int p1), (2, .int p2), (3, .int p3)] := hl
  unfold fX9_canRun at hf
  refine lv_aload_n hx hb dX9_canRun_0 rfl (lv_at hl 0 rfl) ?_
  refine lv_iload_n hx hb dX9_canRun_1 rfl (lv_at hl 1 rfl) ?_
  refine lv_iconst (v := 0) hx hb dX9_canRun_2 (by decide) ?_
  obtain ⟨v1, ev1, hf⟩ := bd_some hf
  refine gk_V0 C (As := [.int p1, .int (0 : Int32)]) (rest := []) (ci := 9) (q := (RX9, TX9, 37)) (q0 := 0) (cX9_of_ok (l := l) (D := D) (t := t) (κ := κ) (a_mo := a_mo) (lam := lam) ev1) gX9_canRun_X9_of rfl ⟨rfl, rfl⟩ hdX9_of ⟨Nat.le_of_ble_eq_true rfl, Nat.le_of_ble_eq_true rfl⟩ rfl rfl hP hD hS rfl hl.1 (Nat.le_of_ble_eq_true rfl) dX9_canRun_3 (Nat.zero_le _) (Nat.zero_le _) (fun H locs hP hD hS => ?_)
  refine W.eq (g2 := F0 m 6 ls [.int v1]) rfl ?_
  refine lv_iconst (v := 3) hx hb dX9_canRun_6 (by decide) ?_
  refine lv_icmp_ne (tgt := 40) hx hb dX9_canRun_7 (by decide) (fun c2 => ?_) (fun c2 => ?_)
  · rw [if_neg c2] at hf
    refine lv_iconst (v := 0) hx hb dX9_canRun_40 (by decide) ?_
    exact wX9_canRun_41 C hf _ _ _ hP hD hS (lv_sub hl [0, 1, 2, 3] rfl)
  · rw [if_pos c2] at hf
    refine lv_aload_n hx hb dX9_canRun_10 rfl (lv_at hl 0 rfl) ?_
    refine va_get (D := D) (ci := 9) (v := .ref (a_mo 10)) (C := RX9) (T := TX9) (N := 37) hx hb hts iwX9_canRun_X9 hown hK hP 0 rfl rfl 23 (by decide) (hts _ lkX9_canRun_f38) (fun _ h9 => h9) rfl dX9_canRun_11 ?_
    refine lv_iload_n hx hb dX9_canRun_14 rfl (lv_at hl 1 rfl) ?_
    obtain ⟨b8, hf⟩ := gd_some hf
    refine va_zald hx hb hK hP 10 2 rfl rfl (ixb_in b8) dX9_canRun_15 ?_
    refine lv_if_eq (tgt := 40) hx hb dX9_canRun_16 (by decide) (fun c9 => ?_) (fun c9 => ?_)
    · rw [if_pos c9] at hf
      refine lv_iconst (v := 0) hx hb dX9_canRun_40 (by decide) ?_
      exact wX9_canRun_41 C hf _ _ _ hP hD hS (lv_sub hl [0, 1, 2, 3] rfl)
    · rw [if_neg c9] at hf
      refine lv_aload_n hx hb dX9_canRun_19 rfl (lv_at hl 0 rfl) ?_
      refine lv_iload_n hx hb dX9_canRun_20 rfl (lv_at hl 2 rfl) ?_
      refine lv_iconst (v := 0) hx hb dX9_canRun_21 (by decide) ?_
      obtain ⟨v10, ev10, hf⟩ := bd_some hf
      refine gk_V0 C (As := [.int p2, .int (0 : Int32)]) (rest := []) (ci := 9) (q := (RX9, TX9, 37)) (q0 := 0) (cX9_ofMile_ok (l := l) (D := D) (t := t) (κ := κ) (a_mo := a_mo) (lam := lam) ev10) gX9_canRun_X9_ofMile rfl ⟨rfl, rfl⟩ hdX9_ofMile ⟨Nat.le_of_ble_eq_true rfl, Nat.le_of_ble_eq_true rfl⟩ rfl rfl hP hD hS rfl hl.1 (Nat.le_of_ble_eq_true rfl) dX9_canRun_22 (Nat.zero_le _) (Nat.zero_le _) (fun H locs hP hD hS => ?_)
      refine W.eq (g2 := F0 m 25 ls [.int v10]) rfl ?_
      refine lv_aload_n hx hb dX9_canRun_25 rfl (lv_at hl 0 rfl) ?_
      refine lv_iload_n hx hb dX9_canRun_26 rfl (lv_at hl 2 rfl) ?_
      refine lv_iconst (v := 1) hx hb dX9_canRun_27 (by decide) ?_
      refine lv_isub hx hb dX9_canRun_28 ?_
      refine lv_iconst (v := 0) hx hb dX9_canRun_29 (by decide) ?_
      obtain ⟨v11, ev11, hf⟩ := bd_some hf
      refine gk_V0 C (As := [.int (p2 - (1 : Int32)), .int (0 : Int32)]) (rest := [.int v10]) (ci := 9) (q := (RX9, TX9, 37)) (q0 := 0) (cX9_ofMile_ok (l := l) (D := D) (t := t) (κ := κ) (a_mo := a_mo) (lam := lam) ev11) gX9_canRun_X9_ofMile rfl ⟨rfl, rfl⟩ hdX9_ofMile ⟨Nat.le_of_ble_eq_true rfl, Nat.le_of_ble_eq_true rfl⟩ rfl rfl hP hD hS rfl hl.1 (Nat.le_of_ble_eq_true rfl) dX9_canRun_30 (Nat.zero_le _) (Nat.zero_le _) (fun H locs hP hD hS => ?_)
      refine W.eq (g2 := F0 m 33 ls [.int v11, .int v10]) rfl ?_
      refine lv_icmp_eq (tgt := 40) hx hb dX9_canRun_33 (by decide) (fun c12 => ?_) (fun c12 => ?_)
      · rw [if_pos c12] at hf
        refine lv_iconst (v := 0) hx hb dX9_canRun_40 (by decide) ?_
        exact wX9_canRun_41 C hf _ _ _ hP hD hS (lv_sub hl [0, 1, 2, 3] rfl)
      · rw [if_neg c12] at hf
        refine lv_iconst (v := 1) hx hb dX9_canRun_36 (by decide) ?_
        refine lv_goto (tgt := 41) hx hb dX9_canRun_37 (by decide) ?_
        exact wX9_canRun_41 C hf _ _ _ hP hD hS (lv_sub hl [0, 1, 2, 3] rfl)
/-! CoachCourtModel.runsIn -/
def fX9_runsIn_99 (s_mo : S2) (x1 : Int32) (x2 : Int32) (k0 : Int32) (k1 : Int32) : Option (S2) :=
  gd (ixb k1 4) <|
  nm (sE s_mo 10 (Int32.toNatClampNeg k1) (vp_nar .boolean k0)) fun s17 =>
  gd (ixb x2 8) <|
  nm (sE s17 11 (Int32.toNatClampNeg x2) ((s17 11 (Int32.toNatClampNeg x2)) ||| ((1 : Int32) <<< (x1 &&& 31)))) fun s19 =>
  some s19
def fX9_runsIn_84 (s_mo : S2) (x1 : Int32) (x2 : Int32) (x3 : Int32) (k0 : Int32) (k1 : Int32) : Option (S2) :=
  gd (ixb k1 4) <|
  nm (sE s_mo 6 (Int32.toNatClampNeg k1) k0) fun s14 =>
  if x3 = (0 : Int32) then
    (fX9_runsIn_99 s14 x1 x2 (1 : Int32) x1)
  else
    (fX9_runsIn_99 s14 x1 x2 (0 : Int32) x1)
def fX9_runsIn_68 (s_mo : S2) (x1 : Int32) (x2 : Int32) (k0 : Int32) : Option (S2) :=
  if k0 = (0 : Int32) then
    (fX9_runsIn_84 s_mo x1 x2 k0 (-4 : Int32) x1)
  else
    (fX9_runsIn_84 s_mo x1 x2 k0 x2 x1)
def fX9_runsIn_46 (s_mo : S2) (x1 : Int32) (x2 : Int32) (k0 : Int32) (k1 : Int32) (k2 : Int32) : Option (S2) :=
  gd (ixb k2 4) <|
  nm (sE s_mo 8 (Int32.toNatClampNeg k2) (k1 + k0)) fun s8 =>
  gd (ixb x1 4) <|
  (fX9_of s8 x1 (2 : Int32)).bind fun v10 =>
  if (s8 8 (Int32.toNatClampNeg x1)) < v10 then
    (fX9_runsIn_68 s8 x1 x2 (0 : Int32))
  else
    (fX9_runsIn_68 s8 x1 x2 (1 : Int32))
def fX9_runsIn (s_mo : S2) (p1 : Int32) (p2 : Int32) : Option (S2) :=
  gd (ixb p1 4) <|
  (fX9_strainOf s_mo p1 p2).bind fun v2 =>
  nm (sE s_mo 9 (Int32.toNatClampNeg p1) ((s_mo 9 (Int32.toNatClampNeg p1)) - v2)) fun s3 =>
  (fX9_ofMile s3 p2 (0 : Int32)).bind fun v4 =>
  (fX9_of s3 p1 (3 : Int32)).bind fun v5 =>
  if v4 = v5 then
    ((fX9_hearing s3 p2).bind fun v20 =>
    fX9_runsIn_46 s3 p1 p2 v20 (s3 8 (Int32.toNatClampNeg p1)) p1)
  else
    (fX9_runsIn_46 s3 p1 p2 (0 : Int32) (s3 8 (Int32.toNatClampNeg p1)) p1)
theorem hdX9_runsIn : yX9_runsIn.cls = RX9 ∧ yX9_runsIn.cls ≠ "java/lang/invoke/MethodHandle" ∧ yX9_runsIn.cls ≠ "java/lang/invoke/VarHandle" ∧ (parseMethodDescriptor yX9_runsIn.desc).map (fun d => d.parameters.length) = some 2 := by decide +kernel
theorem iwX9_runsIn_X9 : ∀ w ∈ wsX90, w ∈ wsX9_runsIn := by decide +kernel
theorem lkX9_runsIn_f35 : Cond.fieldLink RX9 35 "CoachCourtModel" "wind" "[I" ∈ wsX9_runsIn := by decide +kernel
theorem lkX9_runsIn_f32 : Cond.fieldLink RX9 32 "CoachCourtModel" "heard" "[I" ∈ wsX9_runsIn := by decide +kernel
theorem lkX9_runsIn_f26 : Cond.fieldLink RX9 26 "CoachCourtModel" "verdict" "[I" ∈ wsX9_runsIn := by decide +kernel
theorem lkX9_runsIn_f38 : Cond.fieldLink RX9 38 "CoachCourtModel" "runs" "[Z" ∈ wsX9_runsIn := by decide +kernel
theorem lkX9_runsIn_f41 : Cond.fieldLink RX9 41 "CoachCourtModel" "besides" "[I" ∈ wsX9_runsIn := by decide +kernel
set_option maxHeartbeats 4000000 in
set_option maxRecDepth 100000 in
theorem wX9_runsIn_99 {p : Program} {l : Launch} {e : Env} {s : State} {m : MethodId} {args : Array Value} {below : List Frame} {meth : Method} {c : Code} {D : va_G} {t : Nat → ClassId} {κ : Nat → Nat} {A : Nat → Prop} {a_mo : Nat → Nat} {s_mo : S2} {lam : S6} {x1 : Int32} {x2 : Int32} {k0 : Int32} {k1 : Int32} {out : S2} (C : Cxt p s m args meth c cX9_runsIn 4 RX9 wsX9_runsIn none D t κ A) (hf : fX9_runsIn_99 s_mo x1 x2 k0 k1 = some out) : ∀ (H : Heap) (locs : List Loc) (ls : Array Slot), va_P D vwCl (wModel t a_mo s_mo lam) H → va_D A (wModel t a_mo s_mo lam) → va_S A s.heap H locs → lv_has ls 4 [(0, .ref (a_mo 0)), (1, .int x1), (2, .int x2)] → W p l e (rmL 3) s m args below meth c H locs 0 0 (MQ below (gQ D none (wModel t a_mo out lam) A) args s 0 0 A) (F0 m 99 ls [.int k0, .int k1, .ref (a_mo 10)]) := by
  obtain ⟨hx, hb, hr, hml, hown, hts, hC0, hlk, hA⟩ := id C
  have hK := hC0.1
  intro H locs ls hP hD hS hl
  unfold fX9_runsIn_99 at hf
  obtain ⟨b16, hf⟩ := gd_some hf
  obtain ⟨s17, hs17, hf⟩ := nm_ex hf
  refine va_zast hx hb hK hP hD hS 10 2 rfl rfl (ixb_in b16) dX9_runsIn_99 (fun H locs hP hD hS => ?_)
  have hP : va_P D vwCl (wModel t a_mo s17 lam) H := by rw [hs17]; exact hP
  have hD : va_D A (wModel t a_mo s17 lam) := by rw [hs17]; exact hD
  refine lv_aload_n hx hb dX9_runsIn_100 rfl (lv_at hl 0 rfl) ?_
  refine va_get (D := D) (ci := 9) (v := .ref (a_mo 11)) (C := RX9) (T := TX9) (N := 37) hx hb hts iwX9_runsIn_X9 hown hK hP 0 rfl rfl 24 (by decide) (hts _ lkX9_runsIn_f41) (fun _ h9 => h9) rfl dX9_runsIn_101 ?_
  refine lv_iload_n hx hb dX9_runsIn_104 rfl (lv_at hl 2 rfl) ?_
  refine lv_dup2_11 hx hb dX9_runsIn_105 rfl rfl ?_
  obtain ⟨b18, hf⟩ := gd_some hf
  refine va_iald hx hb hK hP 11 0 rfl rfl (ixb_in b18) dX9_runsIn_106 ?_
  refine lv_iconst (v := 1) hx hb dX9_runsIn_107 (by decide) ?_
  refine lv_iload_n hx hb dX9_runsIn_108 rfl (lv_at hl 1 rfl) ?_
  refine lv_ishl hx hb dX9_runsIn_109 ?_
  refine lv_ior hx hb dX9_runsIn_110 ?_
  obtain ⟨s19, hs19, hf⟩ := nm_ex hf
  refine va_iast hx hb hK hP hD hS 11 0 rfl rfl (ixb_in b18) dX9_runsIn_111 (fun H locs hP hD hS => ?_)
  have hP : va_P D vwCl (wModel t a_mo s19 lam) H := by rw [hs19]; exact hP
  have hD : va_D A (wModel t a_mo s19 lam) := by rw [hs19]; exact hD
  obtain rfl := so_eq hf
  exact g_vret C hP hD hS dX9_runsIn_112
set_option maxHeartbeats 4000000 in
set_option maxRecDepth 100000 in
theorem wX9_runsIn_84 {p : Program} {l : Launch} {e : Env} {s : State} {m : MethodId} {args : Array Value} {below : List Frame} {meth : Method} {c : Code} {D : va_G} {t : Nat → ClassId} {κ : Nat → Nat} {A : Nat → Prop} {a_mo : Nat → Nat} {s_mo : S2} {lam : S6} {x1 : Int32} {x2 : Int32} {x3 : Int32} {k0 : Int32} {k1 : Int32} {out : S2} (C : Cxt p s m args meth c cX9_runsIn 4 RX9 wsX9_runsIn none D t κ A) (hf : fX9_runsIn_84 s_mo x1 x2 x3 k0 k1 = some out) : ∀ (H : Heap) (locs : List Loc) (ls : Array Slot), va_P D vwCl (wModel t a_mo s_mo lam) H → va_D A (wModel t a_mo s_mo lam) → va_S A s.heap H locs → lv_has ls 4 [(0, .ref (a_mo 0)), (1, .int x1), (2, .int x2), (3, .int x3)] → W p l e (rmL 3) s m args below meth c H locs 0 0 (MQ below (gQ D none (wModel t a_mo out lam) A) args s 0 0 A) (F0 m 84 ls [.int k0, .int k1, .ref (a_mo 6)]) := by
  obtain ⟨hx, hb, hr, hml, hown, hts, hC0, hlk, hA⟩ := id C
  have hK := hC0.1
  intro H locs ls hP hD hS hl
  unfold fX9_runsIn_84 at hf
  obtain ⟨b13, hf⟩ := gd_some hf
  obtain ⟨s14, hs14, hf⟩ := nm_ex hf
  refine va_iast hx hb hK hP hD hS 6 0 rfl rfl (ixb_in b13) dX9_runsIn_84 (fun H locs hP hD hS => ?_)
  have hP : va_P D vwCl (wModel t a_mo s14 lam) H := by rw [hs14]; exact hP
  have hD : va_D A (wModel t a_mo s14 lam) := by rw [hs14]; exact hD
  refine lv_aload_n hx hb dX9_runsIn_85 rfl (lv_at hl 0 rfl) ?_
  refine va_get (D := D) (ci := 9) (v := .ref (a_mo 10)) (C := RX9) (T := TX9) (N := 37) hx hb hts iwX9_runsIn_X9 hown hK hP 0 rfl rfl 23 (by decide) (hts _ lkX9_runsIn_f38) (fun _ h9 => h9) rfl dX9_runsIn_86 ?_
  refine lv_iload_n hx hb dX9_runsIn_89 rfl (lv_at hl 1 rfl) ?_
  refine lv_iload_n hx hb dX9_runsIn_90 rfl (lv_at hl 3 rfl) ?_
  refine lv_if_ne (tgt := 98) hx hb dX9_runsIn_91 (by decide) (fun c15 => ?_) (fun c15 => ?_)
  · rw [if_neg c15] at hf
    refine lv_iconst (v := 0) hx hb dX9_runsIn_98 (by decide) ?_
    exact wX9_runsIn_99 C hf _ _ _ hP hD hS (lv_sub hl [0, 1, 2] rfl)
  · rw [if_pos c15] at hf
    refine lv_iconst (v := 1) hx hb dX9_runsIn_94 (by decide) ?_
    refine lv_goto (tgt := 99) hx hb dX9_runsIn_95 (by decide) ?_
    exact wX9_runsIn_99 C hf _ _ _ hP hD hS (lv_sub hl [0, 1, 2] rfl)
set_option maxHeartbeats 4000000 in
set_option maxRecDepth 100000 in
theorem wX9_runsIn_68 {p : Program} {l : Launch} {e : Env} {s : State} {m : MethodId} {args : Array Value} {below : List Frame} {meth : Method} {c : Code} {D : va_G} {t : Nat → ClassId} {κ : Nat → Nat} {A : Nat → Prop} {a_mo : Nat → Nat} {s_mo : S2} {lam : S6} {x1 : Int32} {x2 : Int32} {k0 : Int32} {out : S2} (C : Cxt p s m args meth c cX9_runsIn 4 RX9 wsX9_runsIn none D t κ A) (hf : fX9_runsIn_68 s_mo x1 x2 k0 = some out) : ∀ (H : Heap) (locs : List Loc) (ls : Array Slot), va_P D vwCl (wModel t a_mo s_mo lam) H → va_D A (wModel t a_mo s_mo lam) → va_S A s.heap H locs → lv_has ls 4 [(0, .ref (a_mo 0)), (1, .int x1), (2, .int x2)] → W p l e (rmL 3) s m args below meth c H locs 0 0 (MQ below (gQ D none (wModel t a_mo out lam) A) args s 0 0 A) (F0 m 68 ls [.int k0]) := by
  obtain ⟨hx, hb, hr, hml, hown, hts, hC0, hlk, hA⟩ := id C
  have hK := hC0.1
  intro H locs ls hP hD hS hl
  unfold fX9_runsIn_68 at hf
  refine lv_istore_n (lv' := [(3, .int k0), (0, .ref (a_mo 0)), (1, .int x1), (2, .int x2)]) hx hb dX9_runsIn_68 rfl hl (by decide) rfl (fun ls hl => ?_)
  refine lv_aload_n hx hb dX9_runsIn_69 rfl (lv_at hl 1 rfl) ?_
  refine va_get (D := D) (ci := 9) (v := .ref (a_mo 6)) (C := RX9) (T := TX9) (N := 37) hx hb hts iwX9_runsIn_X9 hown hK hP 0 rfl rfl 19 (by decide) (hts _ lkX9_runsIn_f26) (fun _ h9 => h9) rfl dX9_runsIn_70 ?_
  refine lv_iload_n hx hb dX9_runsIn_73 rfl (lv_at hl 2 rfl) ?_
  refine lv_iload_n hx hb dX9_runsIn_74 rfl (lv_at hl 0 rfl) ?_
  refine lv_if_eq (tgt := 82) hx hb dX9_runsIn_75 (by decide) (fun c12 => ?_) (fun c12 => ?_)
  · rw [if_pos c12] at hf
    refine lv_bipush (v := -4) hx hb dX9_runsIn_82 (by decide) ?_
    exact wX9_runsIn_84 C hf _ _ _ hP hD hS (lv_sub hl [1, 2, 3, 0] rfl)
  · rw [if_neg c12] at hf
    refine lv_iload_n hx hb dX9_runsIn_78 rfl (lv_at hl 3 rfl) ?_
    refine lv_goto (tgt := 84) hx hb dX9_runsIn_79 (by decide) ?_
    exact wX9_runsIn_84 C hf _ _ _ hP hD hS (lv_sub hl [1, 2, 3, 0] rfl)
set_option maxHeartbeats 4000000 in
set_option maxRecDepth 100000 in
theorem wX9_runsIn_46 {p : Program} {l : Launch} {e : Env} {s : State} {m : MethodId} {args : Array Value} {below : List Frame} {meth : Method} {c : Code} {D : va_G} {t : Nat → ClassId} {κ : Nat → Nat} {A : Nat → Prop} {a_mo : Nat → Nat} {s_mo : S2} {lam : S6} {x1 : Int32} {x2 : Int32} {k0 : Int32} {k1 : Int32} {k2 : Int32} {out : S2} (C : Cxt p s m args meth c cX9_runsIn 4 RX9 wsX9_runsIn none D t κ A) (hf : fX9_runsIn_46 s_mo x1 x2 k0 k1 k2 = some out) : ∀ (H : Heap) (locs : List Loc) (ls : Array Slot), va_P D vwCl (wModel t a_mo s_mo lam) H → va_D A (wModel t a_mo s_mo lam) → va_S A s.heap H locs → lv_has ls 4 [(0, .ref (a_mo 0)), (1, .int x1), (2, .int x2)] → W p l e (rmL 3) s m args below meth c H locs 0 0 (MQ below (gQ D none (wModel t a_mo out lam) A) args s 0 0 A) (F0 m 46 ls [.int k0, .int k1, .int k2, .ref (a_mo 8)]) := by
  obtain ⟨hx, hb, hr, hml, hown, hts, hC0, hlk, hA⟩ := id C
  have hK := hC0.1
  intro H locs ls hP hD hS hl
  unfold fX9_runsIn_46 at hf
  refine lv_iadd hx hb dX9_runsIn_46 ?_
  obtain ⟨b7, hf⟩ := gd_some hf
  obtain ⟨s8, hs8, hf⟩ := nm_ex hf
  refine va_iast hx hb hK hP hD hS 8 0 rfl rfl (ixb_in b7) dX9_runsIn_47 (fun H locs hP hD hS => ?_)
  have hP : va_P D vwCl (wModel t a_mo s8 lam) H := by rw [hs8]; exact hP
  have hD : va_D A (wModel t a_mo s8 lam) := by rw [hs8]; exact hD
  refine lv_aload_n hx hb dX9_runsIn_48 rfl (lv_at hl 0 rfl) ?_
  refine va_get (D := D) (ci := 9) (v := .ref (a_mo 8)) (C := RX9) (T := TX9) (N := 37) hx hb hts iwX9_runsIn_X9 hown hK hP 0 rfl rfl 21 (by decide) (hts _ lkX9_runsIn_f32) (fun _ h9 => h9) rfl dX9_runsIn_49 ?_
  refine lv_iload_n hx hb dX9_runsIn_52 rfl (lv_at hl 1 rfl) ?_
  obtain ⟨b9, hf⟩ := gd_some hf
  refine va_iald hx hb hK hP 8 0 rfl rfl (ixb_in b9) dX9_runsIn_53 ?_
  refine lv_aload_n hx hb dX9_runsIn_54 rfl (lv_at hl 0 rfl) ?_
  refine lv_iload_n hx hb dX9_runsIn_55 rfl (lv_at hl 1 rfl) ?_
  refine lv_iconst (v := 2) hx hb dX9_runsIn_56 (by decide) ?_
  obtain ⟨v10, ev10, hf⟩ := bd_some hf
  refine gk_V0 C (As := [.int x1, .int (2 : Int32)]) (rest := [.int (s8 8 (Int32.toNatClampNeg x1))]) (ci := 9) (q := (RX9, TX9, 37)) (q0 := 0) (cX9_of_ok (l := l) (D := D) (t := t) (κ := κ) (a_mo := a_mo) (lam := lam) ev10) gX9_runsIn_X9_of rfl ⟨rfl, rfl⟩ hdX9_of ⟨Nat.le_of_ble_eq_true rfl, Nat.le_of_ble_eq_true rfl⟩ rfl rfl hP hD hS rfl hl.1 (Nat.le_of_ble_eq_true rfl) dX9_runsIn_57 (Nat.zero_le _) (Nat.zero_le _) (fun H locs hP hD hS => ?_)
  refine W.eq (g2 := F0 m 60 ls [.int v10, .int (s8 8 (Int32.toNatClampNeg x1))]) rfl ?_
  refine lv_icmp_lt (tgt := 67) hx hb dX9_runsIn_60 (by decide) (fun c11 => ?_) (fun c11 => ?_)
  · rw [if_pos c11] at hf
    refine lv_iconst (v := 0) hx hb dX9_runsIn_67 (by decide) ?_
    exact wX9_runsIn_68 C hf _ _ _ hP hD hS (lv_sub hl [0, 1, 2] rfl)
  · rw [if_neg c11] at hf
    refine lv_iconst (v := 1) hx hb dX9_runsIn_63 (by decide) ?_
    refine lv_goto (tgt := 68) hx hb dX9_runsIn_64 (by decide) ?_
    exact wX9_runsIn_68 C hf _ _ _ hP hD hS (lv_sub hl [0, 1, 2] rfl)
set_option maxHeartbeats 4000000 in
set_option maxRecDepth 100000 in
theorem cX9_runsIn_ok {l : Launch} {D : va_G} {t : Nat → ClassId} {κ : Nat → Nat} {a_mo : Nat → Nat} {s_mo : S2} {lam : S6} {p1 : Int32} {p2 : Int32} {out : S2} (hf : fX9_runsIn s_mo p1 p2 = some out) : Ct l D t κ yX9_runsIn wsX9_runsIn (rmL 3) [.ref (a_mo 0), .int p1, .int p2] (wModel t a_mo s_mo lam) none (wModel t a_mo out lam) := by
  refine Ct.ofW (own := RX9) (cc := cX9_runsIn) (maxL := 4) (ret := none) (by decide) rfl rfl (Nat.le_of_ble_eq_true rfl) ?_
  intro p e s m below meth c A C hP hD ls hl
  have hS : va_S A s.heap s.heap [] := va_S.rf
  obtain ⟨hx, hb, hr, hml, hown, hts, hC0, hlk, hA⟩ := id C
  have hK := hC0.1
  have hl : lv_has ls 4 [(0, .ref (a_mo 0)), (1, .int p1), (2, .int p2)] := hl
  unfold fX9_runsIn at hf
  refine lv_aload_n hx hb dX9_runsIn_0 rfl (lv_at hl 0 rfl) ?_
  refine va_get (D := D) (ci := 9) (v := .ref (a_mo 9)) (C := RX9) (T := TX9) (N := 37) hx hb hts iwX9_runsIn_X9 hown hK hP 0 rfl rfl 22 (by decide) (hts _ lkX9_runsIn_f35) (fun _ h9 => h9) rfl dX9_runsIn_1 ?_
  refine lv_iload_n hx hb dX9_runsIn_4 rfl (lv_at hl 1 rfl) ?_
  refine lv_dup2_11 hx hb dX9_runsIn_5 rfl rfl ?_
  obtain ⟨b1, hf⟩ := gd_some hf
  refine va_iald hx hb hK hP 9 0 rfl rfl (ixb_in b1) dX9_runsIn_6 ?_
  refine lv_aload_n hx hb dX9_runsIn_7 rfl (lv_at hl 0 rfl) ?_
  refine lv_iload_n hx hb dX9_runsIn_8 rfl (lv_at hl 1 rfl) ?_
  refine lv_iload_n hx hb dX9_runsIn_9 rfl (lv_at hl 2 rfl) ?_
  obtain ⟨v2, ev2, hf⟩ := bd_some hf
  refine gk_V0 C (As := [.int p1, .int p2]) (rest := [.int (s_mo 9 (Int32.toNatClampNeg p1)), .int p1, .ref (a_mo 9)]) (ci := 9) (q := (RX9, TX9, 37)) (q0 := 0) (cX9_strainOf_ok (l := l) (D := D) (t := t) (κ := κ) (a_mo := a_mo) (lam := lam) ev2) gX9_runsIn_X9_strainOf rfl ⟨rfl, rfl⟩ hdX9_strainOf ⟨Nat.le_of_ble_eq_true rfl, Nat.le_of_ble_eq_true rfl⟩ rfl rfl hP hD hS rfl hl.1 (Nat.le_of_ble_eq_true rfl) dX9_runsIn_10 (Nat.zero_le _) (Nat.zero_le _) (fun H locs hP hD hS => ?_)
  refine W.eq (g2 := F0 m 13 ls [.int v2, .int (s_mo 9 (Int32.toNatClampNeg p1)), .int p1, .ref (a_mo 9)]) rfl ?_
  refine lv_isub hx hb dX9_runsIn_13 ?_
  obtain ⟨s3, hs3, hf⟩ := nm_ex hf
  refine va_iast hx hb hK hP hD hS 9 0 rfl rfl (ixb_in b1) dX9_runsIn_14 (fun H locs hP hD hS => ?_)
  have hP : va_P D vwCl (wModel t a_mo s3 lam) H := by rw [hs3]; exact hP
  have hD : va_D A (wModel t a_mo s3 lam) := by rw [hs3]; exact hD
  refine lv_aload_n hx hb dX9_runsIn_15 rfl (lv_at hl 0 rfl) ?_
  refine va_get (D := D) (ci := 9) (v := .ref (a_mo 8)) (C := RX9) (T := TX9) (N := 37) hx hb hts iwX9_runsIn_X9 hown hK hP 0 rfl rfl 21 (by decide) (hts _ lkX9_runsIn_f32) (fun _ h9 => h9) rfl dX9_runsIn_16 ?_
  refine lv_iload_n hx hb dX9_runsIn_19 rfl (lv_at hl 1 rfl) ?_
  refine lv_dup2_11 hx hb dX9_runsIn_20 rfl rfl ?_
  refine va_iald hx hb hK hP 8 0 rfl rfl (ixb_in b1) dX9_runsIn_21 ?_
  refine lv_aload_n hx hb dX9_runsIn_22 rfl (lv_at hl 0 rfl) ?_
  refine lv_iload_n hx hb dX9_runsIn_23 rfl (lv_at hl 2 rfl) ?_
  refine lv_iconst (v := 0) hx hb dX9_runsIn_24 (by decide) ?_
  obtain ⟨v4, ev4, hf⟩ := bd_some hf
  refine gk_V0 C (As := [.int p2, .int (0 : Int32)]) (rest := [.int (s3 8 (Int32.toNatClampNeg p1)), .int p1, .ref (a_mo 8)]) (ci := 9) (q := (RX9, TX9, 37)) (q0 := 0) (cX9_ofMile_ok (l := l) (D := D) (t := t) (κ := κ) (a_mo := a_mo) (lam := lam) ev4) gX9_runsIn_X9_ofMile rfl ⟨rfl, rfl⟩ hdX9_ofMile ⟨Nat.le_of_ble_eq_true rfl, Nat.le_of_ble_eq_true rfl⟩ rfl rfl hP hD hS rfl hl.1 (Nat.le_of_ble_eq_true rfl) dX9_runsIn_25 (Nat.zero_le _) (Nat.zero_le _) (fun H locs hP hD hS => ?_)
  refine W.eq (g2 := F0 m 28 ls [.int v4, .int (s3 8 (Int32.toNatClampNeg p1)), .int p1, .ref (a_mo 8)]) rfl ?_
  refine lv_aload_n hx hb dX9_runsIn_28 rfl (lv_at hl 0 rfl) ?_
  refine lv_iload_n hx hb dX9_runsIn_29 rfl (lv_at hl 1 rfl) ?_
  refine lv_iconst (v := 3) hx hb dX9_runsIn_30 (by decide) ?_
  obtain ⟨v5, ev5, hf⟩ := bd_some hf
  refine gk_V0 C (As := [.int p1, .int (3 : Int32)]) (rest := [.int v4, .int (s3 8 (Int32.toNatClampNeg p1)), .int p1, .ref (a_mo 8)]) (ci := 9) (q := (RX9, TX9, 37)) (q0 := 0) (cX9_of_ok (l := l) (D := D) (t := t) (κ := κ) (a_mo := a_mo) (lam := lam) ev5) gX9_runsIn_X9_of rfl ⟨rfl, rfl⟩ hdX9_of ⟨Nat.le_of_ble_eq_true rfl, Nat.le_of_ble_eq_true rfl⟩ rfl rfl hP hD hS rfl hl.1 (Nat.le_of_ble_eq_true rfl) dX9_runsIn_31 (Nat.zero_le _) (Nat.zero_le _) (fun H locs hP hD hS => ?_)
  refine W.eq (g2 := F0 m 34 ls [.int v5, .int v4, .int (s3 8 (Int32.toNatClampNeg p1)), .int p1, .ref (a_mo 8)]) rfl ?_
  refine lv_icmp_ne (tgt := 45) hx hb dX9_runsIn_34 (by decide) (fun c6 => ?_) (fun c6 => ?_)
  · rw [if_neg c6] at hf
    refine lv_iconst (v := 0) hx hb dX9_runsIn_45 (by decide) ?_
    exact wX9_runsIn_46 C hf _ _ _ hP hD hS (lv_sub hl [0, 1, 2] rfl)
  · rw [if_pos c6] at hf
    refine lv_aload_n hx hb dX9_runsIn_37 rfl (lv_at hl 0 rfl) ?_
    refine lv_iload_n hx hb dX9_runsIn_38 rfl (lv_at hl 2 rfl) ?_
    obtain ⟨v20, ev20, hf⟩ := bd_some hf
    refine gk_V0 C (As := [.int p2]) (rest := [.int (s3 8 (Int32.toNatClampNeg p1)), .int p1, .ref (a_mo 8)]) (ci := 9) (q := (RX9, TX9, 37)) (q0 := 0) (cX9_hearing_ok (l := l) (D := D) (t := t) (κ := κ) (a_mo := a_mo) (lam := lam) ev20) gX9_runsIn_X9_hearing rfl ⟨rfl, rfl⟩ hdX9_hearing ⟨Nat.le_of_ble_eq_true rfl, Nat.le_of_ble_eq_true rfl⟩ rfl rfl hP hD hS rfl hl.1 (Nat.le_of_ble_eq_true rfl) dX9_runsIn_39 (Nat.zero_le _) (Nat.zero_le _) (fun H locs hP hD hS => ?_)
    refine W.eq (g2 := F0 m 42 ls [.int v20, .int (s3 8 (Int32.toNatClampNeg p1)), .int p1, .ref (a_mo 8)]) rfl ?_
    refine lv_goto (tgt := 46) hx hb dX9_runsIn_42 (by decide) ?_
    exact wX9_runsIn_46 C hf _ _ _ hP hD hS (lv_sub hl [0, 1, 2] rfl)
/-! CoachCourtModel.mileGoes -/
def fX9_mileGoes_31 (s_mo : S2) (x1 : Int32) (x2 : Int32) (x3 : Int32) : Option ((Int32 × Int32 × S2) ⊕ (Int32 × Int32 × S2)) :=
  (fX9_canRun s_mo x3 x1 x2).bind fun v4 =>
  if v4 = (0 : Int32) then
    (gd (ixb x3 4) <|
    nm (sE s_mo 7 (Int32.toNatClampNeg x3) x1) fun s7 =>
    nm (sE s7 10 (Int32.toNatClampNeg x3) (vp_nar .boolean (0 : Int32))) fun s8 =>
    nm (x3 + (1 : Int32)) fun y9 =>
    some (.inl (x2, y9, s8)))
  else
    ((fX9_runsIn s_mo x3 x1).bind fun v10 =>
    nm (x2 + (1 : Int32)) fun y11 =>
    nm (x3 + (1 : Int32)) fun y12 =>
    some (.inl (y11, y12, v10)))
def fX9_mileGoes_b4 (s_mo : S2) (x1 : Int32) (x2 : Int32) (x3 : Int32) : Option ((Int32 × Int32 × S2) ⊕ (Int32 × Int32 × S2)) :=
  if (s_mo 0 1) ≤ x3 then
    (some (.inr (x2, x3, s_mo)))
  else
    ((fX9_of s_mo x3 (4 : Int32)).bind fun v2 =>
    if v2 = x1 then
      (fX9_mileGoes_31 s_mo x1 x2 x3)
    else
      (gd (ixb x3 4) <|
      if (s_mo 10 (Int32.toNatClampNeg x3)) = (0 : Int32) then
        (nm (x3 + (1 : Int32)) fun y15 =>
        some (.inl (x2, y15, s_mo)))
      else
        (fX9_mileGoes_31 s_mo x1 x2 x3)))
def fX9_mileGoes (s_mo : S2) (p1 : Int32) : Option (S2) :=
  (wh (fun (c : Int32 × Int32 × S2) => fX9_mileGoes_b4 c.2.2 p1 c.1 c.2.1) 5000 ((0 : Int32), (0 : Int32), s_mo)).bind fun x16 =>
  some x16.2.2
theorem hdX9_mileGoes : yX9_mileGoes.cls = RX9 ∧ yX9_mileGoes.cls ≠ "java/lang/invoke/MethodHandle" ∧ yX9_mileGoes.cls ≠ "java/lang/invoke/VarHandle" ∧ (parseMethodDescriptor yX9_mileGoes.desc).map (fun d => d.parameters.length) = some 1 := by decide +kernel
theorem iwX9_mileGoes_X9 : ∀ w ∈ wsX90, w ∈ wsX9_mileGoes := by decide +kernel
theorem lkX9_mileGoes_f84 : Cond.fieldLink RX9 84 "CoachCourtModel" "parties" "I" ∈ wsX9_mileGoes := by decide +kernel
theorem lkX9_mileGoes_f29 : Cond.fieldLink RX9 29 "CoachCourtModel" "falls" "[I" ∈ wsX9_mileGoes := by decide +kernel
theorem lkX9_mileGoes_f38 : Cond.fieldLink RX9 38 "CoachCourtModel" "runs" "[Z" ∈ wsX9_mileGoes := by decide +kernel
set_option maxHeartbeats 4000000 in
set_option maxRecDepth 100000 in
theorem wX9_mileGoes_31 {p : Program} {l : Launch} {e : Env} {s : State} {m : MethodId} {args : Array Value} {below : List Frame} {meth : Method} {c : Code} {D : va_G} {t : Nat → ClassId} {κ : Nat → Nat} {A : Nat → Prop} {a_mo : Nat → Nat} {s_mo : S2} {lam : S6} {x1 : Int32} {x2 : Int32} {x3 : Int32} {rv : Option Value} {w1 : va_W} {v : (Int32 × Int32 × S2) ⊕ (Int32 × Int32 × S2)} (C : Cxt p s m args meth c cX9_mileGoes 4 RX9 wsX9_mileGoes none D t κ A) (hf : fX9_mileGoes_31 s_mo x1 x2 x3 = some v) (HB : ∀ (z : Int32 × Int32 × S2), v = .inl z → ∀ (H : Heap) (locs : List Loc) (ls : Array Slot), va_P D vwCl (wModel t a_mo z.2.2 lam) H → va_D A (wModel t a_mo z.2.2 lam) → va_S A s.heap H locs → lv_has ls 4 [(0, .ref (a_mo 0)), (1, .int x1), (2, .int z.1), (3, .int z.2.1)] → W p l e (rmL 4) s m args below meth c H locs 0 0 (MQ below (gQ D rv w1 A) args s 0 0 A) (F0 m 4 ls [])) : ∀ (H : Heap) (locs : List Loc) (ls : Array Slot), va_P D vwCl (wModel t a_mo s_mo lam) H → va_D A (wModel t a_mo s_mo lam) → va_S A s.heap H locs → lv_has ls 4 [(0, .ref (a_mo 0)), (1, .int x1), (2, .int x2), (3, .int x3)] → W p l e (rmL 4) s m args below meth c H locs 0 0 (MQ below (gQ D rv w1 A) args s 0 0 A) (F0 m 31 ls []) := by
  obtain ⟨hx, hb, hr, hml, hown, hts, hC0, hlk, hA⟩ := id C
  have hK := hC0.1
  intro H locs ls hP hD hS hl
  unfold fX9_mileGoes_31 at hf
  refine lv_aload_n hx hb dX9_mileGoes_31 rfl (lv_at hl 0 rfl) ?_
  refine lv_iload_n hx hb dX9_mileGoes_32 rfl (lv_at hl 3 rfl) ?_
  refine lv_iload_n hx hb dX9_mileGoes_33 rfl (lv_at hl 1 rfl) ?_
  refine lv_iload_n hx hb dX9_mileGoes_34 rfl (lv_at hl 2 rfl) ?_
  obtain ⟨v4, ev4, hf⟩ := bd_some hf
  refine gk_V0 C (As := [.int x3, .int x1, .int x2]) (rest := []) (ci := 9) (q := (RX9, TX9, 37)) (q0 := 0) (cX9_canRun_ok (l := l) (D := D) (t := t) (κ := κ) (a_mo := a_mo) (lam := lam) ev4) gX9_mileGoes_X9_canRun rfl ⟨rfl, rfl⟩ hdX9_canRun ⟨Nat.le_of_ble_eq_true rfl, Nat.le_of_ble_eq_true rfl⟩ rfl rfl hP hD hS rfl hl.1 (Nat.le_of_ble_eq_true rfl) dX9_mileGoes_35 (Nat.zero_le _) (Nat.zero_le _) (fun H locs hP hD hS => ?_)
  refine W.eq (g2 := F0 m 38 ls [.int v4]) rfl ?_
  refine lv_if_eq (tgt := 53) hx hb dX9_mileGoes_38 (by decide) (fun c5 => ?_) (fun c5 => ?_)
  · rw [if_pos c5] at hf
    refine lv_aload_n hx hb dX9_mileGoes_53 rfl (lv_at hl 0 rfl) ?_
    refine va_get (D := D) (ci := 9) (v := .ref (a_mo 7)) (C := RX9) (T := TX9) (N := 37) hx hb hts iwX9_mileGoes_X9 hown hK hP 0 rfl rfl 20 (by decide) (hts _ lkX9_mileGoes_f29) (fun _ h9 => h9) rfl dX9_mileGoes_54 ?_
    refine lv_iload_n hx hb dX9_mileGoes_57 rfl (lv_at hl 3 rfl) ?_
    refine lv_iload_n hx hb dX9_mileGoes_58 rfl (lv_at hl 1 rfl) ?_
    obtain ⟨b6, hf⟩ := gd_some hf
    obtain ⟨s7, hs7, hf⟩ := nm_ex hf
    refine va_iast hx hb hK hP hD hS 7 0 rfl rfl (ixb_in b6) dX9_mileGoes_59 (fun H locs hP hD hS => ?_)
    have hP : va_P D vwCl (wModel t a_mo s7 lam) H := by rw [hs7]; exact hP
    have hD : va_D A (wModel t a_mo s7 lam) := by rw [hs7]; exact hD
    refine lv_aload_n hx hb dX9_mileGoes_60 rfl (lv_at hl 0 rfl) ?_
    refine va_get (D := D) (ci := 9) (v := .ref (a_mo 10)) (C := RX9) (T := TX9) (N := 37) hx hb hts iwX9_mileGoes_X9 hown hK hP 0 rfl rfl 23 (by decide) (hts _ lkX9_mileGoes_f38) (fun _ h9 => h9) rfl dX9_mileGoes_61 ?_
    refine lv_iload_n hx hb dX9_mileGoes_64 rfl (lv_at hl 3 rfl) ?_
    refine lv_iconst (v := 0) hx hb dX9_mileGoes_65 (by decide) ?_
    obtain ⟨s8, hs8, hf⟩ := nm_ex hf
    refine va_zast hx hb hK hP hD hS 10 2 rfl rfl (ixb_in b6) dX9_mileGoes_66 (fun H locs hP hD hS => ?_)
    have hP : va_P D vwCl (wModel t a_mo s8 lam) H := by rw [hs8]; exact hP
    have hD : va_D A (wModel t a_mo s8 lam) := by rw [hs8]; exact hD
    obtain ⟨y9, hy9, hf⟩ := nm_ex hf
    refine lv_iinc (v := y9) (lv' := [(3, .int y9), (0, .ref (a_mo 0)), (1, .int x1), (2, .int x2)]) hx hb dX9_mileGoes_67 hl (k := 3) rfl (by rw [hy9]; rfl) (by decide) rfl (fun ls hl => ?_)
    refine lv_goto (tgt := 4) hx hb dX9_mileGoes_70 (by decide) ?_
    obtain rfl := so_eq hf
    exact HB _ rfl _ _ _ hP hD hS (lv_sub hl [1, 2, 3, 0] rfl)
  · rw [if_neg c5] at hf
    refine lv_aload_n hx hb dX9_mileGoes_41 rfl (lv_at hl 0 rfl) ?_
    refine lv_iload_n hx hb dX9_mileGoes_42 rfl (lv_at hl 3 rfl) ?_
    refine lv_iload_n hx hb dX9_mileGoes_43 rfl (lv_at hl 1 rfl) ?_
    obtain ⟨v10, ev10, hf⟩ := bd_some hf
    refine gk_V0 C (As := [.int x3, .int x1]) (rest := []) (ci := 9) (q := (RX9, TX9, 37)) (q0 := 0) (cX9_runsIn_ok (l := l) (D := D) (t := t) (κ := κ) (a_mo := a_mo) (lam := lam) ev10) gX9_mileGoes_X9_runsIn rfl ⟨rfl, rfl⟩ hdX9_runsIn ⟨Nat.le_of_ble_eq_true rfl, Nat.le_of_ble_eq_true rfl⟩ rfl rfl hP hD hS rfl hl.1 (Nat.le_of_ble_eq_true rfl) dX9_mileGoes_44 (Nat.zero_le _) (Nat.zero_le _) (fun H locs hP hD hS => ?_)
    refine W.eq (g2 := F0 m 47 ls []) rfl ?_
    obtain ⟨y11, hy11, hf⟩ := nm_ex hf
    refine lv_iinc (v := y11) (lv' := [(2, .int y11), (0, .ref (a_mo 0)), (1, .int x1), (3, .int x3)]) hx hb dX9_mileGoes_47 hl (k := 2) rfl (by rw [hy11]; rfl) (by decide) rfl (fun ls hl => ?_)
    refine lv_goto (tgt := 67) hx hb dX9_mileGoes_50 (by decide) ?_
    obtain ⟨y12, hy12, hf⟩ := nm_ex hf
    refine lv_iinc (v := y12) (lv' := [(3, .int y12), (2, .int y11), (0, .ref (a_mo 0)), (1, .int x1)]) hx hb dX9_mileGoes_67 hl (k := 3) rfl (by rw [hy12]; rfl) (by decide) rfl (fun ls hl => ?_)
    refine lv_goto (tgt := 4) hx hb dX9_mileGoes_70 (by decide) ?_
    obtain rfl := so_eq hf
    exact HB _ rfl _ _ _ hP hD hS (lv_sub hl [2, 3, 1, 0] rfl)
set_option maxHeartbeats 4000000 in
set_option maxRecDepth 100000 in
theorem wX9_mileGoes_l4 {p : Program} {l : Launch} {e : Env} {s : State} {m : MethodId} {args : Array Value} {below : List Frame} {meth : Method} {c : Code} {D : va_G} {t : Nat → ClassId} {κ : Nat → Nat} {A : Nat → Prop} {a_mo : Nat → Nat} {lam : S6} {x1 : Int32} {rv : Option Value} {w1 : va_W} (C : Cxt p s m args meth c cX9_mileGoes 4 RX9 wsX9_mileGoes none D t κ A) : ∀ (n : Nat) (x2 : Int32) (x3 : Int32) (s_mo : S2) (x : Int32 × Int32 × S2), wh (fun (c : Int32 × Int32 × S2) => fX9_mileGoes_b4 c.2.2 x1 c.1 c.2.1) n (x2, x3, s_mo) = some x → (∀ (z : Int32 × Int32 × S2), x = z → ∀ (H : Heap) (locs : List Loc) (ls : Array Slot), va_P D vwCl (wModel t a_mo z.2.2 lam) H → va_D A (wModel t a_mo z.2.2 lam) → va_S A s.heap H locs → lv_has ls 4 [] → W p l e (rmL 4) s m args below meth c H locs 0 0 (MQ below (gQ D rv w1 A) args s 0 0 A) (F0 m 73 ls [])) → ∀ (H : Heap) (locs : List Loc) (ls : Array Slot), va_P D vwCl (wModel t a_mo s_mo lam) H → va_D A (wModel t a_mo s_mo lam) → va_S A s.heap H locs → lv_has ls 4 [(0, .ref (a_mo 0)), (1, .int x1), (2, .int x2), (3, .int x3)] → W p l e (rmL 4) s m args below meth c H locs 0 0 (MQ below (gQ D rv w1 A) args s 0 0 A) (F0 m 4 ls []) := by
  obtain ⟨hx, hb, hr, hml, hown, hts, hC0, hlk, hA⟩ := id C
  have hK := hC0.1
  intro n
  induction n with
  | zero =>
    intro x2 x3 s_mo x h
    exact (wh_0 h).elim
  | succ n ih =>
    intro x2 x3 s_mo x h HX H locs ls hP hD hS hl
    obtain ⟨v, hf, hB, hX⟩ := wh_step h
    have hf : fX9_mileGoes_b4 s_mo x1 x2 x3 = some v := hf
    have HB : ∀ (z : Int32 × Int32 × S2), v = .inl z → ∀ (H : Heap) (locs : List Loc) (ls : Array Slot), va_P D vwCl (wModel t a_mo z.2.2 lam) H → va_D A (wModel t a_mo z.2.2 lam) → va_S A s.heap H locs → lv_has ls 4 [(0, .ref (a_mo 0)), (1, .int x1), (2, .int z.1), (3, .int z.2.1)] → W p l e (rmL 4) s m args below meth c H locs 0 0 (MQ below (gQ D rv w1 A) args s 0 0 A) (F0 m 4 ls []) := fun z hz H locs ls hP hD hS hl => ih z.1 z.2.1 z.2.2 x (hB z hz) HX H locs ls hP hD hS hl
    have HX : ∀ (z : Int32 × Int32 × S2), v = .inr z → ∀ (H : Heap) (locs : List Loc) (ls : Array Slot), va_P D vwCl (wModel t a_mo z.2.2 lam) H → va_D A (wModel t a_mo z.2.2 lam) → va_S A s.heap H locs → lv_has ls 4 [] → W p l e (rmL 4) s m args below meth c H locs 0 0 (MQ below (gQ D rv w1 A) args s 0 0 A) (F0 m 73 ls []) := fun z hz => HX z (hX _ hz).symm
    unfold fX9_mileGoes_b4 at hf
    refine lv_iload_n hx hb dX9_mileGoes_4 rfl (lv_at hl 3 rfl) ?_
    refine lv_aload_n hx hb dX9_mileGoes_5 rfl (lv_at hl 0 rfl) ?_
    refine va_get (D := D) (ci := 9) (v := .int (s_mo 0 1)) (C := RX9) (T := TX9) (N := 37) hx hb hts iwX9_mileGoes_X9 hown hK hP 0 rfl rfl 4 (by decide) (hts _ lkX9_mileGoes_f84) (fun _ h9 => h9) rfl dX9_mileGoes_6 ?_
    refine lv_icmp_ge (tgt := 73) hx hb dX9_mileGoes_9 (by decide) (fun c1 => ?_) (fun c1 => ?_)
    · rw [if_pos c1] at hf
      obtain rfl := so_eq hf
      exact HX _ rfl _ _ _ hP hD hS (lv_sub hl [] rfl)
    · rw [if_neg c1] at hf
      refine lv_aload_n hx hb dX9_mileGoes_12 rfl (lv_at hl 0 rfl) ?_
      refine lv_iload_n hx hb dX9_mileGoes_13 rfl (lv_at hl 3 rfl) ?_
      refine lv_iconst (v := 4) hx hb dX9_mileGoes_14 (by decide) ?_
      obtain ⟨v2, ev2, hf⟩ := bd_some hf
      refine gk_V0 C (As := [.int x3, .int (4 : Int32)]) (rest := []) (ci := 9) (q := (RX9, TX9, 37)) (q0 := 0) (cX9_of_ok (l := l) (D := D) (t := t) (κ := κ) (a_mo := a_mo) (lam := lam) ev2) gX9_mileGoes_X9_of rfl ⟨rfl, rfl⟩ hdX9_of ⟨Nat.le_of_ble_eq_true rfl, Nat.le_of_ble_eq_true rfl⟩ rfl rfl hP hD hS rfl hl.1 (Nat.le_of_ble_eq_true rfl) dX9_mileGoes_15 (Nat.zero_le _) (Nat.zero_le _) (fun H locs hP hD hS => ?_)
      refine W.eq (g2 := F0 m 18 ls [.int v2]) rfl ?_
      refine lv_iload_n hx hb dX9_mileGoes_18 rfl (lv_at hl 1 rfl) ?_
      refine lv_icmp_eq (tgt := 31) hx hb dX9_mileGoes_19 (by decide) (fun c3 => ?_) (fun c3 => ?_)
      · rw [if_pos c3] at hf
        exact wX9_mileGoes_31 C hf HB _ _ _ hP hD hS (lv_sub hl [0, 1, 2, 3] rfl)
      · rw [if_neg c3] at hf
        refine lv_aload_n hx hb dX9_mileGoes_22 rfl (lv_at hl 0 rfl) ?_
        refine va_get (D := D) (ci := 9) (v := .ref (a_mo 10)) (C := RX9) (T := TX9) (N := 37) hx hb hts iwX9_mileGoes_X9 hown hK hP 0 rfl rfl 23 (by decide) (hts _ lkX9_mileGoes_f38) (fun _ h9 => h9) rfl dX9_mileGoes_23 ?_
        refine lv_iload_n hx hb dX9_mileGoes_26 rfl (lv_at hl 3 rfl) ?_
        obtain ⟨b13, hf⟩ := gd_some hf
        refine va_zald hx hb hK hP 10 2 rfl rfl (ixb_in b13) dX9_mileGoes_27 ?_
        refine lv_if_eq (tgt := 67) hx hb dX9_mileGoes_28 (by decide) (fun c14 => ?_) (fun c14 => ?_)
        · rw [if_pos c14] at hf
          obtain ⟨y15, hy15, hf⟩ := nm_ex hf
          refine lv_iinc (v := y15) (lv' := [(3, .int y15), (0, .ref (a_mo 0)), (1, .int x1), (2, .int x2)]) hx hb dX9_mileGoes_67 hl (k := 3) rfl (by rw [hy15]; rfl) (by decide) rfl (fun ls hl => ?_)
          refine lv_goto (tgt := 4) hx hb dX9_mileGoes_70 (by decide) ?_
          obtain rfl := so_eq hf
          exact HB _ rfl _ _ _ hP hD hS (lv_sub hl [1, 2, 3, 0] rfl)
        · rw [if_neg c14] at hf
          exact wX9_mileGoes_31 C hf HB _ _ _ hP hD hS (lv_sub hl [0, 1, 2, 3] rfl)
set_option maxHeartbeats 4000000 in
set_option maxRecDepth 100000 in
theorem cX9_mileGoes_ok {l : Launch} {D : va_G} {t : Nat → ClassId} {κ : Nat → Nat} {a_mo : Nat → Nat} {s_mo : S2} {lam : S6} {p1 : Int32} {out : S2} (hf : fX9_mileGoes s_mo p1 = some out) : Ct l D t κ yX9_mileGoes wsX9_mileGoes (rmL 4) [.ref (a_mo 0), .int p1] (wModel t a_mo s_mo lam) none (wModel t a_mo out lam) := by
  refine Ct.ofW (own := RX9) (cc := cX9_mileGoes) (maxL := 4) (ret := none) (by decide) rfl rfl (Nat.le_of_ble_eq_true rfl) ?_
  intro p e s m below meth c A C hP hD ls hl
  have hS : va_S A s.heap s.heap [] := va_S.rf
  obtain ⟨hx, hb, hr, hml, hown, hts, hC0, hlk, hA⟩ := id C
  have hK := hC0.1
  have hl : lv_has ls 4 [(0, .ref (a_mo 0)), (1, .int p1)] := hl
  unfold fX9_mileGoes at hf
  refine lv_iconst (v := 0) hx hb dX9_mileGoes_0 (by decide) ?_
  refine lv_istore_n (lv' := [(2, .int (0 : Int32)), (0, .ref (a_mo 0)), (1, .int p1)]) hx hb dX9_mileGoes_1 rfl hl (by decide) rfl (fun ls hl => ?_)
  refine lv_iconst (v := 0) hx hb dX9_mileGoes_2 (by decide) ?_
  refine lv_istore_n (lv' := [(3, .int (0 : Int32)), (2, .int (0 : Int32)), (0, .ref (a_mo 0)), (1, .int p1)]) hx hb dX9_mileGoes_3 rfl hl (by decide) rfl (fun ls hl => ?_)
  obtain ⟨x16, ex16, hf⟩ := bd_some hf
  refine wX9_mileGoes_l4 C 5000 (0 : Int32) (0 : Int32) s_mo x16 ex16 (fun c9 h9 H locs ls hP hD hS hl => ?_) _ _ _ hP hD hS (lv_sub hl [2, 3, 1, 0] rfl)
  subst h9
  obtain rfl := so_eq hf
  exact g_vret C hP hD hS dX9_mileGoes_73
/-! CoachCourtModel.drives -/
def fX9_drives_b9 (s_mo : S2) (x1 : Int32) (x2 : Int32) : Option ((Int32 × S2) ⊕ (Int32 × S2)) :=
  if (4 : Int32) ≤ x2 then
    (some (.inr (x2, s_mo)))
  else
    (gd (ixb x2 4) <|
    nm (sE s_mo 6 (Int32.toNatClampNeg x2) (-4 : Int32)) fun s4 =>
    nm (sE s4 7 (Int32.toNatClampNeg x2) (-4 : Int32)) fun s5 =>
    nm (sE s5 8 (Int32.toNatClampNeg x2) (0 : Int32)) fun s6 =>
    (fX9_of s6 x2 (1 : Int32)).bind fun v7 =>
    nm (sE s6 9 (Int32.toNatClampNeg x2) v7) fun s8 =>
    nm (sE s8 10 (Int32.toNatClampNeg x2) (vp_nar .boolean (0 : Int32))) fun s9 =>
    nm (x2 + (1 : Int32)) fun y10 =>
    some (.inl (y10, s9)))
def fX9_drives_b64 (s_mo : S2) (x1 : Int32) (x2 : Int32) : Option ((Int32 × S2) ⊕ (Int32 × S2)) :=
  if (8 : Int32) ≤ x2 then
    (some (.inr (x2, s_mo)))
  else
    (gd (ixb x2 8) <|
    nm (sE s_mo 11 (Int32.toNatClampNeg x2) (0 : Int32)) fun s14 =>
    nm (x2 + (1 : Int32)) fun y15 =>
    some (.inl (y15, s14)))
def fX9_drives_b83 (s_mo : S2) (x1 : Int32) : Option ((Int32 × S2) ⊕ (Int32 × S2)) :=
  if (s_mo 0 0) ≤ (s_mo 0 14) then
    (some (.inr (x1, s_mo)))
  else
    (if (s_mo 2 (Int32.toNatClampNeg (45 : Int32))) ≤ x1 then
      (some (.inr (x1, s_mo)))
    else
      ((fX9_mileGoes s_mo (s_mo 0 14)).bind fun v19 =>
      (fX9_minutes v19 (v19 0 14)).bind fun v20 =>
      nm (x1 + v20) fun y21 =>
      nm (sE v19 0 14 ((v19 0 14) + (1 : Int32))) fun s22 =>
      some (.inl (y21, s22))))
def fX9_drives (s_mo : S2) : Option (S2) :=
  nm (sE s_mo 0 14 (0 : Int32)) fun s1 =>
  (wh (fun (c : Int32 × S2) => fX9_drives_b9 c.2 (0 : Int32) c.1) 5000 ((0 : Int32), s1)).bind fun x11 =>
  (wh (fun (c : Int32 × S2) => fX9_drives_b64 c.2 (0 : Int32) c.1) 5000 ((0 : Int32), x11.2)).bind fun x16 =>
  (wh (fun (c : Int32 × S2) => fX9_drives_b83 c.2 c.1) 5000 ((0 : Int32), x16.2)).bind fun x23 =>
  some x23.2
theorem hdX9_drives : yX9_drives.cls = RX9 ∧ yX9_drives.cls ≠ "java/lang/invoke/MethodHandle" ∧ yX9_drives.cls ≠ "java/lang/invoke/VarHandle" ∧ (parseMethodDescriptor yX9_drives.desc).map (fun d => d.parameters.length) = some 0 := by decide +kernel
theorem iwX9_drives_X9 : ∀ w ∈ wsX90, w ∈ wsX9_drives := by decide +kernel
theorem lkX9_drives_f187 : Cond.fieldLink RX9 187 "CoachCourtModel" "driven" "I" ∈ wsX9_drives := by decide +kernel
theorem lkX9_drives_f26 : Cond.fieldLink RX9 26 "CoachCourtModel" "verdict" "[I" ∈ wsX9_drives := by decide +kernel
theorem lkX9_drives_f29 : Cond.fieldLink RX9 29 "CoachCourtModel" "falls" "[I" ∈ wsX9_drives := by decide +kernel
theorem lkX9_drives_f32 : Cond.fieldLink RX9 32 "CoachCourtModel" "heard" "[I" ∈ wsX9_drives := by decide +kernel
theorem lkX9_drives_f35 : Cond.fieldLink RX9 35 "CoachCourtModel" "wind" "[I" ∈ wsX9_drives := by decide +kernel
theorem lkX9_drives_f38 : Cond.fieldLink RX9 38 "CoachCourtModel" "runs" "[Z" ∈ wsX9_drives := by decide +kernel
theorem lkX9_drives_f41 : Cond.fieldLink RX9 41 "CoachCourtModel" "besides" "[I" ∈ wsX9_drives := by decide +kernel
theorem lkX9_drives_f81 : Cond.fieldLink RX9 81 "CoachCourtModel" "miles" "I" ∈ wsX9_drives := by decide +kernel
theorem lkX9_drives_f13 : Cond.fieldLink RX9 13 "CoachCourtModel" "now" "[I" ∈ wsX9_drives := by decide +kernel
set_option maxHeartbeats 4000000 in
set_option maxRecDepth 100000 in
theorem wX9_drives_l9 {p : Program} {l : Launch} {e : Env} {s : State} {m : MethodId} {args : Array Value} {below : List Frame} {meth : Method} {c : Code} {D : va_G} {t : Nat → ClassId} {κ : Nat → Nat} {A : Nat → Prop} {a_mo : Nat → Nat} {lam : S6} {x1 : Int32} {rv : Option Value} {w1 : va_W} (C : Cxt p s m args meth c cX9_drives 3 RX9 wsX9_drives none D t κ A) : ∀ (n : Nat) (x2 : Int32) (s_mo : S2) (x : Int32 × S2), wh (fun (c : Int32 × S2) => fX9_drives_b9 c.2 x1 c.1) n (x2, s_mo) = some x → (∀ (z : Int32 × S2), x = z → ∀ (H : Heap) (locs : List Loc) (ls : Array Slot), va_P D vwCl (wModel t a_mo z.2 lam) H → va_D A (wModel t a_mo z.2 lam) → va_S A s.heap H locs → lv_has ls 3 [(0, .ref (a_mo 0)), (1, .int x1)] → W p l e (rmL 5) s m args below meth c H locs 0 0 (MQ below (gQ D rv w1 A) args s 0 0 A) (F0 m 62 ls [])) → ∀ (H : Heap) (locs : List Loc) (ls : Array Slot), va_P D vwCl (wModel t a_mo s_mo lam) H → va_D A (wModel t a_mo s_mo lam) → va_S A s.heap H locs → lv_has ls 3 [(0, .ref (a_mo 0)), (1, .int x1), (2, .int x2)] → W p l e (rmL 5) s m args below meth c H locs 0 0 (MQ below (gQ D rv w1 A) args s 0 0 A) (F0 m 9 ls []) := by
  obtain ⟨hx, hb, hr, hml, hown, hts, hC0, hlk, hA⟩ := id C
  have hK := hC0.1
  intro n
  induction n with
  | zero =>
    intro x2 s_mo x h
    exact (wh_0 h).elim
  | succ n ih =>
    intro x2 s_mo x h HX H locs ls hP hD hS hl
    obtain ⟨v, hf, hB, hX⟩ := wh_step h
    have hf : fX9_drives_b9 s_mo x1 x2 = some v := hf
    have HB : ∀ (z : Int32 × S2), v = .inl z → ∀ (H : Heap) (locs : List Loc) (ls : Array Slot), va_P D vwCl (wModel t a_mo z.2 lam) H → va_D A (wModel t a_mo z.2 lam) → va_S A s.heap H locs → lv_has ls 3 [(0, .ref (a_mo 0)), (1, .int x1), (2, .int z.1)] → W p l e (rmL 5) s m args below meth c H locs 0 0 (MQ below (gQ D rv w1 A) args s 0 0 A) (F0 m 9 ls []) := fun z hz H locs ls hP hD hS hl => ih z.1 z.2 x (hB z hz) HX H locs ls hP hD hS hl
    have HX : ∀ (z : Int32 × S2), v = .inr z → ∀ (H : Heap) (locs : List Loc) (ls : Array Slot), va_P D vwCl (wModel t a_mo z.2 lam) H → va_D A (wModel t a_mo z.2 lam) → va_S A s.heap H locs → lv_has ls 3 [(0, .ref (a_mo 0)), (1, .int x1)] → W p l e (rmL 5) s m args below meth c H locs 0 0 (MQ below (gQ D rv w1 A) args s 0 0 A) (F0 m 62 ls []) := fun z hz => HX z (hX _ hz).symm
    unfold fX9_drives_b9 at hf
    refine lv_iload_n hx hb dX9_drives_9 rfl (lv_at hl 2 rfl) ?_
    refine lv_iconst (v := 4) hx hb dX9_drives_10 (by decide) ?_
    refine lv_icmp_ge (tgt := 62) hx hb dX9_drives_11 (by decide) (fun c2 => ?_) (fun c2 => ?_)
    · rw [if_pos c2] at hf
      obtain rfl := so_eq hf
      exact HX _ rfl _ _ _ hP hD hS (lv_sub hl [0, 1] rfl)
    · rw [if_neg c2] at hf
      refine lv_aload_n hx hb dX9_drives_14 rfl (lv_at hl 0 rfl) ?_
      refine va_get (D := D) (ci := 9) (v := .ref (a_mo 6)) (C := RX9) (T := TX9) (N := 37) hx hb hts iwX9_drives_X9 hown hK hP 0 rfl rfl 19 (by decide) (hts _ lkX9_drives_f26) (fun _ h9 => h9) rfl dX9_drives_15 ?_
      refine lv_iload_n hx hb dX9_drives_18 rfl (lv_at hl 2 rfl) ?_
      refine lv_bipush (v := -4) hx hb dX9_drives_19 (by decide) ?_
      obtain ⟨b3, hf⟩ := gd_some hf
      obtain ⟨s4, hs4, hf⟩ := nm_ex hf
      refine va_iast hx hb hK hP hD hS 6 0 rfl rfl (ixb_in b3) dX9_drives_21 (fun H locs hP hD hS => ?_)
      have hP : va_P D vwCl (wModel t a_mo s4 lam) H := by rw [hs4]; exact hP
      have hD : va_D A (wModel t a_mo s4 lam) := by rw [hs4]; exact hD
      refine lv_aload_n hx hb dX9_drives_22 rfl (lv_at hl 0 rfl) ?_
      refine va_get (D := D) (ci := 9) (v := .ref (a_mo 7)) (C := RX9) (T := TX9) (N := 37) hx hb hts iwX9_drives_X9 hown hK hP 0 rfl rfl 20 (by decide) (hts _ lkX9_drives_f29) (fun _ h9 => h9) rfl dX9_drives_23 ?_
      refine lv_iload_n hx hb dX9_drives_26 rfl (lv_at hl 2 rfl) ?_
      refine lv_bipush (v := -4) hx hb dX9_drives_27 (by decide) ?_
      obtain ⟨s5, hs5, hf⟩ := nm_ex hf
      refine va_iast hx hb hK hP hD hS 7 0 rfl rfl (ixb_in b3) dX9_drives_29 (fun H locs hP hD hS => ?_)
      have hP : va_P D vwCl (wModel t a_mo s5 lam) H := by rw [hs5]; exact hP
      have hD : va_D A (wModel t a_mo s5 lam) := by rw [hs5]; exact hD
      refine lv_aload_n hx hb dX9_drives_30 rfl (lv_at hl 0 rfl) ?_
      refine va_get (D := D) (ci := 9) (v := .ref (a_mo 8)) (C := RX9) (T := TX9) (N := 37) hx hb hts iwX9_drives_X9 hown hK hP 0 rfl rfl 21 (by decide) (hts _ lkX9_drives_f32) (fun _ h9 => h9) rfl dX9_drives_31 ?_
      refine lv_iload_n hx hb dX9_drives_34 rfl (lv_at hl 2 rfl) ?_
      refine lv_iconst (v := 0) hx hb dX9_drives_35 (by decide) ?_
      obtain ⟨s6, hs6, hf⟩ := nm_ex hf
      refine va_iast hx hb hK hP hD hS 8 0 rfl rfl (ixb_in b3) dX9_drives_36 (fun H locs hP hD hS => ?_)
      have hP : va_P D vwCl (wModel t a_mo s6 lam) H := by rw [hs6]; exact hP
      have hD : va_D A (wModel t a_mo s6 lam) := by rw [hs6]; exact hD
      refine lv_aload_n hx hb dX9_drives_37 rfl (lv_at hl 0 rfl) ?_
      refine va_get (D := D) (ci := 9) (v := .ref (a_mo 9)) (C := RX9) (T := TX9) (N := 37) hx hb hts iwX9_drives_X9 hown hK hP 0 rfl rfl 22 (by decide) (hts _ lkX9_drives_f35) (fun _ h9 => h9) rfl dX9_drives_38 ?_
      refine lv_iload_n hx hb dX9_drives_41 rfl (lv_at hl 2 rfl) ?_
      refine lv_aload_n hx hb dX9_drives_42 rfl (lv_at hl 0 rfl) ?_
      refine lv_iload_n hx hb dX9_drives_43 rfl (lv_at hl 2 rfl) ?_
      refine lv_iconst (v := 1) hx hb dX9_drives_44 (by decide) ?_
      obtain ⟨v7, ev7, hf⟩ := bd_some hf
      refine gk_V0 C (As := [.int x2, .int (1 : Int32)]) (rest := [.int x2, .ref (a_mo 9)]) (ci := 9) (q := (RX9, TX9, 37)) (q0 := 0) (cX9_of_ok (l := l) (D := D) (t := t) (κ := κ) (a_mo := a_mo) (lam := lam) ev7) gX9_drives_X9_of rfl ⟨rfl, rfl⟩ hdX9_of ⟨Nat.le_of_ble_eq_true rfl, Nat.le_of_ble_eq_true rfl⟩ rfl rfl hP hD hS rfl hl.1 (Nat.le_of_ble_eq_true rfl) dX9_drives_45 (Nat.zero_le _) (Nat.zero_le _) (fun H locs hP hD hS => ?_)
      refine W.eq (g2 := F0 m 48 ls [.int v7, .int x2, .ref (a_mo 9)]) rfl ?_
      obtain ⟨s8, hs8, hf⟩ := nm_ex hf
      refine va_iast hx hb hK hP hD hS 9 0 rfl rfl (ixb_in b3) dX9_drives_48 (fun H locs hP hD hS => ?_)
      have hP : va_P D vwCl (wModel t a_mo s8 lam) H := by rw [hs8]; exact hP
      have hD : va_D A (wModel t a_mo s8 lam) := by rw [hs8]; exact hD
      refine lv_aload_n hx hb dX9_drives_49 rfl (lv_at hl 0 rfl) ?_
      refine va_get (D := D) (ci := 9) (v := .ref (a_mo 10)) (C := RX9) (T := TX9) (N := 37) hx hb hts iwX9_drives_X9 hown hK hP 0 rfl rfl 23 (by decide) (hts _ lkX9_drives_f38) (fun _ h9 => h9) rfl dX9_drives_50 ?_
      refine lv_iload_n hx hb dX9_drives_53 rfl (lv_at hl 2 rfl) ?_
      refine lv_iconst (v := 0) hx hb dX9_drives_54 (by decide) ?_
      obtain ⟨s9, hs9, hf⟩ := nm_ex hf
      refine va_zast hx hb hK hP hD hS 10 2 rfl rfl (ixb_in b3) dX9_drives_55 (fun H locs hP hD hS => ?_)
      have hP : va_P D vwCl (wModel t a_mo s9 lam) H := by rw [hs9]; exact hP
      have hD : va_D A (wModel t a_mo s9 lam) := by rw [hs9]; exact hD
      obtain ⟨y10, hy10, hf⟩ := nm_ex hf
      refine lv_iinc (v := y10) (lv' := [(2, .int y10), (0, .ref (a_mo 0)), (1, .int x1)]) hx hb dX9_drives_56 hl (k := 2) rfl (by rw [hy10]; rfl) (by decide) rfl (fun ls hl => ?_)
      refine lv_goto (tgt := 9) hx hb dX9_drives_59 (by decide) ?_
      obtain rfl := so_eq hf
      exact HB _ rfl _ _ _ hP hD hS (lv_sub hl [1, 2, 0] rfl)
set_option maxHeartbeats 4000000 in
set_option maxRecDepth 100000 in
theorem wX9_drives_l64 {p : Program} {l : Launch} {e : Env} {s : State} {m : MethodId} {args : Array Value} {below : List Frame} {meth : Method} {c : Code} {D : va_G} {t : Nat → ClassId} {κ : Nat → Nat} {A : Nat → Prop} {a_mo : Nat → Nat} {lam : S6} {x1 : Int32} {rv : Option Value} {w1 : va_W} (C : Cxt p s m args meth c cX9_drives 3 RX9 wsX9_drives none D t κ A) : ∀ (n : Nat) (x2 : Int32) (s_mo : S2) (x : Int32 × S2), wh (fun (c : Int32 × S2) => fX9_drives_b64 c.2 x1 c.1) n (x2, s_mo) = some x → (∀ (z : Int32 × S2), x = z → ∀ (H : Heap) (locs : List Loc) (ls : Array Slot), va_P D vwCl (wModel t a_mo z.2 lam) H → va_D A (wModel t a_mo z.2 lam) → va_S A s.heap H locs → lv_has ls 3 [(0, .ref (a_mo 0)), (1, .int x1)] → W p l e (rmL 5) s m args below meth c H locs 0 0 (MQ below (gQ D rv w1 A) args s 0 0 A) (F0 m 83 ls [])) → ∀ (H : Heap) (locs : List Loc) (ls : Array Slot), va_P D vwCl (wModel t a_mo s_mo lam) H → va_D A (wModel t a_mo s_mo lam) → va_S A s.heap H locs → lv_has ls 3 [(0, .ref (a_mo 0)), (1, .int x1), (2, .int x2)] → W p l e (rmL 5) s m args below meth c H locs 0 0 (MQ below (gQ D rv w1 A) args s 0 0 A) (F0 m 64 ls []) := by
  obtain ⟨hx, hb, hr, hml, hown, hts, hC0, hlk, hA⟩ := id C
  have hK := hC0.1
  intro n
  induction n with
  | zero =>
    intro x2 s_mo x h
    exact (wh_0 h).elim
  | succ n ih =>
    intro x2 s_mo x h HX H locs ls hP hD hS hl
    obtain ⟨v, hf, hB, hX⟩ := wh_step h
    have hf : fX9_drives_b64 s_mo x1 x2 = some v := hf
    have HB : ∀ (z : Int32 × S2), v = .inl z → ∀ (H : Heap) (locs : List Loc) (ls : Array Slot), va_P D vwCl (wModel t a_mo z.2 lam) H → va_D A (wModel t a_mo z.2 lam) → va_S A s.heap H locs → lv_has ls 3 [(0, .ref (a_mo 0)), (1, .int x1), (2, .int z.1)] → W p l e (rmL 5) s m args below meth c H locs 0 0 (MQ below (gQ D rv w1 A) args s 0 0 A) (F0 m 64 ls []) := fun z hz H locs ls hP hD hS hl => ih z.1 z.2 x (hB z hz) HX H locs ls hP hD hS hl
    have HX : ∀ (z : Int32 × S2), v = .inr z → ∀ (H : Heap) (locs : List Loc) (ls : Array Slot), va_P D vwCl (wModel t a_mo z.2 lam) H → va_D A (wModel t a_mo z.2 lam) → va_S A s.heap H locs → lv_has ls 3 [(0, .ref (a_mo 0)), (1, .int x1)] → W p l e (rmL 5) s m args below meth c H locs 0 0 (MQ below (gQ D rv w1 A) args s 0 0 A) (F0 m 83 ls []) := fun z hz => HX z (hX _ hz).symm
    unfold fX9_drives_b64 at hf
    refine lv_iload_n hx hb dX9_drives_64 rfl (lv_at hl 2 rfl) ?_
    refine lv_bipush (v := 8) hx hb dX9_drives_65 (by decide) ?_
    refine lv_icmp_ge (tgt := 83) hx hb dX9_drives_67 (by decide) (fun c12 => ?_) (fun c12 => ?_)
    · rw [if_pos c12] at hf
      obtain rfl := so_eq hf
      exact HX _ rfl _ _ _ hP hD hS (lv_sub hl [0, 1] rfl)
    · rw [if_neg c12] at hf
      refine lv_aload_n hx hb dX9_drives_70 rfl (lv_at hl 0 rfl) ?_
      refine va_get (D := D) (ci := 9) (v := .ref (a_mo 11)) (C := RX9) (T := TX9) (N := 37) hx hb hts iwX9_drives_X9 hown hK hP 0 rfl rfl 24 (by decide) (hts _ lkX9_drives_f41) (fun _ h9 => h9) rfl dX9_drives_71 ?_
      refine lv_iload_n hx hb dX9_drives_74 rfl (lv_at hl 2 rfl) ?_
      refine lv_iconst (v := 0) hx hb dX9_drives_75 (by decide) ?_
      obtain ⟨b13, hf⟩ := gd_some hf
      obtain ⟨s14, hs14, hf⟩ := nm_ex hf
      refine va_iast hx hb hK hP hD hS 11 0 rfl rfl (ixb_in b13) dX9_drives_76 (fun H locs hP hD hS => ?_)
      have hP : va_P D vwCl (wModel t a_mo s14 lam) H := by rw [hs14]; exact hP
      have hD : va_D A (wModel t a_mo s14 lam) := by rw [hs14]; exact hD
      obtain ⟨y15, hy15, hf⟩ := nm_ex hf
      refine lv_iinc (v := y15) (lv' := [(2, .int y15), (0, .ref (a_mo 0)), (1, .int x1)]) hx hb dX9_drives_77 hl (k := 2) rfl (by rw [hy15]; rfl) (by decide) rfl (fun ls hl => ?_)
      refine lv_goto (tgt := 64) hx hb dX9_drives_80 (by decide) ?_
      obtain rfl := so_eq hf
      exact HB _ rfl _ _ _ hP hD hS (lv_sub hl [1, 2, 0] rfl)
set_option maxHeartbeats 4000000 in
set_option maxRecDepth 100000 in
theorem wX9_drives_l83 {p : Program} {l : Launch} {e : Env} {s : State} {m : MethodId} {args : Array Value} {below : List Frame} {meth : Method} {c : Code} {D : va_G} {t : Nat → ClassId} {κ : Nat → Nat} {A : Nat → Prop} {a_mo : Nat → Nat} {lam : S6} {rv : Option Value} {w1 : va_W} (C : Cxt p s m args meth c cX9_drives 3 RX9 wsX9_drives none D t κ A) : ∀ (n : Nat) (x1 : Int32) (s_mo : S2) (x : Int32 × S2), wh (fun (c : Int32 × S2) => fX9_drives_b83 c.2 c.1) n (x1, s_mo) = some x → (∀ (z : Int32 × S2), x = z → ∀ (H : Heap) (locs : List Loc) (ls : Array Slot), va_P D vwCl (wModel t a_mo z.2 lam) H → va_D A (wModel t a_mo z.2 lam) → va_S A s.heap H locs → lv_has ls 3 [] → W p l e (rmL 5) s m args below meth c H locs 0 0 (MQ below (gQ D rv w1 A) args s 0 0 A) (F0 m 137 ls [])) → ∀ (H : Heap) (locs : List Loc) (ls : Array Slot), va_P D vwCl (wModel t a_mo s_mo lam) H → va_D A (wModel t a_mo s_mo lam) → va_S A s.heap H locs → lv_has ls 3 [(0, .ref (a_mo 0)), (1, .int x1)] → W p l e (rmL 5) s m args below meth c H locs 0 0 (MQ below (gQ D rv w1 A) args s 0 0 A) (F0 m 83 ls []) := by
  obtain ⟨hx, hb, hr, hml, hown, hts, hC0, hlk, hA⟩ := id C
  have hK := hC0.1
  intro n
  induction n with
  | zero =>
    intro x1 s_mo x h
    exact (wh_0 h).elim
  | succ n ih =>
    intro x1 s_mo x h HX H locs ls hP hD hS hl
    obtain ⟨v, hf, hB, hX⟩ := wh_step h
    have hf : fX9_drives_b83 s_mo x1 = some v := hf
    have HB : ∀ (z : Int32 × S2), v = .inl z → ∀ (H : Heap) (locs : List Loc) (ls : Array Slot), va_P D vwCl (wModel t a_mo z.2 lam) H → va_D A (wModel t a_mo z.2 lam) → va_S A s.heap H locs → lv_has ls 3 [(0, .ref (a_mo 0)), (1, .int z.1)] → W p l e (rmL 5) s m args below meth c H locs 0 0 (MQ below (gQ D rv w1 A) args s 0 0 A) (F0 m 83 ls []) := fun z hz H locs ls hP hD hS hl => ih z.1 z.2 x (hB z hz) HX H locs ls hP hD hS hl
    have HX : ∀ (z : Int32 × S2), v = .inr z → ∀ (H : Heap) (locs : List Loc) (ls : Array Slot), va_P D vwCl (wModel t a_mo z.2 lam) H → va_D A (wModel t a_mo z.2 lam) → va_S A s.heap H locs → lv_has ls 3 [] → W p l e (rmL 5) s m args below meth c H locs 0 0 (MQ below (gQ D rv w1 A) args s 0 0 A) (F0 m 137 ls []) := fun z hz => HX z (hX _ hz).symm
    unfold fX9_drives_b83 at hf
    refine lv_aload_n hx hb dX9_drives_83 rfl (lv_at hl 0 rfl) ?_
    refine va_get (D := D) (ci := 9) (v := .int (s_mo 0 14)) (C := RX9) (T := TX9) (N := 37) hx hb hts iwX9_drives_X9 hown hK hP 0 rfl rfl 25 (by decide) (hts _ lkX9_drives_f187) (fun _ h9 => h9) rfl dX9_drives_84 ?_
    refine lv_aload_n hx hb dX9_drives_87 rfl (lv_at hl 0 rfl) ?_
    refine va_get (D := D) (ci := 9) (v := .int (s_mo 0 0)) (C := RX9) (T := TX9) (N := 37) hx hb hts iwX9_drives_X9 hown hK hP 0 rfl rfl 3 (by decide) (hts _ lkX9_drives_f81) (fun _ h9 => h9) rfl dX9_drives_88 ?_
    refine lv_icmp_ge (tgt := 137) hx hb dX9_drives_91 (by decide) (fun c17 => ?_) (fun c17 => ?_)
    · rw [if_pos c17] at hf
      obtain rfl := so_eq hf
      exact HX _ rfl _ _ _ hP hD hS (lv_sub hl [] rfl)
    · rw [if_neg c17] at hf
      refine lv_iload_n hx hb dX9_drives_94 rfl (lv_at hl 1 rfl) ?_
      refine lv_aload_n hx hb dX9_drives_95 rfl (lv_at hl 0 rfl) ?_
      refine va_get (D := D) (ci := 9) (v := .ref (a_mo 2)) (C := RX9) (T := TX9) (N := 37) hx hb hts iwX9_drives_X9 hown hK hP 0 rfl rfl 1 (by decide) (hts _ lkX9_drives_f13) (fun _ h9 => h9) rfl dX9_drives_96 ?_
      refine lv_bipush (v := 45) hx hb dX9_drives_99 (by decide) ?_
      refine va_iald hx hb hK hP 2 0 rfl rfl (ixb_in (by decide)) dX9_drives_101 ?_
      refine lv_icmp_ge (tgt := 137) hx hb dX9_drives_102 (by decide) (fun c18 => ?_) (fun c18 => ?_)
      · rw [if_pos c18] at hf
        obtain rfl := so_eq hf
        exact HX _ rfl _ _ _ hP hD hS (lv_sub hl [] rfl)
      · rw [if_neg c18] at hf
        refine lv_aload_n hx hb dX9_drives_105 rfl (lv_at hl 0 rfl) ?_
        refine lv_aload_n hx hb dX9_drives_106 rfl (lv_at hl 0 rfl) ?_
        refine va_get (D := D) (ci := 9) (v := .int (s_mo 0 14)) (C := RX9) (T := TX9) (N := 37) hx hb hts iwX9_drives_X9 hown hK hP 0 rfl rfl 25 (by decide) (hts _ lkX9_drives_f187) (fun _ h9 => h9) rfl dX9_drives_107 ?_
        obtain ⟨v19, ev19, hf⟩ := bd_some hf
        refine gk_V0 C (As := [.int (s_mo 0 14)]) (rest := []) (ci := 9) (q := (RX9, TX9, 37)) (q0 := 0) (cX9_mileGoes_ok (l := l) (D := D) (t := t) (κ := κ) (a_mo := a_mo) (lam := lam) ev19) gX9_drives_X9_mileGoes rfl ⟨rfl, rfl⟩ hdX9_mileGoes ⟨Nat.le_of_ble_eq_true rfl, Nat.le_of_ble_eq_true rfl⟩ rfl rfl hP hD hS rfl hl.1 (Nat.le_of_ble_eq_true rfl) dX9_drives_110 (Nat.zero_le _) (Nat.zero_le _) (fun H locs hP hD hS => ?_)
        refine W.eq (g2 := F0 m 113 ls []) rfl ?_
        refine lv_iload_n hx hb dX9_drives_113 rfl (lv_at hl 1 rfl) ?_
        refine lv_aload_n hx hb dX9_drives_114 rfl (lv_at hl 0 rfl) ?_
        refine lv_aload_n hx hb dX9_drives_115 rfl (lv_at hl 0 rfl) ?_
        refine va_get (D := D) (ci := 9) (v := .int (v19 0 14)) (C := RX9) (T := TX9) (N := 37) hx hb hts iwX9_drives_X9 hown hK hP 0 rfl rfl 25 (by decide) (hts _ lkX9_drives_f187) (fun _ h9 => h9) rfl dX9_drives_116 ?_
        obtain ⟨v20, ev20, hf⟩ := bd_some hf
        refine gk_V0 C (As := [.int (v19 0 14)]) (rest := [.int x1]) (ci := 9) (q := (RX9, TX9, 37)) (q0 := 0) (cX9_minutes_ok (l := l) (D := D) (t := t) (κ := κ) (a_mo := a_mo) (lam := lam) ev20) gX9_drives_X9_minutes rfl ⟨rfl, rfl⟩ hdX9_minutes ⟨Nat.le_of_ble_eq_true rfl, Nat.le_of_ble_eq_true rfl⟩ rfl rfl hP hD hS rfl hl.1 (Nat.le_of_ble_eq_true rfl) dX9_drives_119 (Nat.zero_le _) (Nat.zero_le _) (fun H locs hP hD hS => ?_)
        refine W.eq (g2 := F0 m 122 ls [.int v20, .int x1]) rfl ?_
        refine lv_iadd hx hb dX9_drives_122 ?_
        obtain ⟨y21, hy21, hf⟩ := nm_ex hf
        refine W.eq (g2 := F0 m 123 ls [.int y21]) (by rw [hy21]) ?_
        refine lv_istore_n (lv' := [(1, .int y21), (0, .ref (a_mo 0))]) hx hb dX9_drives_123 rfl hl (by decide) rfl (fun ls hl => ?_)
        refine lv_aload_n hx hb dX9_drives_124 rfl (lv_at hl 1 rfl) ?_
        refine lv_dup hx hb dX9_drives_125 rfl ?_
        refine va_get (D := D) (ci := 9) (v := .int (v19 0 14)) (C := RX9) (T := TX9) (N := 37) hx hb hts iwX9_drives_X9 hown hK hP 0 rfl rfl 25 (by decide) (hts _ lkX9_drives_f187) (fun _ h9 => h9) rfl dX9_drives_126 ?_
        refine lv_iconst (v := 1) hx hb dX9_drives_129 (by decide) ?_
        refine lv_iadd hx hb dX9_drives_130 ?_
        obtain ⟨s22, hs22, hf⟩ := nm_ex hf
        refine va_put (D := D) (ci := 9) (v := .int ((v19 0 14) + (1 : Int32))) (ty := .int) (C := RX9) (T := TX9) (N := 37) hx hb hts iwX9_drives_X9 tyX9 tyX9_ok nmX9 hown hK hP hD hS 0 rfl rfl 25 (by decide) (hts _ lkX9_drives_f187) (fun _ h9 => h9) rfl (by decide +kernel) rfl rfl (Nat.le_of_ble_eq_true rfl) dX9_drives_131 (fun H locs hP hD hS => ?_)
        have hP : va_P D vwCl (wModel t a_mo s22 lam) H := by rw [hs22]; exact hP
        have hD : va_D A (wModel t a_mo s22 lam) := by rw [hs22]; exact hD
        refine lv_goto (tgt := 83) hx hb dX9_drives_134 (by decide) ?_
        obtain rfl := so_eq hf
        exact HB _ rfl _ _ _ hP hD hS (lv_sub hl [1, 0] rfl)
set_option maxHeartbeats 4000000 in
set_option maxRecDepth 100000 in
theorem cX9_drives_ok {l : Launch} {D : va_G} {t : Nat → ClassId} {κ : Nat → Nat} {a_mo : Nat → Nat} {s_mo : S2} {lam : S6} {out : S2} (hf : fX9_drives s_mo = some out) : Ct l D t κ yX9_drives wsX9_drives (rmL 5) [.ref (a_mo 0)] (wModel t a_mo s_mo lam) none (wModel t a_mo out lam) := by
  refine Ct.ofW (own := RX9) (cc := cX9_drives) (maxL := 3) (ret := none) (by decide) rfl rfl (Nat.le_of_ble_eq_true rfl) ?_
  intro p e s m below meth c A C hP hD ls hl
  have hS : va_S A s.heap s.heap [] := va_S.rf
  obtain ⟨hx, hb, hr, hml, hown, hts, hC0, hlk, hA⟩ := id C
  have hK := hC0.1
  have hl : lv_has ls 3 [(0, .ref (a_mo 0))] := hl
  unfold fX9_drives at hf
  refine lv_iconst (v := 0) hx hb dX9_drives_0 (by decide) ?_
  refine lv_istore_n (lv' := [(1, .int (0 : Int32)), (0, .ref (a_mo 0))]) hx hb dX9_drives_1 rfl hl (by decide) rfl (fun ls hl => ?_)
  refine lv_aload_n hx hb dX9_drives_2 rfl (lv_at hl 1 rfl) ?_
  refine lv_iconst (v := 0) hx hb dX9_drives_3 (by decide) ?_
  obtain ⟨s1, hs1, hf⟩ := nm_ex hf
  refine va_put (D := D) (ci := 9) (v := .int (0 : Int32)) (ty := .int) (C := RX9) (T := TX9) (N := 37) hx hb hts iwX9_drives_X9 tyX9 tyX9_ok nmX9 hown hK hP hD hS 0 rfl rfl 25 (by decide) (hts _ lkX9_drives_f187) (fun _ h9 => h9) rfl (by decide +kernel) rfl rfl (Nat.le_of_ble_eq_true rfl) dX9_drives_4 (fun H locs hP hD hS => ?_)
  have hP : va_P D vwCl (wModel t a_mo s1 lam) H := by rw [hs1]; exact hP
  have hD : va_D A (wModel t a_mo s1 lam) := by rw [hs1]; exact hD
  refine lv_iconst (v := 0) hx hb dX9_drives_7 (by decide) ?_
  refine lv_istore_n (lv' := [(2, .int (0 : Int32)), (1, .int (0 : Int32)), (0, .ref (a_mo 0))]) hx hb dX9_drives_8 rfl hl (by decide) rfl (fun ls hl => ?_)
  obtain ⟨x11, ex11, hf⟩ := bd_some hf
  refine wX9_drives_l9 C 5000 (0 : Int32) s1 x11 ex11 (fun c9 h9 H locs ls hP hD hS hl => ?_) _ _ _ hP hD hS (lv_sub hl [2, 1, 0] rfl)
  subst h9
  refine lv_iconst (v := 0) hx hb dX9_drives_62 (by decide) ?_
  refine lv_istore_n (lv' := [(2, .int (0 : Int32)), (0, .ref (a_mo 0)), (1, .int (0 : Int32))]) hx hb dX9_drives_63 rfl hl (by decide) rfl (fun ls hl => ?_)
  obtain ⟨x16, ex16, hf⟩ := bd_some hf
  refine wX9_drives_l64 C 5000 (0 : Int32) x11.2 x16 ex16 (fun c9 h9 H locs ls hP hD hS hl => ?_) _ _ _ hP hD hS (lv_sub hl [1, 2, 0] rfl)
  subst h9
  obtain ⟨x23, ex23, hf⟩ := bd_some hf
  refine wX9_drives_l83 C 5000 (0 : Int32) x16.2 x23 ex23 (fun c9 h9 H locs ls hP hD hS hl => ?_) _ _ _ hP hD hS (lv_sub hl [0, 1] rfl)
  subst h9
  obtain rfl := so_eq hf
  exact g_vret C hP hD hS dX9_drives_137
/-! CoachCourtModel.verdicts -/
def fX9_verdicts_29 (s_mo : S2) (x2 : Int32) (k0 : Int32) (k1 : Int32) : Option ((Int32 × Int32) ⊕ (Int32 × Int32)) :=
  (fX9_flag k0).bind fun v4 =>
  nm (k1 ||| (v4 <<< (x2 &&& 31))) fun y5 =>
  nm (x2 + (1 : Int32)) fun y6 =>
  some (.inl (y5, y6))
def fX9_verdicts_b4 (s_mo : S2) (x1 : Int32) (x2 : Int32) : Option ((Int32 × Int32) ⊕ (Int32 × Int32)) :=
  if (s_mo 0 1) ≤ x2 then
    (some (.inr (x1, x2)))
  else
    (gd (ixb x2 4) <|
    if (s_mo 6 (Int32.toNatClampNeg x2)) = (-4 : Int32) then
      (fX9_verdicts_29 s_mo x2 (0 : Int32) x1)
    else
      (fX9_verdicts_29 s_mo x2 (1 : Int32) x1))
def fX9_verdicts (s_mo : S2) : Option (Int32) :=
  (wh (fun (c : Int32 × Int32) => fX9_verdicts_b4 s_mo c.1 c.2) 5000 ((0 : Int32), (0 : Int32))).bind fun x7 =>
  some x7.1
theorem hdX9_verdicts : yX9_verdicts.cls = RX9 ∧ yX9_verdicts.cls ≠ "java/lang/invoke/MethodHandle" ∧ yX9_verdicts.cls ≠ "java/lang/invoke/VarHandle" ∧ (parseMethodDescriptor yX9_verdicts.desc).map (fun d => d.parameters.length) = some 0 := by decide +kernel
theorem iwX9_verdicts_X9 : ∀ w ∈ wsX90, w ∈ wsX9_verdicts := by decide +kernel
theorem lkX9_verdicts_f84 : Cond.fieldLink RX9 84 "CoachCourtModel" "parties" "I" ∈ wsX9_verdicts := by decide +kernel
theorem lkX9_verdicts_f26 : Cond.fieldLink RX9 26 "CoachCourtModel" "verdict" "[I" ∈ wsX9_verdicts := by decide +kernel
set_option maxHeartbeats 4000000 in
set_option maxRecDepth 100000 in
theorem wX9_verdicts_29 {p : Program} {l : Launch} {e : Env} {s : State} {m : MethodId} {args : Array Value} {below : List Frame} {meth : Method} {c : Code} {D : va_G} {t : Nat → ClassId} {κ : Nat → Nat} {A : Nat → Prop} {a_mo : Nat → Nat} {s_mo : S2} {lam : S6} {x2 : Int32} {k0 : Int32} {k1 : Int32} {rv : Option Value} {w1 : va_W} {v : (Int32 × Int32) ⊕ (Int32 × Int32)} (C : Cxt p s m args meth c cX9_verdicts 3 RX9 wsX9_verdicts (some .int) D t κ A) (hf : fX9_verdicts_29 s_mo x2 k0 k1 = some v) (HB : ∀ (z : Int32 × Int32), v = .inl z → ∀ (H : Heap) (locs : List Loc) (ls : Array Slot), va_P D vwCl (wModel t a_mo s_mo lam) H → va_D A (wModel t a_mo s_mo lam) → va_S A s.heap H locs → lv_has ls 3 [(0, .ref (a_mo 0)), (1, .int z.1), (2, .int z.2)] → W p l e (rmL 1) s m args below meth c H locs 0 0 (MQ below (gQ D rv w1 A) args s 0 0 A) (F0 m 4 ls [])) : ∀ (H : Heap) (locs : List Loc) (ls : Array Slot), va_P D vwCl (wModel t a_mo s_mo lam) H → va_D A (wModel t a_mo s_mo lam) → va_S A s.heap H locs → lv_has ls 3 [(0, .ref (a_mo 0)), (2, .int x2)] → W p l e (rmL 1) s m args below meth c H locs 0 0 (MQ below (gQ D rv w1 A) args s 0 0 A) (F0 m 29 ls [.int k0, .int k1]) := by
  obtain ⟨hx, hb, hr, hml, hown, hts, hC0, hlk, hA⟩ := id C
  have hK := hC0.1
  intro H locs ls hP hD hS hl
  unfold fX9_verdicts_29 at hf
  obtain ⟨v4, ev4, hf⟩ := bd_some hf
  refine gk_S C (As := [.int k0]) (rest := [.int k1]) (cX9_flag_ok (l := l) (D := D) (t := t) (κ := κ) ev4) gX9_verdicts_X9_flag rfl ⟨rfl, rfl⟩ hdX9_flag ⟨Nat.le_of_ble_eq_true rfl, Nat.le_of_ble_eq_true rfl⟩ hP hD hS rfl hl.1 (Nat.le_of_ble_eq_true rfl) dX9_verdicts_29 (Nat.zero_le _) (Nat.zero_le _) (fun H locs hP hD hS => ?_)
  refine W.eq (g2 := F0 m 32 ls [.int v4, .int k1]) rfl ?_
  refine lv_iload_n hx hb dX9_verdicts_32 rfl (lv_at hl 1 rfl) ?_
  refine lv_ishl hx hb dX9_verdicts_33 ?_
  refine lv_ior hx hb dX9_verdicts_34 ?_
  obtain ⟨y5, hy5, hf⟩ := nm_ex hf
  refine W.eq (g2 := F0 m 35 ls [.int y5]) (by rw [hy5]) ?_
  refine lv_istore_n (lv' := [(1, .int y5), (0, .ref (a_mo 0)), (2, .int x2)]) hx hb dX9_verdicts_35 rfl hl (by decide) rfl (fun ls hl => ?_)
  obtain ⟨y6, hy6, hf⟩ := nm_ex hf
  refine lv_iinc (v := y6) (lv' := [(2, .int y6), (1, .int y5), (0, .ref (a_mo 0))]) hx hb dX9_verdicts_36 hl (k := 2) rfl (by rw [hy6]; rfl) (by decide) rfl (fun ls hl => ?_)
  refine lv_goto (tgt := 4) hx hb dX9_verdicts_39 (by decide) ?_
  obtain rfl := so_eq hf
  exact HB _ rfl _ _ _ hP hD hS (lv_sub hl [2, 1, 0] rfl)
set_option maxHeartbeats 4000000 in
set_option maxRecDepth 100000 in
theorem wX9_verdicts_l4 {p : Program} {l : Launch} {e : Env} {s : State} {m : MethodId} {args : Array Value} {below : List Frame} {meth : Method} {c : Code} {D : va_G} {t : Nat → ClassId} {κ : Nat → Nat} {A : Nat → Prop} {a_mo : Nat → Nat} {s_mo : S2} {lam : S6} {rv : Option Value} {w1 : va_W} (C : Cxt p s m args meth c cX9_verdicts 3 RX9 wsX9_verdicts (some .int) D t κ A) : ∀ (n : Nat) (x1 : Int32) (x2 : Int32) (x : Int32 × Int32), wh (fun (c : Int32 × Int32) => fX9_verdicts_b4 s_mo c.1 c.2) n (x1, x2) = some x → (∀ (z : Int32 × Int32), x = z → ∀ (H : Heap) (locs : List Loc) (ls : Array Slot), va_P D vwCl (wModel t a_mo s_mo lam) H → va_D A (wModel t a_mo s_mo lam) → va_S A s.heap H locs → lv_has ls 3 [(1, .int z.1)] → W p l e (rmL 1) s m args below meth c H locs 0 0 (MQ below (gQ D rv w1 A) args s 0 0 A) (F0 m 42 ls [])) → ∀ (H : Heap) (locs : List Loc) (ls : Array Slot), va_P D vwCl (wModel t a_mo s_mo lam) H → va_D A (wModel t a_mo s_mo lam) → va_S A s.heap H locs → lv_has ls 3 [(0, .ref (a_mo 0)), (1, .int x1), (2, .int x2)] → W p l e (rmL 1) s m args below meth c H locs 0 0 (MQ below (gQ D rv w1 A) args s 0 0 A) (F0 m 4 ls []) := by
  obtain ⟨hx, hb, hr, hml, hown, hts, hC0, hlk, hA⟩ := id C
  have hK := hC0.1
  intro n
  induction n with
  | zero =>
    intro x1 x2 x h
    exact (wh_0 h).elim
  | succ n ih =>
    intro x1 x2 x h HX H locs ls hP hD hS hl
    obtain ⟨v, hf, hB, hX⟩ := wh_step h
    have hf : fX9_verdicts_b4 s_mo x1 x2 = some v := hf
    have HB : ∀ (z : Int32 × Int32), v = .inl z → ∀ (H : Heap) (locs : List Loc) (ls : Array Slot), va_P D vwCl (wModel t a_mo s_mo lam) H → va_D A (wModel t a_mo s_mo lam) → va_S A s.heap H locs → lv_has ls 3 [(0, .ref (a_mo 0)), (1, .int z.1), (2, .int z.2)] → W p l e (rmL 1) s m args below meth c H locs 0 0 (MQ below (gQ D rv w1 A) args s 0 0 A) (F0 m 4 ls []) := fun z hz H locs ls hP hD hS hl => ih z.1 z.2 x (hB z hz) HX H locs ls hP hD hS hl
    have HX : ∀ (z : Int32 × Int32), v = .inr z → ∀ (H : Heap) (locs : List Loc) (ls : Array Slot), va_P D vwCl (wModel t a_mo s_mo lam) H → va_D A (wModel t a_mo s_mo lam) → va_S A s.heap H locs → lv_has ls 3 [(1, .int z.1)] → W p l e (rmL 1) s m args below meth c H locs 0 0 (MQ below (gQ D rv w1 A) args s 0 0 A) (F0 m 42 ls []) := fun z hz => HX z (hX _ hz).symm
    unfold fX9_verdicts_b4 at hf
    refine lv_iload_n hx hb dX9_verdicts_4 rfl (lv_at hl 2 rfl) ?_
    refine lv_aload_n hx hb dX9_verdicts_5 rfl (lv_at hl 0 rfl) ?_
    refine va_get (D := D) (ci := 9) (v := .int (s_mo 0 1)) (C := RX9) (T := TX9) (N := 37) hx hb hts iwX9_verdicts_X9 hown hK hP 0 rfl rfl 4 (by decide) (hts _ lkX9_verdicts_f84) (fun _ h9 => h9) rfl dX9_verdicts_6 ?_
    refine lv_icmp_ge (tgt := 42) hx hb dX9_verdicts_9 (by decide) (fun c1 => ?_) (fun c1 => ?_)
    · rw [if_pos c1] at hf
      obtain rfl := so_eq hf
      exact HX _ rfl _ _ _ hP hD hS (lv_sub hl [1] rfl)
    · rw [if_neg c1] at hf
      refine lv_iload_n hx hb dX9_verdicts_12 rfl (lv_at hl 1 rfl) ?_
      refine lv_aload_n hx hb dX9_verdicts_13 rfl (lv_at hl 0 rfl) ?_
      refine va_get (D := D) (ci := 9) (v := .ref (a_mo 6)) (C := RX9) (T := TX9) (N := 37) hx hb hts iwX9_verdicts_X9 hown hK hP 0 rfl rfl 19 (by decide) (hts _ lkX9_verdicts_f26) (fun _ h9 => h9) rfl dX9_verdicts_14 ?_
      refine lv_iload_n hx hb dX9_verdicts_17 rfl (lv_at hl 2 rfl) ?_
      obtain ⟨b2, hf⟩ := gd_some hf
      refine va_iald hx hb hK hP 6 0 rfl rfl (ixb_in b2) dX9_verdicts_18 ?_
      refine lv_bipush (v := -4) hx hb dX9_verdicts_19 (by decide) ?_
      refine lv_icmp_eq (tgt := 28) hx hb dX9_verdicts_21 (by decide) (fun c3 => ?_) (fun c3 => ?_)
      · rw [if_pos c3] at hf
        refine lv_iconst (v := 0) hx hb dX9_verdicts_28 (by decide) ?_
        exact wX9_verdicts_29 C hf HB _ _ _ hP hD hS (lv_sub hl [0, 2] rfl)
      · rw [if_neg c3] at hf
        refine lv_iconst (v := 1) hx hb dX9_verdicts_24 (by decide) ?_
        refine lv_goto (tgt := 29) hx hb dX9_verdicts_25 (by decide) ?_
        exact wX9_verdicts_29 C hf HB _ _ _ hP hD hS (lv_sub hl [0, 2] rfl)
set_option maxHeartbeats 4000000 in
set_option maxRecDepth 100000 in
theorem cX9_verdicts_ok {l : Launch} {D : va_G} {t : Nat → ClassId} {κ : Nat → Nat} {a_mo : Nat → Nat} {s_mo : S2} {lam : S6} {out : Int32} (hf : fX9_verdicts s_mo = some out) : Ct l D t κ yX9_verdicts wsX9_verdicts (rmL 1) [.ref (a_mo 0)] (wModel t a_mo s_mo lam) (some (.int out)) (wModel t a_mo s_mo lam) := by
  refine Ct.ofW (own := RX9) (cc := cX9_verdicts) (maxL := 3) (ret := (some .int)) (by decide) rfl rfl (Nat.le_of_ble_eq_true rfl) ?_
  intro p e s m below meth c A C hP hD ls hl
  have hS : va_S A s.heap s.heap [] := va_S.rf
  obtain ⟨hx, hb, hr, hml, hown, hts, hC0, hlk, hA⟩ := id C
  have hK := hC0.1
  have hl : lv_has ls 3 [(0, .ref (a_mo 0))] := hl
  unfold fX9_verdicts at hf
  refine lv_iconst (v := 0) hx hb dX9_verdicts_0 (by decide) ?_
  refine lv_istore_n (lv' := [(1, .int (0 : Int32)), (0, .ref (a_mo 0))]) hx hb dX9_verdicts_1 rfl hl (by decide) rfl (fun ls hl => ?_)
  refine lv_iconst (v := 0) hx hb dX9_verdicts_2 (by decide) ?_
  refine lv_istore_n (lv' := [(2, .int (0 : Int32)), (1, .int (0 : Int32)), (0, .ref (a_mo 0))]) hx hb dX9_verdicts_3 rfl hl (by decide) rfl (fun ls hl => ?_)
  obtain ⟨x7, ex7, hf⟩ := bd_some hf
  refine wX9_verdicts_l4 C 5000 (0 : Int32) (0 : Int32) x7 ex7 (fun c9 h9 H locs ls hP hD hS hl => ?_) _ _ _ hP hD hS (lv_sub hl [2, 1, 0] rfl)
  subst h9
  refine lv_iload_n hx hb dX9_verdicts_42 rfl (lv_at hl 0 rfl) ?_
  obtain rfl := so_eq hf
  exact g_iret C hP hD hS dX9_verdicts_43
/-! CoachCourtModel.bitsOf -/
def fX9_bitsOf_b4 (x0 : Int32) (x1 : Int32) (x2 : Int32) : Option ((Int32 × Int32) ⊕ (Int32 × Int32)) :=
  if (8 : Int32) < x2 then
    (some (.inr (x1, x2)))
  else
    (nm (x1 + ((x0 >>> (x2 &&& 31)) &&& (1 : Int32))) fun y2 =>
    nm (x2 + (1 : Int32)) fun y3 =>
    some (.inl (y2, y3)))
def fX9_bitsOf (p1 : Int32) : Option (Int32) :=
  (wh (fun (c : Int32 × Int32) => fX9_bitsOf_b4 p1 c.1 c.2) 5000 ((0 : Int32), (0 : Int32))).bind fun x4 =>
  some x4.1
theorem hdX9_bitsOf : yX9_bitsOf.cls ≠ "java/lang/invoke/MethodHandle" ∧ yX9_bitsOf.cls ≠ "java/lang/invoke/VarHandle" ∧ (parseMethodDescriptor yX9_bitsOf.desc).map (fun d => d.parameters.length) = some 1 := by decide +kernel
set_option maxHeartbeats 4000000 in
set_option maxRecDepth 100000 in
theorem wX9_bitsOf_l4 {p : Program} {l : Launch} {e : Env} {s : State} {m : MethodId} {args : Array Value} {below : List Frame} {meth : Method} {c : Code} {D : va_G} {t : Nat → ClassId} {κ : Nat → Nat} {A : Nat → Prop} {x0 : Int32} {rv : Option Value} {w1 : va_W} (C : Cxt p s m args meth c cX9_bitsOf 3 RX9 wsX9_bitsOf (some .int) D t κ A) : ∀ (n : Nat) (x1 : Int32) (x2 : Int32) (x : Int32 × Int32), wh (fun (c : Int32 × Int32) => fX9_bitsOf_b4 x0 c.1 c.2) n (x1, x2) = some x → (∀ (z : Int32 × Int32), x = z → ∀ (H : Heap) (locs : List Loc) (ls : Array Slot), va_P D vwCl ([] : va_W) H → va_D A ([] : va_W) → va_S A s.heap H locs → lv_has ls 3 [(1, .int z.1)] → W p l e (rmL 0) s m args below meth c H locs 0 0 (MQ below (gQ D rv w1 A) args s 0 0 A) (F0 m 24 ls [])) → ∀ (H : Heap) (locs : List Loc) (ls : Array Slot), va_P D vwCl ([] : va_W) H → va_D A ([] : va_W) → va_S A s.heap H locs → lv_has ls 3 [(0, .int x0), (1, .int x1), (2, .int x2)] → W p l e (rmL 0) s m args below meth c H locs 0 0 (MQ below (gQ D rv w1 A) args s 0 0 A) (F0 m 4 ls []) := by
  obtain ⟨hx, hb, hr, hml, hown, hts, hC0, hlk, hA⟩ := id C
  have hK := hC0.1
  intro n
  induction n with
  | zero =>
    intro x1 x2 x h
    exact (wh_0 h).elim
  | succ n ih =>
    intro x1 x2 x h HX H locs ls hP hD hS hl
    obtain ⟨v, hf, hB, hX⟩ := wh_step h
    have hf : fX9_bitsOf_b4 x0 x1 x2 = some v := hf
    have HB : ∀ (z : Int32 × Int32), v = .inl z → ∀ (H : Heap) (locs : List Loc) (ls : Array Slot), va_P D vwCl ([] : va_W) H → va_D A ([] : va_W) → va_S A s.heap H locs → lv_has ls 3 [(0, .int x0), (1, .int z.1), (2, .int z.2)] → W p l e (rmL 0) s m args below meth c H locs 0 0 (MQ below (gQ D rv w1 A) args s 0 0 A) (F0 m 4 ls []) := fun z hz H locs ls hP hD hS hl => ih z.1 z.2 x (hB z hz) HX H locs ls hP hD hS hl
    have HX : ∀ (z : Int32 × Int32), v = .inr z → ∀ (H : Heap) (locs : List Loc) (ls : Array Slot), va_P D vwCl ([] : va_W) H → va_D A ([] : va_W) → va_S A s.heap H locs → lv_has ls 3 [(1, .int z.1)] → W p l e (rmL 0) s m args below meth c H locs 0 0 (MQ below (gQ D rv w1 A) args s 0 0 A) (F0 m 24 ls []) := fun z hz => HX z (hX _ hz).symm
    unfold fX9_bitsOf_b4 at hf
    refine lv_iload_n hx hb dX9_bitsOf_4 rfl (lv_at hl 2 rfl) ?_
    refine lv_bipush (v := 8) hx hb dX9_bitsOf_5 (by decide) ?_
    refine lv_icmp_gt (tgt := 24) hx hb dX9_bitsOf_7 (by decide) (fun c1 => ?_) (fun c1 => ?_)
    · rw [if_pos c1] at hf
      obtain rfl := so_eq hf
      exact HX _ rfl _ _ _ hP hD hS (lv_sub hl [1] rfl)
    · rw [if_neg c1] at hf
      refine lv_iload_n hx hb dX9_bitsOf_10 rfl (lv_at hl 1 rfl) ?_
      refine lv_iload_n hx hb dX9_bitsOf_11 rfl (lv_at hl 0 rfl) ?_
      refine lv_iload_n hx hb dX9_bitsOf_12 rfl (lv_at hl 2 rfl) ?_
      refine lv_ishr hx hb dX9_bitsOf_13 ?_
      refine lv_iconst (v := 1) hx hb dX9_bitsOf_14 (by decide) ?_
      refine lv_iand hx hb dX9_bitsOf_15 ?_
      refine lv_iadd hx hb dX9_bitsOf_16 ?_
      obtain ⟨y2, hy2, hf⟩ := nm_ex hf
      refine W.eq (g2 := F0 m 17 ls [.int y2]) (by rw [hy2]) ?_
      refine lv_istore_n (lv' := [(1, .int y2), (0, .int x0), (2, .int x2)]) hx hb dX9_bitsOf_17 rfl hl (by decide) rfl (fun ls hl => ?_)
      obtain ⟨y3, hy3, hf⟩ := nm_ex hf
      refine lv_iinc (v := y3) (lv' := [(2, .int y3), (1, .int y2), (0, .int x0)]) hx hb dX9_bitsOf_18 hl (k := 2) rfl (by rw [hy3]; rfl) (by decide) rfl (fun ls hl => ?_)
      refine lv_goto (tgt := 4) hx hb dX9_bitsOf_21 (by decide) ?_
      obtain rfl := so_eq hf
      exact HB _ rfl _ _ _ hP hD hS (lv_sub hl [2, 1, 0] rfl)
set_option maxHeartbeats 4000000 in
set_option maxRecDepth 100000 in
theorem cX9_bitsOf_ok {l : Launch} {D : va_G} {t : Nat → ClassId} {κ : Nat → Nat} {p1 : Int32} {out : Int32} (hf : fX9_bitsOf p1 = some out) : Ct l D t κ yX9_bitsOf wsX9_bitsOf (rmL 0) [.int p1] ([] : va_W) (some (.int out)) ([] : va_W) := by
  refine Ct.ofW (own := RX9) (cc := cX9_bitsOf) (maxL := 3) (ret := (some .int)) (by decide) rfl rfl (Nat.le_of_ble_eq_true rfl) ?_
  intro p e s m below meth c A C hP hD ls hl
  have hS : va_S A s.heap s.heap [] := va_S.rf
  obtain ⟨hx, hb, hr, hml, hown, hts, hC0, hlk, hA⟩ := id C
  have hK := hC0.1
  have hl : lv_has ls 3 [(0, .int p1)] := hl
  unfold fX9_bitsOf at hf
  refine lv_iconst (v := 0) hx hb dX9_bitsOf_0 (by decide) ?_
  refine lv_istore_n (lv' := [(1, .int (0 : Int32)), (0, .int p1)]) hx hb dX9_bitsOf_1 rfl hl (by decide) rfl (fun ls hl => ?_)
  refine lv_iconst (v := 0) hx hb dX9_bitsOf_2 (by decide) ?_
  refine lv_istore_n (lv' := [(2, .int (0 : Int32)), (1, .int (0 : Int32)), (0, .int p1)]) hx hb dX9_bitsOf_3 rfl hl (by decide) rfl (fun ls hl => ?_)
  obtain ⟨x4, ex4, hf⟩ := bd_some hf
  refine wX9_bitsOf_l4 C 5000 (0 : Int32) (0 : Int32) x4 ex4 (fun c9 h9 H locs ls hP hD hS hl => ?_) _ _ _ hP hD hS (lv_sub hl [2, 1, 0] rfl)
  subst h9
  refine lv_iload_n hx hb dX9_bitsOf_24 rfl (lv_at hl 0 rfl) ?_
  obtain rfl := so_eq hf
  exact g_iret C hP hD hS dX9_bitsOf_25
/-! CoachCourtModel.howMany -/
def fX9_howMany (s_mo : S2) : Option (Int32 × S2) :=
  (fX9_drives s_mo).bind fun v1 =>
  (fX9_verdicts v1).bind fun v2 =>
  (fX9_bitsOf v2).bind fun v3 =>
  some (v3, v1)
theorem hdX9_howMany : yX9_howMany.cls = RX9 ∧ yX9_howMany.cls ≠ "java/lang/invoke/MethodHandle" ∧ yX9_howMany.cls ≠ "java/lang/invoke/VarHandle" ∧ (parseMethodDescriptor yX9_howMany.desc).map (fun d => d.parameters.length) = some 0 := by decide +kernel
set_option maxHeartbeats 4000000 in
set_option maxRecDepth 100000 in
theorem cX9_howMany_ok {l : Launch} {D : va_G} {t : Nat → ClassId} {κ : Nat → Nat} {a_mo : Nat → Nat} {s_mo : S2} {lam : S6} {out : Int32 × S2} (hf : fX9_howMany s_mo = some out) : Ct l D t κ yX9_howMany wsX9_howMany (rmL 6) [.ref (a_mo 0)] (wModel t a_mo s_mo lam) (some (.int out.1)) (wModel t a_mo out.2 lam) := by
  refine Ct.ofW (own := RX9) (cc := cX9_howMany) (maxL := 1) (ret := (some .int)) (by decide) rfl rfl (Nat.le_of_ble_eq_true rfl) ?_
  intro p e s m below meth c A C hP hD ls hl
  have hS : va_S A s.heap s.heap [] := va_S.rf
  obtain ⟨hx, hb, hr, hml, hown, hts, hC0, hlk, hA⟩ := id C
  have hK := hC0.1
  have hl : lv_has ls 1 [(0, .ref (a_mo 0))] := hl
  unfold fX9_howMany at hf
  refine lv_aload_n hx hb dX9_howMany_0 rfl (lv_at hl 0 rfl) ?_
  obtain ⟨v1, ev1, hf⟩ := bd_some hf
  refine gk_V0 C (As := []) (rest := []) (ci := 9) (q := (RX9, TX9, 37)) (q0 := 0) (cX9_drives_ok (l := l) (D := D) (t := t) (κ := κ) (a_mo := a_mo) (lam := lam) ev1) gX9_howMany_X9_drives rfl ⟨rfl, rfl⟩ hdX9_drives ⟨Nat.le_of_ble_eq_true rfl, Nat.le_of_ble_eq_true rfl⟩ rfl rfl hP hD hS rfl hl.1 (Nat.le_of_ble_eq_true rfl) dX9_howMany_1 (Nat.zero_le _) (Nat.zero_le _) (fun H locs hP hD hS => ?_)
  refine W.eq (g2 := F0 m 4 ls []) rfl ?_
  refine lv_aload_n hx hb dX9_howMany_4 rfl (lv_at hl 0 rfl) ?_
  obtain ⟨v2, ev2, hf⟩ := bd_some hf
  refine gk_V0 C (As := []) (rest := []) (ci := 9) (q := (RX9, TX9, 37)) (q0 := 0) (cX9_verdicts_ok (l := l) (D := D) (t := t) (κ := κ) (a_mo := a_mo) (lam := lam) ev2) gX9_howMany_X9_verdicts rfl ⟨rfl, rfl⟩ hdX9_verdicts ⟨Nat.le_of_ble_eq_true rfl, Nat.le_of_ble_eq_true rfl⟩ rfl rfl hP hD hS rfl hl.1 (Nat.le_of_ble_eq_true rfl) dX9_howMany_5 (Nat.zero_le _) (Nat.zero_le _) (fun H locs hP hD hS => ?_)
  refine W.eq (g2 := F0 m 8 ls [.int v2]) rfl ?_
  obtain ⟨v3, ev3, hf⟩ := bd_some hf
  refine gk_S C (As := [.int v2]) (rest := []) (cX9_bitsOf_ok (l := l) (D := D) (t := t) (κ := κ) ev3) gX9_howMany_X9_bitsOf rfl ⟨rfl, rfl⟩ hdX9_bitsOf ⟨Nat.le_of_ble_eq_true rfl, Nat.le_of_ble_eq_true rfl⟩ hP hD hS rfl hl.1 (Nat.le_of_ble_eq_true rfl) dX9_howMany_8 (Nat.zero_le _) (Nat.zero_le _) (fun H locs hP hD hS => ?_)
  refine W.eq (g2 := F0 m 11 ls [.int v3]) rfl ?_
  obtain rfl := so_eq hf
  exact g_iret C hP hD hS dX9_howMany_11
/-! CoachCourtModel.rule -/
def fX9_rule_b12 (s_mo : S2) (x1 : Int32) (x2 : Int32) (x3 : Int32) : Option ((Int32 × Int32 × S2) ⊕ (Int32 × Int32 × S2)) :=
  if (s_mo 0 0) ≤ x3 then
    (some (.inr (x2, x3, s_mo)))
  else
    ((fX9_minutes s_mo x3).bind fun v4 =>
    nm (x2 + v4) fun y5 =>
    nm (x3 + (1 : Int32)) fun y6 =>
    some (.inl (y5, y6, s_mo)))
def fX9_rule_82 (s_mo : S2) (x1 : Int32) : Option (Int32 × S2) :=
  gd (ixb (((44 : Int32) + x1) - (2 : Int32)) 177) <|
  some (s_mo 1 (Int32.toNatClampNeg (((44 : Int32) + x1) - (2 : Int32))), s_mo)
def fX9_rule (s_mo : S2) (p1 : Int32) : Option (Int32 × S2) :=
  (fX9_starts s_mo).bind fun v1 =>
  (fX9_drives v1).bind fun v2 =>
  (wh (fun (c : Int32 × Int32 × S2) => fX9_rule_b12 c.2.2 p1 c.1 c.2.1) 5000 ((0 : Int32), (0 : Int32), v2)).bind fun x7 =>
  if p1 = 0 then
    (some (x7.2.2 0 0, x7.2.2))
  else
  if p1 = 1 then
    (some (x7.2.2 0 1, x7.2.2))
  else
  if p1 = 2 then
    (fX9_rule_82 x7.2.2 p1)
  else
  if p1 = 3 then
    (fX9_rule_82 x7.2.2 p1)
  else
  if p1 = 4 then
    (some (x7.1, x7.2.2))
  else
  if p1 = 5 then
    (some (x7.2.2 0 14, x7.2.2))
  else
  (some ((-1 : Int32), x7.2.2))
theorem hdX9_rule : yX9_rule.cls = RX9 ∧ yX9_rule.cls ≠ "java/lang/invoke/MethodHandle" ∧ yX9_rule.cls ≠ "java/lang/invoke/VarHandle" ∧ (parseMethodDescriptor yX9_rule.desc).map (fun d => d.parameters.length) = some 1 := by decide +kernel
theorem iwX9_rule_X9 : ∀ w ∈ wsX90, w ∈ wsX9_rule := by decide +kernel
theorem lkX9_rule_f81 : Cond.fieldLink RX9 81 "CoachCourtModel" "miles" "I" ∈ wsX9_rule := by decide +kernel
theorem lkX9_rule_f84 : Cond.fieldLink RX9 84 "CoachCourtModel" "parties" "I" ∈ wsX9_rule := by decide +kernel
theorem lkX9_rule_f7 : Cond.fieldLink RX9 7 "CoachCourtModel" "st" "[I" ∈ wsX9_rule := by decide +kernel
theorem lkX9_rule_f187 : Cond.fieldLink RX9 187 "CoachCourtModel" "driven" "I" ∈ wsX9_rule := by decide +kernel
set_option maxHeartbeats 4000000 in
set_option maxRecDepth 100000 in
theorem wX9_rule_l12 {p : Program} {l : Launch} {e : Env} {s : State} {m : MethodId} {args : Array Value} {below : List Frame} {meth : Method} {c : Code} {D : va_G} {t : Nat → ClassId} {κ : Nat → Nat} {A : Nat → Prop} {a_mo : Nat → Nat} {lam : S6} {x1 : Int32} {rv : Option Value} {w1 : va_W} (C : Cxt p s m args meth c cX9_rule 4 RX9 wsX9_rule (some .int) D t κ A) : ∀ (n : Nat) (x2 : Int32) (x3 : Int32) (s_mo : S2) (x : Int32 × Int32 × S2), wh (fun (c : Int32 × Int32 × S2) => fX9_rule_b12 c.2.2 x1 c.1 c.2.1) n (x2, x3, s_mo) = some x → (∀ (z : Int32 × Int32 × S2), x = z → ∀ (H : Heap) (locs : List Loc) (ls : Array Slot), va_P D vwCl (wModel t a_mo z.2.2 lam) H → va_D A (wModel t a_mo z.2.2 lam) → va_S A s.heap H locs → lv_has ls 4 [(0, .ref (a_mo 0)), (1, .int x1), (2, .int z.1)] → W p l e (rmL 6) s m args below meth c H locs 0 0 (MQ below (gQ D rv w1 A) args s 0 0 A) (F0 m 34 ls [])) → ∀ (H : Heap) (locs : List Loc) (ls : Array Slot), va_P D vwCl (wModel t a_mo s_mo lam) H → va_D A (wModel t a_mo s_mo lam) → va_S A s.heap H locs → lv_has ls 4 [(0, .ref (a_mo 0)), (1, .int x1), (2, .int x2), (3, .int x3)] → W p l e (rmL 6) s m args below meth c H locs 0 0 (MQ below (gQ D rv w1 A) args s 0 0 A) (F0 m 12 ls []) := by
  obtain ⟨hx, hb, hr, hml, hown, hts, hC0, hlk, hA⟩ := id C
  have hK := hC0.1
  intro n
  induction n with
  | zero =>
    intro x2 x3 s_mo x h
    exact (wh_0 h).elim
  | succ n ih =>
    intro x2 x3 s_mo x h HX H locs ls hP hD hS hl
    obtain ⟨v, hf, hB, hX⟩ := wh_step h
    have hf : fX9_rule_b12 s_mo x1 x2 x3 = some v := hf
    have HB : ∀ (z : Int32 × Int32 × S2), v = .inl z → ∀ (H : Heap) (locs : List Loc) (ls : Array Slot), va_P D vwCl (wModel t a_mo z.2.2 lam) H → va_D A (wModel t a_mo z.2.2 lam) → va_S A s.heap H locs → lv_has ls 4 [(0, .ref (a_mo 0)), (1, .int x1), (2, .int z.1), (3, .int z.2.1)] → W p l e (rmL 6) s m args below meth c H locs 0 0 (MQ below (gQ D rv w1 A) args s 0 0 A) (F0 m 12 ls []) := fun z hz H locs ls hP hD hS hl => ih z.1 z.2.1 z.2.2 x (hB z hz) HX H locs ls hP hD hS hl
    have HX : ∀ (z : Int32 × Int32 × S2), v = .inr z → ∀ (H : Heap) (locs : List Loc) (ls : Array Slot), va_P D vwCl (wModel t a_mo z.2.2 lam) H → va_D A (wModel t a_mo z.2.2 lam) → va_S A s.heap H locs → lv_has ls 4 [(0, .ref (a_mo 0)), (1, .int x1), (2, .int z.1)] → W p l e (rmL 6) s m args below meth c H locs 0 0 (MQ below (gQ D rv w1 A) args s 0 0 A) (F0 m 34 ls []) := fun z hz => HX z (hX _ hz).symm
    unfold fX9_rule_b12 at hf
    refine lv_iload_n hx hb dX9_rule_12 rfl (lv_at hl 3 rfl) ?_
    refine lv_aload_n hx hb dX9_rule_13 rfl (lv_at hl 0 rfl) ?_
    refine va_get (D := D) (ci := 9) (v := .int (s_mo 0 0)) (C := RX9) (T := TX9) (N := 37) hx hb hts iwX9_rule_X9 hown hK hP 0 rfl rfl 3 (by decide) (hts _ lkX9_rule_f81) (fun _ h9 => h9) rfl dX9_rule_14 ?_
    refine lv_icmp_ge (tgt := 34) hx hb dX9_rule_17 (by decide) (fun c3 => ?_) (fun c3 => ?_)
    · rw [if_pos c3] at hf
      obtain rfl := so_eq hf
      exact HX _ rfl _ _ _ hP hD hS (lv_sub hl [0, 1, 2] rfl)
    · rw [if_neg c3] at hf
      refine lv_iload_n hx hb dX9_rule_20 rfl (lv_at hl 2 rfl) ?_
      refine lv_aload_n hx hb dX9_rule_21 rfl (lv_at hl 0 rfl) ?_
      refine lv_iload_n hx hb dX9_rule_22 rfl (lv_at hl 3 rfl) ?_
      obtain ⟨v4, ev4, hf⟩ := bd_some hf
      refine gk_V0 C (As := [.int x3]) (rest := [.int x2]) (ci := 9) (q := (RX9, TX9, 37)) (q0 := 0) (cX9_minutes_ok (l := l) (D := D) (t := t) (κ := κ) (a_mo := a_mo) (lam := lam) ev4) gX9_rule_X9_minutes rfl ⟨rfl, rfl⟩ hdX9_minutes ⟨Nat.le_of_ble_eq_true rfl, Nat.le_of_ble_eq_true rfl⟩ rfl rfl hP hD hS rfl hl.1 (Nat.le_of_ble_eq_true rfl) dX9_rule_23 (Nat.zero_le _) (Nat.zero_le _) (fun H locs hP hD hS => ?_)
      refine W.eq (g2 := F0 m 26 ls [.int v4, .int x2]) rfl ?_
      refine lv_iadd hx hb dX9_rule_26 ?_
      obtain ⟨y5, hy5, hf⟩ := nm_ex hf
      refine W.eq (g2 := F0 m 27 ls [.int y5]) (by rw [hy5]) ?_
      refine lv_istore_n (lv' := [(2, .int y5), (0, .ref (a_mo 0)), (1, .int x1), (3, .int x3)]) hx hb dX9_rule_27 rfl hl (by decide) rfl (fun ls hl => ?_)
      obtain ⟨y6, hy6, hf⟩ := nm_ex hf
      refine lv_iinc (v := y6) (lv' := [(3, .int y6), (2, .int y5), (0, .ref (a_mo 0)), (1, .int x1)]) hx hb dX9_rule_28 hl (k := 3) rfl (by rw [hy6]; rfl) (by decide) rfl (fun ls hl => ?_)
      refine lv_goto (tgt := 12) hx hb dX9_rule_31 (by decide) ?_
      obtain rfl := so_eq hf
      exact HB _ rfl _ _ _ hP hD hS (lv_sub hl [2, 3, 1, 0] rfl)
set_option maxHeartbeats 4000000 in
set_option maxRecDepth 100000 in
theorem wX9_rule_82 {p : Program} {l : Launch} {e : Env} {s : State} {m : MethodId} {args : Array Value} {below : List Frame} {meth : Method} {c : Code} {D : va_G} {t : Nat → ClassId} {κ : Nat → Nat} {A : Nat → Prop} {a_mo : Nat → Nat} {s_mo : S2} {lam : S6} {x1 : Int32} {out : Int32 × S2} (C : Cxt p s m args meth c cX9_rule 4 RX9 wsX9_rule (some .int) D t κ A) (hf : fX9_rule_82 s_mo x1 = some out) : ∀ (H : Heap) (locs : List Loc) (ls : Array Slot), va_P D vwCl (wModel t a_mo s_mo lam) H → va_D A (wModel t a_mo s_mo lam) → va_S A s.heap H locs → lv_has ls 4 [(0, .ref (a_mo 0)), (1, .int x1)] → W p l e (rmL 6) s m args below meth c H locs 0 0 (MQ below (gQ D (some (.int out.1)) (wModel t a_mo out.2 lam) A) args s 0 0 A) (F0 m 82 ls []) := by
  obtain ⟨hx, hb, hr, hml, hown, hts, hC0, hlk, hA⟩ := id C
  have hK := hC0.1
  intro H locs ls hP hD hS hl
  unfold fX9_rule_82 at hf
  refine lv_aload_n hx hb dX9_rule_82 rfl (lv_at hl 0 rfl) ?_
  refine va_get (D := D) (ci := 9) (v := .ref (a_mo 1)) (C := RX9) (T := TX9) (N := 37) hx hb hts iwX9_rule_X9 hown hK hP 0 rfl rfl 0 (by decide) (hts _ lkX9_rule_f7) (fun _ h9 => h9) rfl dX9_rule_83 ?_
  refine lv_bipush (v := 44) hx hb dX9_rule_86 (by decide) ?_
  refine lv_iload_n hx hb dX9_rule_88 rfl (lv_at hl 1 rfl) ?_
  refine lv_iadd hx hb dX9_rule_89 ?_
  refine lv_iconst (v := 2) hx hb dX9_rule_90 (by decide) ?_
  refine lv_isub hx hb dX9_rule_91 ?_
  obtain ⟨b11, hf⟩ := gd_some hf
  refine va_iald hx hb hK hP 1 0 rfl rfl (ixb_in b11) dX9_rule_92 ?_
  obtain rfl := so_eq hf
  exact g_iret C hP hD hS dX9_rule_93
set_option maxHeartbeats 4000000 in
set_option maxRecDepth 100000 in
theorem cX9_rule_ok {l : Launch} {D : va_G} {t : Nat → ClassId} {κ : Nat → Nat} {a_mo : Nat → Nat} {s_mo : S2} {lam : S6} {p1 : Int32} {out : Int32 × S2} (hf : fX9_rule s_mo p1 = some out) : Ct l D t κ yX9_rule wsX9_rule (rmL 6) [.ref (a_mo 0), .int p1] (wModel t a_mo s_mo lam) (some (.int out.1)) (wModel t a_mo out.2 lam) := by
  refine Ct.ofW (own := RX9) (cc := cX9_rule) (maxL := 4) (ret := (some .int)) (by decide) rfl rfl (Nat.le_of_ble_eq_true rfl) ?_
  intro p e s m below meth c A C hP hD ls hl
  have hS : va_S A s.heap s.heap [] := va_S.rf
  obtain ⟨hx, hb, hr, hml, hown, hts, hC0, hlk, hA⟩ := id C
  have hK := hC0.1
  have hl : lv_has ls 4 [(0, .ref (a_mo 0)), (1, .int p1)] := hl
  unfold fX9_rule at hf
  refine lv_aload_n hx hb dX9_rule_0 rfl (lv_at hl 0 rfl) ?_
  obtain ⟨v1, ev1, hf⟩ := bd_some hf
  refine gk_V0 C (As := []) (rest := []) (ci := 9) (q := (RX9, TX9, 37)) (q0 := 0) (cX9_starts_ok (l := l) (D := D) (t := t) (κ := κ) (a_mo := a_mo) (lam := lam) ev1) gX9_rule_X9_starts rfl ⟨rfl, rfl⟩ hdX9_starts ⟨Nat.le_of_ble_eq_true rfl, Nat.le_of_ble_eq_true rfl⟩ rfl rfl hP hD hS rfl hl.1 (Nat.le_of_ble_eq_true rfl) dX9_rule_1 (Nat.zero_le _) (Nat.zero_le _) (fun H locs hP hD hS => ?_)
  refine W.eq (g2 := F0 m 4 ls []) rfl ?_
  refine lv_aload_n hx hb dX9_rule_4 rfl (lv_at hl 0 rfl) ?_
  obtain ⟨v2, ev2, hf⟩ := bd_some hf
  refine gk_V0 C (As := []) (rest := []) (ci := 9) (q := (RX9, TX9, 37)) (q0 := 0) (cX9_drives_ok (l := l) (D := D) (t := t) (κ := κ) (a_mo := a_mo) (lam := lam) ev2) gX9_rule_X9_drives rfl ⟨rfl, rfl⟩ hdX9_drives ⟨Nat.le_of_ble_eq_true rfl, Nat.le_of_ble_eq_true rfl⟩ rfl rfl hP hD hS rfl hl.1 (Nat.le_of_ble_eq_true rfl) dX9_rule_5 (Nat.zero_le _) (Nat.zero_le _) (fun H locs hP hD hS => ?_)
  refine W.eq (g2 := F0 m 8 ls []) rfl ?_
  refine lv_iconst (v := 0) hx hb dX9_rule_8 (by decide) ?_
  refine lv_istore_n (lv' := [(2, .int (0 : Int32)), (0, .ref (a_mo 0)), (1, .int p1)]) hx hb dX9_rule_9 rfl hl (by decide) rfl (fun ls hl => ?_)
  refine lv_iconst (v := 0) hx hb dX9_rule_10 (by decide) ?_
  refine lv_istore_n (lv' := [(3, .int (0 : Int32)), (2, .int (0 : Int32)), (0, .ref (a_mo 0)), (1, .int p1)]) hx hb dX9_rule_11 rfl hl (by decide) rfl (fun ls hl => ?_)
  obtain ⟨x7, ex7, hf⟩ := bd_some hf
  refine wX9_rule_l12 C 5000 (0 : Int32) (0 : Int32) v2 x7 ex7 (fun c9 h9 H locs ls hP hD hS hl => ?_) _ _ _ hP hD hS (lv_sub hl [2, 3, 1, 0] rfl)
  subst h9
  refine lv_iload_n hx hb dX9_rule_34 rfl (lv_at hl 1 rfl) ?_
  by_cases c8 : p1 = 0
  · rw [if_pos c8] at hf
    refine lv_tableIn (tgt := 72) hx hb dX9_rule_35 (by rw [c8]; decide) (by rw [c8]; decide) (by rw [c8]; rfl) (by decide) ?_
    refine lv_aload_n hx hb dX9_rule_72 rfl (lv_at hl 0 rfl) ?_
    refine va_get (D := D) (ci := 9) (v := .int (x7.2.2 0 0)) (C := RX9) (T := TX9) (N := 37) hx hb hts iwX9_rule_X9 hown hK hP 0 rfl rfl 3 (by decide) (hts _ lkX9_rule_f81) (fun _ h9 => h9) rfl dX9_rule_73 ?_
    obtain rfl := so_eq hf
    exact g_iret C hP hD hS dX9_rule_76
  rw [if_neg c8] at hf
  by_cases c9 : p1 = 1
  · rw [if_pos c9] at hf
    refine lv_tableIn (tgt := 77) hx hb dX9_rule_35 (by rw [c9]; decide) (by rw [c9]; decide) (by rw [c9]; rfl) (by decide) ?_
    refine lv_aload_n hx hb dX9_rule_77 rfl (lv_at hl 0 rfl) ?_
    refine va_get (D := D) (ci := 9) (v := .int (x7.2.2 0 1)) (C := RX9) (T := TX9) (N := 37) hx hb hts iwX9_rule_X9 hown hK hP 0 rfl rfl 4 (by decide) (hts _ lkX9_rule_f84) (fun _ h9 => h9) rfl dX9_rule_78 ?_
    obtain rfl := so_eq hf
    exact g_iret C hP hD hS dX9_rule_81
  rw [if_neg c9] at hf
  by_cases c10 : p1 = 2
  · rw [if_pos c10] at hf
    refine lv_tableIn (tgt := 82) hx hb dX9_rule_35 (by rw [c10]; decide) (by rw [c10]; decide) (by rw [c10]; rfl) (by decide) ?_
    exact wX9_rule_82 C hf _ _ _ hP hD hS (lv_sub hl [0, 1] rfl)
  rw [if_neg c10] at hf
  by_cases c12 : p1 = 3
  · rw [if_pos c12] at hf
    refine lv_tableIn (tgt := 82) hx hb dX9_rule_35 (by rw [c12]; decide) (by rw [c12]; decide) (by rw [c12]; rfl) (by decide) ?_
    exact wX9_rule_82 C hf _ _ _ hP hD hS (lv_sub hl [0, 1] rfl)
  rw [if_neg c12] at hf
  by_cases c13 : p1 = 4
  · rw [if_pos c13] at hf
    refine lv_tableIn (tgt := 94) hx hb dX9_rule_35 (by rw [c13]; decide) (by rw [c13]; decide) (by rw [c13]; rfl) (by decide) ?_
    refine lv_iload_n hx hb dX9_rule_94 rfl (lv_at hl 2 rfl) ?_
    obtain rfl := so_eq hf
    exact g_iret C hP hD hS dX9_rule_95
  rw [if_neg c13] at hf
  by_cases c14 : p1 = 5
  · rw [if_pos c14] at hf
    refine lv_tableIn (tgt := 96) hx hb dX9_rule_35 (by rw [c14]; decide) (by rw [c14]; decide) (by rw [c14]; rfl) (by decide) ?_
    refine lv_aload_n hx hb dX9_rule_96 rfl (lv_at hl 0 rfl) ?_
    refine va_get (D := D) (ci := 9) (v := .int (x7.2.2 0 14)) (C := RX9) (T := TX9) (N := 37) hx hb hts iwX9_rule_X9 hown hK hP 0 rfl rfl 25 (by decide) (hts _ lkX9_rule_f187) (fun _ h9 => h9) rfl dX9_rule_97 ?_
    obtain rfl := so_eq hf
    exact g_iret C hP hD hS dX9_rule_100
  rw [if_neg c14] at hf
  refine lv_tableOut (tgt := 101) hx hb dX9_rule_35 (by have nc8 := lv_neT c8 (a := 0) (by decide); have nc9 := lv_neT c9 (a := 1) (by decide); have nc10 := lv_neT c10 (a := 2) (by decide); have nc12 := lv_neT c12 (a := 3) (by decide); have nc13 := lv_neT c13 (a := 4) (by decide); have nc14 := lv_neT c14 (a := 5) (by decide); have z := Int32.le_toInt p1; have z2 := Int32.toInt_lt p1; omega) (by decide) ?_
  refine lv_iconst (v := -1) hx hb dX9_rule_101 (by decide) ?_
  obtain rfl := so_eq hf
  exact g_iret C hP hD hS dX9_rule_102
/-! CoachCourtModel.mile -/
def fX9_mile (s_mo : S2) (p1 : Int32) (p2 : Int32) : Option (Int32 × S2) :=
  (fX9_isMile s_mo p1).bind fun v1 =>
  if v1 = (0 : Int32) then
    (some ((-1 : Int32), s_mo))
  else
    ((fX9_in (Int32.toInt64 p2) (0 : Int64) (4 : Int64)).bind fun v3 =>
    if v3 = (0 : Int32) then
      (some ((-1 : Int32), s_mo))
    else
      ((fX9_starts s_mo).bind fun v5 =>
      if (3 : Int32) ≤ p2 then
        (if p2 = (3 : Int32) then
          ((fX9_minutes v5 p1).bind fun v9 =>
          some (v9, v5))
        else
          ((fX9_hearing v5 p1).bind fun v8 =>
          some (v8, v5)))
      else
        ((fX9_ofMile v5 p1 p2).bind fun v10 =>
        some (v10, v5))))
theorem hdX9_mile : yX9_mile.cls = RX9 ∧ yX9_mile.cls ≠ "java/lang/invoke/MethodHandle" ∧ yX9_mile.cls ≠ "java/lang/invoke/VarHandle" ∧ (parseMethodDescriptor yX9_mile.desc).map (fun d => d.parameters.length) = some 2 := by decide +kernel
theorem lkX9_mile_l213 : Cond.constantLong RX9 213 (4) ∈ wsX9_mile := by decide +kernel
set_option maxHeartbeats 4000000 in
set_option maxRecDepth 100000 in
theorem cX9_mile_ok {l : Launch} {D : va_G} {t : Nat → ClassId} {κ : Nat → Nat} {a_mo : Nat → Nat} {s_mo : S2} {lam : S6} {p1 : Int32} {p2 : Int32} {out : Int32 × S2} (hf : fX9_mile s_mo p1 p2 = some out) : Ct l D t κ yX9_mile wsX9_mile (rmL 3) [.ref (a_mo 0), .int p1, .int p2] (wModel t a_mo s_mo lam) (some (.int out.1)) (wModel t a_mo out.2 lam) := by
  refine Ct.ofW (own := RX9) (cc := cX9_mile) (maxL := 3) (ret := (some .int)) (by decide) rfl rfl (Nat.le_of_ble_eq_true rfl) ?_
  intro p e s m below meth c A C hP hD ls hl
  have hS : va_S A s.heap s.heap [] := va_S.rf
  obtain ⟨hx, hb, hr, hml, hown, hts, hC0, hlk, hA⟩ := id C
  have hK := hC0.1
  have hl : lv_has ls 3 [(0, .ref (a_mo 0)), (1, .int p1), (2, .int p2)] := hl
  unfold fX9_mile at hf
  refine lv_aload_n hx hb dX9_mile_0 rfl (lv_at hl 0 rfl) ?_
  refine lv_iload_n hx hb dX9_mile_1 rfl (lv_at hl 1 rfl) ?_
  obtain ⟨v1, ev1, hf⟩ := bd_some hf
  refine gk_V0 C (As := [.int p1]) (rest := []) (ci := 9) (q := (RX9, TX9, 37)) (q0 := 0) (cX9_isMile_ok (l := l) (D := D) (t := t) (κ := κ) (a_mo := a_mo) (lam := lam) ev1) gX9_mile_X9_isMile rfl ⟨rfl, rfl⟩ hdX9_isMile ⟨Nat.le_of_ble_eq_true rfl, Nat.le_of_ble_eq_true rfl⟩ rfl rfl hP hD hS rfl hl.1 (Nat.le_of_ble_eq_true rfl) dX9_mile_2 (Nat.zero_le _) (Nat.zero_le _) (fun H locs hP hD hS => ?_)
  refine W.eq (g2 := F0 m 5 ls [.int v1]) rfl ?_
  refine lv_if_eq (tgt := 20) hx hb dX9_mile_5 (by decide) (fun c2 => ?_) (fun c2 => ?_)
  · rw [if_pos c2] at hf
    refine lv_iconst (v := -1) hx hb dX9_mile_20 (by decide) ?_
    obtain rfl := so_eq hf
    exact g_iret C hP hD hS dX9_mile_21
  · rw [if_neg c2] at hf
    refine lv_iload_n hx hb dX9_mile_8 rfl (lv_at hl 2 rfl) ?_
    refine lv_i2l hx hb dX9_mile_9 rfl ?_
    refine lv_lconst (v := 0) hx hb dX9_mile_10 (by decide) ?_
    refine lv_ldc2 hx hb hown (hts _ lkX9_mile_l213) dX9_mile_11 ?_
    obtain ⟨v3, ev3, hf⟩ := bd_some hf
    refine gk_S C (As := [.long (Int32.toInt64 p2), .long (0 : Int64), .long (4 : Int64)]) (rest := []) (cX9_in_ok (l := l) (D := D) (t := t) (κ := κ) ev3) gX9_mile_X9_in rfl ⟨rfl, rfl⟩ hdX9_in ⟨Nat.le_of_ble_eq_true rfl, Nat.le_of_ble_eq_true rfl⟩ hP hD hS rfl hl.1 (Nat.le_of_ble_eq_true rfl) dX9_mile_14 (Nat.zero_le _) (Nat.zero_le _) (fun H locs hP hD hS => ?_)
    refine W.eq (g2 := F0 m 17 ls [.int v3]) rfl ?_
    refine lv_if_ne (tgt := 22) hx hb dX9_mile_17 (by decide) (fun c4 => ?_) (fun c4 => ?_)
    · rw [if_neg c4] at hf
      refine lv_aload_n hx hb dX9_mile_22 rfl (lv_at hl 0 rfl) ?_
      obtain ⟨v5, ev5, hf⟩ := bd_some hf
      refine gk_V0 C (As := []) (rest := []) (ci := 9) (q := (RX9, TX9, 37)) (q0 := 0) (cX9_starts_ok (l := l) (D := D) (t := t) (κ := κ) (a_mo := a_mo) (lam := lam) ev5) gX9_mile_X9_starts rfl ⟨rfl, rfl⟩ hdX9_starts ⟨Nat.le_of_ble_eq_true rfl, Nat.le_of_ble_eq_true rfl⟩ rfl rfl hP hD hS rfl hl.1 (Nat.le_of_ble_eq_true rfl) dX9_mile_23 (Nat.zero_le _) (Nat.zero_le _) (fun H locs hP hD hS => ?_)
      refine W.eq (g2 := F0 m 26 ls []) rfl ?_
      refine lv_iload_n hx hb dX9_mile_26 rfl (lv_at hl 2 rfl) ?_
      refine lv_iconst (v := 3) hx hb dX9_mile_27 (by decide) ?_
      refine lv_icmp_ge (tgt := 40) hx hb dX9_mile_28 (by decide) (fun c6 => ?_) (fun c6 => ?_)
      · rw [if_pos c6] at hf
        refine lv_iload_n hx hb dX9_mile_40 rfl (lv_at hl 2 rfl) ?_
        refine lv_iconst (v := 3) hx hb dX9_mile_41 (by decide) ?_
        refine lv_icmp_ne (tgt := 53) hx hb dX9_mile_42 (by decide) (fun c7 => ?_) (fun c7 => ?_)
        · rw [if_neg c7] at hf
          refine lv_aload_n hx hb dX9_mile_53 rfl (lv_at hl 0 rfl) ?_
          refine lv_iload_n hx hb dX9_mile_54 rfl (lv_at hl 1 rfl) ?_
          obtain ⟨v8, ev8, hf⟩ := bd_some hf
          refine gk_V0 C (As := [.int p1]) (rest := []) (ci := 9) (q := (RX9, TX9, 37)) (q0 := 0) (cX9_hearing_ok (l := l) (D := D) (t := t) (κ := κ) (a_mo := a_mo) (lam := lam) ev8) gX9_mile_X9_hearing rfl ⟨rfl, rfl⟩ hdX9_hearing ⟨Nat.le_of_ble_eq_true rfl, Nat.le_of_ble_eq_true rfl⟩ rfl rfl hP hD hS rfl hl.1 (Nat.le_of_ble_eq_true rfl) dX9_mile_55 (Nat.zero_le _) (Nat.zero_le _) (fun H locs hP hD hS => ?_)
          refine W.eq (g2 := F0 m 58 ls [.int v8]) rfl ?_
          obtain rfl := so_eq hf
          exact g_iret C hP hD hS dX9_mile_58
        · rw [if_pos c7] at hf
          refine lv_aload_n hx hb dX9_mile_45 rfl (lv_at hl 0 rfl) ?_
          refine lv_iload_n hx hb dX9_mile_46 rfl (lv_at hl 1 rfl) ?_
          obtain ⟨v9, ev9, hf⟩ := bd_some hf
          refine gk_V0 C (As := [.int p1]) (rest := []) (ci := 9) (q := (RX9, TX9, 37)) (q0 := 0) (cX9_minutes_ok (l := l) (D := D) (t := t) (κ := κ) (a_mo := a_mo) (lam := lam) ev9) gX9_mile_X9_minutes rfl ⟨rfl, rfl⟩ hdX9_minutes ⟨Nat.le_of_ble_eq_true rfl, Nat.le_of_ble_eq_true rfl⟩ rfl rfl hP hD hS rfl hl.1 (Nat.le_of_ble_eq_true rfl) dX9_mile_47 (Nat.zero_le _) (Nat.zero_le _) (fun H locs hP hD hS => ?_)
          refine W.eq (g2 := F0 m 50 ls [.int v9]) rfl ?_
          refine lv_goto (tgt := 58) hx hb dX9_mile_50 (by decide) ?_
          obtain rfl := so_eq hf
          exact g_iret C hP hD hS dX9_mile_58
      · rw [if_neg c6] at hf
        refine lv_aload_n hx hb dX9_mile_31 rfl (lv_at hl 0 rfl) ?_
        refine lv_iload_n hx hb dX9_mile_32 rfl (lv_at hl 1 rfl) ?_
        refine lv_iload_n hx hb dX9_mile_33 rfl (lv_at hl 2 rfl) ?_
        obtain ⟨v10, ev10, hf⟩ := bd_some hf
        refine gk_V0 C (As := [.int p1, .int p2]) (rest := []) (ci := 9) (q := (RX9, TX9, 37)) (q0 := 0) (cX9_ofMile_ok (l := l) (D := D) (t := t) (κ := κ) (a_mo := a_mo) (lam := lam) ev10) gX9_mile_X9_ofMile rfl ⟨rfl, rfl⟩ hdX9_ofMile ⟨Nat.le_of_ble_eq_true rfl, Nat.le_of_ble_eq_true rfl⟩ rfl rfl hP hD hS rfl hl.1 (Nat.le_of_ble_eq_true rfl) dX9_mile_34 (Nat.zero_le _) (Nat.zero_le _) (fun H locs hP hD hS => ?_)
        refine W.eq (g2 := F0 m 37 ls [.int v10]) rfl ?_
        refine lv_goto (tgt := 58) hx hb dX9_mile_37 (by decide) ?_
        obtain rfl := so_eq hf
        exact g_iret C hP hD hS dX9_mile_58
    · rw [if_pos c4] at hf
      refine lv_iconst (v := -1) hx hb dX9_mile_20 (by decide) ?_
      obtain rfl := so_eq hf
      exact g_iret C hP hD hS dX9_mile_21
/-! CoachCourtModel.party -/
def fX9_party (s_mo : S2) (p1 : Int32) (p2 : Int32) : Option (Int32) :=
  (fX9_isParty s_mo p1).bind fun v1 =>
  if v1 = (0 : Int32) then
    (some (-1 : Int32))
  else
    ((fX9_in (Int32.toInt64 p2) (0 : Int64) (4 : Int64)).bind fun v3 =>
    if v3 = (0 : Int32) then
      (some (-1 : Int32))
    else
      (gd (ixb (((24 : Int32) + ((5 : Int32) * p1)) + p2) 177) <|
      some (s_mo 1 (Int32.toNatClampNeg (((24 : Int32) + ((5 : Int32) * p1)) + p2)))))
theorem hdX9_party : yX9_party.cls = RX9 ∧ yX9_party.cls ≠ "java/lang/invoke/MethodHandle" ∧ yX9_party.cls ≠ "java/lang/invoke/VarHandle" ∧ (parseMethodDescriptor yX9_party.desc).map (fun d => d.parameters.length) = some 2 := by decide +kernel
theorem lkX9_party_l213 : Cond.constantLong RX9 213 (4) ∈ wsX9_party := by decide +kernel
theorem iwX9_party_X9 : ∀ w ∈ wsX90, w ∈ wsX9_party := by decide +kernel
theorem lkX9_party_f7 : Cond.fieldLink RX9 7 "CoachCourtModel" "st" "[I" ∈ wsX9_party := by decide +kernel
set_option maxHeartbeats 4000000 in
set_option maxRecDepth 100000 in
theorem cX9_party_ok {l : Launch} {D : va_G} {t : Nat → ClassId} {κ : Nat → Nat} {a_mo : Nat → Nat} {s_mo : S2} {lam : S6} {p1 : Int32} {p2 : Int32} {out : Int32} (hf : fX9_party s_mo p1 p2 = some out) : Ct l D t κ yX9_party wsX9_party (rmL 2) [.ref (a_mo 0), .int p1, .int p2] (wModel t a_mo s_mo lam) (some (.int out)) (wModel t a_mo s_mo lam) := by
  refine Ct.ofW (own := RX9) (cc := cX9_party) (maxL := 3) (ret := (some .int)) (by decide) rfl rfl (Nat.le_of_ble_eq_true rfl) ?_
  intro p e s m below meth c A C hP hD ls hl
  have hS : va_S A s.heap s.heap [] := va_S.rf
  obtain ⟨hx, hb, hr, hml, hown, hts, hC0, hlk, hA⟩ := id C
  have hK := hC0.1
  have hl : lv_has ls 3 [(0, .ref (a_mo 0)), (1, .int p1), (2, .int p2)] := hl
  unfold fX9_party at hf
  refine lv_aload_n hx hb dX9_party_0 rfl (lv_at hl 0 rfl) ?_
  refine lv_iload_n hx hb dX9_party_1 rfl (lv_at hl 1 rfl) ?_
  obtain ⟨v1, ev1, hf⟩ := bd_some hf
  refine gk_V0 C (As := [.int p1]) (rest := []) (ci := 9) (q := (RX9, TX9, 37)) (q0 := 0) (cX9_isParty_ok (l := l) (D := D) (t := t) (κ := κ) (a_mo := a_mo) (lam := lam) ev1) gX9_party_X9_isParty rfl ⟨rfl, rfl⟩ hdX9_isParty ⟨Nat.le_of_ble_eq_true rfl, Nat.le_of_ble_eq_true rfl⟩ rfl rfl hP hD hS rfl hl.1 (Nat.le_of_ble_eq_true rfl) dX9_party_2 (Nat.zero_le _) (Nat.zero_le _) (fun H locs hP hD hS => ?_)
  refine W.eq (g2 := F0 m 5 ls [.int v1]) rfl ?_
  refine lv_if_eq (tgt := 36) hx hb dX9_party_5 (by decide) (fun c2 => ?_) (fun c2 => ?_)
  · rw [if_pos c2] at hf
    refine lv_iconst (v := -1) hx hb dX9_party_36 (by decide) ?_
    obtain rfl := so_eq hf
    exact g_iret C hP hD hS dX9_party_37
  · rw [if_neg c2] at hf
    refine lv_iload_n hx hb dX9_party_8 rfl (lv_at hl 2 rfl) ?_
    refine lv_i2l hx hb dX9_party_9 rfl ?_
    refine lv_lconst (v := 0) hx hb dX9_party_10 (by decide) ?_
    refine lv_ldc2 hx hb hown (hts _ lkX9_party_l213) dX9_party_11 ?_
    obtain ⟨v3, ev3, hf⟩ := bd_some hf
    refine gk_S C (As := [.long (Int32.toInt64 p2), .long (0 : Int64), .long (4 : Int64)]) (rest := []) (cX9_in_ok (l := l) (D := D) (t := t) (κ := κ) ev3) gX9_party_X9_in rfl ⟨rfl, rfl⟩ hdX9_in ⟨Nat.le_of_ble_eq_true rfl, Nat.le_of_ble_eq_true rfl⟩ hP hD hS rfl hl.1 (Nat.le_of_ble_eq_true rfl) dX9_party_14 (Nat.zero_le _) (Nat.zero_le _) (fun H locs hP hD hS => ?_)
    refine W.eq (g2 := F0 m 17 ls [.int v3]) rfl ?_
    refine lv_if_eq (tgt := 36) hx hb dX9_party_17 (by decide) (fun c4 => ?_) (fun c4 => ?_)
    · rw [if_pos c4] at hf
      refine lv_iconst (v := -1) hx hb dX9_party_36 (by decide) ?_
      obtain rfl := so_eq hf
      exact g_iret C hP hD hS dX9_party_37
    · rw [if_neg c4] at hf
      refine lv_aload_n hx hb dX9_party_20 rfl (lv_at hl 0 rfl) ?_
      refine va_get (D := D) (ci := 9) (v := .ref (a_mo 1)) (C := RX9) (T := TX9) (N := 37) hx hb hts iwX9_party_X9 hown hK hP 0 rfl rfl 0 (by decide) (hts _ lkX9_party_f7) (fun _ h9 => h9) rfl dX9_party_21 ?_
      refine lv_bipush (v := 24) hx hb dX9_party_24 (by decide) ?_
      refine lv_iconst (v := 5) hx hb dX9_party_26 (by decide) ?_
      refine lv_iload_n hx hb dX9_party_27 rfl (lv_at hl 1 rfl) ?_
      refine lv_imul hx hb dX9_party_28 ?_
      refine lv_iadd hx hb dX9_party_29 ?_
      refine lv_iload_n hx hb dX9_party_30 rfl (lv_at hl 2 rfl) ?_
      refine lv_iadd hx hb dX9_party_31 ?_
      obtain ⟨b5, hf⟩ := gd_some hf
      refine va_iald hx hb hK hP 1 0 rfl rfl (ixb_in b5) dX9_party_32 ?_
      refine lv_goto (tgt := 37) hx hb dX9_party_33 (by decide) ?_
      obtain rfl := so_eq hf
      exact g_iret C hP hD hS dX9_party_37
/-! CoachCourtModel.strain -/
def fX9_strain (s_mo : S2) (p1 : Int32) (p2 : Int32) : Option (Int32 × S2) :=
  (fX9_isParty s_mo p1).bind fun v1 =>
  if v1 = (0 : Int32) then
    (some ((-1 : Int32), s_mo))
  else
    ((fX9_isMile s_mo p2).bind fun v3 =>
    if v3 = (0 : Int32) then
      (some ((-1 : Int32), s_mo))
    else
      ((fX9_starts s_mo).bind fun v5 =>
      (fX9_strainOf v5 p1 p2).bind fun v6 =>
      some (v6, v5)))
theorem hdX9_strain : yX9_strain.cls = RX9 ∧ yX9_strain.cls ≠ "java/lang/invoke/MethodHandle" ∧ yX9_strain.cls ≠ "java/lang/invoke/VarHandle" ∧ (parseMethodDescriptor yX9_strain.desc).map (fun d => d.parameters.length) = some 2 := by decide +kernel
set_option maxHeartbeats 4000000 in
set_option maxRecDepth 100000 in
theorem cX9_strain_ok {l : Launch} {D : va_G} {t : Nat → ClassId} {κ : Nat → Nat} {a_mo : Nat → Nat} {s_mo : S2} {lam : S6} {p1 : Int32} {p2 : Int32} {out : Int32 × S2} (hf : fX9_strain s_mo p1 p2 = some out) : Ct l D t κ yX9_strain wsX9_strain (rmL 3) [.ref (a_mo 0), .int p1, .int p2] (wModel t a_mo s_mo lam) (some (.int out.1)) (wModel t a_mo out.2 lam) := by
  refine Ct.ofW (own := RX9) (cc := cX9_strain) (maxL := 3) (ret := (some .int)) (by decide) rfl rfl (Nat.le_of_ble_eq_true rfl) ?_
  intro p e s m below meth c A C hP hD ls hl
  have hS : va_S A s.heap s.heap [] := va_S.rf
  obtain ⟨hx, hb, hr, hml, hown, hts, hC0, hlk, hA⟩ := id C
  have hK := hC0.1
  have hl : lv_has ls 3 [(0, .ref (a_mo 0)), (1, .int p1), (2, .int p2)] := hl
  unfold fX9_strain at hf
  refine lv_aload_n hx hb dX9_strain_0 rfl (lv_at hl 0 rfl) ?_
  refine lv_iload_n hx hb dX9_strain_1 rfl (lv_at hl 1 rfl) ?_
  obtain ⟨v1, ev1, hf⟩ := bd_some hf
  refine gk_V0 C (As := [.int p1]) (rest := []) (ci := 9) (q := (RX9, TX9, 37)) (q0 := 0) (cX9_isParty_ok (l := l) (D := D) (t := t) (κ := κ) (a_mo := a_mo) (lam := lam) ev1) gX9_strain_X9_isParty rfl ⟨rfl, rfl⟩ hdX9_isParty ⟨Nat.le_of_ble_eq_true rfl, Nat.le_of_ble_eq_true rfl⟩ rfl rfl hP hD hS rfl hl.1 (Nat.le_of_ble_eq_true rfl) dX9_strain_2 (Nat.zero_le _) (Nat.zero_le _) (fun H locs hP hD hS => ?_)
  refine W.eq (g2 := F0 m 5 ls [.int v1]) rfl ?_
  refine lv_if_eq (tgt := 16) hx hb dX9_strain_5 (by decide) (fun c2 => ?_) (fun c2 => ?_)
  · rw [if_pos c2] at hf
    refine lv_iconst (v := -1) hx hb dX9_strain_16 (by decide) ?_
    obtain rfl := so_eq hf
    exact g_iret C hP hD hS dX9_strain_17
  · rw [if_neg c2] at hf
    refine lv_aload_n hx hb dX9_strain_8 rfl (lv_at hl 0 rfl) ?_
    refine lv_iload_n hx hb dX9_strain_9 rfl (lv_at hl 2 rfl) ?_
    obtain ⟨v3, ev3, hf⟩ := bd_some hf
    refine gk_V0 C (As := [.int p2]) (rest := []) (ci := 9) (q := (RX9, TX9, 37)) (q0 := 0) (cX9_isMile_ok (l := l) (D := D) (t := t) (κ := κ) (a_mo := a_mo) (lam := lam) ev3) gX9_strain_X9_isMile rfl ⟨rfl, rfl⟩ hdX9_isMile ⟨Nat.le_of_ble_eq_true rfl, Nat.le_of_ble_eq_true rfl⟩ rfl rfl hP hD hS rfl hl.1 (Nat.le_of_ble_eq_true rfl) dX9_strain_10 (Nat.zero_le _) (Nat.zero_le _) (fun H locs hP hD hS => ?_)
    refine W.eq (g2 := F0 m 13 ls [.int v3]) rfl ?_
    refine lv_if_ne (tgt := 18) hx hb dX9_strain_13 (by decide) (fun c4 => ?_) (fun c4 => ?_)
    · rw [if_neg c4] at hf
      refine lv_aload_n hx hb dX9_strain_18 rfl (lv_at hl 0 rfl) ?_
      obtain ⟨v5, ev5, hf⟩ := bd_some hf
      refine gk_V0 C (As := []) (rest := []) (ci := 9) (q := (RX9, TX9, 37)) (q0 := 0) (cX9_starts_ok (l := l) (D := D) (t := t) (κ := κ) (a_mo := a_mo) (lam := lam) ev5) gX9_strain_X9_starts rfl ⟨rfl, rfl⟩ hdX9_starts ⟨Nat.le_of_ble_eq_true rfl, Nat.le_of_ble_eq_true rfl⟩ rfl rfl hP hD hS rfl hl.1 (Nat.le_of_ble_eq_true rfl) dX9_strain_19 (Nat.zero_le _) (Nat.zero_le _) (fun H locs hP hD hS => ?_)
      refine W.eq (g2 := F0 m 22 ls []) rfl ?_
      refine lv_aload_n hx hb dX9_strain_22 rfl (lv_at hl 0 rfl) ?_
      refine lv_iload_n hx hb dX9_strain_23 rfl (lv_at hl 1 rfl) ?_
      refine lv_iload_n hx hb dX9_strain_24 rfl (lv_at hl 2 rfl) ?_
      obtain ⟨v6, ev6, hf⟩ := bd_some hf
      refine gk_V0 C (As := [.int p1, .int p2]) (rest := []) (ci := 9) (q := (RX9, TX9, 37)) (q0 := 0) (cX9_strainOf_ok (l := l) (D := D) (t := t) (κ := κ) (a_mo := a_mo) (lam := lam) ev6) gX9_strain_X9_strainOf rfl ⟨rfl, rfl⟩ hdX9_strainOf ⟨Nat.le_of_ble_eq_true rfl, Nat.le_of_ble_eq_true rfl⟩ rfl rfl hP hD hS rfl hl.1 (Nat.le_of_ble_eq_true rfl) dX9_strain_25 (Nat.zero_le _) (Nat.zero_le _) (fun H locs hP hD hS => ?_)
      refine W.eq (g2 := F0 m 28 ls [.int v6]) rfl ?_
      obtain rfl := so_eq hf
      exact g_iret C hP hD hS dX9_strain_28
    · rw [if_pos c4] at hf
      refine lv_iconst (v := -1) hx hb dX9_strain_16 (by decide) ?_
      obtain rfl := so_eq hf
      exact g_iret C hP hD hS dX9_strain_17
/-! CoachCourtModel.becomes -/
def fX9_becomes (s_mo : S2) (p1 : Int32) (p2 : Int32) : Option (Int32 × S2) :=
  gd (ixb p1 177) <|
  nm (s_mo 1 (Int32.toNatClampNeg p1)) fun y2 =>
  nm (sE s_mo 1 (Int32.toNatClampNeg p1) p2) fun s3 =>
  some (y2, s3)
theorem hdX9_becomes : yX9_becomes.cls = RX9 ∧ yX9_becomes.cls ≠ "java/lang/invoke/MethodHandle" ∧ yX9_becomes.cls ≠ "java/lang/invoke/VarHandle" ∧ (parseMethodDescriptor yX9_becomes.desc).map (fun d => d.parameters.length) = some 2 := by decide +kernel
theorem iwX9_becomes_X9 : ∀ w ∈ wsX90, w ∈ wsX9_becomes := by decide +kernel
theorem lkX9_becomes_f7 : Cond.fieldLink RX9 7 "CoachCourtModel" "st" "[I" ∈ wsX9_becomes := by decide +kernel
set_option maxHeartbeats 4000000 in
set_option maxRecDepth 100000 in
theorem cX9_becomes_ok {l : Launch} {D : va_G} {t : Nat → ClassId} {κ : Nat → Nat} {a_mo : Nat → Nat} {s_mo : S2} {lam : S6} {p1 : Int32} {p2 : Int32} {out : Int32 × S2} (hf : fX9_becomes s_mo p1 p2 = some out) : Ct l D t κ yX9_becomes wsX9_becomes (rmL 0) [.ref (a_mo 0), .int p1, .int p2] (wModel t a_mo s_mo lam) (some (.int out.1)) (wModel t a_mo out.2 lam) := by
  refine Ct.ofW (own := RX9) (cc := cX9_becomes) (maxL := 4) (ret := (some .int)) (by decide) rfl rfl (Nat.le_of_ble_eq_true rfl) ?_
  intro p e s m below meth c A C hP hD ls hl
  have hS : va_S A s.heap s.heap [] := va_S.rf
  obtain ⟨hx, hb, hr, hml, hown, hts, hC0, hlk, hA⟩ := id C
  have hK := hC0.1
  have hl : lv_has ls 4 [(0, .ref (a_mo 0)), (1, .int p1), (2, .int p2)] := hl
  unfold fX9_becomes at hf
  refine lv_aload_n hx hb dX9_becomes_0 rfl (lv_at hl 0 rfl) ?_
  refine va_get (D := D) (ci := 9) (v := .ref (a_mo 1)) (C := RX9) (T := TX9) (N := 37) hx hb hts iwX9_becomes_X9 hown hK hP 0 rfl rfl 0 (by decide) (hts _ lkX9_becomes_f7) (fun _ h9 => h9) rfl dX9_becomes_1 ?_
  refine lv_iload_n hx hb dX9_becomes_4 rfl (lv_at hl 1 rfl) ?_
  obtain ⟨b1, hf⟩ := gd_some hf
  refine va_iald hx hb hK hP 1 0 rfl rfl (ixb_in b1) dX9_becomes_5 ?_
  obtain ⟨y2, hy2, hf⟩ := nm_ex hf
  refine W.eq (g2 := F0 m 6 ls [.int y2]) (by rw [hy2]) ?_
  refine lv_istore_n (lv' := [(3, .int y2), (0, .ref (a_mo 0)), (1, .int p1), (2, .int p2)]) hx hb dX9_becomes_6 rfl hl (by decide) rfl (fun ls hl => ?_)
  refine lv_aload_n hx hb dX9_becomes_7 rfl (lv_at hl 1 rfl) ?_
  refine va_get (D := D) (ci := 9) (v := .ref (a_mo 1)) (C := RX9) (T := TX9) (N := 37) hx hb hts iwX9_becomes_X9 hown hK hP 0 rfl rfl 0 (by decide) (hts _ lkX9_becomes_f7) (fun _ h9 => h9) rfl dX9_becomes_8 ?_
  refine lv_iload_n hx hb dX9_becomes_11 rfl (lv_at hl 2 rfl) ?_
  refine lv_iload_n hx hb dX9_becomes_12 rfl (lv_at hl 3 rfl) ?_
  obtain ⟨s3, hs3, hf⟩ := nm_ex hf
  refine va_iast hx hb hK hP hD hS 1 0 rfl rfl (ixb_in b1) dX9_becomes_13 (fun H locs hP hD hS => ?_)
  have hP : va_P D vwCl (wModel t a_mo s3 lam) H := by rw [hs3]; exact hP
  have hD : va_D A (wModel t a_mo s3 lam) := by rw [hs3]; exact hD
  refine lv_iload_n hx hb dX9_becomes_14 rfl (lv_at hl 0 rfl) ?_
  obtain rfl := so_eq hf
  exact g_iret C hP hD hS dX9_becomes_15
/-! CoachCourtModel.pave -/
def fX9_pave_50 (s_mo : S2) (x1 : Int32) (x2 : Int32) (x3 : Int32) (k0 : Int32) : Option (Int32 × S2) :=
  (fX9_isMile s_mo x1).bind fun v4 =>
  if v4 = (0 : Int32) then
    (some ((-1 : Int32), s_mo))
  else
    (if k0 = (0 : Int32) then
      (some ((-1 : Int32), s_mo))
    else
      ((fX9_becomes s_mo (((3 : Int32) * x1) + x2) x3).bind fun v7 =>
      some (v7.1, v7.2)))
def fX9_pave (s_mo : S2) (p1 : Int32) (p2 : Int32) (p3 : Int32) : Option (Int32 × S2) :=
  if p2 = (0 : Int32) then
    ((fX9_in (Int32.toInt64 p3) (0 : Int64) (3 : Int64)).bind fun v11 =>
    fX9_pave_50 s_mo p1 p2 p3 v11)
  else
    (if p2 = (1 : Int32) then
      ((fX9_in (Int32.toInt64 p3) (0 : Int64) (3 : Int64)).bind fun v10 =>
      fX9_pave_50 s_mo p1 p2 p3 v10)
    else
      (if p2 = (2 : Int32) then
        ((fX9_isPart p3).bind fun v8 =>
        if v8 = (0 : Int32) then
          (fX9_pave_50 s_mo p1 p2 p3 (0 : Int32))
        else
          (fX9_pave_50 s_mo p1 p2 p3 (1 : Int32)))
      else
        (fX9_pave_50 s_mo p1 p2 p3 (0 : Int32))))
theorem hdX9_pave : yX9_pave.cls = RX9 ∧ yX9_pave.cls ≠ "java/lang/invoke/MethodHandle" ∧ yX9_pave.cls ≠ "java/lang/invoke/VarHandle" ∧ (parseMethodDescriptor yX9_pave.desc).map (fun d => d.parameters.length) = some 3 := by decide +kernel
theorem lkX9_pave_l218 : Cond.constantLong RX9 218 (3) ∈ wsX9_pave := by decide +kernel
set_option maxHeartbeats 4000000 in
set_option maxRecDepth 100000 in
theorem wX9_pave_50 {p : Program} {l : Launch} {e : Env} {s : State} {m : MethodId} {args : Array Value} {below : List Frame} {meth : Method} {c : Code} {D : va_G} {t : Nat → ClassId} {κ : Nat → Nat} {A : Nat → Prop} {a_mo : Nat → Nat} {s_mo : S2} {lam : S6} {x1 : Int32} {x2 : Int32} {x3 : Int32} {k0 : Int32} {out : Int32 × S2} (C : Cxt p s m args meth c cX9_pave 5 RX9 wsX9_pave (some .int) D t κ A) (hf : fX9_pave_50 s_mo x1 x2 x3 k0 = some out) : ∀ (H : Heap) (locs : List Loc) (ls : Array Slot), va_P D vwCl (wModel t a_mo s_mo lam) H → va_D A (wModel t a_mo s_mo lam) → va_S A s.heap H locs → lv_has ls 5 [(0, .ref (a_mo 0)), (1, .int x1), (2, .int x2), (3, .int x3)] → W p l e (rmL 2) s m args below meth c H locs 0 0 (MQ below (gQ D (some (.int out.1)) (wModel t a_mo out.2 lam) A) args s 0 0 A) (F0 m 50 ls [.int k0]) := by
  obtain ⟨hx, hb, hr, hml, hown, hts, hC0, hlk, hA⟩ := id C
  have hK := hC0.1
  intro H locs ls hP hD hS hl
  unfold fX9_pave_50 at hf
  refine lv_istore (lv' := [(4, .int k0), (0, .ref (a_mo 0)), (1, .int x1), (2, .int x2), (3, .int x3)]) hx hb dX9_pave_50 hl (by decide) rfl (fun ls hl => ?_)
  refine lv_aload_n hx hb dX9_pave_52 rfl (lv_at hl 1 rfl) ?_
  refine lv_iload_n hx hb dX9_pave_53 rfl (lv_at hl 2 rfl) ?_
  obtain ⟨v4, ev4, hf⟩ := bd_some hf
  refine gk_V0 C (As := [.int x1]) (rest := []) (ci := 9) (q := (RX9, TX9, 37)) (q0 := 0) (cX9_isMile_ok (l := l) (D := D) (t := t) (κ := κ) (a_mo := a_mo) (lam := lam) ev4) gX9_pave_X9_isMile rfl ⟨rfl, rfl⟩ hdX9_isMile ⟨Nat.le_of_ble_eq_true rfl, Nat.le_of_ble_eq_true rfl⟩ rfl rfl hP hD hS rfl hl.1 (Nat.le_of_ble_eq_true rfl) dX9_pave_54 (Nat.zero_le _) (Nat.zero_le _) (fun H locs hP hD hS => ?_)
  refine W.eq (g2 := F0 m 57 ls [.int v4]) rfl ?_
  refine lv_if_eq (tgt := 78) hx hb dX9_pave_57 (by decide) (fun c5 => ?_) (fun c5 => ?_)
  · rw [if_pos c5] at hf
    refine lv_iconst (v := -1) hx hb dX9_pave_78 (by decide) ?_
    obtain rfl := so_eq hf
    exact g_iret C hP hD hS dX9_pave_79
  · rw [if_neg c5] at hf
    refine lv_iload hx hb dX9_pave_60 (lv_at hl 0 rfl) ?_
    refine lv_if_eq (tgt := 78) hx hb dX9_pave_62 (by decide) (fun c6 => ?_) (fun c6 => ?_)
    · rw [if_pos c6] at hf
      refine lv_iconst (v := -1) hx hb dX9_pave_78 (by decide) ?_
      obtain rfl := so_eq hf
      exact g_iret C hP hD hS dX9_pave_79
    · rw [if_neg c6] at hf
      refine lv_aload_n hx hb dX9_pave_65 rfl (lv_at hl 1 rfl) ?_
      refine lv_iconst (v := 3) hx hb dX9_pave_66 (by decide) ?_
      refine lv_iload_n hx hb dX9_pave_67 rfl (lv_at hl 2 rfl) ?_
      refine lv_imul hx hb dX9_pave_68 ?_
      refine lv_iload_n hx hb dX9_pave_69 rfl (lv_at hl 3 rfl) ?_
      refine lv_iadd hx hb dX9_pave_70 ?_
      refine lv_iload_n hx hb dX9_pave_71 rfl (lv_at hl 4 rfl) ?_
      obtain ⟨v7, ev7, hf⟩ := bd_some hf
      refine gk_V0 C (As := [.int (((3 : Int32) * x1) + x2), .int x3]) (rest := []) (ci := 9) (q := (RX9, TX9, 37)) (q0 := 0) (cX9_becomes_ok (l := l) (D := D) (t := t) (κ := κ) (a_mo := a_mo) (lam := lam) ev7) gX9_pave_X9_becomes rfl ⟨rfl, rfl⟩ hdX9_becomes ⟨Nat.le_of_ble_eq_true rfl, Nat.le_of_ble_eq_true rfl⟩ rfl rfl hP hD hS rfl hl.1 (Nat.le_of_ble_eq_true rfl) dX9_pave_72 (Nat.zero_le _) (Nat.zero_le _) (fun H locs hP hD hS => ?_)
      refine W.eq (g2 := F0 m 75 ls [.int v7.1]) rfl ?_
      refine lv_goto (tgt := 79) hx hb dX9_pave_75 (by decide) ?_
      obtain rfl := so_eq hf
      exact g_iret C hP hD hS dX9_pave_79
set_option maxHeartbeats 4000000 in
set_option maxRecDepth 100000 in
theorem cX9_pave_ok {l : Launch} {D : va_G} {t : Nat → ClassId} {κ : Nat → Nat} {a_mo : Nat → Nat} {s_mo : S2} {lam : S6} {p1 : Int32} {p2 : Int32} {p3 : Int32} {out : Int32 × S2} (hf : fX9_pave s_mo p1 p2 p3 = some out) : Ct l D t κ yX9_pave wsX9_pave (rmL 2) [.ref (a_mo 0), .int p1, .int p2, .int p3] (wModel t a_mo s_mo lam) (some (.int out.1)) (wModel t a_mo out.2 lam) := by
  refine Ct.ofW (own := RX9) (cc := cX9_pave) (maxL := 5) (ret := (some .int)) (by decide) rfl rfl (Nat.le_of_ble_eq_true rfl) ?_
  intro p e s m below meth c A C hP hD ls hl
  have hS : va_S A s.heap s.heap [] := va_S.rf
  obtain ⟨hx, hb, hr, hml, hown, hts, hC0, hlk, hA⟩ := id C
  have hK := hC0.1
  have hl : lv_has ls 5 [(0, .ref (a_mo 0)), (1, .int p1), (2, .int p2), (3, .int p3)] := hl
  unfold fX9_pave at hf
  refine lv_iload_n hx hb dX9_pave_0 rfl (lv_at hl 2 rfl) ?_
  refine lv_if_ne (tgt := 16) hx hb dX9_pave_1 (by decide) (fun c1 => ?_) (fun c1 => ?_)
  · rw [if_neg c1] at hf
    refine lv_iload_n hx hb dX9_pave_16 rfl (lv_at hl 2 rfl) ?_
    refine lv_iconst (v := 1) hx hb dX9_pave_17 (by decide) ?_
    refine lv_icmp_ne (tgt := 33) hx hb dX9_pave_18 (by decide) (fun c2 => ?_) (fun c2 => ?_)
    · rw [if_neg c2] at hf
      refine lv_iload_n hx hb dX9_pave_33 rfl (lv_at hl 2 rfl) ?_
      refine lv_iconst (v := 2) hx hb dX9_pave_34 (by decide) ?_
      refine lv_icmp_ne (tgt := 49) hx hb dX9_pave_35 (by decide) (fun c3 => ?_) (fun c3 => ?_)
      · rw [if_neg c3] at hf
        refine lv_iconst (v := 0) hx hb dX9_pave_49 (by decide) ?_
        exact wX9_pave_50 C hf _ _ _ hP hD hS (lv_sub hl [0, 1, 2, 3] rfl)
      · rw [if_pos c3] at hf
        refine lv_iload_n hx hb dX9_pave_38 rfl (lv_at hl 3 rfl) ?_
        obtain ⟨v8, ev8, hf⟩ := bd_some hf
        refine gk_S C (As := [.int p3]) (rest := []) (cX9_isPart_ok (l := l) (D := D) (t := t) (κ := κ) ev8) gX9_pave_X9_isPart rfl ⟨rfl, rfl⟩ hdX9_isPart ⟨Nat.le_of_ble_eq_true rfl, Nat.le_of_ble_eq_true rfl⟩ hP hD hS rfl hl.1 (Nat.le_of_ble_eq_true rfl) dX9_pave_39 (Nat.zero_le _) (Nat.zero_le _) (fun H locs hP hD hS => ?_)
        refine W.eq (g2 := F0 m 42 ls [.int v8]) rfl ?_
        refine lv_if_eq (tgt := 49) hx hb dX9_pave_42 (by decide) (fun c9 => ?_) (fun c9 => ?_)
        · rw [if_pos c9] at hf
          refine lv_iconst (v := 0) hx hb dX9_pave_49 (by decide) ?_
          exact wX9_pave_50 C hf _ _ _ hP hD hS (lv_sub hl [0, 1, 2, 3] rfl)
        · rw [if_neg c9] at hf
          refine lv_iconst (v := 1) hx hb dX9_pave_45 (by decide) ?_
          refine lv_goto (tgt := 50) hx hb dX9_pave_46 (by decide) ?_
          exact wX9_pave_50 C hf _ _ _ hP hD hS (lv_sub hl [0, 1, 2, 3] rfl)
    · rw [if_pos c2] at hf
      refine lv_iload_n hx hb dX9_pave_21 rfl (lv_at hl 3 rfl) ?_
      refine lv_i2l hx hb dX9_pave_22 rfl ?_
      refine lv_lconst (v := 0) hx hb dX9_pave_23 (by decide) ?_
      refine lv_ldc2 hx hb hown (hts _ lkX9_pave_l218) dX9_pave_24 ?_
      obtain ⟨v10, ev10, hf⟩ := bd_some hf
      refine gk_S C (As := [.long (Int32.toInt64 p3), .long (0 : Int64), .long (3 : Int64)]) (rest := []) (cX9_in_ok (l := l) (D := D) (t := t) (κ := κ) ev10) gX9_pave_X9_in rfl ⟨rfl, rfl⟩ hdX9_in ⟨Nat.le_of_ble_eq_true rfl, Nat.le_of_ble_eq_true rfl⟩ hP hD hS rfl hl.1 (Nat.le_of_ble_eq_true rfl) dX9_pave_27 (Nat.zero_le _) (Nat.zero_le _) (fun H locs hP hD hS => ?_)
      refine W.eq (g2 := F0 m 30 ls [.int v10]) rfl ?_
      refine lv_goto (tgt := 50) hx hb dX9_pave_30 (by decide) ?_
      exact wX9_pave_50 C hf _ _ _ hP hD hS (lv_sub hl [0, 1, 2, 3] rfl)
  · rw [if_pos c1] at hf
    refine lv_iload_n hx hb dX9_pave_4 rfl (lv_at hl 3 rfl) ?_
    refine lv_i2l hx hb dX9_pave_5 rfl ?_
    refine lv_lconst (v := 0) hx hb dX9_pave_6 (by decide) ?_
    refine lv_ldc2 hx hb hown (hts _ lkX9_pave_l218) dX9_pave_7 ?_
    obtain ⟨v11, ev11, hf⟩ := bd_some hf
    refine gk_S C (As := [.long (Int32.toInt64 p3), .long (0 : Int64), .long (3 : Int64)]) (rest := []) (cX9_in_ok (l := l) (D := D) (t := t) (κ := κ) ev11) gX9_pave_X9_in rfl ⟨rfl, rfl⟩ hdX9_in ⟨Nat.le_of_ble_eq_true rfl, Nat.le_of_ble_eq_true rfl⟩ hP hD hS rfl hl.1 (Nat.le_of_ble_eq_true rfl) dX9_pave_10 (Nat.zero_le _) (Nat.zero_le _) (fun H locs hP hD hS => ?_)
    refine W.eq (g2 := F0 m 13 ls [.int v11]) rfl ?_
    refine lv_goto (tgt := 50) hx hb dX9_pave_13 (by decide) ?_
    exact wX9_pave_50 C hf _ _ _ hP hD hS (lv_sub hl [0, 1, 2, 3] rfl)
/-! CoachCourtModel.alter -/
def fX9_alter_72 (s_mo : S2) (x1 : Int32) (x2 : Int32) (x3 : Int32) (k0 : Int32) : Option (Int32 × S2) :=
  (fX9_isParty s_mo x1).bind fun v5 =>
  if v5 = (0 : Int32) then
    (some ((-1 : Int32), s_mo))
  else
    (if k0 = (0 : Int32) then
      (some ((-1 : Int32), s_mo))
    else
      ((fX9_becomes s_mo (((24 : Int32) + ((5 : Int32) * x1)) + x2) x3).bind fun v8 =>
      some (v8.1, v8.2)))
def fX9_alter (s_mo : S2) (p1 : Int32) (p2 : Int32) (p3 : Int32) : Option (Int32 × S2) :=
  if p2 = (0 : Int32) then
    ((fX9_in (Int32.toInt64 p3) (0 : Int64) (3 : Int64)).bind fun v13 =>
    fX9_alter_72 s_mo p1 p2 p3 v13)
  else
    (if p2 = (1 : Int32) then
      ((fX9_in (Int32.toInt64 p3) (0 : Int64) (99 : Int64)).bind fun v12 =>
      fX9_alter_72 s_mo p1 p2 p3 v12)
    else
      (if p2 = (2 : Int32) then
        ((fX9_in (Int32.toInt64 p3) (1 : Int64) (20 : Int64)).bind fun v11 =>
        fX9_alter_72 s_mo p1 p2 p3 v11)
      else
        (if p2 = (3 : Int32) then
          ((fX9_in (Int32.toInt64 p3) (0 : Int64) (3 : Int64)).bind fun v9 =>
          if v9 = (0 : Int32) then
            (fX9_alter_72 s_mo p1 p2 p3 (0 : Int32))
          else
            (fX9_alter_72 s_mo p1 p2 p3 (1 : Int32)))
        else
          (fX9_alter_72 s_mo p1 p2 p3 (0 : Int32)))))
theorem hdX9_alter : yX9_alter.cls = RX9 ∧ yX9_alter.cls ≠ "java/lang/invoke/MethodHandle" ∧ yX9_alter.cls ≠ "java/lang/invoke/VarHandle" ∧ (parseMethodDescriptor yX9_alter.desc).map (fun d => d.parameters.length) = some 3 := by decide +kernel
theorem lkX9_alter_l218 : Cond.constantLong RX9 218 (3) ∈ wsX9_alter := by decide +kernel
theorem lkX9_alter_l228 : Cond.constantLong RX9 228 (20) ∈ wsX9_alter := by decide +kernel
theorem lkX9_alter_l226 : Cond.constantLong RX9 226 (99) ∈ wsX9_alter := by decide +kernel
set_option maxHeartbeats 4000000 in
set_option maxRecDepth 100000 in
theorem wX9_alter_72 {p : Program} {l : Launch} {e : Env} {s : State} {m : MethodId} {args : Array Value} {below : List Frame} {meth : Method} {c : Code} {D : va_G} {t : Nat → ClassId} {κ : Nat → Nat} {A : Nat → Prop} {a_mo : Nat → Nat} {s_mo : S2} {lam : S6} {x1 : Int32} {x2 : Int32} {x3 : Int32} {k0 : Int32} {out : Int32 × S2} (C : Cxt p s m args meth c cX9_alter 5 RX9 wsX9_alter (some .int) D t κ A) (hf : fX9_alter_72 s_mo x1 x2 x3 k0 = some out) : ∀ (H : Heap) (locs : List Loc) (ls : Array Slot), va_P D vwCl (wModel t a_mo s_mo lam) H → va_D A (wModel t a_mo s_mo lam) → va_S A s.heap H locs → lv_has ls 5 [(0, .ref (a_mo 0)), (1, .int x1), (2, .int x2), (3, .int x3)] → W p l e (rmL 2) s m args below meth c H locs 0 0 (MQ below (gQ D (some (.int out.1)) (wModel t a_mo out.2 lam) A) args s 0 0 A) (F0 m 72 ls [.int k0]) := by
  obtain ⟨hx, hb, hr, hml, hown, hts, hC0, hlk, hA⟩ := id C
  have hK := hC0.1
  intro H locs ls hP hD hS hl
  unfold fX9_alter_72 at hf
  refine lv_istore (lv' := [(4, .int k0), (0, .ref (a_mo 0)), (1, .int x1), (2, .int x2), (3, .int x3)]) hx hb dX9_alter_72 hl (by decide) rfl (fun ls hl => ?_)
  refine lv_aload_n hx hb dX9_alter_74 rfl (lv_at hl 1 rfl) ?_
  refine lv_iload_n hx hb dX9_alter_75 rfl (lv_at hl 2 rfl) ?_
  obtain ⟨v5, ev5, hf⟩ := bd_some hf
  refine gk_V0 C (As := [.int x1]) (rest := []) (ci := 9) (q := (RX9, TX9, 37)) (q0 := 0) (cX9_isParty_ok (l := l) (D := D) (t := t) (κ := κ) (a_mo := a_mo) (lam := lam) ev5) gX9_alter_X9_isParty rfl ⟨rfl, rfl⟩ hdX9_isParty ⟨Nat.le_of_ble_eq_true rfl, Nat.le_of_ble_eq_true rfl⟩ rfl rfl hP hD hS rfl hl.1 (Nat.le_of_ble_eq_true rfl) dX9_alter_76 (Nat.zero_le _) (Nat.zero_le _) (fun H locs hP hD hS => ?_)
  refine W.eq (g2 := F0 m 79 ls [.int v5]) rfl ?_
  refine lv_if_eq (tgt := 103) hx hb dX9_alter_79 (by decide) (fun c6 => ?_) (fun c6 => ?_)
  · rw [if_pos c6] at hf
    refine lv_iconst (v := -1) hx hb dX9_alter_103 (by decide) ?_
    obtain rfl := so_eq hf
    exact g_iret C hP hD hS dX9_alter_104
  · rw [if_neg c6] at hf
    refine lv_iload hx hb dX9_alter_82 (lv_at hl 0 rfl) ?_
    refine lv_if_eq (tgt := 103) hx hb dX9_alter_84 (by decide) (fun c7 => ?_) (fun c7 => ?_)
    · rw [if_pos c7] at hf
      refine lv_iconst (v := -1) hx hb dX9_alter_103 (by decide) ?_
      obtain rfl := so_eq hf
      exact g_iret C hP hD hS dX9_alter_104
    · rw [if_neg c7] at hf
      refine lv_aload_n hx hb dX9_alter_87 rfl (lv_at hl 1 rfl) ?_
      refine lv_bipush (v := 24) hx hb dX9_alter_88 (by decide) ?_
      refine lv_iconst (v := 5) hx hb dX9_alter_90 (by decide) ?_
      refine lv_iload_n hx hb dX9_alter_91 rfl (lv_at hl 2 rfl) ?_
      refine lv_imul hx hb dX9_alter_92 ?_
      refine lv_iadd hx hb dX9_alter_93 ?_
      refine lv_iload_n hx hb dX9_alter_94 rfl (lv_at hl 3 rfl) ?_
      refine lv_iadd hx hb dX9_alter_95 ?_
      refine lv_iload_n hx hb dX9_alter_96 rfl (lv_at hl 4 rfl) ?_
      obtain ⟨v8, ev8, hf⟩ := bd_some hf
      refine gk_V0 C (As := [.int (((24 : Int32) + ((5 : Int32) * x1)) + x2), .int x3]) (rest := []) (ci := 9) (q := (RX9, TX9, 37)) (q0 := 0) (cX9_becomes_ok (l := l) (D := D) (t := t) (κ := κ) (a_mo := a_mo) (lam := lam) ev8) gX9_alter_X9_becomes rfl ⟨rfl, rfl⟩ hdX9_becomes ⟨Nat.le_of_ble_eq_true rfl, Nat.le_of_ble_eq_true rfl⟩ rfl rfl hP hD hS rfl hl.1 (Nat.le_of_ble_eq_true rfl) dX9_alter_97 (Nat.zero_le _) (Nat.zero_le _) (fun H locs hP hD hS => ?_)
      refine W.eq (g2 := F0 m 100 ls [.int v8.1]) rfl ?_
      refine lv_goto (tgt := 104) hx hb dX9_alter_100 (by decide) ?_
      obtain rfl := so_eq hf
      exact g_iret C hP hD hS dX9_alter_104
set_option maxHeartbeats 4000000 in
set_option maxRecDepth 100000 in
theorem cX9_alter_ok {l : Launch} {D : va_G} {t : Nat → ClassId} {κ : Nat → Nat} {a_mo : Nat → Nat} {s_mo : S2} {lam : S6} {p1 : Int32} {p2 : Int32} {p3 : Int32} {out : Int32 × S2} (hf : fX9_alter s_mo p1 p2 p3 = some out) : Ct l D t κ yX9_alter wsX9_alter (rmL 2) [.ref (a_mo 0), .int p1, .int p2, .int p3] (wModel t a_mo s_mo lam) (some (.int out.1)) (wModel t a_mo out.2 lam) := by
  refine Ct.ofW (own := RX9) (cc := cX9_alter) (maxL := 5) (ret := (some .int)) (by decide) rfl rfl (Nat.le_of_ble_eq_true rfl) ?_
  intro p e s m below meth c A C hP hD ls hl
  have hS : va_S A s.heap s.heap [] := va_S.rf
  obtain ⟨hx, hb, hr, hml, hown, hts, hC0, hlk, hA⟩ := id C
  have hK := hC0.1
  have hl : lv_has ls 5 [(0, .ref (a_mo 0)), (1, .int p1), (2, .int p2), (3, .int p3)] := hl
  unfold fX9_alter at hf
  refine lv_iload_n hx hb dX9_alter_0 rfl (lv_at hl 2 rfl) ?_
  refine lv_if_ne (tgt := 16) hx hb dX9_alter_1 (by decide) (fun c1 => ?_) (fun c1 => ?_)
  · rw [if_neg c1] at hf
    refine lv_iload_n hx hb dX9_alter_16 rfl (lv_at hl 2 rfl) ?_
    refine lv_iconst (v := 1) hx hb dX9_alter_17 (by decide) ?_
    refine lv_icmp_ne (tgt := 33) hx hb dX9_alter_18 (by decide) (fun c2 => ?_) (fun c2 => ?_)
    · rw [if_neg c2] at hf
      refine lv_iload_n hx hb dX9_alter_33 rfl (lv_at hl 2 rfl) ?_
      refine lv_iconst (v := 2) hx hb dX9_alter_34 (by decide) ?_
      refine lv_icmp_ne (tgt := 50) hx hb dX9_alter_35 (by decide) (fun c3 => ?_) (fun c3 => ?_)
      · rw [if_neg c3] at hf
        refine lv_iload_n hx hb dX9_alter_50 rfl (lv_at hl 2 rfl) ?_
        refine lv_iconst (v := 3) hx hb dX9_alter_51 (by decide) ?_
        refine lv_icmp_ne (tgt := 71) hx hb dX9_alter_52 (by decide) (fun c4 => ?_) (fun c4 => ?_)
        · rw [if_neg c4] at hf
          refine lv_iconst (v := 0) hx hb dX9_alter_71 (by decide) ?_
          exact wX9_alter_72 C hf _ _ _ hP hD hS (lv_sub hl [0, 1, 2, 3] rfl)
        · rw [if_pos c4] at hf
          refine lv_iload_n hx hb dX9_alter_55 rfl (lv_at hl 3 rfl) ?_
          refine lv_i2l hx hb dX9_alter_56 rfl ?_
          refine lv_lconst (v := 0) hx hb dX9_alter_57 (by decide) ?_
          refine lv_ldc2 hx hb hown (hts _ lkX9_alter_l218) dX9_alter_58 ?_
          obtain ⟨v9, ev9, hf⟩ := bd_some hf
          refine gk_S C (As := [.long (Int32.toInt64 p3), .long (0 : Int64), .long (3 : Int64)]) (rest := []) (cX9_in_ok (l := l) (D := D) (t := t) (κ := κ) ev9) gX9_alter_X9_in rfl ⟨rfl, rfl⟩ hdX9_in ⟨Nat.le_of_ble_eq_true rfl, Nat.le_of_ble_eq_true rfl⟩ hP hD hS rfl hl.1 (Nat.le_of_ble_eq_true rfl) dX9_alter_61 (Nat.zero_le _) (Nat.zero_le _) (fun H locs hP hD hS => ?_)
          refine W.eq (g2 := F0 m 64 ls [.int v9]) rfl ?_
          refine lv_if_eq (tgt := 71) hx hb dX9_alter_64 (by decide) (fun c10 => ?_) (fun c10 => ?_)
          · rw [if_pos c10] at hf
            refine lv_iconst (v := 0) hx hb dX9_alter_71 (by decide) ?_
            exact wX9_alter_72 C hf _ _ _ hP hD hS (lv_sub hl [0, 1, 2, 3] rfl)
          · rw [if_neg c10] at hf
            refine lv_iconst (v := 1) hx hb dX9_alter_67 (by decide) ?_
            refine lv_goto (tgt := 72) hx hb dX9_alter_68 (by decide) ?_
            exact wX9_alter_72 C hf _ _ _ hP hD hS (lv_sub hl [0, 1, 2, 3] rfl)
      · rw [if_pos c3] at hf
        refine lv_iload_n hx hb dX9_alter_38 rfl (lv_at hl 3 rfl) ?_
        refine lv_i2l hx hb dX9_alter_39 rfl ?_
        refine lv_lconst (v := 1) hx hb dX9_alter_40 (by decide) ?_
        refine lv_ldc2 hx hb hown (hts _ lkX9_alter_l228) dX9_alter_41 ?_
        obtain ⟨v11, ev11, hf⟩ := bd_some hf
        refine gk_S C (As := [.long (Int32.toInt64 p3), .long (1 : Int64), .long (20 : Int64)]) (rest := []) (cX9_in_ok (l := l) (D := D) (t := t) (κ := κ) ev11) gX9_alter_X9_in rfl ⟨rfl, rfl⟩ hdX9_in ⟨Nat.le_of_ble_eq_true rfl, Nat.le_of_ble_eq_true rfl⟩ hP hD hS rfl hl.1 (Nat.le_of_ble_eq_true rfl) dX9_alter_44 (Nat.zero_le _) (Nat.zero_le _) (fun H locs hP hD hS => ?_)
        refine W.eq (g2 := F0 m 47 ls [.int v11]) rfl ?_
        refine lv_goto (tgt := 72) hx hb dX9_alter_47 (by decide) ?_
        exact wX9_alter_72 C hf _ _ _ hP hD hS (lv_sub hl [0, 1, 2, 3] rfl)
    · rw [if_pos c2] at hf
      refine lv_iload_n hx hb dX9_alter_21 rfl (lv_at hl 3 rfl) ?_
      refine lv_i2l hx hb dX9_alter_22 rfl ?_
      refine lv_lconst (v := 0) hx hb dX9_alter_23 (by decide) ?_
      refine lv_ldc2 hx hb hown (hts _ lkX9_alter_l226) dX9_alter_24 ?_
      obtain ⟨v12, ev12, hf⟩ := bd_some hf
      refine gk_S C (As := [.long (Int32.toInt64 p3), .long (0 : Int64), .long (99 : Int64)]) (rest := []) (cX9_in_ok (l := l) (D := D) (t := t) (κ := κ) ev12) gX9_alter_X9_in rfl ⟨rfl, rfl⟩ hdX9_in ⟨Nat.le_of_ble_eq_true rfl, Nat.le_of_ble_eq_true rfl⟩ hP hD hS rfl hl.1 (Nat.le_of_ble_eq_true rfl) dX9_alter_27 (Nat.zero_le _) (Nat.zero_le _) (fun H locs hP hD hS => ?_)
      refine W.eq (g2 := F0 m 30 ls [.int v12]) rfl ?_
      refine lv_goto (tgt := 72) hx hb dX9_alter_30 (by decide) ?_
      exact wX9_alter_72 C hf _ _ _ hP hD hS (lv_sub hl [0, 1, 2, 3] rfl)
  · rw [if_pos c1] at hf
    refine lv_iload_n hx hb dX9_alter_4 rfl (lv_at hl 3 rfl) ?_
    refine lv_i2l hx hb dX9_alter_5 rfl ?_
    refine lv_lconst (v := 0) hx hb dX9_alter_6 (by decide) ?_
    refine lv_ldc2 hx hb hown (hts _ lkX9_alter_l218) dX9_alter_7 ?_
    obtain ⟨v13, ev13, hf⟩ := bd_some hf
    refine gk_S C (As := [.long (Int32.toInt64 p3), .long (0 : Int64), .long (3 : Int64)]) (rest := []) (cX9_in_ok (l := l) (D := D) (t := t) (κ := κ) ev13) gX9_alter_X9_in rfl ⟨rfl, rfl⟩ hdX9_in ⟨Nat.le_of_ble_eq_true rfl, Nat.le_of_ble_eq_true rfl⟩ hP hD hS rfl hl.1 (Nat.le_of_ble_eq_true rfl) dX9_alter_10 (Nat.zero_le _) (Nat.zero_le _) (fun H locs hP hD hS => ?_)
    refine W.eq (g2 := F0 m 13 ls [.int v13]) rfl ?_
    refine lv_goto (tgt := 72) hx hb dX9_alter_13 (by decide) ?_
    exact wX9_alter_72 C hf _ _ _ hP hD hS (lv_sub hl [0, 1, 2, 3] rfl)
/-! CoachCourtModel.stand -/
def fX9_stand (s_mo : S2) (p1 : Int32) (p2 : Int32) : Option (Int32 × S2) :=
  (fX9_isParty s_mo p1).bind fun v1 =>
  if v1 = (0 : Int32) then
    (some ((-1 : Int32), s_mo))
  else
    ((fX9_isMile s_mo p2).bind fun v3 =>
    if v3 = (0 : Int32) then
      (some ((-1 : Int32), s_mo))
    else
      ((fX9_becomes s_mo (((24 : Int32) + ((5 : Int32) * p1)) + (4 : Int32)) p2).bind fun v5 =>
      some (v5.1, v5.2)))
theorem hdX9_stand : yX9_stand.cls = RX9 ∧ yX9_stand.cls ≠ "java/lang/invoke/MethodHandle" ∧ yX9_stand.cls ≠ "java/lang/invoke/VarHandle" ∧ (parseMethodDescriptor yX9_stand.desc).map (fun d => d.parameters.length) = some 2 := by decide +kernel
set_option maxHeartbeats 4000000 in
set_option maxRecDepth 100000 in
theorem cX9_stand_ok {l : Launch} {D : va_G} {t : Nat → ClassId} {κ : Nat → Nat} {a_mo : Nat → Nat} {s_mo : S2} {lam : S6} {p1 : Int32} {p2 : Int32} {out : Int32 × S2} (hf : fX9_stand s_mo p1 p2 = some out) : Ct l D t κ yX9_stand wsX9_stand (rmL 2) [.ref (a_mo 0), .int p1, .int p2] (wModel t a_mo s_mo lam) (some (.int out.1)) (wModel t a_mo out.2 lam) := by
  refine Ct.ofW (own := RX9) (cc := cX9_stand) (maxL := 3) (ret := (some .int)) (by decide) rfl rfl (Nat.le_of_ble_eq_true rfl) ?_
  intro p e s m below meth c A C hP hD ls hl
  have hS : va_S A s.heap s.heap [] := va_S.rf
  obtain ⟨hx, hb, hr, hml, hown, hts, hC0, hlk, hA⟩ := id C
  have hK := hC0.1
  have hl : lv_has ls 3 [(0, .ref (a_mo 0)), (1, .int p1), (2, .int p2)] := hl
  unfold fX9_stand at hf
  refine lv_aload_n hx hb dX9_stand_0 rfl (lv_at hl 0 rfl) ?_
  refine lv_iload_n hx hb dX9_stand_1 rfl (lv_at hl 1 rfl) ?_
  obtain ⟨v1, ev1, hf⟩ := bd_some hf
  refine gk_V0 C (As := [.int p1]) (rest := []) (ci := 9) (q := (RX9, TX9, 37)) (q0 := 0) (cX9_isParty_ok (l := l) (D := D) (t := t) (κ := κ) (a_mo := a_mo) (lam := lam) ev1) gX9_stand_X9_isParty rfl ⟨rfl, rfl⟩ hdX9_isParty ⟨Nat.le_of_ble_eq_true rfl, Nat.le_of_ble_eq_true rfl⟩ rfl rfl hP hD hS rfl hl.1 (Nat.le_of_ble_eq_true rfl) dX9_stand_2 (Nat.zero_le _) (Nat.zero_le _) (fun H locs hP hD hS => ?_)
  refine W.eq (g2 := F0 m 5 ls [.int v1]) rfl ?_
  refine lv_if_eq (tgt := 32) hx hb dX9_stand_5 (by decide) (fun c2 => ?_) (fun c2 => ?_)
  · rw [if_pos c2] at hf
    refine lv_iconst (v := -1) hx hb dX9_stand_32 (by decide) ?_
    obtain rfl := so_eq hf
    exact g_iret C hP hD hS dX9_stand_33
  · rw [if_neg c2] at hf
    refine lv_aload_n hx hb dX9_stand_8 rfl (lv_at hl 0 rfl) ?_
    refine lv_iload_n hx hb dX9_stand_9 rfl (lv_at hl 2 rfl) ?_
    obtain ⟨v3, ev3, hf⟩ := bd_some hf
    refine gk_V0 C (As := [.int p2]) (rest := []) (ci := 9) (q := (RX9, TX9, 37)) (q0 := 0) (cX9_isMile_ok (l := l) (D := D) (t := t) (κ := κ) (a_mo := a_mo) (lam := lam) ev3) gX9_stand_X9_isMile rfl ⟨rfl, rfl⟩ hdX9_isMile ⟨Nat.le_of_ble_eq_true rfl, Nat.le_of_ble_eq_true rfl⟩ rfl rfl hP hD hS rfl hl.1 (Nat.le_of_ble_eq_true rfl) dX9_stand_10 (Nat.zero_le _) (Nat.zero_le _) (fun H locs hP hD hS => ?_)
    refine W.eq (g2 := F0 m 13 ls [.int v3]) rfl ?_
    refine lv_if_eq (tgt := 32) hx hb dX9_stand_13 (by decide) (fun c4 => ?_) (fun c4 => ?_)
    · rw [if_pos c4] at hf
      refine lv_iconst (v := -1) hx hb dX9_stand_32 (by decide) ?_
      obtain rfl := so_eq hf
      exact g_iret C hP hD hS dX9_stand_33
    · rw [if_neg c4] at hf
      refine lv_aload_n hx hb dX9_stand_16 rfl (lv_at hl 0 rfl) ?_
      refine lv_bipush (v := 24) hx hb dX9_stand_17 (by decide) ?_
      refine lv_iconst (v := 5) hx hb dX9_stand_19 (by decide) ?_
      refine lv_iload_n hx hb dX9_stand_20 rfl (lv_at hl 1 rfl) ?_
      refine lv_imul hx hb dX9_stand_21 ?_
      refine lv_iadd hx hb dX9_stand_22 ?_
      refine lv_iconst (v := 4) hx hb dX9_stand_23 (by decide) ?_
      refine lv_iadd hx hb dX9_stand_24 ?_
      refine lv_iload_n hx hb dX9_stand_25 rfl (lv_at hl 2 rfl) ?_
      obtain ⟨v5, ev5, hf⟩ := bd_some hf
      refine gk_V0 C (As := [.int (((24 : Int32) + ((5 : Int32) * p1)) + (4 : Int32)), .int p2]) (rest := []) (ci := 9) (q := (RX9, TX9, 37)) (q0 := 0) (cX9_becomes_ok (l := l) (D := D) (t := t) (κ := κ) (a_mo := a_mo) (lam := lam) ev5) gX9_stand_X9_becomes rfl ⟨rfl, rfl⟩ hdX9_becomes ⟨Nat.le_of_ble_eq_true rfl, Nat.le_of_ble_eq_true rfl⟩ rfl rfl hP hD hS rfl hl.1 (Nat.le_of_ble_eq_true rfl) dX9_stand_26 (Nat.zero_le _) (Nat.zero_le _) (fun H locs hP hD hS => ?_)
      refine W.eq (g2 := F0 m 29 ls [.int v5.1]) rfl ?_
      refine lv_goto (tgt := 33) hx hb dX9_stand_29 (by decide) ?_
      obtain rfl := so_eq hf
      exact g_iret C hP hD hS dX9_stand_33
/-! CoachCourtModel.set -/
def fX9_set_39 (s_mo : S2) (x1 : Int32) (x2 : Int32) (k0 : Int32) : Option (Int32 × S2) :=
  if k0 = (0 : Int32) then
    (some ((-1 : Int32), s_mo))
  else
    ((fX9_becomes s_mo (((44 : Int32) + x1) - (2 : Int32)) x2).bind fun v4 =>
    some (v4.1, v4.2))
def fX9_set (s_mo : S2) (p1 : Int32) (p2 : Int32) : Option (Int32 × S2) :=
  if p1 = (2 : Int32) then
    ((fX9_in (Int32.toInt64 p2) (1 : Int64) (4 : Int64)).bind fun v7 =>
    fX9_set_39 s_mo p1 p2 v7)
  else
    (if p1 = (3 : Int32) then
      ((fX9_in (Int32.toInt64 p2) (0 : Int64) (99 : Int64)).bind fun v5 =>
      if v5 = (0 : Int32) then
        (fX9_set_39 s_mo p1 p2 (0 : Int32))
      else
        (fX9_set_39 s_mo p1 p2 (1 : Int32)))
    else
      (fX9_set_39 s_mo p1 p2 (0 : Int32)))
theorem hdX9_set : yX9_set.cls = RX9 ∧ yX9_set.cls ≠ "java/lang/invoke/MethodHandle" ∧ yX9_set.cls ≠ "java/lang/invoke/VarHandle" ∧ (parseMethodDescriptor yX9_set.desc).map (fun d => d.parameters.length) = some 2 := by decide +kernel
theorem lkX9_set_l226 : Cond.constantLong RX9 226 (99) ∈ wsX9_set := by decide +kernel
theorem lkX9_set_l213 : Cond.constantLong RX9 213 (4) ∈ wsX9_set := by decide +kernel
set_option maxHeartbeats 4000000 in
set_option maxRecDepth 100000 in
theorem wX9_set_39 {p : Program} {l : Launch} {e : Env} {s : State} {m : MethodId} {args : Array Value} {below : List Frame} {meth : Method} {c : Code} {D : va_G} {t : Nat → ClassId} {κ : Nat → Nat} {A : Nat → Prop} {a_mo : Nat → Nat} {s_mo : S2} {lam : S6} {x1 : Int32} {x2 : Int32} {k0 : Int32} {out : Int32 × S2} (C : Cxt p s m args meth c cX9_set 4 RX9 wsX9_set (some .int) D t κ A) (hf : fX9_set_39 s_mo x1 x2 k0 = some out) : ∀ (H : Heap) (locs : List Loc) (ls : Array Slot), va_P D vwCl (wModel t a_mo s_mo lam) H → va_D A (wModel t a_mo s_mo lam) → va_S A s.heap H locs → lv_has ls 4 [(0, .ref (a_mo 0)), (1, .int x1), (2, .int x2)] → W p l e (rmL 1) s m args below meth c H locs 0 0 (MQ below (gQ D (some (.int out.1)) (wModel t a_mo out.2 lam) A) args s 0 0 A) (F0 m 39 ls [.int k0]) := by
  obtain ⟨hx, hb, hr, hml, hown, hts, hC0, hlk, hA⟩ := id C
  have hK := hC0.1
  intro H locs ls hP hD hS hl
  unfold fX9_set_39 at hf
  refine lv_istore_n (lv' := [(3, .int k0), (0, .ref (a_mo 0)), (1, .int x1), (2, .int x2)]) hx hb dX9_set_39 rfl hl (by decide) rfl (fun ls hl => ?_)
  refine lv_iload_n hx hb dX9_set_40 rfl (lv_at hl 0 rfl) ?_
  refine lv_if_eq (tgt := 58) hx hb dX9_set_41 (by decide) (fun c3 => ?_) (fun c3 => ?_)
  · rw [if_pos c3] at hf
    refine lv_iconst (v := -1) hx hb dX9_set_58 (by decide) ?_
    obtain rfl := so_eq hf
    exact g_iret C hP hD hS dX9_set_59
  · rw [if_neg c3] at hf
    refine lv_aload_n hx hb dX9_set_44 rfl (lv_at hl 1 rfl) ?_
    refine lv_bipush (v := 44) hx hb dX9_set_45 (by decide) ?_
    refine lv_iload_n hx hb dX9_set_47 rfl (lv_at hl 2 rfl) ?_
    refine lv_iadd hx hb dX9_set_48 ?_
    refine lv_iconst (v := 2) hx hb dX9_set_49 (by decide) ?_
    refine lv_isub hx hb dX9_set_50 ?_
    refine lv_iload_n hx hb dX9_set_51 rfl (lv_at hl 3 rfl) ?_
    obtain ⟨v4, ev4, hf⟩ := bd_some hf
    refine gk_V0 C (As := [.int (((44 : Int32) + x1) - (2 : Int32)), .int x2]) (rest := []) (ci := 9) (q := (RX9, TX9, 37)) (q0 := 0) (cX9_becomes_ok (l := l) (D := D) (t := t) (κ := κ) (a_mo := a_mo) (lam := lam) ev4) gX9_set_X9_becomes rfl ⟨rfl, rfl⟩ hdX9_becomes ⟨Nat.le_of_ble_eq_true rfl, Nat.le_of_ble_eq_true rfl⟩ rfl rfl hP hD hS rfl hl.1 (Nat.le_of_ble_eq_true rfl) dX9_set_52 (Nat.zero_le _) (Nat.zero_le _) (fun H locs hP hD hS => ?_)
    refine W.eq (g2 := F0 m 55 ls [.int v4.1]) rfl ?_
    refine lv_goto (tgt := 59) hx hb dX9_set_55 (by decide) ?_
    obtain rfl := so_eq hf
    exact g_iret C hP hD hS dX9_set_59
set_option maxHeartbeats 4000000 in
set_option maxRecDepth 100000 in
theorem cX9_set_ok {l : Launch} {D : va_G} {t : Nat → ClassId} {κ : Nat → Nat} {a_mo : Nat → Nat} {s_mo : S2} {lam : S6} {p1 : Int32} {p2 : Int32} {out : Int32 × S2} (hf : fX9_set s_mo p1 p2 = some out) : Ct l D t κ yX9_set wsX9_set (rmL 1) [.ref (a_mo 0), .int p1, .int p2] (wModel t a_mo s_mo lam) (some (.int out.1)) (wModel t a_mo out.2 lam) := by
  refine Ct.ofW (own := RX9) (cc := cX9_set) (maxL := 4) (ret := (some .int)) (by decide) rfl rfl (Nat.le_of_ble_eq_true rfl) ?_
  intro p e s m below meth c A C hP hD ls hl
  have hS : va_S A s.heap s.heap [] := va_S.rf
  obtain ⟨hx, hb, hr, hml, hown, hts, hC0, hlk, hA⟩ := id C
  have hK := hC0.1
  have hl : lv_has ls 4 [(0, .ref (a_mo 0)), (1, .int p1), (2, .int p2)] := hl
  unfold fX9_set at hf
  refine lv_iload_n hx hb dX9_set_0 rfl (lv_at hl 1 rfl) ?_
  refine lv_iconst (v := 2) hx hb dX9_set_1 (by decide) ?_
  refine lv_icmp_ne (tgt := 17) hx hb dX9_set_2 (by decide) (fun c1 => ?_) (fun c1 => ?_)
  · rw [if_neg c1] at hf
    refine lv_iload_n hx hb dX9_set_17 rfl (lv_at hl 1 rfl) ?_
    refine lv_iconst (v := 3) hx hb dX9_set_18 (by decide) ?_
    refine lv_icmp_ne (tgt := 38) hx hb dX9_set_19 (by decide) (fun c2 => ?_) (fun c2 => ?_)
    · rw [if_neg c2] at hf
      refine lv_iconst (v := 0) hx hb dX9_set_38 (by decide) ?_
      exact wX9_set_39 C hf _ _ _ hP hD hS (lv_sub hl [0, 1, 2] rfl)
    · rw [if_pos c2] at hf
      refine lv_iload_n hx hb dX9_set_22 rfl (lv_at hl 2 rfl) ?_
      refine lv_i2l hx hb dX9_set_23 rfl ?_
      refine lv_lconst (v := 0) hx hb dX9_set_24 (by decide) ?_
      refine lv_ldc2 hx hb hown (hts _ lkX9_set_l226) dX9_set_25 ?_
      obtain ⟨v5, ev5, hf⟩ := bd_some hf
      refine gk_S C (As := [.long (Int32.toInt64 p2), .long (0 : Int64), .long (99 : Int64)]) (rest := []) (cX9_in_ok (l := l) (D := D) (t := t) (κ := κ) ev5) gX9_set_X9_in rfl ⟨rfl, rfl⟩ hdX9_in ⟨Nat.le_of_ble_eq_true rfl, Nat.le_of_ble_eq_true rfl⟩ hP hD hS rfl hl.1 (Nat.le_of_ble_eq_true rfl) dX9_set_28 (Nat.zero_le _) (Nat.zero_le _) (fun H locs hP hD hS => ?_)
      refine W.eq (g2 := F0 m 31 ls [.int v5]) rfl ?_
      refine lv_if_eq (tgt := 38) hx hb dX9_set_31 (by decide) (fun c6 => ?_) (fun c6 => ?_)
      · rw [if_pos c6] at hf
        refine lv_iconst (v := 0) hx hb dX9_set_38 (by decide) ?_
        exact wX9_set_39 C hf _ _ _ hP hD hS (lv_sub hl [0, 1, 2] rfl)
      · rw [if_neg c6] at hf
        refine lv_iconst (v := 1) hx hb dX9_set_34 (by decide) ?_
        refine lv_goto (tgt := 39) hx hb dX9_set_35 (by decide) ?_
        exact wX9_set_39 C hf _ _ _ hP hD hS (lv_sub hl [0, 1, 2] rfl)
  · rw [if_pos c1] at hf
    refine lv_iload_n hx hb dX9_set_5 rfl (lv_at hl 2 rfl) ?_
    refine lv_i2l hx hb dX9_set_6 rfl ?_
    refine lv_lconst (v := 1) hx hb dX9_set_7 (by decide) ?_
    refine lv_ldc2 hx hb hown (hts _ lkX9_set_l213) dX9_set_8 ?_
    obtain ⟨v7, ev7, hf⟩ := bd_some hf
    refine gk_S C (As := [.long (Int32.toInt64 p2), .long (1 : Int64), .long (4 : Int64)]) (rest := []) (cX9_in_ok (l := l) (D := D) (t := t) (κ := κ) ev7) gX9_set_X9_in rfl ⟨rfl, rfl⟩ hdX9_in ⟨Nat.le_of_ble_eq_true rfl, Nat.le_of_ble_eq_true rfl⟩ hP hD hS rfl hl.1 (Nat.le_of_ble_eq_true rfl) dX9_set_11 (Nat.zero_le _) (Nat.zero_le _) (fun H locs hP hD hS => ?_)
    refine W.eq (g2 := F0 m 14 ls [.int v7]) rfl ?_
    refine lv_goto (tgt := 39) hx hb dX9_set_14 (by decide) ?_
    exact wX9_set_39 C hf _ _ _ hP hD hS (lv_sub hl [0, 1, 2] rfl)
/-! CoachCourtModel.turn -/
def fX9_turn (s_mo : S2) (p1 : Int32) : Option (Int32 × S2) :=
  (fX9_in (Int32.toInt64 p1) (0 : Int64) (Int32.toInt64 ((s_mo 0 0) - (2 : Int32)))).bind fun v1 =>
  if v1 = (0 : Int32) then
    (some ((-1 : Int32), s_mo))
  else
    (nm (((3 : Int32) * p1) + (0 : Int32)) fun y3 =>
    gd (ixb (y3 + (3 : Int32)) 177) <|
    (fX9_becomes s_mo y3 (s_mo 1 (Int32.toNatClampNeg (y3 + (3 : Int32))))).bind fun v5 =>
    nm (sE v5.2 1 (Int32.toNatClampNeg (y3 + (3 : Int32))) v5.1) fun s6 =>
    gd (ixb y3 177) <|
    some (s6 1 (Int32.toNatClampNeg y3), s6))
theorem hdX9_turn : yX9_turn.cls = RX9 ∧ yX9_turn.cls ≠ "java/lang/invoke/MethodHandle" ∧ yX9_turn.cls ≠ "java/lang/invoke/VarHandle" ∧ (parseMethodDescriptor yX9_turn.desc).map (fun d => d.parameters.length) = some 1 := by decide +kernel
theorem iwX9_turn_X9 : ∀ w ∈ wsX90, w ∈ wsX9_turn := by decide +kernel
theorem lkX9_turn_f81 : Cond.fieldLink RX9 81 "CoachCourtModel" "miles" "I" ∈ wsX9_turn := by decide +kernel
theorem lkX9_turn_f7 : Cond.fieldLink RX9 7 "CoachCourtModel" "st" "[I" ∈ wsX9_turn := by decide +kernel
set_option maxHeartbeats 4000000 in
set_option maxRecDepth 100000 in
theorem cX9_turn_ok {l : Launch} {D : va_G} {t : Nat → ClassId} {κ : Nat → Nat} {a_mo : Nat → Nat} {s_mo : S2} {lam : S6} {p1 : Int32} {out : Int32 × S2} (hf : fX9_turn s_mo p1 = some out) : Ct l D t κ yX9_turn wsX9_turn (rmL 1) [.ref (a_mo 0), .int p1] (wModel t a_mo s_mo lam) (some (.int out.1)) (wModel t a_mo out.2 lam) := by
  refine Ct.ofW (own := RX9) (cc := cX9_turn) (maxL := 3) (ret := (some .int)) (by decide) rfl rfl (Nat.le_of_ble_eq_true rfl) ?_
  intro p e s m below meth c A C hP hD ls hl
  have hS : va_S A s.heap s.heap [] := va_S.rf
  obtain ⟨hx, hb, hr, hml, hown, hts, hC0, hlk, hA⟩ := id C
  have hK := hC0.1
  have hl : lv_has ls 3 [(0, .ref (a_mo 0)), (1, .int p1)] := hl
  unfold fX9_turn at hf
  refine lv_iload_n hx hb dX9_turn_0 rfl (lv_at hl 1 rfl) ?_
  refine lv_i2l hx hb dX9_turn_1 rfl ?_
  refine lv_lconst (v := 0) hx hb dX9_turn_2 (by decide) ?_
  refine lv_aload_n hx hb dX9_turn_3 rfl (lv_at hl 0 rfl) ?_
  refine va_get (D := D) (ci := 9) (v := .int (s_mo 0 0)) (C := RX9) (T := TX9) (N := 37) hx hb hts iwX9_turn_X9 hown hK hP 0 rfl rfl 3 (by decide) (hts _ lkX9_turn_f81) (fun _ h9 => h9) rfl dX9_turn_4 ?_
  refine lv_iconst (v := 2) hx hb dX9_turn_7 (by decide) ?_
  refine lv_isub hx hb dX9_turn_8 ?_
  refine lv_i2l hx hb dX9_turn_9 rfl ?_
  obtain ⟨v1, ev1, hf⟩ := bd_some hf
  refine gk_S C (As := [.long (Int32.toInt64 p1), .long (0 : Int64), .long (Int32.toInt64 ((s_mo 0 0) - (2 : Int32)))]) (rest := []) (cX9_in_ok (l := l) (D := D) (t := t) (κ := κ) ev1) gX9_turn_X9_in rfl ⟨rfl, rfl⟩ hdX9_in ⟨Nat.le_of_ble_eq_true rfl, Nat.le_of_ble_eq_true rfl⟩ hP hD hS rfl hl.1 (Nat.le_of_ble_eq_true rfl) dX9_turn_10 (Nat.zero_le _) (Nat.zero_le _) (fun H locs hP hD hS => ?_)
  refine W.eq (g2 := F0 m 13 ls [.int v1]) rfl ?_
  refine lv_if_ne (tgt := 18) hx hb dX9_turn_13 (by decide) (fun c2 => ?_) (fun c2 => ?_)
  · rw [if_neg c2] at hf
    refine lv_iconst (v := 3) hx hb dX9_turn_18 (by decide) ?_
    refine lv_iload_n hx hb dX9_turn_19 rfl (lv_at hl 1 rfl) ?_
    refine lv_imul hx hb dX9_turn_20 ?_
    refine lv_iconst (v := 0) hx hb dX9_turn_21 (by decide) ?_
    refine lv_iadd hx hb dX9_turn_22 ?_
    obtain ⟨y3, hy3, hf⟩ := nm_ex hf
    refine W.eq (g2 := F0 m 23 ls [.int y3]) (by rw [hy3]) ?_
    refine lv_istore_n (lv' := [(2, .int y3), (0, .ref (a_mo 0)), (1, .int p1)]) hx hb dX9_turn_23 rfl hl (by decide) rfl (fun ls hl => ?_)
    refine lv_aload_n hx hb dX9_turn_24 rfl (lv_at hl 1 rfl) ?_
    refine va_get (D := D) (ci := 9) (v := .ref (a_mo 1)) (C := RX9) (T := TX9) (N := 37) hx hb hts iwX9_turn_X9 hown hK hP 0 rfl rfl 0 (by decide) (hts _ lkX9_turn_f7) (fun _ h9 => h9) rfl dX9_turn_25 ?_
    refine lv_iload_n hx hb dX9_turn_28 rfl (lv_at hl 0 rfl) ?_
    refine lv_iconst (v := 3) hx hb dX9_turn_29 (by decide) ?_
    refine lv_iadd hx hb dX9_turn_30 ?_
    refine lv_aload_n hx hb dX9_turn_31 rfl (lv_at hl 1 rfl) ?_
    refine lv_iload_n hx hb dX9_turn_32 rfl (lv_at hl 0 rfl) ?_
    refine lv_aload_n hx hb dX9_turn_33 rfl (lv_at hl 1 rfl) ?_
    refine va_get (D := D) (ci := 9) (v := .ref (a_mo 1)) (C := RX9) (T := TX9) (N := 37) hx hb hts iwX9_turn_X9 hown hK hP 0 rfl rfl 0 (by decide) (hts _ lkX9_turn_f7) (fun _ h9 => h9) rfl dX9_turn_34 ?_
    refine lv_iload_n hx hb dX9_turn_37 rfl (lv_at hl 0 rfl) ?_
    refine lv_iconst (v := 3) hx hb dX9_turn_38 (by decide) ?_
    refine lv_iadd hx hb dX9_turn_39 ?_
    obtain ⟨b4, hf⟩ := gd_some hf
    refine va_iald hx hb hK hP 1 0 rfl rfl (ixb_in b4) dX9_turn_40 ?_
    obtain ⟨v5, ev5, hf⟩ := bd_some hf
    refine gk_V0 C (As := [.int y3, .int (s_mo 1 (Int32.toNatClampNeg (y3 + (3 : Int32))))]) (rest := [.int (y3 + (3 : Int32)), .ref (a_mo 1)]) (ci := 9) (q := (RX9, TX9, 37)) (q0 := 0) (cX9_becomes_ok (l := l) (D := D) (t := t) (κ := κ) (a_mo := a_mo) (lam := lam) ev5) gX9_turn_X9_becomes rfl ⟨rfl, rfl⟩ hdX9_becomes ⟨Nat.le_of_ble_eq_true rfl, Nat.le_of_ble_eq_true rfl⟩ rfl rfl hP hD hS rfl hl.1 (Nat.le_of_ble_eq_true rfl) dX9_turn_41 (Nat.zero_le _) (Nat.zero_le _) (fun H locs hP hD hS => ?_)
    refine W.eq (g2 := F0 m 44 ls [.int v5.1, .int (y3 + (3 : Int32)), .ref (a_mo 1)]) rfl ?_
    obtain ⟨s6, hs6, hf⟩ := nm_ex hf
    refine va_iast hx hb hK hP hD hS 1 0 rfl rfl (ixb_in b4) dX9_turn_44 (fun H locs hP hD hS => ?_)
    have hP : va_P D vwCl (wModel t a_mo s6 lam) H := by rw [hs6]; exact hP
    have hD : va_D A (wModel t a_mo s6 lam) := by rw [hs6]; exact hD
    refine lv_aload_n hx hb dX9_turn_45 rfl (lv_at hl 1 rfl) ?_
    refine va_get (D := D) (ci := 9) (v := .ref (a_mo 1)) (C := RX9) (T := TX9) (N := 37) hx hb hts iwX9_turn_X9 hown hK hP 0 rfl rfl 0 (by decide) (hts _ lkX9_turn_f7) (fun _ h9 => h9) rfl dX9_turn_46 ?_
    refine lv_iload_n hx hb dX9_turn_49 rfl (lv_at hl 0 rfl) ?_
    obtain ⟨b7, hf⟩ := gd_some hf
    refine va_iald hx hb hK hP 1 0 rfl rfl (ixb_in b7) dX9_turn_50 ?_
    obtain rfl := so_eq hf
    exact g_iret C hP hD hS dX9_turn_51
  · rw [if_pos c2] at hf
    refine lv_iconst (v := -1) hx hb dX9_turn_16 (by decide) ?_
    obtain rfl := so_eq hf
    exact g_iret C hP hD hS dX9_turn_17
/-! CoachCourtModel.fate -/
def fX9_fate (s_mo : S2) (p1 : Int32) (p2 : Int32) : Option (Int32 × S2) :=
  (fX9_isParty s_mo p1).bind fun v1 =>
  if v1 = (0 : Int32) then
    (some ((-1 : Int32), s_mo))
  else
    ((fX9_in (Int32.toInt64 p2) (0 : Int64) (3 : Int64)).bind fun v3 =>
    if v3 = (0 : Int32) then
      (some ((-1 : Int32), s_mo))
    else
      ((fX9_starts s_mo).bind fun v5 =>
      (fX9_drives v5).bind fun v6 =>
      if p2 = (0 : Int32) then
        (gd (ixb p1 4) <|
        some (v6 6 (Int32.toNatClampNeg p1), v6))
      else
        (if p2 = (1 : Int32) then
          (gd (ixb p1 4) <|
          some (v6 7 (Int32.toNatClampNeg p1), v6))
        else
          (if p2 = (2 : Int32) then
            (gd (ixb p1 4) <|
            some (v6 8 (Int32.toNatClampNeg p1), v6))
          else
            (gd (ixb p1 4) <|
            some (v6 9 (Int32.toNatClampNeg p1), v6))))))
theorem hdX9_fate : yX9_fate.cls = RX9 ∧ yX9_fate.cls ≠ "java/lang/invoke/MethodHandle" ∧ yX9_fate.cls ≠ "java/lang/invoke/VarHandle" ∧ (parseMethodDescriptor yX9_fate.desc).map (fun d => d.parameters.length) = some 2 := by decide +kernel
theorem lkX9_fate_l218 : Cond.constantLong RX9 218 (3) ∈ wsX9_fate := by decide +kernel
theorem iwX9_fate_X9 : ∀ w ∈ wsX90, w ∈ wsX9_fate := by decide +kernel
theorem lkX9_fate_f35 : Cond.fieldLink RX9 35 "CoachCourtModel" "wind" "[I" ∈ wsX9_fate := by decide +kernel
theorem lkX9_fate_f32 : Cond.fieldLink RX9 32 "CoachCourtModel" "heard" "[I" ∈ wsX9_fate := by decide +kernel
theorem lkX9_fate_f29 : Cond.fieldLink RX9 29 "CoachCourtModel" "falls" "[I" ∈ wsX9_fate := by decide +kernel
theorem lkX9_fate_f26 : Cond.fieldLink RX9 26 "CoachCourtModel" "verdict" "[I" ∈ wsX9_fate := by decide +kernel
set_option maxHeartbeats 4000000 in
set_option maxRecDepth 100000 in
theorem cX9_fate_ok {l : Launch} {D : va_G} {t : Nat → ClassId} {κ : Nat → Nat} {a_mo : Nat → Nat} {s_mo : S2} {lam : S6} {p1 : Int32} {p2 : Int32} {out : Int32 × S2} (hf : fX9_fate s_mo p1 p2 = some out) : Ct l D t κ yX9_fate wsX9_fate (rmL 6) [.ref (a_mo 0), .int p1, .int p2] (wModel t a_mo s_mo lam) (some (.int out.1)) (wModel t a_mo out.2 lam) := by
  refine Ct.ofW (own := RX9) (cc := cX9_fate) (maxL := 3) (ret := (some .int)) (by decide) rfl rfl (Nat.le_of_ble_eq_true rfl) ?_
  intro p e s m below meth c A C hP hD ls hl
  have hS : va_S A s.heap s.heap [] := va_S.rf
  obtain ⟨hx, hb, hr, hml, hown, hts, hC0, hlk, hA⟩ := id C
  have hK := hC0.1
  have hl : lv_has ls 3 [(0, .ref (a_mo 0)), (1, .int p1), (2, .int p2)] := hl
  unfold fX9_fate at hf
  refine lv_aload_n hx hb dX9_fate_0 rfl (lv_at hl 0 rfl) ?_
  refine lv_iload_n hx hb dX9_fate_1 rfl (lv_at hl 1 rfl) ?_
  obtain ⟨v1, ev1, hf⟩ := bd_some hf
  refine gk_V0 C (As := [.int p1]) (rest := []) (ci := 9) (q := (RX9, TX9, 37)) (q0 := 0) (cX9_isParty_ok (l := l) (D := D) (t := t) (κ := κ) (a_mo := a_mo) (lam := lam) ev1) gX9_fate_X9_isParty rfl ⟨rfl, rfl⟩ hdX9_isParty ⟨Nat.le_of_ble_eq_true rfl, Nat.le_of_ble_eq_true rfl⟩ rfl rfl hP hD hS rfl hl.1 (Nat.le_of_ble_eq_true rfl) dX9_fate_2 (Nat.zero_le _) (Nat.zero_le _) (fun H locs hP hD hS => ?_)
  refine W.eq (g2 := F0 m 5 ls [.int v1]) rfl ?_
  refine lv_if_eq (tgt := 20) hx hb dX9_fate_5 (by decide) (fun c2 => ?_) (fun c2 => ?_)
  · rw [if_pos c2] at hf
    refine lv_iconst (v := -1) hx hb dX9_fate_20 (by decide) ?_
    obtain rfl := so_eq hf
    exact g_iret C hP hD hS dX9_fate_21
  · rw [if_neg c2] at hf
    refine lv_iload_n hx hb dX9_fate_8 rfl (lv_at hl 2 rfl) ?_
    refine lv_i2l hx hb dX9_fate_9 rfl ?_
    refine lv_lconst (v := 0) hx hb dX9_fate_10 (by decide) ?_
    refine lv_ldc2 hx hb hown (hts _ lkX9_fate_l218) dX9_fate_11 ?_
    obtain ⟨v3, ev3, hf⟩ := bd_some hf
    refine gk_S C (As := [.long (Int32.toInt64 p2), .long (0 : Int64), .long (3 : Int64)]) (rest := []) (cX9_in_ok (l := l) (D := D) (t := t) (κ := κ) ev3) gX9_fate_X9_in rfl ⟨rfl, rfl⟩ hdX9_in ⟨Nat.le_of_ble_eq_true rfl, Nat.le_of_ble_eq_true rfl⟩ hP hD hS rfl hl.1 (Nat.le_of_ble_eq_true rfl) dX9_fate_14 (Nat.zero_le _) (Nat.zero_le _) (fun H locs hP hD hS => ?_)
    refine W.eq (g2 := F0 m 17 ls [.int v3]) rfl ?_
    refine lv_if_ne (tgt := 22) hx hb dX9_fate_17 (by decide) (fun c4 => ?_) (fun c4 => ?_)
    · rw [if_neg c4] at hf
      refine lv_aload_n hx hb dX9_fate_22 rfl (lv_at hl 0 rfl) ?_
      obtain ⟨v5, ev5, hf⟩ := bd_some hf
      refine gk_V0 C (As := []) (rest := []) (ci := 9) (q := (RX9, TX9, 37)) (q0 := 0) (cX9_starts_ok (l := l) (D := D) (t := t) (κ := κ) (a_mo := a_mo) (lam := lam) ev5) gX9_fate_X9_starts rfl ⟨rfl, rfl⟩ hdX9_starts ⟨Nat.le_of_ble_eq_true rfl, Nat.le_of_ble_eq_true rfl⟩ rfl rfl hP hD hS rfl hl.1 (Nat.le_of_ble_eq_true rfl) dX9_fate_23 (Nat.zero_le _) (Nat.zero_le _) (fun H locs hP hD hS => ?_)
      refine W.eq (g2 := F0 m 26 ls []) rfl ?_
      refine lv_aload_n hx hb dX9_fate_26 rfl (lv_at hl 0 rfl) ?_
      obtain ⟨v6, ev6, hf⟩ := bd_some hf
      refine gk_V0 C (As := []) (rest := []) (ci := 9) (q := (RX9, TX9, 37)) (q0 := 0) (cX9_drives_ok (l := l) (D := D) (t := t) (κ := κ) (a_mo := a_mo) (lam := lam) ev6) gX9_fate_X9_drives rfl ⟨rfl, rfl⟩ hdX9_drives ⟨Nat.le_of_ble_eq_true rfl, Nat.le_of_ble_eq_true rfl⟩ rfl rfl hP hD hS rfl hl.1 (Nat.le_of_ble_eq_true rfl) dX9_fate_27 (Nat.zero_le _) (Nat.zero_le _) (fun H locs hP hD hS => ?_)
      refine W.eq (g2 := F0 m 30 ls []) rfl ?_
      refine lv_iload_n hx hb dX9_fate_30 rfl (lv_at hl 2 rfl) ?_
      refine lv_if_ne (tgt := 43) hx hb dX9_fate_31 (by decide) (fun c7 => ?_) (fun c7 => ?_)
      · rw [if_neg c7] at hf
        refine lv_iload_n hx hb dX9_fate_43 rfl (lv_at hl 2 rfl) ?_
        refine lv_iconst (v := 1) hx hb dX9_fate_44 (by decide) ?_
        refine lv_icmp_ne (tgt := 57) hx hb dX9_fate_45 (by decide) (fun c8 => ?_) (fun c8 => ?_)
        · rw [if_neg c8] at hf
          refine lv_iload_n hx hb dX9_fate_57 rfl (lv_at hl 2 rfl) ?_
          refine lv_iconst (v := 2) hx hb dX9_fate_58 (by decide) ?_
          refine lv_icmp_ne (tgt := 71) hx hb dX9_fate_59 (by decide) (fun c9 => ?_) (fun c9 => ?_)
          · rw [if_neg c9] at hf
            refine lv_aload_n hx hb dX9_fate_71 rfl (lv_at hl 0 rfl) ?_
            refine va_get (D := D) (ci := 9) (v := .ref (a_mo 9)) (C := RX9) (T := TX9) (N := 37) hx hb hts iwX9_fate_X9 hown hK hP 0 rfl rfl 22 (by decide) (hts _ lkX9_fate_f35) (fun _ h9 => h9) rfl dX9_fate_72 ?_
            refine lv_iload_n hx hb dX9_fate_75 rfl (lv_at hl 1 rfl) ?_
            obtain ⟨b10, hf⟩ := gd_some hf
            refine va_iald hx hb hK hP 9 0 rfl rfl (ixb_in b10) dX9_fate_76 ?_
            obtain rfl := so_eq hf
            exact g_iret C hP hD hS dX9_fate_77
          · rw [if_pos c9] at hf
            refine lv_aload_n hx hb dX9_fate_62 rfl (lv_at hl 0 rfl) ?_
            refine va_get (D := D) (ci := 9) (v := .ref (a_mo 8)) (C := RX9) (T := TX9) (N := 37) hx hb hts iwX9_fate_X9 hown hK hP 0 rfl rfl 21 (by decide) (hts _ lkX9_fate_f32) (fun _ h9 => h9) rfl dX9_fate_63 ?_
            refine lv_iload_n hx hb dX9_fate_66 rfl (lv_at hl 1 rfl) ?_
            obtain ⟨b11, hf⟩ := gd_some hf
            refine va_iald hx hb hK hP 8 0 rfl rfl (ixb_in b11) dX9_fate_67 ?_
            refine lv_goto (tgt := 77) hx hb dX9_fate_68 (by decide) ?_
            obtain rfl := so_eq hf
            exact g_iret C hP hD hS dX9_fate_77
        · rw [if_pos c8] at hf
          refine lv_aload_n hx hb dX9_fate_48 rfl (lv_at hl 0 rfl) ?_
          refine va_get (D := D) (ci := 9) (v := .ref (a_mo 7)) (C := RX9) (T := TX9) (N := 37) hx hb hts iwX9_fate_X9 hown hK hP 0 rfl rfl 20 (by decide) (hts _ lkX9_fate_f29) (fun _ h9 => h9) rfl dX9_fate_49 ?_
          refine lv_iload_n hx hb dX9_fate_52 rfl (lv_at hl 1 rfl) ?_
          obtain ⟨b12, hf⟩ := gd_some hf
          refine va_iald hx hb hK hP 7 0 rfl rfl (ixb_in b12) dX9_fate_53 ?_
          refine lv_goto (tgt := 77) hx hb dX9_fate_54 (by decide) ?_
          obtain rfl := so_eq hf
          exact g_iret C hP hD hS dX9_fate_77
      · rw [if_pos c7] at hf
        refine lv_aload_n hx hb dX9_fate_34 rfl (lv_at hl 0 rfl) ?_
        refine va_get (D := D) (ci := 9) (v := .ref (a_mo 6)) (C := RX9) (T := TX9) (N := 37) hx hb hts iwX9_fate_X9 hown hK hP 0 rfl rfl 19 (by decide) (hts _ lkX9_fate_f26) (fun _ h9 => h9) rfl dX9_fate_35 ?_
        refine lv_iload_n hx hb dX9_fate_38 rfl (lv_at hl 1 rfl) ?_
        obtain ⟨b13, hf⟩ := gd_some hf
        refine va_iald hx hb hK hP 6 0 rfl rfl (ixb_in b13) dX9_fate_39 ?_
        refine lv_goto (tgt := 77) hx hb dX9_fate_40 (by decide) ?_
        obtain rfl := so_eq hf
        exact g_iret C hP hD hS dX9_fate_77
    · rw [if_pos c4] at hf
      refine lv_iconst (v := -1) hx hb dX9_fate_20 (by decide) ?_
      obtain rfl := so_eq hf
      exact g_iret C hP hD hS dX9_fate_21
/-! CoachCourtModel.beside -/
def fX9_beside (s_mo : S2) (p1 : Int32) : Option (Int32 × S2) :=
  (fX9_isMile s_mo p1).bind fun v1 =>
  if v1 = (0 : Int32) then
    (some ((-1 : Int32), s_mo))
  else
    ((fX9_starts s_mo).bind fun v3 =>
    (fX9_drives v3).bind fun v4 =>
    gd (ixb p1 8) <|
    some (v4 11 (Int32.toNatClampNeg p1), v4))
theorem hdX9_beside : yX9_beside.cls = RX9 ∧ yX9_beside.cls ≠ "java/lang/invoke/MethodHandle" ∧ yX9_beside.cls ≠ "java/lang/invoke/VarHandle" ∧ (parseMethodDescriptor yX9_beside.desc).map (fun d => d.parameters.length) = some 1 := by decide +kernel
theorem iwX9_beside_X9 : ∀ w ∈ wsX90, w ∈ wsX9_beside := by decide +kernel
theorem lkX9_beside_f41 : Cond.fieldLink RX9 41 "CoachCourtModel" "besides" "[I" ∈ wsX9_beside := by decide +kernel
set_option maxHeartbeats 4000000 in
set_option maxRecDepth 100000 in
theorem cX9_beside_ok {l : Launch} {D : va_G} {t : Nat → ClassId} {κ : Nat → Nat} {a_mo : Nat → Nat} {s_mo : S2} {lam : S6} {p1 : Int32} {out : Int32 × S2} (hf : fX9_beside s_mo p1 = some out) : Ct l D t κ yX9_beside wsX9_beside (rmL 6) [.ref (a_mo 0), .int p1] (wModel t a_mo s_mo lam) (some (.int out.1)) (wModel t a_mo out.2 lam) := by
  refine Ct.ofW (own := RX9) (cc := cX9_beside) (maxL := 2) (ret := (some .int)) (by decide) rfl rfl (Nat.le_of_ble_eq_true rfl) ?_
  intro p e s m below meth c A C hP hD ls hl
  have hS : va_S A s.heap s.heap [] := va_S.rf
  obtain ⟨hx, hb, hr, hml, hown, hts, hC0, hlk, hA⟩ := id C
  have hK := hC0.1
  have hl : lv_has ls 2 [(0, .ref (a_mo 0)), (1, .int p1)] := hl
  unfold fX9_beside at hf
  refine lv_aload_n hx hb dX9_beside_0 rfl (lv_at hl 0 rfl) ?_
  refine lv_iload_n hx hb dX9_beside_1 rfl (lv_at hl 1 rfl) ?_
  obtain ⟨v1, ev1, hf⟩ := bd_some hf
  refine gk_V0 C (As := [.int p1]) (rest := []) (ci := 9) (q := (RX9, TX9, 37)) (q0 := 0) (cX9_isMile_ok (l := l) (D := D) (t := t) (κ := κ) (a_mo := a_mo) (lam := lam) ev1) gX9_beside_X9_isMile rfl ⟨rfl, rfl⟩ hdX9_isMile ⟨Nat.le_of_ble_eq_true rfl, Nat.le_of_ble_eq_true rfl⟩ rfl rfl hP hD hS rfl hl.1 (Nat.le_of_ble_eq_true rfl) dX9_beside_2 (Nat.zero_le _) (Nat.zero_le _) (fun H locs hP hD hS => ?_)
  refine W.eq (g2 := F0 m 5 ls [.int v1]) rfl ?_
  refine lv_if_ne (tgt := 10) hx hb dX9_beside_5 (by decide) (fun c2 => ?_) (fun c2 => ?_)
  · rw [if_neg c2] at hf
    refine lv_aload_n hx hb dX9_beside_10 rfl (lv_at hl 0 rfl) ?_
    obtain ⟨v3, ev3, hf⟩ := bd_some hf
    refine gk_V0 C (As := []) (rest := []) (ci := 9) (q := (RX9, TX9, 37)) (q0 := 0) (cX9_starts_ok (l := l) (D := D) (t := t) (κ := κ) (a_mo := a_mo) (lam := lam) ev3) gX9_beside_X9_starts rfl ⟨rfl, rfl⟩ hdX9_starts ⟨Nat.le_of_ble_eq_true rfl, Nat.le_of_ble_eq_true rfl⟩ rfl rfl hP hD hS rfl hl.1 (Nat.le_of_ble_eq_true rfl) dX9_beside_11 (Nat.zero_le _) (Nat.zero_le _) (fun H locs hP hD hS => ?_)
    refine W.eq (g2 := F0 m 14 ls []) rfl ?_
    refine lv_aload_n hx hb dX9_beside_14 rfl (lv_at hl 0 rfl) ?_
    obtain ⟨v4, ev4, hf⟩ := bd_some hf
    refine gk_V0 C (As := []) (rest := []) (ci := 9) (q := (RX9, TX9, 37)) (q0 := 0) (cX9_drives_ok (l := l) (D := D) (t := t) (κ := κ) (a_mo := a_mo) (lam := lam) ev4) gX9_beside_X9_drives rfl ⟨rfl, rfl⟩ hdX9_drives ⟨Nat.le_of_ble_eq_true rfl, Nat.le_of_ble_eq_true rfl⟩ rfl rfl hP hD hS rfl hl.1 (Nat.le_of_ble_eq_true rfl) dX9_beside_15 (Nat.zero_le _) (Nat.zero_le _) (fun H locs hP hD hS => ?_)
    refine W.eq (g2 := F0 m 18 ls []) rfl ?_
    refine lv_aload_n hx hb dX9_beside_18 rfl (lv_at hl 0 rfl) ?_
    refine va_get (D := D) (ci := 9) (v := .ref (a_mo 11)) (C := RX9) (T := TX9) (N := 37) hx hb hts iwX9_beside_X9 hown hK hP 0 rfl rfl 24 (by decide) (hts _ lkX9_beside_f41) (fun _ h9 => h9) rfl dX9_beside_19 ?_
    refine lv_iload_n hx hb dX9_beside_22 rfl (lv_at hl 1 rfl) ?_
    obtain ⟨b5, hf⟩ := gd_some hf
    refine va_iald hx hb hK hP 11 0 rfl rfl (ixb_in b5) dX9_beside_23 ?_
    obtain rfl := so_eq hf
    exact g_iret C hP hD hS dX9_beside_24
  · rw [if_pos c2] at hf
    refine lv_iconst (v := -1) hx hb dX9_beside_8 (by decide) ?_
    obtain rfl := so_eq hf
    exact g_iret C hP hD hS dX9_beside_9
/-! CoachCourtModel.sum -/
def fX9_sum_94 (s_mo : S2) (x1 : Int32) (x2 : Int32) (x3 : Int32) (x5 : Int32) (k0 : Int32) (k1 : Int32) : Option ((Int32 × Int32 × Int32 × Int32 × S2) ⊕ (Int32 × Int32 × Int32 × Int32 × S2)) :=
  (fX9_flag k0).bind fun v11 =>
  nm (k1 ||| (v11 <<< (x5 &&& 31))) fun y12 =>
  nm (x5 + (1 : Int32)) fun y13 =>
  some (.inl (x2, x3, y12, y13, s_mo))
def fX9_sum_64 (s_mo : S2) (x1 : Int32) (x3 : Int32) (x4 : Int32) (x5 : Int32) (k0 : Int32) : Option ((Int32 × Int32 × Int32 × Int32 × S2) ⊕ (Int32 × Int32 × Int32 × Int32 × S2)) :=
  gd (ixb x5 4) <|
  nm (x3 + (s_mo 8 (Int32.toNatClampNeg x5))) fun y9 =>
  if (s_mo 7 (Int32.toNatClampNeg x5)) = (-4 : Int32) then
    (fX9_sum_94 s_mo x1 k0 y9 x5 (0 : Int32) x4)
  else
    (fX9_sum_94 s_mo x1 k0 y9 x5 (1 : Int32) x4)
def fX9_sum_b33 (s_mo : S2) (x1 : Int32) (x2 : Int32) (x3 : Int32) (x4 : Int32) (x5 : Int32) : Option ((Int32 × Int32 × Int32 × Int32 × S2) ⊕ (Int32 × Int32 × Int32 × Int32 × S2)) :=
  if (s_mo 0 1) ≤ x5 then
    (some (.inr (x2, x3, x4, x5, s_mo)))
  else
    (gd (ixb x5 4) <|
    if (s_mo 6 (Int32.toNatClampNeg x5)) ≤ x2 then
      (fX9_sum_64 s_mo x1 x3 x4 x5 x2)
    else
      (fX9_sum_64 s_mo x1 x3 x4 x5 (s_mo 6 (Int32.toNatClampNeg x5))))
def fX9_sum (s_mo : S2) (p1 : Int32) : Option (Int32 × S2) :=
  (fX9_in (Int32.toInt64 p1) (0 : Int64) (4 : Int64)).bind fun v1 =>
  if v1 = (0 : Int32) then
    (some ((-1 : Int32), s_mo))
  else
    ((fX9_starts s_mo).bind fun v3 =>
    (fX9_drives v3).bind fun v4 =>
    (wh (fun (c : Int32 × Int32 × Int32 × Int32 × S2) => fX9_sum_b33 c.2.2.2.2 p1 c.1 c.2.1 c.2.2.1 c.2.2.2.1) 5000 ((-4 : Int32), (0 : Int32), (0 : Int32), (0 : Int32), v4)).bind fun x14 =>
    if p1 = 0 then
      ((fX9_verdicts x14.2.2.2.2).bind fun v16 =>
      (fX9_bitsOf v16).bind fun v17 =>
      some (v17, x14.2.2.2.2))
    else
    if p1 = 1 then
      ((fX9_verdicts x14.2.2.2.2).bind fun v19 =>
      some (v19, x14.2.2.2.2))
    else
    if p1 = 2 then
      (some (x14.1, x14.2.2.2.2))
    else
    if p1 = 3 then
      (some (x14.2.1, x14.2.2.2.2))
    else
    (some (x14.2.2.1, x14.2.2.2.2)))
theorem hdX9_sum : yX9_sum.cls = RX9 ∧ yX9_sum.cls ≠ "java/lang/invoke/MethodHandle" ∧ yX9_sum.cls ≠ "java/lang/invoke/VarHandle" ∧ (parseMethodDescriptor yX9_sum.desc).map (fun d => d.parameters.length) = some 1 := by decide +kernel
theorem lkX9_sum_l213 : Cond.constantLong RX9 213 (4) ∈ wsX9_sum := by decide +kernel
theorem iwX9_sum_X9 : ∀ w ∈ wsX90, w ∈ wsX9_sum := by decide +kernel
theorem lkX9_sum_f84 : Cond.fieldLink RX9 84 "CoachCourtModel" "parties" "I" ∈ wsX9_sum := by decide +kernel
theorem lkX9_sum_f26 : Cond.fieldLink RX9 26 "CoachCourtModel" "verdict" "[I" ∈ wsX9_sum := by decide +kernel
theorem lkX9_sum_f32 : Cond.fieldLink RX9 32 "CoachCourtModel" "heard" "[I" ∈ wsX9_sum := by decide +kernel
theorem lkX9_sum_f29 : Cond.fieldLink RX9 29 "CoachCourtModel" "falls" "[I" ∈ wsX9_sum := by decide +kernel
set_option maxHeartbeats 4000000 in
set_option maxRecDepth 100000 in
theorem wX9_sum_94 {p : Program} {l : Launch} {e : Env} {s : State} {m : MethodId} {args : Array Value} {below : List Frame} {meth : Method} {c : Code} {D : va_G} {t : Nat → ClassId} {κ : Nat → Nat} {A : Nat → Prop} {a_mo : Nat → Nat} {s_mo : S2} {lam : S6} {x1 : Int32} {x2 : Int32} {x3 : Int32} {x5 : Int32} {k0 : Int32} {k1 : Int32} {rv : Option Value} {w1 : va_W} {v : (Int32 × Int32 × Int32 × Int32 × S2) ⊕ (Int32 × Int32 × Int32 × Int32 × S2)} (C : Cxt p s m args meth c cX9_sum 6 RX9 wsX9_sum (some .int) D t κ A) (hf : fX9_sum_94 s_mo x1 x2 x3 x5 k0 k1 = some v) (HB : ∀ (z : Int32 × Int32 × Int32 × Int32 × S2), v = .inl z → ∀ (H : Heap) (locs : List Loc) (ls : Array Slot), va_P D vwCl (wModel t a_mo z.2.2.2.2 lam) H → va_D A (wModel t a_mo z.2.2.2.2 lam) → va_S A s.heap H locs → lv_has ls 6 [(0, .ref (a_mo 0)), (1, .int x1), (2, .int z.1), (3, .int z.2.1), (4, .int z.2.2.1), (5, .int z.2.2.2.1)] → W p l e (rmL 6) s m args below meth c H locs 0 0 (MQ below (gQ D rv w1 A) args s 0 0 A) (F0 m 33 ls [])) : ∀ (H : Heap) (locs : List Loc) (ls : Array Slot), va_P D vwCl (wModel t a_mo s_mo lam) H → va_D A (wModel t a_mo s_mo lam) → va_S A s.heap H locs → lv_has ls 6 [(0, .ref (a_mo 0)), (1, .int x1), (2, .int x2), (3, .int x3), (5, .int x5)] → W p l e (rmL 6) s m args below meth c H locs 0 0 (MQ below (gQ D rv w1 A) args s 0 0 A) (F0 m 94 ls [.int k0, .int k1]) := by
  obtain ⟨hx, hb, hr, hml, hown, hts, hC0, hlk, hA⟩ := id C
  have hK := hC0.1
  intro H locs ls hP hD hS hl
  unfold fX9_sum_94 at hf
  obtain ⟨v11, ev11, hf⟩ := bd_some hf
  refine gk_S C (As := [.int k0]) (rest := [.int k1]) (cX9_flag_ok (l := l) (D := D) (t := t) (κ := κ) ev11) gX9_sum_X9_flag rfl ⟨rfl, rfl⟩ hdX9_flag ⟨Nat.le_of_ble_eq_true rfl, Nat.le_of_ble_eq_true rfl⟩ hP hD hS rfl hl.1 (Nat.le_of_ble_eq_true rfl) dX9_sum_94 (Nat.zero_le _) (Nat.zero_le _) (fun H locs hP hD hS => ?_)
  refine W.eq (g2 := F0 m 97 ls [.int v11, .int k1]) rfl ?_
  refine lv_iload hx hb dX9_sum_97 (lv_at hl 4 rfl) ?_
  refine lv_ishl hx hb dX9_sum_99 ?_
  refine lv_ior hx hb dX9_sum_100 ?_
  obtain ⟨y12, hy12, hf⟩ := nm_ex hf
  refine W.eq (g2 := F0 m 101 ls [.int y12]) (by rw [hy12]) ?_
  refine lv_istore (lv' := [(4, .int y12), (0, .ref (a_mo 0)), (1, .int x1), (2, .int x2), (3, .int x3), (5, .int x5)]) hx hb dX9_sum_101 hl (by decide) rfl (fun ls hl => ?_)
  obtain ⟨y13, hy13, hf⟩ := nm_ex hf
  refine lv_iinc (v := y13) (lv' := [(5, .int y13), (4, .int y12), (0, .ref (a_mo 0)), (1, .int x1), (2, .int x2), (3, .int x3)]) hx hb dX9_sum_103 hl (k := 5) rfl (by rw [hy13]; rfl) (by decide) rfl (fun ls hl => ?_)
  refine lv_goto (tgt := 33) hx hb dX9_sum_106 (by decide) ?_
  obtain rfl := so_eq hf
  exact HB _ rfl _ _ _ hP hD hS (lv_sub hl [2, 3, 4, 5, 1, 0] rfl)
set_option maxHeartbeats 4000000 in
set_option maxRecDepth 100000 in
theorem wX9_sum_64 {p : Program} {l : Launch} {e : Env} {s : State} {m : MethodId} {args : Array Value} {below : List Frame} {meth : Method} {c : Code} {D : va_G} {t : Nat → ClassId} {κ : Nat → Nat} {A : Nat → Prop} {a_mo : Nat → Nat} {s_mo : S2} {lam : S6} {x1 : Int32} {x3 : Int32} {x4 : Int32} {x5 : Int32} {k0 : Int32} {rv : Option Value} {w1 : va_W} {v : (Int32 × Int32 × Int32 × Int32 × S2) ⊕ (Int32 × Int32 × Int32 × Int32 × S2)} (C : Cxt p s m args meth c cX9_sum 6 RX9 wsX9_sum (some .int) D t κ A) (hf : fX9_sum_64 s_mo x1 x3 x4 x5 k0 = some v) (HB : ∀ (z : Int32 × Int32 × Int32 × Int32 × S2), v = .inl z → ∀ (H : Heap) (locs : List Loc) (ls : Array Slot), va_P D vwCl (wModel t a_mo z.2.2.2.2 lam) H → va_D A (wModel t a_mo z.2.2.2.2 lam) → va_S A s.heap H locs → lv_has ls 6 [(0, .ref (a_mo 0)), (1, .int x1), (2, .int z.1), (3, .int z.2.1), (4, .int z.2.2.1), (5, .int z.2.2.2.1)] → W p l e (rmL 6) s m args below meth c H locs 0 0 (MQ below (gQ D rv w1 A) args s 0 0 A) (F0 m 33 ls [])) : ∀ (H : Heap) (locs : List Loc) (ls : Array Slot), va_P D vwCl (wModel t a_mo s_mo lam) H → va_D A (wModel t a_mo s_mo lam) → va_S A s.heap H locs → lv_has ls 6 [(0, .ref (a_mo 0)), (1, .int x1), (3, .int x3), (4, .int x4), (5, .int x5)] → W p l e (rmL 6) s m args below meth c H locs 0 0 (MQ below (gQ D rv w1 A) args s 0 0 A) (F0 m 64 ls [.int k0]) := by
  obtain ⟨hx, hb, hr, hml, hown, hts, hC0, hlk, hA⟩ := id C
  have hK := hC0.1
  intro H locs ls hP hD hS hl
  unfold fX9_sum_64 at hf
  refine lv_istore_n (lv' := [(2, .int k0), (0, .ref (a_mo 0)), (1, .int x1), (3, .int x3), (4, .int x4), (5, .int x5)]) hx hb dX9_sum_64 rfl hl (by decide) rfl (fun ls hl => ?_)
  refine lv_iload_n hx hb dX9_sum_65 rfl (lv_at hl 3 rfl) ?_
  refine lv_aload_n hx hb dX9_sum_66 rfl (lv_at hl 1 rfl) ?_
  refine va_get (D := D) (ci := 9) (v := .ref (a_mo 8)) (C := RX9) (T := TX9) (N := 37) hx hb hts iwX9_sum_X9 hown hK hP 0 rfl rfl 21 (by decide) (hts _ lkX9_sum_f32) (fun _ h9 => h9) rfl dX9_sum_67 ?_
  refine lv_iload hx hb dX9_sum_70 (lv_at hl 5 rfl) ?_
  obtain ⟨b8, hf⟩ := gd_some hf
  refine va_iald hx hb hK hP 8 0 rfl rfl (ixb_in b8) dX9_sum_72 ?_
  refine lv_iadd hx hb dX9_sum_73 ?_
  obtain ⟨y9, hy9, hf⟩ := nm_ex hf
  refine W.eq (g2 := F0 m 74 ls [.int y9]) (by rw [hy9]) ?_
  refine lv_istore_n (lv' := [(3, .int y9), (2, .int k0), (0, .ref (a_mo 0)), (1, .int x1), (4, .int x4), (5, .int x5)]) hx hb dX9_sum_74 rfl hl (by decide) rfl (fun ls hl => ?_)
  refine lv_iload hx hb dX9_sum_75 (lv_at hl 4 rfl) ?_
  refine lv_aload_n hx hb dX9_sum_77 rfl (lv_at hl 2 rfl) ?_
  refine va_get (D := D) (ci := 9) (v := .ref (a_mo 7)) (C := RX9) (T := TX9) (N := 37) hx hb hts iwX9_sum_X9 hown hK hP 0 rfl rfl 20 (by decide) (hts _ lkX9_sum_f29) (fun _ h9 => h9) rfl dX9_sum_78 ?_
  refine lv_iload hx hb dX9_sum_81 (lv_at hl 5 rfl) ?_
  refine va_iald hx hb hK hP 7 0 rfl rfl (ixb_in b8) dX9_sum_83 ?_
  refine lv_bipush (v := -4) hx hb dX9_sum_84 (by decide) ?_
  refine lv_icmp_eq (tgt := 93) hx hb dX9_sum_86 (by decide) (fun c10 => ?_) (fun c10 => ?_)
  · rw [if_pos c10] at hf
    refine lv_iconst (v := 0) hx hb dX9_sum_93 (by decide) ?_
    exact wX9_sum_94 C hf HB _ _ _ hP hD hS (lv_sub hl [2, 3, 1, 0, 5] rfl)
  · rw [if_neg c10] at hf
    refine lv_iconst (v := 1) hx hb dX9_sum_89 (by decide) ?_
    refine lv_goto (tgt := 94) hx hb dX9_sum_90 (by decide) ?_
    exact wX9_sum_94 C hf HB _ _ _ hP hD hS (lv_sub hl [2, 3, 1, 0, 5] rfl)
set_option maxHeartbeats 4000000 in
set_option maxRecDepth 100000 in
theorem wX9_sum_l33 {p : Program} {l : Launch} {e : Env} {s : State} {m : MethodId} {args : Array Value} {below : List Frame} {meth : Method} {c : Code} {D : va_G} {t : Nat → ClassId} {κ : Nat → Nat} {A : Nat → Prop} {a_mo : Nat → Nat} {lam : S6} {x1 : Int32} {rv : Option Value} {w1 : va_W} (C : Cxt p s m args meth c cX9_sum 6 RX9 wsX9_sum (some .int) D t κ A) : ∀ (n : Nat) (x2 : Int32) (x3 : Int32) (x4 : Int32) (x5 : Int32) (s_mo : S2) (x : Int32 × Int32 × Int32 × Int32 × S2), wh (fun (c : Int32 × Int32 × Int32 × Int32 × S2) => fX9_sum_b33 c.2.2.2.2 x1 c.1 c.2.1 c.2.2.1 c.2.2.2.1) n (x2, x3, x4, x5, s_mo) = some x → (∀ (z : Int32 × Int32 × Int32 × Int32 × S2), x = z → ∀ (H : Heap) (locs : List Loc) (ls : Array Slot), va_P D vwCl (wModel t a_mo z.2.2.2.2 lam) H → va_D A (wModel t a_mo z.2.2.2.2 lam) → va_S A s.heap H locs → lv_has ls 6 [(0, .ref (a_mo 0)), (1, .int x1), (2, .int z.1), (3, .int z.2.1), (4, .int z.2.2.1)] → W p l e (rmL 6) s m args below meth c H locs 0 0 (MQ below (gQ D rv w1 A) args s 0 0 A) (F0 m 109 ls [])) → ∀ (H : Heap) (locs : List Loc) (ls : Array Slot), va_P D vwCl (wModel t a_mo s_mo lam) H → va_D A (wModel t a_mo s_mo lam) → va_S A s.heap H locs → lv_has ls 6 [(0, .ref (a_mo 0)), (1, .int x1), (2, .int x2), (3, .int x3), (4, .int x4), (5, .int x5)] → W p l e (rmL 6) s m args below meth c H locs 0 0 (MQ below (gQ D rv w1 A) args s 0 0 A) (F0 m 33 ls []) := by
  obtain ⟨hx, hb, hr, hml, hown, hts, hC0, hlk, hA⟩ := id C
  have hK := hC0.1
  intro n
  induction n with
  | zero =>
    intro x2 x3 x4 x5 s_mo x h
    exact (wh_0 h).elim
  | succ n ih =>
    intro x2 x3 x4 x5 s_mo x h HX H locs ls hP hD hS hl
    obtain ⟨v, hf, hB, hX⟩ := wh_step h
    have hf : fX9_sum_b33 s_mo x1 x2 x3 x4 x5 = some v := hf
    have HB : ∀ (z : Int32 × Int32 × Int32 × Int32 × S2), v = .inl z → ∀ (H : Heap) (locs : List Loc) (ls : Array Slot), va_P D vwCl (wModel t a_mo z.2.2.2.2 lam) H → va_D A (wModel t a_mo z.2.2.2.2 lam) → va_S A s.heap H locs → lv_has ls 6 [(0, .ref (a_mo 0)), (1, .int x1), (2, .int z.1), (3, .int z.2.1), (4, .int z.2.2.1), (5, .int z.2.2.2.1)] → W p l e (rmL 6) s m args below meth c H locs 0 0 (MQ below (gQ D rv w1 A) args s 0 0 A) (F0 m 33 ls []) := fun z hz H locs ls hP hD hS hl => ih z.1 z.2.1 z.2.2.1 z.2.2.2.1 z.2.2.2.2 x (hB z hz) HX H locs ls hP hD hS hl
    have HX : ∀ (z : Int32 × Int32 × Int32 × Int32 × S2), v = .inr z → ∀ (H : Heap) (locs : List Loc) (ls : Array Slot), va_P D vwCl (wModel t a_mo z.2.2.2.2 lam) H → va_D A (wModel t a_mo z.2.2.2.2 lam) → va_S A s.heap H locs → lv_has ls 6 [(0, .ref (a_mo 0)), (1, .int x1), (2, .int z.1), (3, .int z.2.1), (4, .int z.2.2.1)] → W p l e (rmL 6) s m args below meth c H locs 0 0 (MQ below (gQ D rv w1 A) args s 0 0 A) (F0 m 109 ls []) := fun z hz => HX z (hX _ hz).symm
    unfold fX9_sum_b33 at hf
    refine lv_iload hx hb dX9_sum_33 (lv_at hl 5 rfl) ?_
    refine lv_aload_n hx hb dX9_sum_35 rfl (lv_at hl 0 rfl) ?_
    refine va_get (D := D) (ci := 9) (v := .int (s_mo 0 1)) (C := RX9) (T := TX9) (N := 37) hx hb hts iwX9_sum_X9 hown hK hP 0 rfl rfl 4 (by decide) (hts _ lkX9_sum_f84) (fun _ h9 => h9) rfl dX9_sum_36 ?_
    refine lv_icmp_ge (tgt := 109) hx hb dX9_sum_39 (by decide) (fun c5 => ?_) (fun c5 => ?_)
    · rw [if_pos c5] at hf
      obtain rfl := so_eq hf
      exact HX _ rfl _ _ _ hP hD hS (lv_sub hl [0, 1, 2, 3, 4] rfl)
    · rw [if_neg c5] at hf
      refine lv_aload_n hx hb dX9_sum_42 rfl (lv_at hl 0 rfl) ?_
      refine va_get (D := D) (ci := 9) (v := .ref (a_mo 6)) (C := RX9) (T := TX9) (N := 37) hx hb hts iwX9_sum_X9 hown hK hP 0 rfl rfl 19 (by decide) (hts _ lkX9_sum_f26) (fun _ h9 => h9) rfl dX9_sum_43 ?_
      refine lv_iload hx hb dX9_sum_46 (lv_at hl 5 rfl) ?_
      obtain ⟨b6, hf⟩ := gd_some hf
      refine va_iald hx hb hK hP 6 0 rfl rfl (ixb_in b6) dX9_sum_48 ?_
      refine lv_iload_n hx hb dX9_sum_49 rfl (lv_at hl 2 rfl) ?_
      refine lv_icmp_le (tgt := 63) hx hb dX9_sum_50 (by decide) (fun c7 => ?_) (fun c7 => ?_)
      · rw [if_pos c7] at hf
        refine lv_iload_n hx hb dX9_sum_63 rfl (lv_at hl 2 rfl) ?_
        exact wX9_sum_64 C hf HB _ _ _ hP hD hS (lv_sub hl [0, 1, 3, 4, 5] rfl)
      · rw [if_neg c7] at hf
        refine lv_aload_n hx hb dX9_sum_53 rfl (lv_at hl 0 rfl) ?_
        refine va_get (D := D) (ci := 9) (v := .ref (a_mo 6)) (C := RX9) (T := TX9) (N := 37) hx hb hts iwX9_sum_X9 hown hK hP 0 rfl rfl 19 (by decide) (hts _ lkX9_sum_f26) (fun _ h9 => h9) rfl dX9_sum_54 ?_
        refine lv_iload hx hb dX9_sum_57 (lv_at hl 5 rfl) ?_
        refine va_iald hx hb hK hP 6 0 rfl rfl (ixb_in b6) dX9_sum_59 ?_
        refine lv_goto (tgt := 64) hx hb dX9_sum_60 (by decide) ?_
        exact wX9_sum_64 C hf HB _ _ _ hP hD hS (lv_sub hl [0, 1, 3, 4, 5] rfl)
set_option maxHeartbeats 4000000 in
set_option maxRecDepth 100000 in
theorem cX9_sum_ok {l : Launch} {D : va_G} {t : Nat → ClassId} {κ : Nat → Nat} {a_mo : Nat → Nat} {s_mo : S2} {lam : S6} {p1 : Int32} {out : Int32 × S2} (hf : fX9_sum s_mo p1 = some out) : Ct l D t κ yX9_sum wsX9_sum (rmL 6) [.ref (a_mo 0), .int p1] (wModel t a_mo s_mo lam) (some (.int out.1)) (wModel t a_mo out.2 lam) := by
  refine Ct.ofW (own := RX9) (cc := cX9_sum) (maxL := 6) (ret := (some .int)) (by decide) rfl rfl (Nat.le_of_ble_eq_true rfl) ?_
  intro p e s m below meth c A C hP hD ls hl
  have hS : va_S A s.heap s.heap [] := va_S.rf
  obtain ⟨hx, hb, hr, hml, hown, hts, hC0, hlk, hA⟩ := id C
  have hK := hC0.1
  have hl : lv_has ls 6 [(0, .ref (a_mo 0)), (1, .int p1)] := hl
  unfold fX9_sum at hf
  refine lv_iload_n hx hb dX9_sum_0 rfl (lv_at hl 1 rfl) ?_
  refine lv_i2l hx hb dX9_sum_1 rfl ?_
  refine lv_lconst (v := 0) hx hb dX9_sum_2 (by decide) ?_
  refine lv_ldc2 hx hb hown (hts _ lkX9_sum_l213) dX9_sum_3 ?_
  obtain ⟨v1, ev1, hf⟩ := bd_some hf
  refine gk_S C (As := [.long (Int32.toInt64 p1), .long (0 : Int64), .long (4 : Int64)]) (rest := []) (cX9_in_ok (l := l) (D := D) (t := t) (κ := κ) ev1) gX9_sum_X9_in rfl ⟨rfl, rfl⟩ hdX9_in ⟨Nat.le_of_ble_eq_true rfl, Nat.le_of_ble_eq_true rfl⟩ hP hD hS rfl hl.1 (Nat.le_of_ble_eq_true rfl) dX9_sum_6 (Nat.zero_le _) (Nat.zero_le _) (fun H locs hP hD hS => ?_)
  refine W.eq (g2 := F0 m 9 ls [.int v1]) rfl ?_
  refine lv_if_ne (tgt := 14) hx hb dX9_sum_9 (by decide) (fun c2 => ?_) (fun c2 => ?_)
  · rw [if_neg c2] at hf
    refine lv_aload_n hx hb dX9_sum_14 rfl (lv_at hl 0 rfl) ?_
    obtain ⟨v3, ev3, hf⟩ := bd_some hf
    refine gk_V0 C (As := []) (rest := []) (ci := 9) (q := (RX9, TX9, 37)) (q0 := 0) (cX9_starts_ok (l := l) (D := D) (t := t) (κ := κ) (a_mo := a_mo) (lam := lam) ev3) gX9_sum_X9_starts rfl ⟨rfl, rfl⟩ hdX9_starts ⟨Nat.le_of_ble_eq_true rfl, Nat.le_of_ble_eq_true rfl⟩ rfl rfl hP hD hS rfl hl.1 (Nat.le_of_ble_eq_true rfl) dX9_sum_15 (Nat.zero_le _) (Nat.zero_le _) (fun H locs hP hD hS => ?_)
    refine W.eq (g2 := F0 m 18 ls []) rfl ?_
    refine lv_aload_n hx hb dX9_sum_18 rfl (lv_at hl 0 rfl) ?_
    obtain ⟨v4, ev4, hf⟩ := bd_some hf
    refine gk_V0 C (As := []) (rest := []) (ci := 9) (q := (RX9, TX9, 37)) (q0 := 0) (cX9_drives_ok (l := l) (D := D) (t := t) (κ := κ) (a_mo := a_mo) (lam := lam) ev4) gX9_sum_X9_drives rfl ⟨rfl, rfl⟩ hdX9_drives ⟨Nat.le_of_ble_eq_true rfl, Nat.le_of_ble_eq_true rfl⟩ rfl rfl hP hD hS rfl hl.1 (Nat.le_of_ble_eq_true rfl) dX9_sum_19 (Nat.zero_le _) (Nat.zero_le _) (fun H locs hP hD hS => ?_)
    refine W.eq (g2 := F0 m 22 ls []) rfl ?_
    refine lv_bipush (v := -4) hx hb dX9_sum_22 (by decide) ?_
    refine lv_istore_n (lv' := [(2, .int (-4 : Int32)), (0, .ref (a_mo 0)), (1, .int p1)]) hx hb dX9_sum_24 rfl hl (by decide) rfl (fun ls hl => ?_)
    refine lv_iconst (v := 0) hx hb dX9_sum_25 (by decide) ?_
    refine lv_istore_n (lv' := [(3, .int (0 : Int32)), (2, .int (-4 : Int32)), (0, .ref (a_mo 0)), (1, .int p1)]) hx hb dX9_sum_26 rfl hl (by decide) rfl (fun ls hl => ?_)
    refine lv_iconst (v := 0) hx hb dX9_sum_27 (by decide) ?_
    refine lv_istore (lv' := [(4, .int (0 : Int32)), (3, .int (0 : Int32)), (2, .int (-4 : Int32)), (0, .ref (a_mo 0)), (1, .int p1)]) hx hb dX9_sum_28 hl (by decide) rfl (fun ls hl => ?_)
    refine lv_iconst (v := 0) hx hb dX9_sum_30 (by decide) ?_
    refine lv_istore (lv' := [(5, .int (0 : Int32)), (4, .int (0 : Int32)), (3, .int (0 : Int32)), (2, .int (-4 : Int32)), (0, .ref (a_mo 0)), (1, .int p1)]) hx hb dX9_sum_31 hl (by decide) rfl (fun ls hl => ?_)
    obtain ⟨x14, ex14, hf⟩ := bd_some hf
    refine wX9_sum_l33 C 5000 (-4 : Int32) (0 : Int32) (0 : Int32) (0 : Int32) v4 x14 ex14 (fun c9 h9 H locs ls hP hD hS hl => ?_) _ _ _ hP hD hS (lv_sub hl [4, 5, 3, 2, 1, 0] rfl)
    subst h9
    refine lv_iload_n hx hb dX9_sum_109 rfl (lv_at hl 1 rfl) ?_
    by_cases c15 : p1 = 0
    · rw [if_pos c15] at hf
      refine lv_tableIn (tgt := 140) hx hb dX9_sum_110 (by rw [c15]; decide) (by rw [c15]; decide) (by rw [c15]; rfl) (by decide) ?_
      refine lv_aload_n hx hb dX9_sum_140 rfl (lv_at hl 0 rfl) ?_
      obtain ⟨v16, ev16, hf⟩ := bd_some hf
      refine gk_V0 C (As := []) (rest := []) (ci := 9) (q := (RX9, TX9, 37)) (q0 := 0) (cX9_verdicts_ok (l := l) (D := D) (t := t) (κ := κ) (a_mo := a_mo) (lam := lam) ev16) gX9_sum_X9_verdicts rfl ⟨rfl, rfl⟩ hdX9_verdicts ⟨Nat.le_of_ble_eq_true rfl, Nat.le_of_ble_eq_true rfl⟩ rfl rfl hP hD hS rfl hl.1 (Nat.le_of_ble_eq_true rfl) dX9_sum_141 (Nat.zero_le _) (Nat.zero_le _) (fun H locs hP hD hS => ?_)
      refine W.eq (g2 := F0 m 144 ls [.int v16]) rfl ?_
      obtain ⟨v17, ev17, hf⟩ := bd_some hf
      refine gk_S C (As := [.int v16]) (rest := []) (cX9_bitsOf_ok (l := l) (D := D) (t := t) (κ := κ) ev17) gX9_sum_X9_bitsOf rfl ⟨rfl, rfl⟩ hdX9_bitsOf ⟨Nat.le_of_ble_eq_true rfl, Nat.le_of_ble_eq_true rfl⟩ hP hD hS rfl hl.1 (Nat.le_of_ble_eq_true rfl) dX9_sum_144 (Nat.zero_le _) (Nat.zero_le _) (fun H locs hP hD hS => ?_)
      refine W.eq (g2 := F0 m 147 ls [.int v17]) rfl ?_
      obtain rfl := so_eq hf
      exact g_iret C hP hD hS dX9_sum_147
    rw [if_neg c15] at hf
    by_cases c18 : p1 = 1
    · rw [if_pos c18] at hf
      refine lv_tableIn (tgt := 148) hx hb dX9_sum_110 (by rw [c18]; decide) (by rw [c18]; decide) (by rw [c18]; rfl) (by decide) ?_
      refine lv_aload_n hx hb dX9_sum_148 rfl (lv_at hl 0 rfl) ?_
      obtain ⟨v19, ev19, hf⟩ := bd_some hf
      refine gk_V0 C (As := []) (rest := []) (ci := 9) (q := (RX9, TX9, 37)) (q0 := 0) (cX9_verdicts_ok (l := l) (D := D) (t := t) (κ := κ) (a_mo := a_mo) (lam := lam) ev19) gX9_sum_X9_verdicts rfl ⟨rfl, rfl⟩ hdX9_verdicts ⟨Nat.le_of_ble_eq_true rfl, Nat.le_of_ble_eq_true rfl⟩ rfl rfl hP hD hS rfl hl.1 (Nat.le_of_ble_eq_true rfl) dX9_sum_149 (Nat.zero_le _) (Nat.zero_le _) (fun H locs hP hD hS => ?_)
      refine W.eq (g2 := F0 m 152 ls [.int v19]) rfl ?_
      obtain rfl := so_eq hf
      exact g_iret C hP hD hS dX9_sum_152
    rw [if_neg c18] at hf
    by_cases c20 : p1 = 2
    · rw [if_pos c20] at hf
      refine lv_tableIn (tgt := 153) hx hb dX9_sum_110 (by rw [c20]; decide) (by rw [c20]; decide) (by rw [c20]; rfl) (by decide) ?_
      refine lv_iload_n hx hb dX9_sum_153 rfl (lv_at hl 2 rfl) ?_
      obtain rfl := so_eq hf
      exact g_iret C hP hD hS dX9_sum_154
    rw [if_neg c20] at hf
    by_cases c21 : p1 = 3
    · rw [if_pos c21] at hf
      refine lv_tableIn (tgt := 155) hx hb dX9_sum_110 (by rw [c21]; decide) (by rw [c21]; decide) (by rw [c21]; rfl) (by decide) ?_
      refine lv_iload_n hx hb dX9_sum_155 rfl (lv_at hl 3 rfl) ?_
      obtain rfl := so_eq hf
      exact g_iret C hP hD hS dX9_sum_156
    rw [if_neg c21] at hf
    refine lv_tableOut (tgt := 157) hx hb dX9_sum_110 (by have nc15 := lv_neT c15 (a := 0) (by decide); have nc18 := lv_neT c18 (a := 1) (by decide); have nc20 := lv_neT c20 (a := 2) (by decide); have nc21 := lv_neT c21 (a := 3) (by decide); have z := Int32.le_toInt p1; have z2 := Int32.toInt_lt p1; omega) (by decide) ?_
    refine lv_iload hx hb dX9_sum_157 (lv_at hl 4 rfl) ?_
    obtain rfl := so_eq hf
    exact g_iret C hP hD hS dX9_sum_159
  · rw [if_pos c2] at hf
    refine lv_iconst (v := -1) hx hb dX9_sum_12 (by decide) ?_
    obtain rfl := so_eq hf
    exact g_iret C hP hD hS dX9_sum_13
