/-! CoachCourt$Sightings.put -/
def fX5_put (s_sn : S2) (p1 : Int32) (p2 : Int32) : Option (Int32 × S2) :=
  if (s_sn 0 0) < (6 : Int32) then
    (gd (ixb (s_sn 0 0) 6) <|
    nm (sE s_sn 1 (Int32.toNatClampNeg (s_sn 0 0)) p1) fun s3 =>
    gd (ixb (s3 0 0) 6) <|
    nm (sE s3 2 (Int32.toNatClampNeg (s3 0 0)) p2) fun s5 =>
    nm (sE s5 0 0 ((s5 0 0) + (1 : Int32))) fun s6 =>
    some ((1 : Int32), s6))
  else
    (some ((0 : Int32), s_sn))
theorem hdX5_put : yX5_put.cls = RX5 ∧ yX5_put.cls ≠ "java/lang/invoke/MethodHandle" ∧ yX5_put.cls ≠ "java/lang/invoke/VarHandle" ∧ (parseMethodDescriptor yX5_put.desc).map (fun d => d.parameters.length) = some 2 := by decide +kernel
theorem iwX5_put_X5 : ∀ w ∈ wsX50, w ∈ wsX5_put := by decide +kernel
theorem lkX5_put_f18 : Cond.fieldLink RX5 18 "CoachCourt$Sightings" "many" "I" ∈ wsX5_put := by decide +kernel
theorem lkX5_put_f9 : Cond.fieldLink RX5 9 "CoachCourt$Sightings" "who" "[I" ∈ wsX5_put := by decide +kernel
theorem lkX5_put_f15 : Cond.fieldLink RX5 15 "CoachCourt$Sightings" "where" "[I" ∈ wsX5_put := by decide +kernel
set_option maxHeartbeats 4000000 in
set_option maxRecDepth 100000 in
theorem cX5_put_ok {l : Launch} {D : va_G} {t : Nat → ClassId} {κ : Nat → Nat} {a_sn : Nat → Nat} {s_sn : S2} {p1 : Int32} {p2 : Int32} {out : Int32 × S2} (hf : fX5_put s_sn p1 p2 = some out) : Ct l D t κ yX5_put wsX5_put (rmL 0) [.ref (a_sn 0), .int p1, .int p2] (wSight t a_sn s_sn) (some (.int out.1)) (wSight t a_sn out.2) := by
  refine Ct.ofW (own := RX5) (cc := cX5_put) (maxL := 3) (ret := (some .boolean)) (by decide) rfl rfl (Nat.le_of_ble_eq_true rfl) ?_
  intro p e s m below meth c A C hP hD ls hl
  have hS : va_S A s.heap s.heap [] := va_S.rf
  obtain ⟨hx, hb, hr, hml, hown, hts, hC0, hlk, hA⟩ := id C
  have hK := hC0.1
  have hl : lv_has ls 3 [(0, .ref (a_sn 0)), (1, .int p1), (2, .int p2)] := hl
  unfold fX5_put at hf
  refine lv_aload_n hx hb dX5_put_0 rfl (lv_at hl 0 rfl) ?_
  refine va_get (D := D) (ci := 5) (v := .int (s_sn 0 0)) (C := RX5) (T := TX5) (N := 3) hx hb hts iwX5_put_X5 hown hK hP 0 rfl rfl 2 (by decide) (hts _ lkX5_put_f18) (fun _ h9 => h9) rfl dX5_put_1 ?_
  refine lv_bipush (v := 6) hx hb dX5_put_4 (by decide) ?_
  refine lv_icmp_lt (tgt := 11) hx hb dX5_put_6 (by decide) (fun c1 => ?_) (fun c1 => ?_)
  · rw [if_pos c1] at hf
    refine lv_aload_n hx hb dX5_put_11 rfl (lv_at hl 0 rfl) ?_
    refine va_get (D := D) (ci := 5) (v := .ref (a_sn 1)) (C := RX5) (T := TX5) (N := 3) hx hb hts iwX5_put_X5 hown hK hP 0 rfl rfl 0 (by decide) (hts _ lkX5_put_f9) (fun _ h9 => h9) rfl dX5_put_12 ?_
    refine lv_aload_n hx hb dX5_put_15 rfl (lv_at hl 0 rfl) ?_
    refine va_get (D := D) (ci := 5) (v := .int (s_sn 0 0)) (C := RX5) (T := TX5) (N := 3) hx hb hts iwX5_put_X5 hown hK hP 0 rfl rfl 2 (by decide) (hts _ lkX5_put_f18) (fun _ h9 => h9) rfl dX5_put_16 ?_
    refine lv_iload_n hx hb dX5_put_19 rfl (lv_at hl 1 rfl) ?_
    obtain ⟨b2, hf⟩ := gd_some hf
    obtain ⟨s3, hs3, hf⟩ := nm_ex hf
    refine va_iast hx hb hK hP hD hS 1 0 rfl rfl (ixb_in b2) dX5_put_20 (fun H locs hP hD hS => ?_)
    have hP : va_P D vwCl (wSight t a_sn s3) H := by rw [hs3]; exact hP
    have hD : va_D A (wSight t a_sn s3) := by rw [hs3]; exact hD
    refine lv_aload_n hx hb dX5_put_21 rfl (lv_at hl 0 rfl) ?_
    refine va_get (D := D) (ci := 5) (v := .ref (a_sn 2)) (C := RX5) (T := TX5) (N := 3) hx hb hts iwX5_put_X5 hown hK hP 0 rfl rfl 1 (by decide) (hts _ lkX5_put_f15) (fun _ h9 => h9) rfl dX5_put_22 ?_
    refine lv_aload_n hx hb dX5_put_25 rfl (lv_at hl 0 rfl) ?_
    refine va_get (D := D) (ci := 5) (v := .int (s3 0 0)) (C := RX5) (T := TX5) (N := 3) hx hb hts iwX5_put_X5 hown hK hP 0 rfl rfl 2 (by decide) (hts _ lkX5_put_f18) (fun _ h9 => h9) rfl dX5_put_26 ?_
    refine lv_iload_n hx hb dX5_put_29 rfl (lv_at hl 2 rfl) ?_
    obtain ⟨b4, hf⟩ := gd_some hf
    obtain ⟨s5, hs5, hf⟩ := nm_ex hf
    refine va_iast hx hb hK hP hD hS 2 0 rfl rfl (ixb_in b4) dX5_put_30 (fun H locs hP hD hS => ?_)
    have hP : va_P D vwCl (wSight t a_sn s5) H := by rw [hs5]; exact hP
    have hD : va_D A (wSight t a_sn s5) := by rw [hs5]; exact hD
    refine lv_aload_n hx hb dX5_put_31 rfl (lv_at hl 0 rfl) ?_
    refine lv_dup hx hb dX5_put_32 rfl ?_
    refine va_get (D := D) (ci := 5) (v := .int (s5 0 0)) (C := RX5) (T := TX5) (N := 3) hx hb hts iwX5_put_X5 hown hK hP 0 rfl rfl 2 (by decide) (hts _ lkX5_put_f18) (fun _ h9 => h9) rfl dX5_put_33 ?_
    refine lv_iconst (v := 1) hx hb dX5_put_36 (by decide) ?_
    refine lv_iadd hx hb dX5_put_37 ?_
    obtain ⟨s6, hs6, hf⟩ := nm_ex hf
    refine va_put (D := D) (ci := 5) (v := .int ((s5 0 0) + (1 : Int32))) (ty := .int) (C := RX5) (T := TX5) (N := 3) hx hb hts iwX5_put_X5 tyX5 tyX5_ok nmX5 hown hK hP hD hS 0 rfl rfl 2 (by decide) (hts _ lkX5_put_f18) (fun _ h9 => h9) rfl (by decide +kernel) rfl rfl (Nat.le_of_ble_eq_true rfl) dX5_put_38 (fun H locs hP hD hS => ?_)
    have hP : va_P D vwCl (wSight t a_sn s6) H := by rw [hs6]; exact hP
    have hD : va_D A (wSight t a_sn s6) := by rw [hs6]; exact hD
    refine lv_iconst (v := 1) hx hb dX5_put_41 (by decide) ?_
    obtain rfl := so_eq hf
    exact g_zret (v := 1) C rfl hP hD hS dX5_put_42
  · rw [if_neg c1] at hf
    refine lv_iconst (v := 0) hx hb dX5_put_9 (by decide) ?_
    obtain rfl := so_eq hf
    exact g_zret (v := 0) C rfl hP hD hS dX5_put_10
/-! CoachCourt$Sightings.copyFrom -/
def fX5_copyFrom (s_sn : S2) (s_so : S2) : Option (S2) :=
  nm (sR s_sn 1 (va_cpy (s_so 1) (s_sn 1) 0 0 6)) fun s1 =>
  nm (sR s1 2 (va_cpy (s_so 2) (s1 2) 0 0 6)) fun s2 =>
  nm (sE s2 0 0 (s_so 0 0)) fun s3 =>
  some s3
theorem hdX5_copyFrom : yX5_copyFrom.cls = RX5 ∧ yX5_copyFrom.cls ≠ "java/lang/invoke/MethodHandle" ∧ yX5_copyFrom.cls ≠ "java/lang/invoke/VarHandle" ∧ (parseMethodDescriptor yX5_copyFrom.desc).map (fun d => d.parameters.length) = some 1 := by decide +kernel
theorem iwX5_copyFrom_X5 : ∀ w ∈ wsX50, w ∈ wsX5_copyFrom := by decide +kernel
theorem lkX5_copyFrom_f9 : Cond.fieldLink RX5 9 "CoachCourt$Sightings" "who" "[I" ∈ wsX5_copyFrom := by decide +kernel
theorem lkX5_copyFrom_mac22 : Cond.methodLink RX5 22 arraycopyName ∈ wsX5_copyFrom := by decide +kernel
theorem lkX5_copyFrom_nac : Cond.native arraycopyName ∈ wsX5_copyFrom := by decide +kernel
theorem lkX5_copyFrom_sac : Cond.static arraycopyName ∈ wsX5_copyFrom := by decide +kernel
theorem lkX5_copyFrom_iac : Cond.initialized "java/lang/System" ∈ wsX5_copyFrom := by decide +kernel
theorem lkX5_copyFrom_f15 : Cond.fieldLink RX5 15 "CoachCourt$Sightings" "where" "[I" ∈ wsX5_copyFrom := by decide +kernel
theorem lkX5_copyFrom_f18 : Cond.fieldLink RX5 18 "CoachCourt$Sightings" "many" "I" ∈ wsX5_copyFrom := by decide +kernel
set_option maxHeartbeats 4000000 in
set_option maxRecDepth 100000 in
theorem cX5_copyFrom_ok {l : Launch} {D : va_G} {t : Nat → ClassId} {κ : Nat → Nat} {a_sn : Nat → Nat} {a_so : Nat → Nat} {s_sn : S2} {s_so : S2} {out : S2} (hf : fX5_copyFrom s_sn s_so = some out) : Ct l D t κ yX5_copyFrom wsX5_copyFrom (rmL 0) [.ref (a_sn 0), .ref (a_so 0)] ((wSight t a_sn s_sn) ++ (wSight t a_so s_so)) none ((wSight t a_sn out) ++ (wSight t a_so s_so)) := by
  refine Ct.ofW (own := RX5) (cc := cX5_copyFrom) (maxL := 2) (ret := none) (by decide) rfl rfl (Nat.le_of_ble_eq_true rfl) ?_
  intro p e s m below meth c A C hP hD ls hl
  have hS : va_S A s.heap s.heap [] := va_S.rf
  obtain ⟨hx, hb, hr, hml, hown, hts, hC0, hlk, hA⟩ := id C
  have hK := hC0.1
  have hl : lv_has ls 2 [(0, .ref (a_sn 0)), (1, .ref (a_so 0))] := hl
  unfold fX5_copyFrom at hf
  refine lv_aload_n hx hb dX5_copyFrom_0 rfl (lv_at hl 1 rfl) ?_
  refine va_get (D := D) (ci := 5) (v := .ref (a_so 1)) (C := RX5) (T := TX5) (N := 3) hx hb hts iwX5_copyFrom_X5 hown hK hP 3 rfl rfl 0 (by decide) (hts _ lkX5_copyFrom_f9) (fun _ h9 => h9) rfl dX5_copyFrom_1 ?_
  refine lv_iconst (v := 0) hx hb dX5_copyFrom_4 (by decide) ?_
  refine lv_aload_n hx hb dX5_copyFrom_5 rfl (lv_at hl 0 rfl) ?_
  refine va_get (D := D) (ci := 5) (v := .ref (a_sn 1)) (C := RX5) (T := TX5) (N := 3) hx hb hts iwX5_copyFrom_X5 hown hK hP 0 rfl rfl 0 (by decide) (hts _ lkX5_copyFrom_f9) (fun _ h9 => h9) rfl dX5_copyFrom_6 ?_
  refine lv_iconst (v := 0) hx hb dX5_copyFrom_9 (by decide) ?_
  refine lv_bipush (v := 6) hx hb dX5_copyFrom_10 (by decide) ?_
  obtain ⟨s1, hs1, hf⟩ := nm_ex hf
  refine va_copyi hx hb (hml.trans hl.1.symm) hown (hts _ lkX5_copyFrom_mac22) (hts _ lkX5_copyFrom_nac) (hts _ lkX5_copyFrom_sac) (hts _ lkX5_copyFrom_iac) hK hP hD hS 4 1 0 0 rfl rfl rfl rfl rfl (by decide) (by decide) (by decide) (by decide) (by decide) (fun _ _ => rfl) (Nat.le_of_ble_eq_true rfl) (Nat.le_of_ble_eq_true rfl) dX5_copyFrom_12 (fun H locs hP hD hS => ?_)
  have hP : va_P D vwCl ((wSight t a_sn s1) ++ (wSight t a_so s_so)) H := by rw [hs1]; exact hP
  have hD : va_D A ((wSight t a_sn s1) ++ (wSight t a_so s_so)) := by rw [hs1]; exact hD
  refine lv_aload_n hx hb dX5_copyFrom_15 rfl (lv_at hl 1 rfl) ?_
  refine va_get (D := D) (ci := 5) (v := .ref (a_so 2)) (C := RX5) (T := TX5) (N := 3) hx hb hts iwX5_copyFrom_X5 hown hK hP 3 rfl rfl 1 (by decide) (hts _ lkX5_copyFrom_f15) (fun _ h9 => h9) rfl dX5_copyFrom_16 ?_
  refine lv_iconst (v := 0) hx hb dX5_copyFrom_19 (by decide) ?_
  refine lv_aload_n hx hb dX5_copyFrom_20 rfl (lv_at hl 0 rfl) ?_
  refine va_get (D := D) (ci := 5) (v := .ref (a_sn 2)) (C := RX5) (T := TX5) (N := 3) hx hb hts iwX5_copyFrom_X5 hown hK hP 0 rfl rfl 1 (by decide) (hts _ lkX5_copyFrom_f15) (fun _ h9 => h9) rfl dX5_copyFrom_21 ?_
  refine lv_iconst (v := 0) hx hb dX5_copyFrom_24 (by decide) ?_
  refine lv_bipush (v := 6) hx hb dX5_copyFrom_25 (by decide) ?_
  obtain ⟨s2, hs2, hf⟩ := nm_ex hf
  refine va_copyi hx hb (hml.trans hl.1.symm) hown (hts _ lkX5_copyFrom_mac22) (hts _ lkX5_copyFrom_nac) (hts _ lkX5_copyFrom_sac) (hts _ lkX5_copyFrom_iac) hK hP hD hS 5 2 0 0 rfl rfl rfl rfl rfl (by decide) (by decide) (by decide) (by decide) (by decide) (fun _ _ => rfl) (Nat.le_of_ble_eq_true rfl) (Nat.le_of_ble_eq_true rfl) dX5_copyFrom_27 (fun H locs hP hD hS => ?_)
  have hP : va_P D vwCl ((wSight t a_sn s2) ++ (wSight t a_so s_so)) H := by rw [hs2]; exact hP
  have hD : va_D A ((wSight t a_sn s2) ++ (wSight t a_so s_so)) := by rw [hs2]; exact hD
  refine lv_aload_n hx hb dX5_copyFrom_30 rfl (lv_at hl 0 rfl) ?_
  refine lv_aload_n hx hb dX5_copyFrom_31 rfl (lv_at hl 1 rfl) ?_
  refine va_get (D := D) (ci := 5) (v := .int (s_so 0 0)) (C := RX5) (T := TX5) (N := 3) hx hb hts iwX5_copyFrom_X5 hown hK hP 3 rfl rfl 2 (by decide) (hts _ lkX5_copyFrom_f18) (fun _ h9 => h9) rfl dX5_copyFrom_32 ?_
  obtain ⟨s3, hs3, hf⟩ := nm_ex hf
  refine va_put (D := D) (ci := 5) (v := .int (s_so 0 0)) (ty := .int) (C := RX5) (T := TX5) (N := 3) hx hb hts iwX5_copyFrom_X5 tyX5 tyX5_ok nmX5 hown hK hP hD hS 0 rfl rfl 2 (by decide) (hts _ lkX5_copyFrom_f18) (fun _ h9 => h9) rfl (by decide +kernel) rfl rfl (Nat.le_of_ble_eq_true rfl) dX5_copyFrom_35 (fun H locs hP hD hS => ?_)
  have hP : va_P D vwCl ((wSight t a_sn s3) ++ (wSight t a_so s_so)) H := by rw [hs3]; exact hP
  have hD : va_D A ((wSight t a_sn s3) ++ (wSight t a_so s_so)) := by rw [hs3]; exact hD
  obtain rfl := so_eq hf
  exact g_vret C hP hD hS dX5_copyFrom_38
/-! CoachCourt$Sightings.agreeWith -/
def fX5_agreeWith_b2 (s_sn : S2) (s_dr : S2) (x2 : Int32) : Option ((Int32) ⊕ ((Int32) ⊕ (Int32))) :=
  if (s_sn 0 0) ≤ x2 then
    (some (.inr (.inl x2)))
  else
    (gd (ixb x2 6) <|
    gd (ixb (s_sn 1 (Int32.toNatClampNeg x2)) 4) <|
    if (s_dr 1 (Int32.toNatClampNeg (s_sn 1 (Int32.toNatClampNeg x2)))) = (s_sn 2 (Int32.toNatClampNeg x2)) then
      (nm (x2 + (1 : Int32)) fun y5 =>
      some (.inl y5))
    else
      (some (.inr (.inr (0 : Int32)))))
def fX5_agreeWith (s_sn : S2) (s_dr : S2) : Option (Int32) :=
  (wh (fun (c : Int32) => fX5_agreeWith_b2 s_sn s_dr c) 5000 (0 : Int32)).bind fun x6 =>
  Sum.elim (fun q7 =>
    some (1 : Int32)) (fun r8 => some r8) x6
theorem hdX5_agreeWith : yX5_agreeWith.cls = RX5 ∧ yX5_agreeWith.cls ≠ "java/lang/invoke/MethodHandle" ∧ yX5_agreeWith.cls ≠ "java/lang/invoke/VarHandle" ∧ (parseMethodDescriptor yX5_agreeWith.desc).map (fun d => d.parameters.length) = some 1 := by decide +kernel
theorem iwX5_agreeWith_X5 : ∀ w ∈ wsX50, w ∈ wsX5_agreeWith := by decide +kernel
theorem lkX5_agreeWith_f18 : Cond.fieldLink RX5 18 "CoachCourt$Sightings" "many" "I" ∈ wsX5_agreeWith := by decide +kernel
theorem iwX5_agreeWith_X0 : ∀ w ∈ wsX00, w ∈ wsX5_agreeWith := by decide +kernel
theorem lkX5_agreeWith_f9 : Cond.fieldLink RX5 9 "CoachCourt$Sightings" "who" "[I" ∈ wsX5_agreeWith := by decide +kernel
theorem lkX5_agreeWith_f15 : Cond.fieldLink RX5 15 "CoachCourt$Sightings" "where" "[I" ∈ wsX5_agreeWith := by decide +kernel
set_option maxHeartbeats 4000000 in
set_option maxRecDepth 100000 in
theorem wX5_agreeWith_l2 {p : Program} {l : Launch} {e : Env} {s : State} {m : MethodId} {args : Array Value} {below : List Frame} {meth : Method} {c : Code} {D : va_G} {t : Nat → ClassId} {κ : Nat → Nat} {A : Nat → Prop} {a_sn : Nat → Nat} {a_dr : Nat → Nat} {s_sn : S2} {s_dr : S2} {rv : Option Value} {w1 : va_W} (C : Cxt p s m args meth c cX5_agreeWith 3 RX5 wsX5_agreeWith (some .boolean) D t κ A) : ∀ (n : Nat) (x2 : Int32) (x : (Int32) ⊕ (Int32)), wh (fun (c : Int32) => fX5_agreeWith_b2 s_sn s_dr c) n x2 = some x → (∀ (z : Int32), x = .inl z → ∀ (H : Heap) (locs : List Loc) (ls : Array Slot), va_P D vwCl ((wSight t a_sn s_sn) ++ (wDrive t a_dr s_dr)) H → va_D A ((wSight t a_sn s_sn) ++ (wDrive t a_dr s_dr)) → va_S A s.heap H locs → lv_has ls 3 [] → W p l e (rmL 0) s m args below meth c H locs 0 0 (MQ below (gQ D rv w1 A) args s 0 0 A) (F0 m 38 ls [])) → (∀ (r : Int32), x = .inr r → rv = (some (.int r)) ∧ w1 = ((wSight t a_sn s_sn) ++ (wDrive t a_dr s_dr))) → ∀ (H : Heap) (locs : List Loc) (ls : Array Slot), va_P D vwCl ((wSight t a_sn s_sn) ++ (wDrive t a_dr s_dr)) H → va_D A ((wSight t a_sn s_sn) ++ (wDrive t a_dr s_dr)) → va_S A s.heap H locs → lv_has ls 3 [(0, .ref (a_sn 0)), (1, .ref (a_dr 0)), (2, .int x2)] → W p l e (rmL 0) s m args below meth c H locs 0 0 (MQ below (gQ D rv w1 A) args s 0 0 A) (F0 m 2 ls []) := by
  obtain ⟨hx, hb, hr, hml, hown, hts, hC0, hlk, hA⟩ := id C
  have hK := hC0.1
  intro n
  induction n with
  | zero =>
    intro x2 x h
    exact (wh_0 h).elim
  | succ n ih =>
    intro x2 x h HX HR H locs ls hP hD hS hl
    obtain ⟨v, hf, hB, hX⟩ := wh_step h
    have hf : fX5_agreeWith_b2 s_sn s_dr x2 = some v := hf
    have HB : ∀ (z : Int32), v = .inl z → ∀ (H : Heap) (locs : List Loc) (ls : Array Slot), va_P D vwCl ((wSight t a_sn s_sn) ++ (wDrive t a_dr s_dr)) H → va_D A ((wSight t a_sn s_sn) ++ (wDrive t a_dr s_dr)) → va_S A s.heap H locs → lv_has ls 3 [(0, .ref (a_sn 0)), (1, .ref (a_dr 0)), (2, .int z)] → W p l e (rmL 0) s m args below meth c H locs 0 0 (MQ below (gQ D rv w1 A) args s 0 0 A) (F0 m 2 ls []) := fun z hz H locs ls hP hD hS hl => ih z x (hB z hz) HX HR H locs ls hP hD hS hl
    have HX : ∀ (z : Int32), v = .inr (.inl z) → ∀ (H : Heap) (locs : List Loc) (ls : Array Slot), va_P D vwCl ((wSight t a_sn s_sn) ++ (wDrive t a_dr s_dr)) H → va_D A ((wSight t a_sn s_sn) ++ (wDrive t a_dr s_dr)) → va_S A s.heap H locs → lv_has ls 3 [] → W p l e (rmL 0) s m args below meth c H locs 0 0 (MQ below (gQ D rv w1 A) args s 0 0 A) (F0 m 38 ls []) := fun z hz => HX z (hX _ hz).symm
    have HR : ∀ (r : Int32), v = .inr (.inr r) → rv = (some (.int r)) ∧ w1 = ((wSight t a_sn s_sn) ++ (wDrive t a_dr s_dr)) := fun r hz => HR r (hX _ hz).symm
    unfold fX5_agreeWith_b2 at hf
    refine lv_iload_n hx hb dX5_agreeWith_2 rfl (lv_at hl 2 rfl) ?_
    refine lv_aload_n hx hb dX5_agreeWith_3 rfl (lv_at hl 0 rfl) ?_
    refine va_get (D := D) (ci := 5) (v := .int (s_sn 0 0)) (C := RX5) (T := TX5) (N := 3) hx hb hts iwX5_agreeWith_X5 hown hK hP 0 rfl rfl 2 (by decide) (hts _ lkX5_agreeWith_f18) (fun _ h9 => h9) rfl dX5_agreeWith_4 ?_
    refine lv_icmp_ge (tgt := 38) hx hb dX5_agreeWith_7 (by decide) (fun c1 => ?_) (fun c1 => ?_)
    · rw [if_pos c1] at hf
      obtain rfl := so_eq hf
      exact HX _ rfl _ _ _ hP hD hS (lv_sub hl [] rfl)
    · rw [if_neg c1] at hf
      refine lv_aload_n hx hb dX5_agreeWith_10 rfl (lv_at hl 1 rfl) ?_
      refine va_getN (D := D) (ci := 0) (v := .ref (a_dr 1)) (C := RX0) (T := TX0) (N := 7) hx hb hts iwX5_agreeWith_X0 hown hK hP 3 rfl rfl 0 (by decide) (hC0.2.1.f 34 rfl) (fun _ h9 => h9) rfl dX5_agreeWith_11 ?_
      refine lv_aload_n hx hb dX5_agreeWith_14 rfl (lv_at hl 0 rfl) ?_
      refine va_get (D := D) (ci := 5) (v := .ref (a_sn 1)) (C := RX5) (T := TX5) (N := 3) hx hb hts iwX5_agreeWith_X5 hown hK hP 0 rfl rfl 0 (by decide) (hts _ lkX5_agreeWith_f9) (fun _ h9 => h9) rfl dX5_agreeWith_15 ?_
      refine lv_iload_n hx hb dX5_agreeWith_18 rfl (lv_at hl 2 rfl) ?_
      obtain ⟨b2, hf⟩ := gd_some hf
      refine va_iald hx hb hK hP 1 0 rfl rfl (ixb_in b2) dX5_agreeWith_19 ?_
      obtain ⟨b3, hf⟩ := gd_some hf
      refine va_iald hx hb hK hP 4 0 rfl rfl (ixb_in b3) dX5_agreeWith_20 ?_
      refine lv_aload_n hx hb dX5_agreeWith_21 rfl (lv_at hl 0 rfl) ?_
      refine va_get (D := D) (ci := 5) (v := .ref (a_sn 2)) (C := RX5) (T := TX5) (N := 3) hx hb hts iwX5_agreeWith_X5 hown hK hP 0 rfl rfl 1 (by decide) (hts _ lkX5_agreeWith_f15) (fun _ h9 => h9) rfl dX5_agreeWith_22 ?_
      refine lv_iload_n hx hb dX5_agreeWith_25 rfl (lv_at hl 2 rfl) ?_
      refine va_iald hx hb hK hP 2 0 rfl rfl (ixb_in b2) dX5_agreeWith_26 ?_
      refine lv_icmp_eq (tgt := 32) hx hb dX5_agreeWith_27 (by decide) (fun c4 => ?_) (fun c4 => ?_)
      · rw [if_pos c4] at hf
        obtain ⟨y5, hy5, hf⟩ := nm_ex hf
        refine lv_iinc (v := y5) (lv' := [(2, .int y5), (0, .ref (a_sn 0)), (1, .ref (a_dr 0))]) hx hb dX5_agreeWith_32 hl (k := 2) rfl (by rw [hy5]; rfl) (by decide) rfl (fun ls hl => ?_)
        refine lv_goto (tgt := 2) hx hb dX5_agreeWith_35 (by decide) ?_
        obtain rfl := so_eq hf
        exact HB _ rfl _ _ _ hP hD hS (lv_sub hl [1, 2, 0] rfl)
      · rw [if_neg c4] at hf
        refine lv_iconst (v := 0) hx hb dX5_agreeWith_30 (by decide) ?_
        obtain rfl := so_eq hf
        obtain ⟨rfl, rfl⟩ := HR _ rfl
        exact g_zret (v := 0) C rfl hP hD hS dX5_agreeWith_31
set_option maxHeartbeats 4000000 in
set_option maxRecDepth 100000 in
theorem cX5_agreeWith_ok {l : Launch} {D : va_G} {t : Nat → ClassId} {κ : Nat → Nat} {a_sn : Nat → Nat} {a_dr : Nat → Nat} {s_sn : S2} {s_dr : S2} {out : Int32} (hf : fX5_agreeWith s_sn s_dr = some out) : Ct l D t κ yX5_agreeWith wsX5_agreeWith (rmL 0) [.ref (a_sn 0), .ref (a_dr 0)] ((wSight t a_sn s_sn) ++ (wDrive t a_dr s_dr)) (some (.int out)) ((wSight t a_sn s_sn) ++ (wDrive t a_dr s_dr)) := by
  refine Ct.ofW (own := RX5) (cc := cX5_agreeWith) (maxL := 3) (ret := (some .boolean)) (by decide) rfl rfl (Nat.le_of_ble_eq_true rfl) ?_
  intro p e s m below meth c A C hP hD ls hl
  have hS : va_S A s.heap s.heap [] := va_S.rf
  obtain ⟨hx, hb, hr, hml, hown, hts, hC0, hlk, hA⟩ := id C
  have hK := hC0.1
  have hl : lv_has ls 3 [(0, .ref (a_sn 0)), (1, .ref (a_dr 0))] := hl
  unfold fX5_agreeWith at hf
  refine lv_iconst (v := 0) hx hb dX5_agreeWith_0 (by decide) ?_
  refine lv_istore_n (lv' := [(2, .int (0 : Int32)), (0, .ref (a_sn 0)), (1, .ref (a_dr 0))]) hx hb dX5_agreeWith_1 rfl hl (by decide) rfl (fun ls hl => ?_)
  obtain ⟨x6, ex6, hf⟩ := bd_some hf
  refine wX5_agreeWith_l2 C 5000 (0 : Int32) x6 ex6 (fun q7 h9 H locs ls hP hD hS hl => ?_) (fun r8 h9 => ?_) _ _ _ hP hD hS (lv_sub hl [1, 2, 0] rfl)
  · rw [h9, Sum.elim_inl] at hf
    refine lv_iconst (v := 1) hx hb dX5_agreeWith_38 (by decide) ?_
    obtain rfl := so_eq hf
    exact g_zret (v := 1) C rfl hP hD hS dX5_agreeWith_39
  · rw [h9, Sum.elim_inr] at hf
    obtain rfl := so_eq hf
    exact ⟨rfl, rfl⟩
/-! CoachCourt$Sheet.renew -/
def fX4_renew_b17 (s_sh : S2) (x3 : Int32) : Option ((Int32 × S2) ⊕ (Int32 × S2)) :=
  if (40 : Int32) ≤ x3 then
    (some (.inr (x3, s_sh)))
  else
    (gd (ixb x3 40) <|
    nm (sE s_sh 1 (Int32.toNatClampNeg x3) (0 : Int32)) fun s6 =>
    nm (x3 + (1 : Int32)) fun y7 =>
    some (.inl (y7, s6)))
def fX4_renew (s_sh : S2) (p1 : Int32) (p2 : Int32) : Option (S2) :=
  nm (sE s_sh 0 0 (1 : Int32)) fun s1 =>
  nm (sE s1 0 1 p1) fun s2 =>
  nm (sE s2 0 2 p2) fun s3 =>
  (wh (fun (c : Int32 × S2) => fX4_renew_b17 c.2 c.1) 5000 ((0 : Int32), s3)).bind fun x8 =>
  some x8.2
theorem hdX4_renew : yX4_renew.cls = RX4 ∧ yX4_renew.cls ≠ "java/lang/invoke/MethodHandle" ∧ yX4_renew.cls ≠ "java/lang/invoke/VarHandle" ∧ (parseMethodDescriptor yX4_renew.desc).map (fun d => d.parameters.length) = some 2 := by decide +kernel
theorem iwX4_renew_X4 : ∀ w ∈ wsX40, w ∈ wsX4_renew := by decide +kernel
theorem lkX4_renew_f15 : Cond.fieldLink RX4 15 "CoachCourt$Sheet" "there" "Z" ∈ wsX4_renew := by decide +kernel
theorem lkX4_renew_f19 : Cond.fieldLink RX4 19 "CoachCourt$Sheet" "lane" "I" ∈ wsX4_renew := by decide +kernel
theorem lkX4_renew_f23 : Cond.fieldLink RX4 23 "CoachCourt$Sheet" "size" "I" ∈ wsX4_renew := by decide +kernel
theorem lkX4_renew_f9 : Cond.fieldLink RX4 9 "CoachCourt$Sheet" "cells" "[I" ∈ wsX4_renew := by decide +kernel
set_option maxHeartbeats 4000000 in
set_option maxRecDepth 100000 in
theorem wX4_renew_l17 {p : Program} {l : Launch} {e : Env} {s : State} {m : MethodId} {args : Array Value} {below : List Frame} {meth : Method} {c : Code} {D : va_G} {t : Nat → ClassId} {κ : Nat → Nat} {A : Nat → Prop} {a_sh : Nat → Nat} {rv : Option Value} {w1 : va_W} (C : Cxt p s m args meth c cX4_renew 4 RX4 wsX4_renew none D t κ A) : ∀ (n : Nat) (x3 : Int32) (s_sh : S2) (x : Int32 × S2), wh (fun (c : Int32 × S2) => fX4_renew_b17 c.2 c.1) n (x3, s_sh) = some x → (∀ (z : Int32 × S2), x = z → ∀ (H : Heap) (locs : List Loc) (ls : Array Slot), va_P D vwCl (wSheet t a_sh z.2) H → va_D A (wSheet t a_sh z.2) → va_S A s.heap H locs → lv_has ls 4 [] → W p l e (rmL 0) s m args below meth c H locs 0 0 (MQ below (gQ D rv w1 A) args s 0 0 A) (F0 m 36 ls [])) → ∀ (H : Heap) (locs : List Loc) (ls : Array Slot), va_P D vwCl (wSheet t a_sh s_sh) H → va_D A (wSheet t a_sh s_sh) → va_S A s.heap H locs → lv_has ls 4 [(0, .ref (a_sh 0)), (3, .int x3)] → W p l e (rmL 0) s m args below meth c H locs 0 0 (MQ below (gQ D rv w1 A) args s 0 0 A) (F0 m 17 ls []) := by
  obtain ⟨hx, hb, hr, hml, hown, hts, hC0, hlk, hA⟩ := id C
  have hK := hC0.1
  intro n
  induction n with
  | zero =>
    intro x3 s_sh x h
    exact (wh_0 h).elim
  | succ n ih =>
    intro x3 s_sh x h HX H locs ls hP hD hS hl
    obtain ⟨v, hf, hB, hX⟩ := wh_step h
    have hf : fX4_renew_b17 s_sh x3 = some v := hf
    have HB : ∀ (z : Int32 × S2), v = .inl z → ∀ (H : Heap) (locs : List Loc) (ls : Array Slot), va_P D vwCl (wSheet t a_sh z.2) H → va_D A (wSheet t a_sh z.2) → va_S A s.heap H locs → lv_has ls 4 [(0, .ref (a_sh 0)), (3, .int z.1)] → W p l e (rmL 0) s m args below meth c H locs 0 0 (MQ below (gQ D rv w1 A) args s 0 0 A) (F0 m 17 ls []) := fun z hz H locs ls hP hD hS hl => ih z.1 z.2 x (hB z hz) HX H locs ls hP hD hS hl
    have HX : ∀ (z : Int32 × S2), v = .inr z → ∀ (H : Heap) (locs : List Loc) (ls : Array Slot), va_P D vwCl (wSheet t a_sh z.2) H → va_D A (wSheet t a_sh z.2) → va_S A s.heap H locs → lv_has ls 4 [] → W p l e (rmL 0) s m args below meth c H locs 0 0 (MQ below (gQ D rv w1 A) args s 0 0 A) (F0 m 36 ls []) := fun z hz => HX z (hX _ hz).symm
    unfold fX4_renew_b17 at hf
    refine lv_iload_n hx hb dX4_renew_17 rfl (lv_at hl 1 rfl) ?_
    refine lv_bipush (v := 40) hx hb dX4_renew_18 (by decide) ?_
    refine lv_icmp_ge (tgt := 36) hx hb dX4_renew_20 (by decide) (fun c4 => ?_) (fun c4 => ?_)
    · rw [if_pos c4] at hf
      obtain rfl := so_eq hf
      exact HX _ rfl _ _ _ hP hD hS (lv_sub hl [] rfl)
    · rw [if_neg c4] at hf
      refine lv_aload_n hx hb dX4_renew_23 rfl (lv_at hl 0 rfl) ?_
      refine va_get (D := D) (ci := 4) (v := .ref (a_sh 1)) (C := RX4) (T := TX4) (N := 4) hx hb hts iwX4_renew_X4 hown hK hP 0 rfl rfl 0 (by decide) (hts _ lkX4_renew_f9) (fun _ h9 => h9) rfl dX4_renew_24 ?_
      refine lv_iload_n hx hb dX4_renew_27 rfl (lv_at hl 1 rfl) ?_
      refine lv_iconst (v := 0) hx hb dX4_renew_28 (by decide) ?_
      obtain ⟨b5, hf⟩ := gd_some hf
      obtain ⟨s6, hs6, hf⟩ := nm_ex hf
      refine va_iast hx hb hK hP hD hS 1 0 rfl rfl (ixb_in b5) dX4_renew_29 (fun H locs hP hD hS => ?_)
      have hP : va_P D vwCl (wSheet t a_sh s6) H := by rw [hs6]; exact hP
      have hD : va_D A (wSheet t a_sh s6) := by rw [hs6]; exact hD
      obtain ⟨y7, hy7, hf⟩ := nm_ex hf
      refine lv_iinc (v := y7) (lv' := [(3, .int y7), (0, .ref (a_sh 0))]) hx hb dX4_renew_30 hl (k := 1) rfl (by rw [hy7]; rfl) (by decide) rfl (fun ls hl => ?_)
      refine lv_goto (tgt := 17) hx hb dX4_renew_33 (by decide) ?_
      obtain rfl := so_eq hf
      exact HB _ rfl _ _ _ hP hD hS (lv_sub hl [1, 0] rfl)
set_option maxHeartbeats 4000000 in
set_option maxRecDepth 100000 in
theorem cX4_renew_ok {l : Launch} {D : va_G} {t : Nat → ClassId} {κ : Nat → Nat} {a_sh : Nat → Nat} {s_sh : S2} {p1 : Int32} {p2 : Int32} {out : S2} (hf : fX4_renew s_sh p1 p2 = some out) : Ct l D t κ yX4_renew wsX4_renew (rmL 0) [.ref (a_sh 0), .int p1, .int p2] (wSheet t a_sh s_sh) none (wSheet t a_sh out) := by
  refine Ct.ofW (own := RX4) (cc := cX4_renew) (maxL := 4) (ret := none) (by decide) rfl rfl (Nat.le_of_ble_eq_true rfl) ?_
  intro p e s m below meth c A C hP hD ls hl
  have hS : va_S A s.heap s.heap [] := va_S.rf
  obtain ⟨hx, hb, hr, hml, hown, hts, hC0, hlk, hA⟩ := id C
  have hK := hC0.1
  have hl : lv_has ls 4 [(0, .ref (a_sh 0)), (1, .int p1), (2, .int p2)] := hl
  unfold fX4_renew at hf
  refine lv_aload_n hx hb dX4_renew_0 rfl (lv_at hl 0 rfl) ?_
  refine lv_iconst (v := 1) hx hb dX4_renew_1 (by decide) ?_
  obtain ⟨s1, hs1, hf⟩ := nm_ex hf
  refine va_put (D := D) (ci := 4) (v := .int (1 : Int32)) (ty := .boolean) (C := RX4) (T := TX4) (N := 4) hx hb hts iwX4_renew_X4 tyX4 tyX4_ok nmX4 hown hK hP hD hS 0 rfl rfl 1 (by decide) (hts _ lkX4_renew_f15) (fun _ h9 => h9) rfl (by decide +kernel) rfl rfl (Nat.le_of_ble_eq_true rfl) dX4_renew_2 (fun H locs hP hD hS => ?_)
  have hP : va_P D vwCl (wSheet t a_sh s1) H := by rw [hs1]; exact hP
  have hD : va_D A (wSheet t a_sh s1) := by rw [hs1]; exact hD
  refine lv_aload_n hx hb dX4_renew_5 rfl (lv_at hl 0 rfl) ?_
  refine lv_iload_n hx hb dX4_renew_6 rfl (lv_at hl 1 rfl) ?_
  obtain ⟨s2, hs2, hf⟩ := nm_ex hf
  refine va_put (D := D) (ci := 4) (v := .int p1) (ty := .int) (C := RX4) (T := TX4) (N := 4) hx hb hts iwX4_renew_X4 tyX4 tyX4_ok nmX4 hown hK hP hD hS 0 rfl rfl 2 (by decide) (hts _ lkX4_renew_f19) (fun _ h9 => h9) rfl (by decide +kernel) rfl rfl (Nat.le_of_ble_eq_true rfl) dX4_renew_7 (fun H locs hP hD hS => ?_)
  have hP : va_P D vwCl (wSheet t a_sh s2) H := by rw [hs2]; exact hP
  have hD : va_D A (wSheet t a_sh s2) := by rw [hs2]; exact hD
  refine lv_aload_n hx hb dX4_renew_10 rfl (lv_at hl 0 rfl) ?_
  refine lv_iload_n hx hb dX4_renew_11 rfl (lv_at hl 2 rfl) ?_
  obtain ⟨s3, hs3, hf⟩ := nm_ex hf
  refine va_put (D := D) (ci := 4) (v := .int p2) (ty := .int) (C := RX4) (T := TX4) (N := 4) hx hb hts iwX4_renew_X4 tyX4 tyX4_ok nmX4 hown hK hP hD hS 0 rfl rfl 3 (by decide) (hts _ lkX4_renew_f23) (fun _ h9 => h9) rfl (by decide +kernel) rfl rfl (Nat.le_of_ble_eq_true rfl) dX4_renew_12 (fun H locs hP hD hS => ?_)
  have hP : va_P D vwCl (wSheet t a_sh s3) H := by rw [hs3]; exact hP
  have hD : va_D A (wSheet t a_sh s3) := by rw [hs3]; exact hD
  refine lv_iconst (v := 0) hx hb dX4_renew_15 (by decide) ?_
  refine lv_istore_n (lv' := [(3, .int (0 : Int32)), (0, .ref (a_sh 0)), (1, .int p1), (2, .int p2)]) hx hb dX4_renew_16 rfl hl (by decide) rfl (fun ls hl => ?_)
  obtain ⟨x8, ex8, hf⟩ := bd_some hf
  refine wX4_renew_l17 C 5000 (0 : Int32) s3 x8 ex8 (fun c9 h9 H locs ls hP hD hS hl => ?_) _ _ _ hP hD hS (lv_sub hl [1, 0] rfl)
  subst h9
  obtain rfl := so_eq hf
  exact g_vret C hP hD hS dX4_renew_36
/-! CoachCourt$Sheet.refusal -/
def fX4_refusal (s_sh : S2) (p1 : Int32) (p2 : Int32) : Option (Int32) :=
  if (s_sh 0 0) = (0 : Int32) then
    (some (1 : Int32))
  else
    (if p1 = (s_sh 0 1) then
      (if p2 < (0 : Int32) then
        (some (2 : Int32))
      else
        (if (s_sh 0 2) ≤ p2 then
          (some (2 : Int32))
        else
          (some (0 : Int32))))
    else
      (some (3 : Int32)))
theorem hdX4_refusal : yX4_refusal.cls = RX4 ∧ yX4_refusal.cls ≠ "java/lang/invoke/MethodHandle" ∧ yX4_refusal.cls ≠ "java/lang/invoke/VarHandle" ∧ (parseMethodDescriptor yX4_refusal.desc).map (fun d => d.parameters.length) = some 2 := by decide +kernel
theorem iwX4_refusal_X4 : ∀ w ∈ wsX40, w ∈ wsX4_refusal := by decide +kernel
theorem lkX4_refusal_f15 : Cond.fieldLink RX4 15 "CoachCourt$Sheet" "there" "Z" ∈ wsX4_refusal := by decide +kernel
theorem lkX4_refusal_f19 : Cond.fieldLink RX4 19 "CoachCourt$Sheet" "lane" "I" ∈ wsX4_refusal := by decide +kernel
theorem lkX4_refusal_f23 : Cond.fieldLink RX4 23 "CoachCourt$Sheet" "size" "I" ∈ wsX4_refusal := by decide +kernel
set_option maxHeartbeats 4000000 in
set_option maxRecDepth 100000 in
theorem cX4_refusal_ok {l : Launch} {D : va_G} {t : Nat → ClassId} {κ : Nat → Nat} {a_sh : Nat → Nat} {s_sh : S2} {p1 : Int32} {p2 : Int32} {out : Int32} (hf : fX4_refusal s_sh p1 p2 = some out) : Ct l D t κ yX4_refusal wsX4_refusal (rmL 0) [.ref (a_sh 0), .int p1, .int p2] (wSheet t a_sh s_sh) (some (.int out)) (wSheet t a_sh s_sh) := by
  refine Ct.ofW (own := RX4) (cc := cX4_refusal) (maxL := 3) (ret := (some .int)) (by decide) rfl rfl (Nat.le_of_ble_eq_true rfl) ?_
  intro p e s m below meth c A C hP hD ls hl
  have hS : va_S A s.heap s.heap [] := va_S.rf
  obtain ⟨hx, hb, hr, hml, hown, hts, hC0, hlk, hA⟩ := id C
  have hK := hC0.1
  have hl : lv_has ls 3 [(0, .ref (a_sh 0)), (1, .int p1), (2, .int p2)] := hl
  unfold fX4_refusal at hf
  refine lv_aload_n hx hb dX4_refusal_0 rfl (lv_at hl 0 rfl) ?_
  refine va_get (D := D) (ci := 4) (v := .int (s_sh 0 0)) (C := RX4) (T := TX4) (N := 4) hx hb hts iwX4_refusal_X4 hown hK hP 0 rfl rfl 1 (by decide) (hts _ lkX4_refusal_f15) (fun _ h9 => h9) rfl dX4_refusal_1 ?_
  refine lv_if_ne (tgt := 9) hx hb dX4_refusal_4 (by decide) (fun c1 => ?_) (fun c1 => ?_)
  · rw [if_neg c1] at hf
    refine lv_iload_n hx hb dX4_refusal_9 rfl (lv_at hl 1 rfl) ?_
    refine lv_aload_n hx hb dX4_refusal_10 rfl (lv_at hl 0 rfl) ?_
    refine va_get (D := D) (ci := 4) (v := .int (s_sh 0 1)) (C := RX4) (T := TX4) (N := 4) hx hb hts iwX4_refusal_X4 hown hK hP 0 rfl rfl 2 (by decide) (hts _ lkX4_refusal_f19) (fun _ h9 => h9) rfl dX4_refusal_11 ?_
    refine lv_icmp_eq (tgt := 19) hx hb dX4_refusal_14 (by decide) (fun c2 => ?_) (fun c2 => ?_)
    · rw [if_pos c2] at hf
      refine lv_iload_n hx hb dX4_refusal_19 rfl (lv_at hl 2 rfl) ?_
      refine lv_if_lt (tgt := 35) hx hb dX4_refusal_20 (by decide) (fun c3 => ?_) (fun c3 => ?_)
      · rw [if_pos c3] at hf
        refine lv_iconst (v := 2) hx hb dX4_refusal_35 (by decide) ?_
        obtain rfl := so_eq hf
        exact g_iret C hP hD hS dX4_refusal_36
      · rw [if_neg c3] at hf
        refine lv_iload_n hx hb dX4_refusal_23 rfl (lv_at hl 2 rfl) ?_
        refine lv_aload_n hx hb dX4_refusal_24 rfl (lv_at hl 0 rfl) ?_
        refine va_get (D := D) (ci := 4) (v := .int (s_sh 0 2)) (C := RX4) (T := TX4) (N := 4) hx hb hts iwX4_refusal_X4 hown hK hP 0 rfl rfl 3 (by decide) (hts _ lkX4_refusal_f23) (fun _ h9 => h9) rfl dX4_refusal_25 ?_
        refine lv_icmp_ge (tgt := 35) hx hb dX4_refusal_28 (by decide) (fun c4 => ?_) (fun c4 => ?_)
        · rw [if_pos c4] at hf
          refine lv_iconst (v := 2) hx hb dX4_refusal_35 (by decide) ?_
          obtain rfl := so_eq hf
          exact g_iret C hP hD hS dX4_refusal_36
        · rw [if_neg c4] at hf
          refine lv_iconst (v := 0) hx hb dX4_refusal_31 (by decide) ?_
          refine lv_goto (tgt := 36) hx hb dX4_refusal_32 (by decide) ?_
          obtain rfl := so_eq hf
          exact g_iret C hP hD hS dX4_refusal_36
    · rw [if_neg c2] at hf
      refine lv_iconst (v := 3) hx hb dX4_refusal_17 (by decide) ?_
      obtain rfl := so_eq hf
      exact g_iret C hP hD hS dX4_refusal_18
  · rw [if_pos c1] at hf
    refine lv_iconst (v := 1) hx hb dX4_refusal_7 (by decide) ?_
    obtain rfl := so_eq hf
    exact g_iret C hP hD hS dX4_refusal_8
/-! CoachCourt$Sheet.refusalOfPair -/
def fX4_refusalOfPair (s_sh : S2) (p1 : Int32) (p2 : Int32) : Option (Int32) :=
  (fX4_refusal s_sh p1 p2).bind fun v1 =>
  if v1 = (0 : Int32) then
    ((fX4_refusal s_sh p1 (p2 + (1 : Int32))).bind fun v3 =>
    some v3)
  else
    (some v1)
theorem hdX4_refusalOfPair : yX4_refusalOfPair.cls = RX4 ∧ yX4_refusalOfPair.cls ≠ "java/lang/invoke/MethodHandle" ∧ yX4_refusalOfPair.cls ≠ "java/lang/invoke/VarHandle" ∧ (parseMethodDescriptor yX4_refusalOfPair.desc).map (fun d => d.parameters.length) = some 2 := by decide +kernel
set_option maxHeartbeats 4000000 in
set_option maxRecDepth 100000 in
theorem cX4_refusalOfPair_ok {l : Launch} {D : va_G} {t : Nat → ClassId} {κ : Nat → Nat} {a_sh : Nat → Nat} {s_sh : S2} {p1 : Int32} {p2 : Int32} {out : Int32} (hf : fX4_refusalOfPair s_sh p1 p2 = some out) : Ct l D t κ yX4_refusalOfPair wsX4_refusalOfPair (rmL 1) [.ref (a_sh 0), .int p1, .int p2] (wSheet t a_sh s_sh) (some (.int out)) (wSheet t a_sh s_sh) := by
  refine Ct.ofW (own := RX4) (cc := cX4_refusalOfPair) (maxL := 4) (ret := (some .int)) (by decide) rfl rfl (Nat.le_of_ble_eq_true rfl) ?_
  intro p e s m below meth c A C hP hD ls hl
  have hS : va_S A s.heap s.heap [] := va_S.rf
  obtain ⟨hx, hb, hr, hml, hown, hts, hC0, hlk, hA⟩ := id C
  have hK := hC0.1
  have hl : lv_has ls 4 [(0, .ref (a_sh 0)), (1, .int p1), (2, .int p2)] := hl
  unfold fX4_refusalOfPair at hf
  refine lv_aload_n hx hb dX4_refusalOfPair_0 rfl (lv_at hl 0 rfl) ?_
  refine lv_iload_n hx hb dX4_refusalOfPair_1 rfl (lv_at hl 1 rfl) ?_
  refine lv_iload_n hx hb dX4_refusalOfPair_2 rfl (lv_at hl 2 rfl) ?_
  obtain ⟨v1, ev1, hf⟩ := bd_some hf
  refine gk_V0 C (As := [.int p1, .int p2]) (rest := []) (ci := 4) (q := (RX4, TX4, 4)) (q0 := 0) (cX4_refusal_ok (l := l) (D := D) (t := t) (κ := κ) (a_sh := a_sh) ev1) gX4_refusalOfPair_X4_refusal rfl ⟨rfl, rfl⟩ hdX4_refusal ⟨Nat.le_of_ble_eq_true rfl, Nat.le_of_ble_eq_true rfl⟩ rfl rfl hP hD hS rfl hl.1 (Nat.le_of_ble_eq_true rfl) dX4_refusalOfPair_3 (Nat.zero_le _) (Nat.zero_le _) (fun H locs hP hD hS => ?_)
  refine W.eq (g2 := F0 m 6 ls [.int v1]) rfl ?_
  refine lv_istore_n (lv' := [(3, .int v1), (0, .ref (a_sh 0)), (1, .int p1), (2, .int p2)]) hx hb dX4_refusalOfPair_6 rfl hl (by decide) rfl (fun ls hl => ?_)
  refine lv_iload_n hx hb dX4_refusalOfPair_7 rfl (lv_at hl 0 rfl) ?_
  refine lv_if_eq (tgt := 15) hx hb dX4_refusalOfPair_8 (by decide) (fun c2 => ?_) (fun c2 => ?_)
  · rw [if_pos c2] at hf
    refine lv_aload_n hx hb dX4_refusalOfPair_15 rfl (lv_at hl 1 rfl) ?_
    refine lv_iload_n hx hb dX4_refusalOfPair_16 rfl (lv_at hl 2 rfl) ?_
    refine lv_iload_n hx hb dX4_refusalOfPair_17 rfl (lv_at hl 3 rfl) ?_
    refine lv_iconst (v := 1) hx hb dX4_refusalOfPair_18 (by decide) ?_
    refine lv_iadd hx hb dX4_refusalOfPair_19 ?_
    obtain ⟨v3, ev3, hf⟩ := bd_some hf
    refine gk_V0 C (As := [.int p1, .int (p2 + (1 : Int32))]) (rest := []) (ci := 4) (q := (RX4, TX4, 4)) (q0 := 0) (cX4_refusal_ok (l := l) (D := D) (t := t) (κ := κ) (a_sh := a_sh) ev3) gX4_refusalOfPair_X4_refusal rfl ⟨rfl, rfl⟩ hdX4_refusal ⟨Nat.le_of_ble_eq_true rfl, Nat.le_of_ble_eq_true rfl⟩ rfl rfl hP hD hS rfl hl.1 (Nat.le_of_ble_eq_true rfl) dX4_refusalOfPair_20 (Nat.zero_le _) (Nat.zero_le _) (fun H locs hP hD hS => ?_)
    refine W.eq (g2 := F0 m 23 ls [.int v3]) rfl ?_
    obtain rfl := so_eq hf
    exact g_iret C hP hD hS dX4_refusalOfPair_23
  · rw [if_neg c2] at hf
    refine lv_iload_n hx hb dX4_refusalOfPair_11 rfl (lv_at hl 0 rfl) ?_
    refine lv_goto (tgt := 23) hx hb dX4_refusalOfPair_12 (by decide) ?_
    obtain rfl := so_eq hf
    exact g_iret C hP hD hS dX4_refusalOfPair_23
/-! CoachCourt$Sheet.cutToLane -/
def fX4_cutToLane (s_sh : S2) (p1 : Int32) : Option (Int32) :=
  nm (s_sh 0 1) fun y1 =>
  if y1 = 0 then
    (some ((Int32.toInt8 p1).toInt32))
  else
  if y1 = 1 then
    (some ((Int32.toInt16 p1).toInt32))
  else
  (some p1)
theorem hdX4_cutToLane : yX4_cutToLane.cls = RX4 ∧ yX4_cutToLane.cls ≠ "java/lang/invoke/MethodHandle" ∧ yX4_cutToLane.cls ≠ "java/lang/invoke/VarHandle" ∧ (parseMethodDescriptor yX4_cutToLane.desc).map (fun d => d.parameters.length) = some 1 := by decide +kernel
theorem iwX4_cutToLane_X4 : ∀ w ∈ wsX40, w ∈ wsX4_cutToLane := by decide +kernel
theorem lkX4_cutToLane_f19 : Cond.fieldLink RX4 19 "CoachCourt$Sheet" "lane" "I" ∈ wsX4_cutToLane := by decide +kernel
set_option maxHeartbeats 4000000 in
set_option maxRecDepth 100000 in
theorem cX4_cutToLane_ok {l : Launch} {D : va_G} {t : Nat → ClassId} {κ : Nat → Nat} {a_sh : Nat → Nat} {s_sh : S2} {p1 : Int32} {out : Int32} (hf : fX4_cutToLane s_sh p1 = some out) : Ct l D t κ yX4_cutToLane wsX4_cutToLane (rmL 0) [.ref (a_sh 0), .int p1] (wSheet t a_sh s_sh) (some (.int out)) (wSheet t a_sh s_sh) := by
  refine Ct.ofW (own := RX4) (cc := cX4_cutToLane) (maxL := 2) (ret := (some .int)) (by decide) rfl rfl (Nat.le_of_ble_eq_true rfl) ?_
  intro p e s m below meth c A C hP hD ls hl
  have hS : va_S A s.heap s.heap [] := va_S.rf
  obtain ⟨hx, hb, hr, hml, hown, hts, hC0, hlk, hA⟩ := id C
  have hK := hC0.1
  have hl : lv_has ls 2 [(0, .ref (a_sh 0)), (1, .int p1)] := hl
  unfold fX4_cutToLane at hf
  refine lv_aload_n hx hb dX4_cutToLane_0 rfl (lv_at hl 0 rfl) ?_
  refine va_get (D := D) (ci := 4) (v := .int (s_sh 0 1)) (C := RX4) (T := TX4) (N := 4) hx hb hts iwX4_cutToLane_X4 hown hK hP 0 rfl rfl 2 (by decide) (hts _ lkX4_cutToLane_f19) (fun _ h9 => h9) rfl dX4_cutToLane_1 ?_
  obtain ⟨y1, hy1, hf⟩ := nm_ex hf
  refine W.eq (g2 := F0 m 4 ls [.int y1]) (by rw [hy1]) ?_
  by_cases c2 : y1 = 0
  · rw [if_pos c2] at hf
    refine lv_lookup (off := 28) (tgt := 32) hx hb dX4_cutToLane_4 (by decide) (by rw [c2] <;> rfl) (by decide) ?_
    refine lv_iload_n hx hb dX4_cutToLane_32 rfl (lv_at hl 1 rfl) ?_
    refine lv_i2b hx hb dX4_cutToLane_33 rfl ?_
    obtain rfl := so_eq hf
    exact g_iret C hP hD hS dX4_cutToLane_34
  rw [if_neg c2] at hf
  by_cases c3 : y1 = 1
  · rw [if_pos c3] at hf
    refine lv_lookup (off := 31) (tgt := 35) hx hb dX4_cutToLane_4 (by decide) (by rw [c3] <;> rfl) (by decide) ?_
    refine lv_iload_n hx hb dX4_cutToLane_35 rfl (lv_at hl 1 rfl) ?_
    refine lv_i2s hx hb dX4_cutToLane_36 rfl ?_
    obtain rfl := so_eq hf
    exact g_iret C hP hD hS dX4_cutToLane_37
  rw [if_neg c3] at hf
  refine lv_lookup (off := 34) (tgt := 38) hx hb dX4_cutToLane_4 (by decide) (by rw [lv_osw c2 (by decide), lv_osw c3 (by decide)] <;> rfl) (by decide) ?_
  refine lv_iload_n hx hb dX4_cutToLane_38 rfl (lv_at hl 1 rfl) ?_
  obtain rfl := so_eq hf
  exact g_iret C hP hD hS dX4_cutToLane_39
/-! CoachCourt$Tape.put -/
def fX6_put (s_tp : S2) (p1 : Int32) : Option (Int32 × S2) :=
  if (s_tp 0 0) < (160 : Int32) then
    (gd (ixb (s_tp 0 0) 160) <|
    nm (sE s_tp 1 (Int32.toNatClampNeg (s_tp 0 0)) (vp_nar .byte ((Int32.toInt8 p1).toInt32))) fun s3 =>
    nm (sE s3 0 0 ((s3 0 0) + (1 : Int32))) fun s4 =>
    some ((1 : Int32), s4))
  else
    (some ((0 : Int32), s_tp))
theorem hdX6_put : yX6_put.cls = RX6 ∧ yX6_put.cls ≠ "java/lang/invoke/MethodHandle" ∧ yX6_put.cls ≠ "java/lang/invoke/VarHandle" ∧ (parseMethodDescriptor yX6_put.desc).map (fun d => d.parameters.length) = some 1 := by decide +kernel
theorem iwX6_put_X6 : ∀ w ∈ wsX60, w ∈ wsX6_put := by decide +kernel
theorem lkX6_put_f15 : Cond.fieldLink RX6 15 "CoachCourt$Tape" "length" "I" ∈ wsX6_put := by decide +kernel
theorem lkX6_put_f9 : Cond.fieldLink RX6 9 "CoachCourt$Tape" "bytes" "[B" ∈ wsX6_put := by decide +kernel
set_option maxHeartbeats 4000000 in
set_option maxRecDepth 100000 in
theorem cX6_put_ok {l : Launch} {D : va_G} {t : Nat → ClassId} {κ : Nat → Nat} {a_tp : Nat → Nat} {s_tp : S2} {p1 : Int32} {out : Int32 × S2} (hf : fX6_put s_tp p1 = some out) : Ct l D t κ yX6_put wsX6_put (rmL 0) [.ref (a_tp 0), .int p1] (wTape t a_tp s_tp) (some (.int out.1)) (wTape t a_tp out.2) := by
  refine Ct.ofW (own := RX6) (cc := cX6_put) (maxL := 2) (ret := (some .boolean)) (by decide) rfl rfl (Nat.le_of_ble_eq_true rfl) ?_
  intro p e s m below meth c A C hP hD ls hl
  have hS : va_S A s.heap s.heap [] := va_S.rf
  obtain ⟨hx, hb, hr, hml, hown, hts, hC0, hlk, hA⟩ := id C
  have hK := hC0.1
  have hl : lv_has ls 2 [(0, .ref (a_tp 0)), (1, .int p1)] := hl
  unfold fX6_put at hf
  refine lv_aload_n hx hb dX6_put_0 rfl (lv_at hl 0 rfl) ?_
  refine va_get (D := D) (ci := 6) (v := .int (s_tp 0 0)) (C := RX6) (T := TX6) (N := 7) hx hb hts iwX6_put_X6 hown hK hP 0 rfl rfl 1 (by decide) (hts _ lkX6_put_f15) (fun _ h9 => h9) rfl dX6_put_1 ?_
  refine lv_sipush (v := 160) hx hb dX6_put_4 (by decide) ?_
  refine lv_icmp_lt (tgt := 12) hx hb dX6_put_7 (by decide) (fun c1 => ?_) (fun c1 => ?_)
  · rw [if_pos c1] at hf
    refine lv_aload_n hx hb dX6_put_12 rfl (lv_at hl 0 rfl) ?_
    refine va_get (D := D) (ci := 6) (v := .ref (a_tp 1)) (C := RX6) (T := TX6) (N := 7) hx hb hts iwX6_put_X6 hown hK hP 0 rfl rfl 0 (by decide) (hts _ lkX6_put_f9) (fun _ h9 => h9) rfl dX6_put_13 ?_
    refine lv_aload_n hx hb dX6_put_16 rfl (lv_at hl 0 rfl) ?_
    refine va_get (D := D) (ci := 6) (v := .int (s_tp 0 0)) (C := RX6) (T := TX6) (N := 7) hx hb hts iwX6_put_X6 hown hK hP 0 rfl rfl 1 (by decide) (hts _ lkX6_put_f15) (fun _ h9 => h9) rfl dX6_put_17 ?_
    refine lv_iload_n hx hb dX6_put_20 rfl (lv_at hl 1 rfl) ?_
    refine lv_i2b hx hb dX6_put_21 rfl ?_
    obtain ⟨b2, hf⟩ := gd_some hf
    obtain ⟨s3, hs3, hf⟩ := nm_ex hf
    refine va_bast hx hb hK hP hD hS 1 1 rfl rfl (ixb_in b2) dX6_put_22 (fun H locs hP hD hS => ?_)
    have hP : va_P D vwCl (wTape t a_tp s3) H := by rw [hs3]; exact hP
    have hD : va_D A (wTape t a_tp s3) := by rw [hs3]; exact hD
    refine lv_aload_n hx hb dX6_put_23 rfl (lv_at hl 0 rfl) ?_
    refine lv_dup hx hb dX6_put_24 rfl ?_
    refine va_get (D := D) (ci := 6) (v := .int (s3 0 0)) (C := RX6) (T := TX6) (N := 7) hx hb hts iwX6_put_X6 hown hK hP 0 rfl rfl 1 (by decide) (hts _ lkX6_put_f15) (fun _ h9 => h9) rfl dX6_put_25 ?_
    refine lv_iconst (v := 1) hx hb dX6_put_28 (by decide) ?_
    refine lv_iadd hx hb dX6_put_29 ?_
    obtain ⟨s4, hs4, hf⟩ := nm_ex hf
    refine va_put (D := D) (ci := 6) (v := .int ((s3 0 0) + (1 : Int32))) (ty := .int) (C := RX6) (T := TX6) (N := 7) hx hb hts iwX6_put_X6 tyX6 tyX6_ok nmX6 hown hK hP hD hS 0 rfl rfl 1 (by decide) (hts _ lkX6_put_f15) (fun _ h9 => h9) rfl (by decide +kernel) rfl rfl (Nat.le_of_ble_eq_true rfl) dX6_put_30 (fun H locs hP hD hS => ?_)
    have hP : va_P D vwCl (wTape t a_tp s4) H := by rw [hs4]; exact hP
    have hD : va_D A (wTape t a_tp s4) := by rw [hs4]; exact hD
    refine lv_iconst (v := 1) hx hb dX6_put_33 (by decide) ?_
    obtain rfl := so_eq hf
    exact g_zret (v := 1) C rfl hP hD hS dX6_put_34
  · rw [if_neg c1] at hf
    refine lv_iconst (v := 0) hx hb dX6_put_10 (by decide) ?_
    obtain rfl := so_eq hf
    exact g_zret (v := 0) C rfl hP hD hS dX6_put_11
/-! CoachCourt$Tape.rewind -/
def fX6_rewind (s_tp : S2) : Option (S2) :=
  nm (sE s_tp 0 1 (0 : Int32)) fun s1 =>
  nm (sE s1 0 4 (0 : Int32)) fun s2 =>
  some s2
theorem hdX6_rewind : yX6_rewind.cls = RX6 ∧ yX6_rewind.cls ≠ "java/lang/invoke/MethodHandle" ∧ yX6_rewind.cls ≠ "java/lang/invoke/VarHandle" ∧ (parseMethodDescriptor yX6_rewind.desc).map (fun d => d.parameters.length) = some 0 := by decide +kernel
theorem iwX6_rewind_X6 : ∀ w ∈ wsX60, w ∈ wsX6_rewind := by decide +kernel
theorem lkX6_rewind_f19 : Cond.fieldLink RX6 19 "CoachCourt$Tape" "next" "I" ∈ wsX6_rewind := by decide +kernel
theorem lkX6_rewind_f22 : Cond.fieldLink RX6 22 "CoachCourt$Tape" "found" "I" ∈ wsX6_rewind := by decide +kernel
set_option maxHeartbeats 4000000 in
set_option maxRecDepth 100000 in
theorem cX6_rewind_ok {l : Launch} {D : va_G} {t : Nat → ClassId} {κ : Nat → Nat} {a_tp : Nat → Nat} {s_tp : S2} {out : S2} (hf : fX6_rewind s_tp = some out) : Ct l D t κ yX6_rewind wsX6_rewind (rmL 0) [.ref (a_tp 0)] (wTape t a_tp s_tp) none (wTape t a_tp out) := by
  refine Ct.ofW (own := RX6) (cc := cX6_rewind) (maxL := 1) (ret := none) (by decide) rfl rfl (Nat.le_of_ble_eq_true rfl) ?_
  intro p e s m below meth c A C hP hD ls hl
  have hS : va_S A s.heap s.heap [] := va_S.rf
  obtain ⟨hx, hb, hr, hml, hown, hts, hC0, hlk, hA⟩ := id C
  have hK := hC0.1
  have hl : lv_has ls 1 [(0, .ref (a_tp 0))] := hl
  unfold fX6_rewind at hf
  refine lv_aload_n hx hb dX6_rewind_0 rfl (lv_at hl 0 rfl) ?_
  refine lv_iconst (v := 0) hx hb dX6_rewind_1 (by decide) ?_
  obtain ⟨s1, hs1, hf⟩ := nm_ex hf
  refine va_put (D := D) (ci := 6) (v := .int (0 : Int32)) (ty := .int) (C := RX6) (T := TX6) (N := 7) hx hb hts iwX6_rewind_X6 tyX6 tyX6_ok nmX6 hown hK hP hD hS 0 rfl rfl 2 (by decide) (hts _ lkX6_rewind_f19) (fun _ h9 => h9) rfl (by decide +kernel) rfl rfl (Nat.le_of_ble_eq_true rfl) dX6_rewind_2 (fun H locs hP hD hS => ?_)
  have hP : va_P D vwCl (wTape t a_tp s1) H := by rw [hs1]; exact hP
  have hD : va_D A (wTape t a_tp s1) := by rw [hs1]; exact hD
  refine lv_aload_n hx hb dX6_rewind_5 rfl (lv_at hl 0 rfl) ?_
  refine lv_iconst (v := 0) hx hb dX6_rewind_6 (by decide) ?_
  obtain ⟨s2, hs2, hf⟩ := nm_ex hf
  refine va_put (D := D) (ci := 6) (v := .int (0 : Int32)) (ty := .int) (C := RX6) (T := TX6) (N := 7) hx hb hts iwX6_rewind_X6 tyX6 tyX6_ok nmX6 hown hK hP hD hS 0 rfl rfl 5 (by decide) (hts _ lkX6_rewind_f22) (fun _ h9 => h9) rfl (by decide +kernel) rfl rfl (Nat.le_of_ble_eq_true rfl) dX6_rewind_7 (fun H locs hP hD hS => ?_)
  have hP : va_P D vwCl (wTape t a_tp s2) H := by rw [hs2]; exact hP
  have hD : va_D A (wTape t a_tp s2) := by rw [hs2]; exact hD
  obtain rfl := so_eq hf
  exact g_vret C hP hD hS dX6_rewind_10
/-! CoachCourt$Tape.blame -/
def fX6_blame (s_tp : S2) (p1 : Int32) (p2 : Int32) : Option (S2) :=
  if (s_tp 0 4) = (0 : Int32) then
    (nm (sE s_tp 0 4 p1) fun s2 =>
    nm (sE s2 0 5 p2) fun s3 =>
    some s3)
  else
    (some s_tp)
theorem hdX6_blame : yX6_blame.cls = RX6 ∧ yX6_blame.cls ≠ "java/lang/invoke/MethodHandle" ∧ yX6_blame.cls ≠ "java/lang/invoke/VarHandle" ∧ (parseMethodDescriptor yX6_blame.desc).map (fun d => d.parameters.length) = some 2 := by decide +kernel
theorem iwX6_blame_X6 : ∀ w ∈ wsX60, w ∈ wsX6_blame := by decide +kernel
theorem lkX6_blame_f22 : Cond.fieldLink RX6 22 "CoachCourt$Tape" "found" "I" ∈ wsX6_blame := by decide +kernel
theorem lkX6_blame_f25 : Cond.fieldLink RX6 25 "CoachCourt$Tape" "foundAt" "I" ∈ wsX6_blame := by decide +kernel
set_option maxHeartbeats 4000000 in
set_option maxRecDepth 100000 in
theorem cX6_blame_ok {l : Launch} {D : va_G} {t : Nat → ClassId} {κ : Nat → Nat} {a_tp : Nat → Nat} {s_tp : S2} {p1 : Int32} {p2 : Int32} {out : S2} (hf : fX6_blame s_tp p1 p2 = some out) : Ct l D t κ yX6_blame wsX6_blame (rmL 0) [.ref (a_tp 0), .int p1, .int p2] (wTape t a_tp s_tp) none (wTape t a_tp out) := by
  refine Ct.ofW (own := RX6) (cc := cX6_blame) (maxL := 3) (ret := none) (by decide) rfl rfl (Nat.le_of_ble_eq_true rfl) ?_
  intro p e s m below meth c A C hP hD ls hl
  have hS : va_S A s.heap s.heap [] := va_S.rf
  obtain ⟨hx, hb, hr, hml, hown, hts, hC0, hlk, hA⟩ := id C
  have hK := hC0.1
  have hl : lv_has ls 3 [(0, .ref (a_tp 0)), (1, .int p1), (2, .int p2)] := hl
  unfold fX6_blame at hf
  refine lv_aload_n hx hb dX6_blame_0 rfl (lv_at hl 0 rfl) ?_
  refine va_get (D := D) (ci := 6) (v := .int (s_tp 0 4)) (C := RX6) (T := TX6) (N := 7) hx hb hts iwX6_blame_X6 hown hK hP 0 rfl rfl 5 (by decide) (hts _ lkX6_blame_f22) (fun _ h9 => h9) rfl dX6_blame_1 ?_
  refine lv_if_ne (tgt := 17) hx hb dX6_blame_4 (by decide) (fun c1 => ?_) (fun c1 => ?_)
  · rw [if_neg c1] at hf
    obtain rfl := so_eq hf
    exact g_vret C hP hD hS dX6_blame_17
  · rw [if_pos c1] at hf
    refine lv_aload_n hx hb dX6_blame_7 rfl (lv_at hl 0 rfl) ?_
    refine lv_iload_n hx hb dX6_blame_8 rfl (lv_at hl 1 rfl) ?_
    obtain ⟨s2, hs2, hf⟩ := nm_ex hf
    refine va_put (D := D) (ci := 6) (v := .int p1) (ty := .int) (C := RX6) (T := TX6) (N := 7) hx hb hts iwX6_blame_X6 tyX6 tyX6_ok nmX6 hown hK hP hD hS 0 rfl rfl 5 (by decide) (hts _ lkX6_blame_f22) (fun _ h9 => h9) rfl (by decide +kernel) rfl rfl (Nat.le_of_ble_eq_true rfl) dX6_blame_9 (fun H locs hP hD hS => ?_)
    have hP : va_P D vwCl (wTape t a_tp s2) H := by rw [hs2]; exact hP
    have hD : va_D A (wTape t a_tp s2) := by rw [hs2]; exact hD
    refine lv_aload_n hx hb dX6_blame_12 rfl (lv_at hl 0 rfl) ?_
    refine lv_iload_n hx hb dX6_blame_13 rfl (lv_at hl 2 rfl) ?_
    obtain ⟨s3, hs3, hf⟩ := nm_ex hf
    refine va_put (D := D) (ci := 6) (v := .int p2) (ty := .int) (C := RX6) (T := TX6) (N := 7) hx hb hts iwX6_blame_X6 tyX6 tyX6_ok nmX6 hown hK hP hD hS 0 rfl rfl 6 (by decide) (hts _ lkX6_blame_f25) (fun _ h9 => h9) rfl (by decide +kernel) rfl rfl (Nat.le_of_ble_eq_true rfl) dX6_blame_14 (fun H locs hP hD hS => ?_)
    have hP : va_P D vwCl (wTape t a_tp s3) H := by rw [hs3]; exact hP
    have hD : va_D A (wTape t a_tp s3) := by rw [hs3]; exact hD
    obtain rfl := so_eq hf
    exact g_vret C hP hD hS dX6_blame_17
/-! CoachCourt$Tape.kindOf -/
def fX6_kindOf_28 (x0 : Int32) : Option (Int32) :=
  if x0 = (59 : Int32) then
    (some (3 : Int32))
  else
    (some (4 : Int32))
def fX6_kindOf_14 (x0 : Int32) : Option (Int32) :=
  if x0 < (48 : Int32) then
    (fX6_kindOf_28 x0)
  else
    (if (57 : Int32) < x0 then
      (fX6_kindOf_28 x0)
    else
      (some (2 : Int32)))
def fX6_kindOf (p1 : Int32) : Option (Int32) :=
  if p1 < (97 : Int32) then
    (fX6_kindOf_14 p1)
  else
    (if (122 : Int32) < p1 then
      (fX6_kindOf_14 p1)
    else
      (some (1 : Int32)))
theorem hdX6_kindOf : yX6_kindOf.cls ≠ "java/lang/invoke/MethodHandle" ∧ yX6_kindOf.cls ≠ "java/lang/invoke/VarHandle" ∧ (parseMethodDescriptor yX6_kindOf.desc).map (fun d => d.parameters.length) = some 1 := by decide +kernel
set_option maxHeartbeats 4000000 in
set_option maxRecDepth 100000 in
theorem wX6_kindOf_28 {p : Program} {l : Launch} {e : Env} {s : State} {m : MethodId} {args : Array Value} {below : List Frame} {meth : Method} {c : Code} {D : va_G} {t : Nat → ClassId} {κ : Nat → Nat} {A : Nat → Prop} {x0 : Int32} {out : Int32} (C : Cxt p s m args meth c cX6_kindOf 1 RX6 wsX6_kindOf (some .int) D t κ A) (hf : fX6_kindOf_28 x0 = some out) : ∀ (H : Heap) (locs : List Loc) (ls : Array Slot), va_P D vwCl ([] : va_W) H → va_D A ([] : va_W) → va_S A s.heap H locs → lv_has ls 1 [(0, .int x0)] → W p l e (rmL 0) s m args below meth c H locs 0 0 (MQ below (gQ D (some (.int out)) ([] : va_W) A) args s 0 0 A) (F0 m 28 ls []) := by
  obtain ⟨hx, hb, hr, hml, hown, hts, hC0, hlk, hA⟩ := id C
  have hK := hC0.1
  intro H locs ls hP hD hS hl
  unfold fX6_kindOf_28 at hf
  refine lv_iload_n hx hb dX6_kindOf_28 rfl (lv_at hl 0 rfl) ?_
  refine lv_bipush (v := 59) hx hb dX6_kindOf_29 (by decide) ?_
  refine lv_icmp_ne (tgt := 38) hx hb dX6_kindOf_31 (by decide) (fun c3 => ?_) (fun c3 => ?_)
  · rw [if_neg c3] at hf
    refine lv_iconst (v := 4) hx hb dX6_kindOf_38 (by decide) ?_
    obtain rfl := so_eq hf
    exact g_iret C hP hD hS dX6_kindOf_39
  · rw [if_pos c3] at hf
    refine lv_iconst (v := 3) hx hb dX6_kindOf_34 (by decide) ?_
    refine lv_goto (tgt := 39) hx hb dX6_kindOf_35 (by decide) ?_
    obtain rfl := so_eq hf
    exact g_iret C hP hD hS dX6_kindOf_39
set_option maxHeartbeats 4000000 in
set_option maxRecDepth 100000 in
theorem wX6_kindOf_14 {p : Program} {l : Launch} {e : Env} {s : State} {m : MethodId} {args : Array Value} {below : List Frame} {meth : Method} {c : Code} {D : va_G} {t : Nat → ClassId} {κ : Nat → Nat} {A : Nat → Prop} {x0 : Int32} {out : Int32} (C : Cxt p s m args meth c cX6_kindOf 1 RX6 wsX6_kindOf (some .int) D t κ A) (hf : fX6_kindOf_14 x0 = some out) : ∀ (H : Heap) (locs : List Loc) (ls : Array Slot), va_P D vwCl ([] : va_W) H → va_D A ([] : va_W) → va_S A s.heap H locs → lv_has ls 1 [(0, .int x0)] → W p l e (rmL 0) s m args below meth c H locs 0 0 (MQ below (gQ D (some (.int out)) ([] : va_W) A) args s 0 0 A) (F0 m 14 ls []) := by
  obtain ⟨hx, hb, hr, hml, hown, hts, hC0, hlk, hA⟩ := id C
  have hK := hC0.1
  intro H locs ls hP hD hS hl
  unfold fX6_kindOf_14 at hf
  refine lv_iload_n hx hb dX6_kindOf_14 rfl (lv_at hl 0 rfl) ?_
  refine lv_bipush (v := 48) hx hb dX6_kindOf_15 (by decide) ?_
  refine lv_icmp_lt (tgt := 28) hx hb dX6_kindOf_17 (by decide) (fun c2 => ?_) (fun c2 => ?_)
  · rw [if_pos c2] at hf
    exact wX6_kindOf_28 C hf _ _ _ hP hD hS (lv_sub hl [0] rfl)
  · rw [if_neg c2] at hf
    refine lv_iload_n hx hb dX6_kindOf_20 rfl (lv_at hl 0 rfl) ?_
    refine lv_bipush (v := 57) hx hb dX6_kindOf_21 (by decide) ?_
    refine lv_icmp_gt (tgt := 28) hx hb dX6_kindOf_23 (by decide) (fun c4 => ?_) (fun c4 => ?_)
    · rw [if_pos c4] at hf
      exact wX6_kindOf_28 C hf _ _ _ hP hD hS (lv_sub hl [0] rfl)
    · rw [if_neg c4] at hf
      refine lv_iconst (v := 2) hx hb dX6_kindOf_26 (by decide) ?_
      obtain rfl := so_eq hf
      exact g_iret C hP hD hS dX6_kindOf_27
set_option maxHeartbeats 4000000 in
set_option maxRecDepth 100000 in
theorem cX6_kindOf_ok {l : Launch} {D : va_G} {t : Nat → ClassId} {κ : Nat → Nat} {p1 : Int32} {out : Int32} (hf : fX6_kindOf p1 = some out) : Ct l D t κ yX6_kindOf wsX6_kindOf (rmL 0) [.int p1] ([] : va_W) (some (.int out)) ([] : va_W) := by
  refine Ct.ofW (own := RX6) (cc := cX6_kindOf) (maxL := 1) (ret := (some .int)) (by decide) rfl rfl (Nat.le_of_ble_eq_true rfl) ?_
  intro p e s m below meth c A C hP hD ls hl
  have hS : va_S A s.heap s.heap [] := va_S.rf
  obtain ⟨hx, hb, hr, hml, hown, hts, hC0, hlk, hA⟩ := id C
  have hK := hC0.1
  have hl : lv_has ls 1 [(0, .int p1)] := hl
  unfold fX6_kindOf at hf
  refine lv_iload_n hx hb dX6_kindOf_0 rfl (lv_at hl 0 rfl) ?_
  refine lv_bipush (v := 97) hx hb dX6_kindOf_1 (by decide) ?_
  refine lv_icmp_lt (tgt := 14) hx hb dX6_kindOf_3 (by decide) (fun c1 => ?_) (fun c1 => ?_)
  · rw [if_pos c1] at hf
    exact wX6_kindOf_14 C hf _ _ _ hP hD hS (lv_sub hl [0] rfl)
  · rw [if_neg c1] at hf
    refine lv_iload_n hx hb dX6_kindOf_6 rfl (lv_at hl 0 rfl) ?_
    refine lv_bipush (v := 122) hx hb dX6_kindOf_7 (by decide) ?_
    refine lv_icmp_gt (tgt := 14) hx hb dX6_kindOf_9 (by decide) (fun c5 => ?_) (fun c5 => ?_)
    · rw [if_pos c5] at hf
      exact wX6_kindOf_14 C hf _ _ _ hP hD hS (lv_sub hl [0] rfl)
    · rw [if_neg c5] at hf
      refine lv_iconst (v := 1) hx hb dX6_kindOf_12 (by decide) ?_
      obtain rfl := so_eq hf
      exact g_iret C hP hD hS dX6_kindOf_13
/-! CoachCourt$Tape.readToken -/
def fX6_readToken_b8 (s_tp : S2) : Option ((S2) ⊕ (S2)) :=
  if (s_tp 0 0) ≤ (s_tp 0 1) then
    (some (.inr s_tp))
  else
    (gd (ixb (s_tp 0 1) 160) <|
    if (s_tp 1 (Int32.toNatClampNeg (s_tp 0 1))) = (32 : Int32) then
      (nm (sE s_tp 0 1 ((s_tp 0 1) + (1 : Int32))) fun s5 =>
      some (.inl s5))
    else
      (some (.inr s_tp)))
def fX6_readToken_b118 (s_tp : S2) (x1 : Int32) : Option ((S2) ⊕ (S2)) :=
  if x1 = (0 : Int32) then
    (some (.inr s_tp))
  else
    (if (s_tp 0 0) ≤ (s_tp 0 1) then
      (some (.inr s_tp))
    else
      (gd (ixb (s_tp 0 1) 160) <|
      (fX6_kindOf (s_tp 1 (Int32.toNatClampNeg (s_tp 0 1)))).bind fun v14 =>
      if v14 = (s_tp 0 3) then
        (nm (sE s_tp 0 1 ((s_tp 0 1) + (1 : Int32))) fun s16 =>
        some (.inl s16))
      else
        (some (.inr s_tp))))
def fX6_readToken_194 (s_tp : S2) : Option (S2) :=
  (fX6_blame s_tp (1 : Int32) (s_tp 0 2)).bind fun v19 =>
  some v19
def fX6_readToken_165 (s_tp : S2) : Option (S2) :=
  if (s_tp 0 3) = (4 : Int32) then
    (fX6_readToken_194 s_tp)
  else
    (if (s_tp 0 3) = (2 : Int32) then
      (if ((s_tp 0 1) - (s_tp 0 2)) ≤ (2 : Int32) then
        (some s_tp)
      else
        (fX6_readToken_194 s_tp))
    else
      (some s_tp))
def fX6_readToken_96 (s_tp : S2) : Option (S2) :=
  if (s_tp 0 3) = (1 : Int32) then
    ((wh (fun (c : S2) => fX6_readToken_b118 c (1 : Int32)) 5000 s_tp).bind fun x17 =>
    fX6_readToken_165 x17)
  else
    (if (s_tp 0 3) = (2 : Int32) then
      ((wh (fun (c : S2) => fX6_readToken_b118 c (1 : Int32)) 5000 s_tp).bind fun x24 =>
      fX6_readToken_165 x24)
    else
      ((wh (fun (c : S2) => fX6_readToken_b118 c (0 : Int32)) 5000 s_tp).bind fun x23 =>
      fX6_readToken_165 x23))
def fX6_readToken_46 (s_tp : S2) : Option (S2) :=
  nm (sE s_tp 0 2 (s_tp 0 1)) fun s7 =>
  nm (sE s7 0 3 (0 : Int32)) fun s8 =>
  if (s8 0 0) ≤ (s8 0 1) then
    (fX6_readToken_96 s8)
  else
    (gd (ixb (s8 0 1) 160) <|
    (fX6_kindOf (s8 1 (Int32.toNatClampNeg (s8 0 1)))).bind fun v26 =>
    nm (sE s8 0 3 v26) fun s27 =>
    nm (sE s27 0 1 ((s27 0 1) + (1 : Int32))) fun s28 =>
    fX6_readToken_96 s28)
def fX6_readToken (s_tp : S2) : Option (S2) :=
  if (s_tp 0 4) = (0 : Int32) then
    ((wh (fun (c : S2) => fX6_readToken_b8 c) 5000 s_tp).bind fun x6 =>
    fX6_readToken_46 x6)
  else
    (some s_tp)
theorem hdX6_readToken : yX6_readToken.cls = RX6 ∧ yX6_readToken.cls ≠ "java/lang/invoke/MethodHandle" ∧ yX6_readToken.cls ≠ "java/lang/invoke/VarHandle" ∧ (parseMethodDescriptor yX6_readToken.desc).map (fun d => d.parameters.length) = some 0 := by decide +kernel
theorem iwX6_readToken_X6 : ∀ w ∈ wsX60, w ∈ wsX6_readToken := by decide +kernel
theorem lkX6_readToken_f22 : Cond.fieldLink RX6 22 "CoachCourt$Tape" "found" "I" ∈ wsX6_readToken := by decide +kernel
theorem lkX6_readToken_f19 : Cond.fieldLink RX6 19 "CoachCourt$Tape" "next" "I" ∈ wsX6_readToken := by decide +kernel
theorem lkX6_readToken_f15 : Cond.fieldLink RX6 15 "CoachCourt$Tape" "length" "I" ∈ wsX6_readToken := by decide +kernel
theorem lkX6_readToken_f9 : Cond.fieldLink RX6 9 "CoachCourt$Tape" "bytes" "[B" ∈ wsX6_readToken := by decide +kernel
theorem lkX6_readToken_f28 : Cond.fieldLink RX6 28 "CoachCourt$Tape" "from" "I" ∈ wsX6_readToken := by decide +kernel
theorem lkX6_readToken_f31 : Cond.fieldLink RX6 31 "CoachCourt$Tape" "kind" "I" ∈ wsX6_readToken := by decide +kernel
set_option maxHeartbeats 4000000 in
set_option maxRecDepth 100000 in
theorem wX6_readToken_l8 {p : Program} {l : Launch} {e : Env} {s : State} {m : MethodId} {args : Array Value} {below : List Frame} {meth : Method} {c : Code} {D : va_G} {t : Nat → ClassId} {κ : Nat → Nat} {A : Nat → Prop} {a_tp : Nat → Nat} {rv : Option Value} {w1 : va_W} (C : Cxt p s m args meth c cX6_readToken 2 RX6 wsX6_readToken none D t κ A) : ∀ (n : Nat) (s_tp : S2) (x : S2), wh (fun (c : S2) => fX6_readToken_b8 c) n s_tp = some x → (∀ (z : S2), x = z → ∀ (H : Heap) (locs : List Loc) (ls : Array Slot), va_P D vwCl (wTape t a_tp z) H → va_D A (wTape t a_tp z) → va_S A s.heap H locs → lv_has ls 2 [(0, .ref (a_tp 0))] → W p l e (rmL 1) s m args below meth c H locs 0 0 (MQ below (gQ D rv w1 A) args s 0 0 A) (F0 m 46 ls [])) → ∀ (H : Heap) (locs : List Loc) (ls : Array Slot), va_P D vwCl (wTape t a_tp s_tp) H → va_D A (wTape t a_tp s_tp) → va_S A s.heap H locs → lv_has ls 2 [(0, .ref (a_tp 0))] → W p l e (rmL 1) s m args below meth c H locs 0 0 (MQ below (gQ D rv w1 A) args s 0 0 A) (F0 m 8 ls []) := by
  obtain ⟨hx, hb, hr, hml, hown, hts, hC0, hlk, hA⟩ := id C
  have hK := hC0.1
  intro n
  induction n with
  | zero =>
    intro s_tp x h
    exact (wh_0 h).elim
  | succ n ih =>
    intro s_tp x h HX H locs ls hP hD hS hl
    obtain ⟨v, hf, hB, hX⟩ := wh_step h
    have hf : fX6_readToken_b8 s_tp = some v := hf
    have HB : ∀ (z : S2), v = .inl z → ∀ (H : Heap) (locs : List Loc) (ls : Array Slot), va_P D vwCl (wTape t a_tp z) H → va_D A (wTape t a_tp z) → va_S A s.heap H locs → lv_has ls 2 [(0, .ref (a_tp 0))] → W p l e (rmL 1) s m args below meth c H locs 0 0 (MQ below (gQ D rv w1 A) args s 0 0 A) (F0 m 8 ls []) := fun z hz H locs ls hP hD hS hl => ih z x (hB z hz) HX H locs ls hP hD hS hl
    have HX : ∀ (z : S2), v = .inr z → ∀ (H : Heap) (locs : List Loc) (ls : Array Slot), va_P D vwCl (wTape t a_tp z) H → va_D A (wTape t a_tp z) → va_S A s.heap H locs → lv_has ls 2 [(0, .ref (a_tp 0))] → W p l e (rmL 1) s m args below meth c H locs 0 0 (MQ below (gQ D rv w1 A) args s 0 0 A) (F0 m 46 ls []) := fun z hz => HX z (hX _ hz).symm
    unfold fX6_readToken_b8 at hf
    refine lv_aload_n hx hb dX6_readToken_8 rfl (lv_at hl 0 rfl) ?_
    refine va_get (D := D) (ci := 6) (v := .int (s_tp 0 1)) (C := RX6) (T := TX6) (N := 7) hx hb hts iwX6_readToken_X6 hown hK hP 0 rfl rfl 2 (by decide) (hts _ lkX6_readToken_f19) (fun _ h9 => h9) rfl dX6_readToken_9 ?_
    refine lv_aload_n hx hb dX6_readToken_12 rfl (lv_at hl 0 rfl) ?_
    refine va_get (D := D) (ci := 6) (v := .int (s_tp 0 0)) (C := RX6) (T := TX6) (N := 7) hx hb hts iwX6_readToken_X6 hown hK hP 0 rfl rfl 1 (by decide) (hts _ lkX6_readToken_f15) (fun _ h9 => h9) rfl dX6_readToken_13 ?_
    refine lv_icmp_ge (tgt := 46) hx hb dX6_readToken_16 (by decide) (fun c2 => ?_) (fun c2 => ?_)
    · rw [if_pos c2] at hf
      obtain rfl := so_eq hf
      exact HX _ rfl _ _ _ hP hD hS (lv_sub hl [0] rfl)
    · rw [if_neg c2] at hf
      refine lv_aload_n hx hb dX6_readToken_19 rfl (lv_at hl 0 rfl) ?_
      refine va_get (D := D) (ci := 6) (v := .ref (a_tp 1)) (C := RX6) (T := TX6) (N := 7) hx hb hts iwX6_readToken_X6 hown hK hP 0 rfl rfl 0 (by decide) (hts _ lkX6_readToken_f9) (fun _ h9 => h9) rfl dX6_readToken_20 ?_
      refine lv_aload_n hx hb dX6_readToken_23 rfl (lv_at hl 0 rfl) ?_
      refine va_get (D := D) (ci := 6) (v := .int (s_tp 0 1)) (C := RX6) (T := TX6) (N := 7) hx hb hts iwX6_readToken_X6 hown hK hP 0 rfl rfl 2 (by decide) (hts _ lkX6_readToken_f19) (fun _ h9 => h9) rfl dX6_readToken_24 ?_
      obtain ⟨b3, hf⟩ := gd_some hf
      refine va_bald hx hb hK hP 1 1 rfl rfl (ixb_in b3) dX6_readToken_27 ?_
      refine lv_bipush (v := 32) hx hb dX6_readToken_28 (by decide) ?_
      refine lv_icmp_ne (tgt := 46) hx hb dX6_readToken_30 (by decide) (fun c4 => ?_) (fun c4 => ?_)
      · rw [if_neg c4] at hf
        obtain rfl := so_eq hf
        exact HX _ rfl _ _ _ hP hD hS (lv_sub hl [0] rfl)
      · rw [if_pos c4] at hf
        refine lv_aload_n hx hb dX6_readToken_33 rfl (lv_at hl 0 rfl) ?_
        refine lv_dup hx hb dX6_readToken_34 rfl ?_
        refine va_get (D := D) (ci := 6) (v := .int (s_tp 0 1)) (C := RX6) (T := TX6) (N := 7) hx hb hts iwX6_readToken_X6 hown hK hP 0 rfl rfl 2 (by decide) (hts _ lkX6_readToken_f19) (fun _ h9 => h9) rfl dX6_readToken_35 ?_
        refine lv_iconst (v := 1) hx hb dX6_readToken_38 (by decide) ?_
        refine lv_iadd hx hb dX6_readToken_39 ?_
        obtain ⟨s5, hs5, hf⟩ := nm_ex hf
        refine va_put (D := D) (ci := 6) (v := .int ((s_tp 0 1) + (1 : Int32))) (ty := .int) (C := RX6) (T := TX6) (N := 7) hx hb hts iwX6_readToken_X6 tyX6 tyX6_ok nmX6 hown hK hP hD hS 0 rfl rfl 2 (by decide) (hts _ lkX6_readToken_f19) (fun _ h9 => h9) rfl (by decide +kernel) rfl rfl (Nat.le_of_ble_eq_true rfl) dX6_readToken_40 (fun H locs hP hD hS => ?_)
        have hP : va_P D vwCl (wTape t a_tp s5) H := by rw [hs5]; exact hP
        have hD : va_D A (wTape t a_tp s5) := by rw [hs5]; exact hD
        refine lv_goto (tgt := 8) hx hb dX6_readToken_43 (by decide) ?_
        obtain rfl := so_eq hf
        exact HB _ rfl _ _ _ hP hD hS (lv_sub hl [0] rfl)
set_option maxHeartbeats 4000000 in
set_option maxRecDepth 100000 in
theorem wX6_readToken_l118 {p : Program} {l : Launch} {e : Env} {s : State} {m : MethodId} {args : Array Value} {below : List Frame} {meth : Method} {c : Code} {D : va_G} {t : Nat → ClassId} {κ : Nat → Nat} {A : Nat → Prop} {a_tp : Nat → Nat} {x1 : Int32} {rv : Option Value} {w1 : va_W} (C : Cxt p s m args meth c cX6_readToken 2 RX6 wsX6_readToken none D t κ A) : ∀ (n : Nat) (s_tp : S2) (x : S2), wh (fun (c : S2) => fX6_readToken_b118 c x1) n s_tp = some x → (∀ (z : S2), x = z → ∀ (H : Heap) (locs : List Loc) (ls : Array Slot), va_P D vwCl (wTape t a_tp z) H → va_D A (wTape t a_tp z) → va_S A s.heap H locs → lv_has ls 2 [(0, .ref (a_tp 0))] → W p l e (rmL 1) s m args below meth c H locs 0 0 (MQ below (gQ D rv w1 A) args s 0 0 A) (F0 m 165 ls [])) → ∀ (H : Heap) (locs : List Loc) (ls : Array Slot), va_P D vwCl (wTape t a_tp s_tp) H → va_D A (wTape t a_tp s_tp) → va_S A s.heap H locs → lv_has ls 2 [(0, .ref (a_tp 0)), (1, .int x1)] → W p l e (rmL 1) s m args below meth c H locs 0 0 (MQ below (gQ D rv w1 A) args s 0 0 A) (F0 m 118 ls []) := by
  obtain ⟨hx, hb, hr, hml, hown, hts, hC0, hlk, hA⟩ := id C
  have hK := hC0.1
  intro n
  induction n with
  | zero =>
    intro s_tp x h
    exact (wh_0 h).elim
  | succ n ih =>
    intro s_tp x h HX H locs ls hP hD hS hl
    obtain ⟨v, hf, hB, hX⟩ := wh_step h
    have hf : fX6_readToken_b118 s_tp x1 = some v := hf
    have HB : ∀ (z : S2), v = .inl z → ∀ (H : Heap) (locs : List Loc) (ls : Array Slot), va_P D vwCl (wTape t a_tp z) H → va_D A (wTape t a_tp z) → va_S A s.heap H locs → lv_has ls 2 [(0, .ref (a_tp 0)), (1, .int x1)] → W p l e (rmL 1) s m args below meth c H locs 0 0 (MQ below (gQ D rv w1 A) args s 0 0 A) (F0 m 118 ls []) := fun z hz H locs ls hP hD hS hl => ih z x (hB z hz) HX H locs ls hP hD hS hl
    have HX : ∀ (z : S2), v = .inr z → ∀ (H : Heap) (locs : List Loc) (ls : Array Slot), va_P D vwCl (wTape t a_tp z) H → va_D A (wTape t a_tp z) → va_S A s.heap H locs → lv_has ls 2 [(0, .ref (a_tp 0))] → W p l e (rmL 1) s m args below meth c H locs 0 0 (MQ below (gQ D rv w1 A) args s 0 0 A) (F0 m 165 ls []) := fun z hz => HX z (hX _ hz).symm
    unfold fX6_readToken_b118 at hf
    refine lv_iload_n hx hb dX6_readToken_118 rfl (lv_at hl 1 rfl) ?_
    refine lv_if_eq (tgt := 165) hx hb dX6_readToken_119 (by decide) (fun c11 => ?_) (fun c11 => ?_)
    · rw [if_pos c11] at hf
      obtain rfl := so_eq hf
      exact HX _ rfl _ _ _ hP hD hS (lv_sub hl [0] rfl)
    · rw [if_neg c11] at hf
      refine lv_aload_n hx hb dX6_readToken_122 rfl (lv_at hl 0 rfl) ?_
      refine va_get (D := D) (ci := 6) (v := .int (s_tp 0 1)) (C := RX6) (T := TX6) (N := 7) hx hb hts iwX6_readToken_X6 hown hK hP 0 rfl rfl 2 (by decide) (hts _ lkX6_readToken_f19) (fun _ h9 => h9) rfl dX6_readToken_123 ?_
      refine lv_aload_n hx hb dX6_readToken_126 rfl (lv_at hl 0 rfl) ?_
      refine va_get (D := D) (ci := 6) (v := .int (s_tp 0 0)) (C := RX6) (T := TX6) (N := 7) hx hb hts iwX6_readToken_X6 hown hK hP 0 rfl rfl 1 (by decide) (hts _ lkX6_readToken_f15) (fun _ h9 => h9) rfl dX6_readToken_127 ?_
      refine lv_icmp_ge (tgt := 165) hx hb dX6_readToken_130 (by decide) (fun c12 => ?_) (fun c12 => ?_)
      · rw [if_pos c12] at hf
        obtain rfl := so_eq hf
        exact HX _ rfl _ _ _ hP hD hS (lv_sub hl [0] rfl)
      · rw [if_neg c12] at hf
        refine lv_aload_n hx hb dX6_readToken_133 rfl (lv_at hl 0 rfl) ?_
        refine va_get (D := D) (ci := 6) (v := .ref (a_tp 1)) (C := RX6) (T := TX6) (N := 7) hx hb hts iwX6_readToken_X6 hown hK hP 0 rfl rfl 0 (by decide) (hts _ lkX6_readToken_f9) (fun _ h9 => h9) rfl dX6_readToken_134 ?_
        refine lv_aload_n hx hb dX6_readToken_137 rfl (lv_at hl 0 rfl) ?_
        refine va_get (D := D) (ci := 6) (v := .int (s_tp 0 1)) (C := RX6) (T := TX6) (N := 7) hx hb hts iwX6_readToken_X6 hown hK hP 0 rfl rfl 2 (by decide) (hts _ lkX6_readToken_f19) (fun _ h9 => h9) rfl dX6_readToken_138 ?_
        obtain ⟨b13, hf⟩ := gd_some hf
        refine va_bald hx hb hK hP 1 1 rfl rfl (ixb_in b13) dX6_readToken_141 ?_
        obtain ⟨v14, ev14, hf⟩ := bd_some hf
        refine gk_S C (As := [.int (s_tp 1 (Int32.toNatClampNeg (s_tp 0 1)))]) (rest := []) (cX6_kindOf_ok (l := l) (D := D) (t := t) (κ := κ) ev14) gX6_readToken_X6_kindOf rfl ⟨rfl, rfl⟩ hdX6_kindOf ⟨Nat.le_of_ble_eq_true rfl, Nat.le_of_ble_eq_true rfl⟩ hP hD hS rfl hl.1 (Nat.le_of_ble_eq_true rfl) dX6_readToken_142 (Nat.zero_le _) (Nat.zero_le _) (fun H locs hP hD hS => ?_)
        refine W.eq (g2 := F0 m 145 ls [.int v14]) rfl ?_
        refine lv_aload_n hx hb dX6_readToken_145 rfl (lv_at hl 0 rfl) ?_
        refine va_get (D := D) (ci := 6) (v := .int (s_tp 0 3)) (C := RX6) (T := TX6) (N := 7) hx hb hts iwX6_readToken_X6 hown hK hP 0 rfl rfl 4 (by decide) (hts _ lkX6_readToken_f31) (fun _ h9 => h9) rfl dX6_readToken_146 ?_
        refine lv_icmp_ne (tgt := 165) hx hb dX6_readToken_149 (by decide) (fun c15 => ?_) (fun c15 => ?_)
        · rw [if_neg c15] at hf
          obtain rfl := so_eq hf
          exact HX _ rfl _ _ _ hP hD hS (lv_sub hl [0] rfl)
        · rw [if_pos c15] at hf
          refine lv_aload_n hx hb dX6_readToken_152 rfl (lv_at hl 0 rfl) ?_
          refine lv_dup hx hb dX6_readToken_153 rfl ?_
          refine va_get (D := D) (ci := 6) (v := .int (s_tp 0 1)) (C := RX6) (T := TX6) (N := 7) hx hb hts iwX6_readToken_X6 hown hK hP 0 rfl rfl 2 (by decide) (hts _ lkX6_readToken_f19) (fun _ h9 => h9) rfl dX6_readToken_154 ?_
          refine lv_iconst (v := 1) hx hb dX6_readToken_157 (by decide) ?_
          refine lv_iadd hx hb dX6_readToken_158 ?_
          obtain ⟨s16, hs16, hf⟩ := nm_ex hf
          refine va_put (D := D) (ci := 6) (v := .int ((s_tp 0 1) + (1 : Int32))) (ty := .int) (C := RX6) (T := TX6) (N := 7) hx hb hts iwX6_readToken_X6 tyX6 tyX6_ok nmX6 hown hK hP hD hS 0 rfl rfl 2 (by decide) (hts _ lkX6_readToken_f19) (fun _ h9 => h9) rfl (by decide +kernel) rfl rfl (Nat.le_of_ble_eq_true rfl) dX6_readToken_159 (fun H locs hP hD hS => ?_)
          have hP : va_P D vwCl (wTape t a_tp s16) H := by rw [hs16]; exact hP
          have hD : va_D A (wTape t a_tp s16) := by rw [hs16]; exact hD
          refine lv_goto (tgt := 118) hx hb dX6_readToken_162 (by decide) ?_
          obtain rfl := so_eq hf
          exact HB _ rfl _ _ _ hP hD hS (lv_sub hl [0, 1] rfl)
set_option maxHeartbeats 4000000 in
set_option maxRecDepth 100000 in
theorem wX6_readToken_194 {p : Program} {l : Launch} {e : Env} {s : State} {m : MethodId} {args : Array Value} {below : List Frame} {meth : Method} {c : Code} {D : va_G} {t : Nat → ClassId} {κ : Nat → Nat} {A : Nat → Prop} {a_tp : Nat → Nat} {s_tp : S2} {out : S2} (C : Cxt p s m args meth c cX6_readToken 2 RX6 wsX6_readToken none D t κ A) (hf : fX6_readToken_194 s_tp = some out) : ∀ (H : Heap) (locs : List Loc) (ls : Array Slot), va_P D vwCl (wTape t a_tp s_tp) H → va_D A (wTape t a_tp s_tp) → va_S A s.heap H locs → lv_has ls 2 [(0, .ref (a_tp 0))] → W p l e (rmL 1) s m args below meth c H locs 0 0 (MQ below (gQ D none (wTape t a_tp out) A) args s 0 0 A) (F0 m 194 ls []) := by
  obtain ⟨hx, hb, hr, hml, hown, hts, hC0, hlk, hA⟩ := id C
  have hK := hC0.1
  intro H locs ls hP hD hS hl
  unfold fX6_readToken_194 at hf
  refine lv_aload_n hx hb dX6_readToken_194 rfl (lv_at hl 0 rfl) ?_
  refine lv_iconst (v := 1) hx hb dX6_readToken_195 (by decide) ?_
  refine lv_aload_n hx hb dX6_readToken_196 rfl (lv_at hl 0 rfl) ?_
  refine va_get (D := D) (ci := 6) (v := .int (s_tp 0 2)) (C := RX6) (T := TX6) (N := 7) hx hb hts iwX6_readToken_X6 hown hK hP 0 rfl rfl 3 (by decide) (hts _ lkX6_readToken_f28) (fun _ h9 => h9) rfl dX6_readToken_197 ?_
  obtain ⟨v19, ev19, hf⟩ := bd_some hf
  refine gk_V0 C (As := [.int (1 : Int32), .int (s_tp 0 2)]) (rest := []) (ci := 6) (q := (RX6, TX6, 7)) (q0 := 0) (cX6_blame_ok (l := l) (D := D) (t := t) (κ := κ) (a_tp := a_tp) ev19) gX6_readToken_X6_blame rfl ⟨rfl, rfl⟩ hdX6_blame ⟨Nat.le_of_ble_eq_true rfl, Nat.le_of_ble_eq_true rfl⟩ rfl rfl hP hD hS rfl hl.1 (Nat.le_of_ble_eq_true rfl) dX6_readToken_200 (Nat.zero_le _) (Nat.zero_le _) (fun H locs hP hD hS => ?_)
  refine W.eq (g2 := F0 m 203 ls []) rfl ?_
  obtain rfl := so_eq hf
  exact g_vret C hP hD hS dX6_readToken_203
set_option maxHeartbeats 4000000 in
set_option maxRecDepth 100000 in
theorem wX6_readToken_165 {p : Program} {l : Launch} {e : Env} {s : State} {m : MethodId} {args : Array Value} {below : List Frame} {meth : Method} {c : Code} {D : va_G} {t : Nat → ClassId} {κ : Nat → Nat} {A : Nat → Prop} {a_tp : Nat → Nat} {s_tp : S2} {out : S2} (C : Cxt p s m args meth c cX6_readToken 2 RX6 wsX6_readToken none D t κ A) (hf : fX6_readToken_165 s_tp = some out) : ∀ (H : Heap) (locs : List Loc) (ls : Array Slot), va_P D vwCl (wTape t a_tp s_tp) H → va_D A (wTape t a_tp s_tp) → va_S A s.heap H locs → lv_has ls 2 [(0, .ref (a_tp 0))] → W p l e (rmL 1) s m args below meth c H locs 0 0 (MQ below (gQ D none (wTape t a_tp out) A) args s 0 0 A) (F0 m 165 ls []) := by
  obtain ⟨hx, hb, hr, hml, hown, hts, hC0, hlk, hA⟩ := id C
  have hK := hC0.1
  intro H locs ls hP hD hS hl
  unfold fX6_readToken_165 at hf
  refine lv_aload_n hx hb dX6_readToken_165 rfl (lv_at hl 0 rfl) ?_
  refine va_get (D := D) (ci := 6) (v := .int (s_tp 0 3)) (C := RX6) (T := TX6) (N := 7) hx hb hts iwX6_readToken_X6 hown hK hP 0 rfl rfl 4 (by decide) (hts _ lkX6_readToken_f31) (fun _ h9 => h9) rfl dX6_readToken_166 ?_
  refine lv_iconst (v := 4) hx hb dX6_readToken_169 (by decide) ?_
  refine lv_icmp_eq (tgt := 194) hx hb dX6_readToken_170 (by decide) (fun c18 => ?_) (fun c18 => ?_)
  · rw [if_pos c18] at hf
    exact wX6_readToken_194 C hf _ _ _ hP hD hS (lv_sub hl [0] rfl)
  · rw [if_neg c18] at hf
    refine lv_aload_n hx hb dX6_readToken_173 rfl (lv_at hl 0 rfl) ?_
    refine va_get (D := D) (ci := 6) (v := .int (s_tp 0 3)) (C := RX6) (T := TX6) (N := 7) hx hb hts iwX6_readToken_X6 hown hK hP 0 rfl rfl 4 (by decide) (hts _ lkX6_readToken_f31) (fun _ h9 => h9) rfl dX6_readToken_174 ?_
    refine lv_iconst (v := 2) hx hb dX6_readToken_177 (by decide) ?_
    refine lv_icmp_ne (tgt := 203) hx hb dX6_readToken_178 (by decide) (fun c20 => ?_) (fun c20 => ?_)
    · rw [if_neg c20] at hf
      obtain rfl := so_eq hf
      exact g_vret C hP hD hS dX6_readToken_203
    · rw [if_pos c20] at hf
      refine lv_aload_n hx hb dX6_readToken_181 rfl (lv_at hl 0 rfl) ?_
      refine va_get (D := D) (ci := 6) (v := .int (s_tp 0 1)) (C := RX6) (T := TX6) (N := 7) hx hb hts iwX6_readToken_X6 hown hK hP 0 rfl rfl 2 (by decide) (hts _ lkX6_readToken_f19) (fun _ h9 => h9) rfl dX6_readToken_182 ?_
      refine lv_aload_n hx hb dX6_readToken_185 rfl (lv_at hl 0 rfl) ?_
      refine va_get (D := D) (ci := 6) (v := .int (s_tp 0 2)) (C := RX6) (T := TX6) (N := 7) hx hb hts iwX6_readToken_X6 hown hK hP 0 rfl rfl 3 (by decide) (hts _ lkX6_readToken_f28) (fun _ h9 => h9) rfl dX6_readToken_186 ?_
      refine lv_isub hx hb dX6_readToken_189 ?_
      refine lv_iconst (v := 2) hx hb dX6_readToken_190 (by decide) ?_
      refine lv_icmp_le (tgt := 203) hx hb dX6_readToken_191 (by decide) (fun c21 => ?_) (fun c21 => ?_)
      · rw [if_pos c21] at hf
        obtain rfl := so_eq hf
        exact g_vret C hP hD hS dX6_readToken_203
      · rw [if_neg c21] at hf
        exact wX6_readToken_194 C hf _ _ _ hP hD hS (lv_sub hl [0] rfl)
set_option maxHeartbeats 4000000 in
set_option maxRecDepth 100000 in
theorem wX6_readToken_96 {p : Program} {l : Launch} {e : Env} {s : State} {m : MethodId} {args : Array Value} {below : List Frame} {meth : Method} {c : Code} {D : va_G} {t : Nat → ClassId} {κ : Nat → Nat} {A : Nat → Prop} {a_tp : Nat → Nat} {s_tp : S2} {out : S2} (C : Cxt p s m args meth c cX6_readToken 2 RX6 wsX6_readToken none D t κ A) (hf : fX6_readToken_96 s_tp = some out) : ∀ (H : Heap) (locs : List Loc) (ls : Array Slot), va_P D vwCl (wTape t a_tp s_tp) H → va_D A (wTape t a_tp s_tp) → va_S A s.heap H locs → lv_has ls 2 [(0, .ref (a_tp 0))] → W p l e (rmL 1) s m args below meth c H locs 0 0 (MQ below (gQ D none (wTape t a_tp out) A) args s 0 0 A) (F0 m 96 ls []) := by
  obtain ⟨hx, hb, hr, hml, hown, hts, hC0, hlk, hA⟩ := id C
  have hK := hC0.1
  intro H locs ls hP hD hS hl
  unfold fX6_readToken_96 at hf
  refine lv_aload_n hx hb dX6_readToken_96 rfl (lv_at hl 0 rfl) ?_
  refine va_get (D := D) (ci := 6) (v := .int (s_tp 0 3)) (C := RX6) (T := TX6) (N := 7) hx hb hts iwX6_readToken_X6 hown hK hP 0 rfl rfl 4 (by decide) (hts _ lkX6_readToken_f31) (fun _ h9 => h9) rfl dX6_readToken_97 ?_
  refine lv_iconst (v := 1) hx hb dX6_readToken_100 (by decide) ?_
  refine lv_icmp_eq (tgt := 112) hx hb dX6_readToken_101 (by decide) (fun c10 => ?_) (fun c10 => ?_)
  · rw [if_pos c10] at hf
    refine lv_iconst (v := 1) hx hb dX6_readToken_112 (by decide) ?_
    refine lv_goto (tgt := 117) hx hb dX6_readToken_113 (by decide) ?_
    refine lv_istore_n (lv' := [(1, .int (1 : Int32)), (0, .ref (a_tp 0))]) hx hb dX6_readToken_117 rfl hl (by decide) rfl (fun ls hl => ?_)
    obtain ⟨x17, ex17, hf⟩ := bd_some hf
    refine wX6_readToken_l118 C 5000 s_tp x17 ex17 (fun c9 h9 H locs ls hP hD hS hl => ?_) _ _ _ hP hD hS (lv_sub hl [1, 0] rfl)
    subst h9
    exact wX6_readToken_165 C hf _ _ _ hP hD hS (lv_sub hl [0] rfl)
  · rw [if_neg c10] at hf
    refine lv_aload_n hx hb dX6_readToken_104 rfl (lv_at hl 0 rfl) ?_
    refine va_get (D := D) (ci := 6) (v := .int (s_tp 0 3)) (C := RX6) (T := TX6) (N := 7) hx hb hts iwX6_readToken_X6 hown hK hP 0 rfl rfl 4 (by decide) (hts _ lkX6_readToken_f31) (fun _ h9 => h9) rfl dX6_readToken_105 ?_
    refine lv_iconst (v := 2) hx hb dX6_readToken_108 (by decide) ?_
    refine lv_icmp_ne (tgt := 116) hx hb dX6_readToken_109 (by decide) (fun c22 => ?_) (fun c22 => ?_)
    · rw [if_neg c22] at hf
      refine lv_iconst (v := 0) hx hb dX6_readToken_116 (by decide) ?_
      refine lv_istore_n (lv' := [(1, .int (0 : Int32)), (0, .ref (a_tp 0))]) hx hb dX6_readToken_117 rfl hl (by decide) rfl (fun ls hl => ?_)
      obtain ⟨x23, ex23, hf⟩ := bd_some hf
      refine wX6_readToken_l118 C 5000 s_tp x23 ex23 (fun c9 h9 H locs ls hP hD hS hl => ?_) _ _ _ hP hD hS (lv_sub hl [1, 0] rfl)
      subst h9
      exact wX6_readToken_165 C hf _ _ _ hP hD hS (lv_sub hl [0] rfl)
    · rw [if_pos c22] at hf
      refine lv_iconst (v := 1) hx hb dX6_readToken_112 (by decide) ?_
      refine lv_goto (tgt := 117) hx hb dX6_readToken_113 (by decide) ?_
      refine lv_istore_n (lv' := [(1, .int (1 : Int32)), (0, .ref (a_tp 0))]) hx hb dX6_readToken_117 rfl hl (by decide) rfl (fun ls hl => ?_)
      obtain ⟨x24, ex24, hf⟩ := bd_some hf
      refine wX6_readToken_l118 C 5000 s_tp x24 ex24 (fun c9 h9 H locs ls hP hD hS hl => ?_) _ _ _ hP hD hS (lv_sub hl [1, 0] rfl)
      subst h9
      exact wX6_readToken_165 C hf _ _ _ hP hD hS (lv_sub hl [0] rfl)
set_option maxHeartbeats 4000000 in
set_option maxRecDepth 100000 in
theorem wX6_readToken_46 {p : Program} {l : Launch} {e : Env} {s : State} {m : MethodId} {args : Array Value} {below : List Frame} {meth : Method} {c : Code} {D : va_G} {t : Nat → ClassId} {κ : Nat → Nat} {A : Nat → Prop} {a_tp : Nat → Nat} {s_tp : S2} {out : S2} (C : Cxt p s m args meth c cX6_readToken 2 RX6 wsX6_readToken none D t κ A) (hf : fX6_readToken_46 s_tp = some out) : ∀ (H : Heap) (locs : List Loc) (ls : Array Slot), va_P D vwCl (wTape t a_tp s_tp) H → va_D A (wTape t a_tp s_tp) → va_S A s.heap H locs → lv_has ls 2 [(0, .ref (a_tp 0))] → W p l e (rmL 1) s m args below meth c H locs 0 0 (MQ below (gQ D none (wTape t a_tp out) A) args s 0 0 A) (F0 m 46 ls []) := by
  obtain ⟨hx, hb, hr, hml, hown, hts, hC0, hlk, hA⟩ := id C
  have hK := hC0.1
  intro H locs ls hP hD hS hl
  unfold fX6_readToken_46 at hf
  refine lv_aload_n hx hb dX6_readToken_46 rfl (lv_at hl 0 rfl) ?_
  refine lv_aload_n hx hb dX6_readToken_47 rfl (lv_at hl 0 rfl) ?_
  refine va_get (D := D) (ci := 6) (v := .int (s_tp 0 1)) (C := RX6) (T := TX6) (N := 7) hx hb hts iwX6_readToken_X6 hown hK hP 0 rfl rfl 2 (by decide) (hts _ lkX6_readToken_f19) (fun _ h9 => h9) rfl dX6_readToken_48 ?_
  obtain ⟨s7, hs7, hf⟩ := nm_ex hf
  refine va_put (D := D) (ci := 6) (v := .int (s_tp 0 1)) (ty := .int) (C := RX6) (T := TX6) (N := 7) hx hb hts iwX6_readToken_X6 tyX6 tyX6_ok nmX6 hown hK hP hD hS 0 rfl rfl 3 (by decide) (hts _ lkX6_readToken_f28) (fun _ h9 => h9) rfl (by decide +kernel) rfl rfl (Nat.le_of_ble_eq_true rfl) dX6_readToken_51 (fun H locs hP hD hS => ?_)
  have hP : va_P D vwCl (wTape t a_tp s7) H := by rw [hs7]; exact hP
  have hD : va_D A (wTape t a_tp s7) := by rw [hs7]; exact hD
  refine lv_aload_n hx hb dX6_readToken_54 rfl (lv_at hl 0 rfl) ?_
  refine lv_iconst (v := 0) hx hb dX6_readToken_55 (by decide) ?_
  obtain ⟨s8, hs8, hf⟩ := nm_ex hf
  refine va_put (D := D) (ci := 6) (v := .int (0 : Int32)) (ty := .int) (C := RX6) (T := TX6) (N := 7) hx hb hts iwX6_readToken_X6 tyX6 tyX6_ok nmX6 hown hK hP hD hS 0 rfl rfl 4 (by decide) (hts _ lkX6_readToken_f31) (fun _ h9 => h9) rfl (by decide +kernel) rfl rfl (Nat.le_of_ble_eq_true rfl) dX6_readToken_56 (fun H locs hP hD hS => ?_)
  have hP : va_P D vwCl (wTape t a_tp s8) H := by rw [hs8]; exact hP
  have hD : va_D A (wTape t a_tp s8) := by rw [hs8]; exact hD
  refine lv_aload_n hx hb dX6_readToken_59 rfl (lv_at hl 0 rfl) ?_
  refine va_get (D := D) (ci := 6) (v := .int (s8 0 1)) (C := RX6) (T := TX6) (N := 7) hx hb hts iwX6_readToken_X6 hown hK hP 0 rfl rfl 2 (by decide) (hts _ lkX6_readToken_f19) (fun _ h9 => h9) rfl dX6_readToken_60 ?_
  refine lv_aload_n hx hb dX6_readToken_63 rfl (lv_at hl 0 rfl) ?_
  refine va_get (D := D) (ci := 6) (v := .int (s8 0 0)) (C := RX6) (T := TX6) (N := 7) hx hb hts iwX6_readToken_X6 hown hK hP 0 rfl rfl 1 (by decide) (hts _ lkX6_readToken_f15) (fun _ h9 => h9) rfl dX6_readToken_64 ?_
  refine lv_icmp_ge (tgt := 96) hx hb dX6_readToken_67 (by decide) (fun c9 => ?_) (fun c9 => ?_)
  · rw [if_pos c9] at hf
    exact wX6_readToken_96 C hf _ _ _ hP hD hS (lv_sub hl [0] rfl)
  · rw [if_neg c9] at hf
    refine lv_aload_n hx hb dX6_readToken_70 rfl (lv_at hl 0 rfl) ?_
    refine lv_aload_n hx hb dX6_readToken_71 rfl (lv_at hl 0 rfl) ?_
    refine va_get (D := D) (ci := 6) (v := .ref (a_tp 1)) (C := RX6) (T := TX6) (N := 7) hx hb hts iwX6_readToken_X6 hown hK hP 0 rfl rfl 0 (by decide) (hts _ lkX6_readToken_f9) (fun _ h9 => h9) rfl dX6_readToken_72 ?_
    refine lv_aload_n hx hb dX6_readToken_75 rfl (lv_at hl 0 rfl) ?_
    refine va_get (D := D) (ci := 6) (v := .int (s8 0 1)) (C := RX6) (T := TX6) (N := 7) hx hb hts iwX6_readToken_X6 hown hK hP 0 rfl rfl 2 (by decide) (hts _ lkX6_readToken_f19) (fun _ h9 => h9) rfl dX6_readToken_76 ?_
    obtain ⟨b25, hf⟩ := gd_some hf
    refine va_bald hx hb hK hP 1 1 rfl rfl (ixb_in b25) dX6_readToken_79 ?_
    obtain ⟨v26, ev26, hf⟩ := bd_some hf
    refine gk_S C (As := [.int (s8 1 (Int32.toNatClampNeg (s8 0 1)))]) (rest := [.ref (a_tp 0)]) (cX6_kindOf_ok (l := l) (D := D) (t := t) (κ := κ) ev26) gX6_readToken_X6_kindOf rfl ⟨rfl, rfl⟩ hdX6_kindOf ⟨Nat.le_of_ble_eq_true rfl, Nat.le_of_ble_eq_true rfl⟩ hP hD hS rfl hl.1 (Nat.le_of_ble_eq_true rfl) dX6_readToken_80 (Nat.zero_le _) (Nat.zero_le _) (fun H locs hP hD hS => ?_)
    refine W.eq (g2 := F0 m 83 ls [.int v26, .ref (a_tp 0)]) rfl ?_
    obtain ⟨s27, hs27, hf⟩ := nm_ex hf
    refine va_put (D := D) (ci := 6) (v := .int v26) (ty := .int) (C := RX6) (T := TX6) (N := 7) hx hb hts iwX6_readToken_X6 tyX6 tyX6_ok nmX6 hown hK hP hD hS 0 rfl rfl 4 (by decide) (hts _ lkX6_readToken_f31) (fun _ h9 => h9) rfl (by decide +kernel) rfl rfl (Nat.le_of_ble_eq_true rfl) dX6_readToken_83 (fun H locs hP hD hS => ?_)
    have hP : va_P D vwCl (wTape t a_tp s27) H := by rw [hs27]; exact hP
    have hD : va_D A (wTape t a_tp s27) := by rw [hs27]; exact hD
    refine lv_aload_n hx hb dX6_readToken_86 rfl (lv_at hl 0 rfl) ?_
    refine lv_dup hx hb dX6_readToken_87 rfl ?_
    refine va_get (D := D) (ci := 6) (v := .int (s27 0 1)) (C := RX6) (T := TX6) (N := 7) hx hb hts iwX6_readToken_X6 hown hK hP 0 rfl rfl 2 (by decide) (hts _ lkX6_readToken_f19) (fun _ h9 => h9) rfl dX6_readToken_88 ?_
    refine lv_iconst (v := 1) hx hb dX6_readToken_91 (by decide) ?_
    refine lv_iadd hx hb dX6_readToken_92 ?_
    obtain ⟨s28, hs28, hf⟩ := nm_ex hf
    refine va_put (D := D) (ci := 6) (v := .int ((s27 0 1) + (1 : Int32))) (ty := .int) (C := RX6) (T := TX6) (N := 7) hx hb hts iwX6_readToken_X6 tyX6 tyX6_ok nmX6 hown hK hP hD hS 0 rfl rfl 2 (by decide) (hts _ lkX6_readToken_f19) (fun _ h9 => h9) rfl (by decide +kernel) rfl rfl (Nat.le_of_ble_eq_true rfl) dX6_readToken_93 (fun H locs hP hD hS => ?_)
    have hP : va_P D vwCl (wTape t a_tp s28) H := by rw [hs28]; exact hP
    have hD : va_D A (wTape t a_tp s28) := by rw [hs28]; exact hD
    exact wX6_readToken_96 C hf _ _ _ hP hD hS (lv_sub hl [0] rfl)
set_option maxHeartbeats 4000000 in
set_option maxRecDepth 100000 in
theorem cX6_readToken_ok {l : Launch} {D : va_G} {t : Nat → ClassId} {κ : Nat → Nat} {a_tp : Nat → Nat} {s_tp : S2} {out : S2} (hf : fX6_readToken s_tp = some out) : Ct l D t κ yX6_readToken wsX6_readToken (rmL 1) [.ref (a_tp 0)] (wTape t a_tp s_tp) none (wTape t a_tp out) := by
  refine Ct.ofW (own := RX6) (cc := cX6_readToken) (maxL := 2) (ret := none) (by decide) rfl rfl (Nat.le_of_ble_eq_true rfl) ?_
  intro p e s m below meth c A C hP hD ls hl
  have hS : va_S A s.heap s.heap [] := va_S.rf
  obtain ⟨hx, hb, hr, hml, hown, hts, hC0, hlk, hA⟩ := id C
  have hK := hC0.1
  have hl : lv_has ls 2 [(0, .ref (a_tp 0))] := hl
  unfold fX6_readToken at hf
  refine lv_aload_n hx hb dX6_readToken_0 rfl (lv_at hl 0 rfl) ?_
  refine va_get (D := D) (ci := 6) (v := .int (s_tp 0 4)) (C := RX6) (T := TX6) (N := 7) hx hb hts iwX6_readToken_X6 hown hK hP 0 rfl rfl 5 (by decide) (hts _ lkX6_readToken_f22) (fun _ h9 => h9) rfl dX6_readToken_1 ?_
  refine lv_if_eq (tgt := 8) hx hb dX6_readToken_4 (by decide) (fun c1 => ?_) (fun c1 => ?_)
  · rw [if_pos c1] at hf
    obtain ⟨x6, ex6, hf⟩ := bd_some hf
    refine wX6_readToken_l8 C 5000 s_tp x6 ex6 (fun c9 h9 H locs ls hP hD hS hl => ?_) _ _ _ hP hD hS (lv_sub hl [0] rfl)
    subst h9
    exact wX6_readToken_46 C hf _ _ _ hP hD hS (lv_sub hl [0] rfl)
  · rw [if_neg c1] at hf
    obtain rfl := so_eq hf
    exact g_vret C hP hD hS dX6_readToken_7
/-! CoachCourt$Tape.tokenValue -/
def fX6_tokenValue_b7 (s_tp : S2) (x1 : Int32) (x2 : Int32) : Option ((Int32 × Int32) ⊕ (Int32 × Int32)) :=
  if (s_tp 0 1) ≤ x2 then
    (some (.inr (x1, x2)))
  else
    (gd (ixb x2 160) <|
    nm ((((10 : Int32) * x1) + (s_tp 1 (Int32.toNatClampNeg x2))) - (48 : Int32)) fun y4 =>
    nm (x2 + (1 : Int32)) fun y5 =>
    some (.inl (y4, y5)))
def fX6_tokenValue (s_tp : S2) : Option (Int32) :=
  nm (s_tp 0 2) fun y1 =>
  (wh (fun (c : Int32 × Int32) => fX6_tokenValue_b7 s_tp c.1 c.2) 5000 ((0 : Int32), y1)).bind fun x6 =>
  some x6.1
theorem hdX6_tokenValue : yX6_tokenValue.cls = RX6 ∧ yX6_tokenValue.cls ≠ "java/lang/invoke/MethodHandle" ∧ yX6_tokenValue.cls ≠ "java/lang/invoke/VarHandle" ∧ (parseMethodDescriptor yX6_tokenValue.desc).map (fun d => d.parameters.length) = some 0 := by decide +kernel
theorem iwX6_tokenValue_X6 : ∀ w ∈ wsX60, w ∈ wsX6_tokenValue := by decide +kernel
theorem lkX6_tokenValue_f28 : Cond.fieldLink RX6 28 "CoachCourt$Tape" "from" "I" ∈ wsX6_tokenValue := by decide +kernel
theorem lkX6_tokenValue_f19 : Cond.fieldLink RX6 19 "CoachCourt$Tape" "next" "I" ∈ wsX6_tokenValue := by decide +kernel
theorem lkX6_tokenValue_f9 : Cond.fieldLink RX6 9 "CoachCourt$Tape" "bytes" "[B" ∈ wsX6_tokenValue := by decide +kernel
set_option maxHeartbeats 4000000 in
set_option maxRecDepth 100000 in
theorem wX6_tokenValue_l7 {p : Program} {l : Launch} {e : Env} {s : State} {m : MethodId} {args : Array Value} {below : List Frame} {meth : Method} {c : Code} {D : va_G} {t : Nat → ClassId} {κ : Nat → Nat} {A : Nat → Prop} {a_tp : Nat → Nat} {s_tp : S2} {rv : Option Value} {w1 : va_W} (C : Cxt p s m args meth c cX6_tokenValue 3 RX6 wsX6_tokenValue (some .int) D t κ A) : ∀ (n : Nat) (x1 : Int32) (x2 : Int32) (x : Int32 × Int32), wh (fun (c : Int32 × Int32) => fX6_tokenValue_b7 s_tp c.1 c.2) n (x1, x2) = some x → (∀ (z : Int32 × Int32), x = z → ∀ (H : Heap) (locs : List Loc) (ls : Array Slot), va_P D vwCl (wTape t a_tp s_tp) H → va_D A (wTape t a_tp s_tp) → va_S A s.heap H locs → lv_has ls 3 [(1, .int z.1)] → W p l e (rmL 0) s m args below meth c H locs 0 0 (MQ below (gQ D rv w1 A) args s 0 0 A) (F0 m 36 ls [])) → ∀ (H : Heap) (locs : List Loc) (ls : Array Slot), va_P D vwCl (wTape t a_tp s_tp) H → va_D A (wTape t a_tp s_tp) → va_S A s.heap H locs → lv_has ls 3 [(0, .ref (a_tp 0)), (1, .int x1), (2, .int x2)] → W p l e (rmL 0) s m args below meth c H locs 0 0 (MQ below (gQ D rv w1 A) args s 0 0 A) (F0 m 7 ls []) := by
  obtain ⟨hx, hb, hr, hml, hown, hts, hC0, hlk, hA⟩ := id C
  have hK := hC0.1
  intro n
  induction n with
  | zero =>
    intro x1 x2 x h
    exact (wh_0 h).elim
  | succ n ih =>
    intro x1 x2 x h HX H locs ls hP hD hS hl
    obtain ⟨v, hf, hB, hX⟩ := wh_step h
    have hf : fX6_tokenValue_b7 s_tp x1 x2 = some v := hf
    have HB : ∀ (z : Int32 × Int32), v = .inl z → ∀ (H : Heap) (locs : List Loc) (ls : Array Slot), va_P D vwCl (wTape t a_tp s_tp) H → va_D A (wTape t a_tp s_tp) → va_S A s.heap H locs → lv_has ls 3 [(0, .ref (a_tp 0)), (1, .int z.1), (2, .int z.2)] → W p l e (rmL 0) s m args below meth c H locs 0 0 (MQ below (gQ D rv w1 A) args s 0 0 A) (F0 m 7 ls []) := fun z hz H locs ls hP hD hS hl => ih z.1 z.2 x (hB z hz) HX H locs ls hP hD hS hl
    have HX : ∀ (z : Int32 × Int32), v = .inr z → ∀ (H : Heap) (locs : List Loc) (ls : Array Slot), va_P D vwCl (wTape t a_tp s_tp) H → va_D A (wTape t a_tp s_tp) → va_S A s.heap H locs → lv_has ls 3 [(1, .int z.1)] → W p l e (rmL 0) s m args below meth c H locs 0 0 (MQ below (gQ D rv w1 A) args s 0 0 A) (F0 m 36 ls []) := fun z hz => HX z (hX _ hz).symm
    unfold fX6_tokenValue_b7 at hf
    refine lv_iload_n hx hb dX6_tokenValue_7 rfl (lv_at hl 2 rfl) ?_
    refine lv_aload_n hx hb dX6_tokenValue_8 rfl (lv_at hl 0 rfl) ?_
    refine va_get (D := D) (ci := 6) (v := .int (s_tp 0 1)) (C := RX6) (T := TX6) (N := 7) hx hb hts iwX6_tokenValue_X6 hown hK hP 0 rfl rfl 2 (by decide) (hts _ lkX6_tokenValue_f19) (fun _ h9 => h9) rfl dX6_tokenValue_9 ?_
    refine lv_icmp_ge (tgt := 36) hx hb dX6_tokenValue_12 (by decide) (fun c2 => ?_) (fun c2 => ?_)
    · rw [if_pos c2] at hf
      obtain rfl := so_eq hf
      exact HX _ rfl _ _ _ hP hD hS (lv_sub hl [1] rfl)
    · rw [if_neg c2] at hf
      refine lv_bipush (v := 10) hx hb dX6_tokenValue_15 (by decide) ?_
      refine lv_iload_n hx hb dX6_tokenValue_17 rfl (lv_at hl 1 rfl) ?_
      refine lv_imul hx hb dX6_tokenValue_18 ?_
      refine lv_aload_n hx hb dX6_tokenValue_19 rfl (lv_at hl 0 rfl) ?_
      refine va_get (D := D) (ci := 6) (v := .ref (a_tp 1)) (C := RX6) (T := TX6) (N := 7) hx hb hts iwX6_tokenValue_X6 hown hK hP 0 rfl rfl 0 (by decide) (hts _ lkX6_tokenValue_f9) (fun _ h9 => h9) rfl dX6_tokenValue_20 ?_
      refine lv_iload_n hx hb dX6_tokenValue_23 rfl (lv_at hl 2 rfl) ?_
      obtain ⟨b3, hf⟩ := gd_some hf
      refine va_bald hx hb hK hP 1 1 rfl rfl (ixb_in b3) dX6_tokenValue_24 ?_
      refine lv_iadd hx hb dX6_tokenValue_25 ?_
      refine lv_bipush (v := 48) hx hb dX6_tokenValue_26 (by decide) ?_
      refine lv_isub hx hb dX6_tokenValue_28 ?_
      obtain ⟨y4, hy4, hf⟩ := nm_ex hf
      refine W.eq (g2 := F0 m 29 ls [.int y4]) (by rw [hy4]) ?_
      refine lv_istore_n (lv' := [(1, .int y4), (0, .ref (a_tp 0)), (2, .int x2)]) hx hb dX6_tokenValue_29 rfl hl (by decide) rfl (fun ls hl => ?_)
      obtain ⟨y5, hy5, hf⟩ := nm_ex hf
      refine lv_iinc (v := y5) (lv' := [(2, .int y5), (1, .int y4), (0, .ref (a_tp 0))]) hx hb dX6_tokenValue_30 hl (k := 2) rfl (by rw [hy5]; rfl) (by decide) rfl (fun ls hl => ?_)
      refine lv_goto (tgt := 7) hx hb dX6_tokenValue_33 (by decide) ?_
      obtain rfl := so_eq hf
      exact HB _ rfl _ _ _ hP hD hS (lv_sub hl [2, 1, 0] rfl)
set_option maxHeartbeats 4000000 in
set_option maxRecDepth 100000 in
theorem cX6_tokenValue_ok {l : Launch} {D : va_G} {t : Nat → ClassId} {κ : Nat → Nat} {a_tp : Nat → Nat} {s_tp : S2} {out : Int32} (hf : fX6_tokenValue s_tp = some out) : Ct l D t κ yX6_tokenValue wsX6_tokenValue (rmL 0) [.ref (a_tp 0)] (wTape t a_tp s_tp) (some (.int out)) (wTape t a_tp s_tp) := by
  refine Ct.ofW (own := RX6) (cc := cX6_tokenValue) (maxL := 3) (ret := (some .int)) (by decide) rfl rfl (Nat.le_of_ble_eq_true rfl) ?_
  intro p e s m below meth c A C hP hD ls hl
  have hS : va_S A s.heap s.heap [] := va_S.rf
  obtain ⟨hx, hb, hr, hml, hown, hts, hC0, hlk, hA⟩ := id C
  have hK := hC0.1
  have hl : lv_has ls 3 [(0, .ref (a_tp 0))] := hl
  unfold fX6_tokenValue at hf
  refine lv_iconst (v := 0) hx hb dX6_tokenValue_0 (by decide) ?_
  refine lv_istore_n (lv' := [(1, .int (0 : Int32)), (0, .ref (a_tp 0))]) hx hb dX6_tokenValue_1 rfl hl (by decide) rfl (fun ls hl => ?_)
  refine lv_aload_n hx hb dX6_tokenValue_2 rfl (lv_at hl 1 rfl) ?_
  refine va_get (D := D) (ci := 6) (v := .int (s_tp 0 2)) (C := RX6) (T := TX6) (N := 7) hx hb hts iwX6_tokenValue_X6 hown hK hP 0 rfl rfl 3 (by decide) (hts _ lkX6_tokenValue_f28) (fun _ h9 => h9) rfl dX6_tokenValue_3 ?_
  obtain ⟨y1, hy1, hf⟩ := nm_ex hf
  refine W.eq (g2 := F0 m 6 ls [.int y1]) (by rw [hy1]) ?_
  refine lv_istore_n (lv' := [(2, .int y1), (1, .int (0 : Int32)), (0, .ref (a_tp 0))]) hx hb dX6_tokenValue_6 rfl hl (by decide) rfl (fun ls hl => ?_)
  obtain ⟨x6, ex6, hf⟩ := bd_some hf
  refine wX6_tokenValue_l7 C 5000 (0 : Int32) y1 x6 ex6 (fun c9 h9 H locs ls hP hD hS hl => ?_) _ _ _ hP hD hS (lv_sub hl [2, 1, 0] rfl)
  subst h9
  refine lv_iload_n hx hb dX6_tokenValue_36 rfl (lv_at hl 0 rfl) ?_
  obtain rfl := so_eq hf
  exact g_iret C hP hD hS dX6_tokenValue_37
/-! CoachCourt$Tape.tokenSpells -/
def fX6_tokenSpells_b23 (s_tp : S2) (x2 : Int32) (si : Nat) : Option ((Int32) ⊕ ((Int32) ⊕ (Int32))) :=
  if (s_tp 0 1) ≤ x2 then
    (some (.inr (.inl x2)))
  else
    (gd (ixb x2 160) <|
    (fJ0_charAt si (x2 - (s_tp 0 2))).bind fun v6 =>
    if (s_tp 1 (Int32.toNatClampNeg x2)) = v6 then
      (nm (x2 + (1 : Int32)) fun y8 =>
      some (.inl y8))
    else
      (some (.inr (.inr (0 : Int32)))))
def fX6_tokenSpells (s_tp : S2) (si : Nat) : Option (Int32) :=
  (fJ0_length si).bind fun v1 =>
  if ((s_tp 0 1) - (s_tp 0 2)) = v1 then
    (nm (s_tp 0 2) fun y3 =>
    (wh (fun (c : Int32) => fX6_tokenSpells_b23 s_tp c si) 5000 y3).bind fun x9 =>
    Sum.elim (fun q10 =>
      some (1 : Int32)) (fun r11 => some r11) x9)
  else
    (some (0 : Int32))
theorem hdX6_tokenSpells : yX6_tokenSpells.cls = RX6 ∧ yX6_tokenSpells.cls ≠ "java/lang/invoke/MethodHandle" ∧ yX6_tokenSpells.cls ≠ "java/lang/invoke/VarHandle" ∧ (parseMethodDescriptor yX6_tokenSpells.desc).map (fun d => d.parameters.length) = some 1 := by decide +kernel
theorem iwX6_tokenSpells_X6 : ∀ w ∈ wsX60, w ∈ wsX6_tokenSpells := by decide +kernel
theorem lkX6_tokenSpells_f19 : Cond.fieldLink RX6 19 "CoachCourt$Tape" "next" "I" ∈ wsX6_tokenSpells := by decide +kernel
theorem lkX6_tokenSpells_f28 : Cond.fieldLink RX6 28 "CoachCourt$Tape" "from" "I" ∈ wsX6_tokenSpells := by decide +kernel
theorem lkX6_tokenSpells_f9 : Cond.fieldLink RX6 9 "CoachCourt$Tape" "bytes" "[B" ∈ wsX6_tokenSpells := by decide +kernel
set_option maxHeartbeats 4000000 in
set_option maxRecDepth 100000 in
theorem wX6_tokenSpells_l23 {p : Program} {l : Launch} {e : Env} {s : State} {m : MethodId} {args : Array Value} {below : List Frame} {meth : Method} {c : Code} {D : va_G} {t : Nat → ClassId} {κ : Nat → Nat} {A : Nat → Prop} {a_tp : Nat → Nat} {s_tp : S2} {si : Nat} {rv : Option Value} {w1 : va_W} (C : Cxt p s m args meth c cX6_tokenSpells 3 RX6 wsX6_tokenSpells (some .boolean) D t κ A) (hsi : si < 8) : ∀ (n : Nat) (x2 : Int32) (x : (Int32) ⊕ (Int32)), wh (fun (c : Int32) => fX6_tokenSpells_b23 s_tp c si) n x2 = some x → (∀ (z : Int32), x = .inl z → ∀ (H : Heap) (locs : List Loc) (ls : Array Slot), va_P D vwCl (wTape t a_tp s_tp) H → va_D A (wTape t a_tp s_tp) → va_S A s.heap H locs → lv_has ls 3 [] → W p l e (rmL 5) s m args below meth c H locs 0 0 (MQ below (gQ D rv w1 A) args s 0 0 A) (F0 m 58 ls [])) → (∀ (r : Int32), x = .inr r → rv = (some (.int r)) ∧ w1 = (wTape t a_tp s_tp)) → ∀ (H : Heap) (locs : List Loc) (ls : Array Slot), va_P D vwCl (wTape t a_tp s_tp) H → va_D A (wTape t a_tp s_tp) → va_S A s.heap H locs → lv_has ls 3 [(0, .ref (a_tp 0)), (1, .ref (κ (3 + si))), (2, .int x2)] → W p l e (rmL 5) s m args below meth c H locs 0 0 (MQ below (gQ D rv w1 A) args s 0 0 A) (F0 m 23 ls []) := by
  obtain ⟨hx, hb, hr, hml, hown, hts, hC0, hlk, hA⟩ := id C
  have hK := hC0.1
  intro n
  induction n with
  | zero =>
    intro x2 x h
    exact (wh_0 h).elim
  | succ n ih =>
    intro x2 x h HX HR H locs ls hP hD hS hl
    obtain ⟨v, hf, hB, hX⟩ := wh_step h
    have hf : fX6_tokenSpells_b23 s_tp x2 si = some v := hf
    have HB : ∀ (z : Int32), v = .inl z → ∀ (H : Heap) (locs : List Loc) (ls : Array Slot), va_P D vwCl (wTape t a_tp s_tp) H → va_D A (wTape t a_tp s_tp) → va_S A s.heap H locs → lv_has ls 3 [(0, .ref (a_tp 0)), (1, .ref (κ (3 + si))), (2, .int z)] → W p l e (rmL 5) s m args below meth c H locs 0 0 (MQ below (gQ D rv w1 A) args s 0 0 A) (F0 m 23 ls []) := fun z hz H locs ls hP hD hS hl => ih z x (hB z hz) HX HR H locs ls hP hD hS hl
    have HX : ∀ (z : Int32), v = .inr (.inl z) → ∀ (H : Heap) (locs : List Loc) (ls : Array Slot), va_P D vwCl (wTape t a_tp s_tp) H → va_D A (wTape t a_tp s_tp) → va_S A s.heap H locs → lv_has ls 3 [] → W p l e (rmL 5) s m args below meth c H locs 0 0 (MQ below (gQ D rv w1 A) args s 0 0 A) (F0 m 58 ls []) := fun z hz => HX z (hX _ hz).symm
    have HR : ∀ (r : Int32), v = .inr (.inr r) → rv = (some (.int r)) ∧ w1 = (wTape t a_tp s_tp) := fun r hz => HR r (hX _ hz).symm
    unfold fX6_tokenSpells_b23 at hf
    refine lv_iload_n hx hb dX6_tokenSpells_23 rfl (lv_at hl 2 rfl) ?_
    refine lv_aload_n hx hb dX6_tokenSpells_24 rfl (lv_at hl 0 rfl) ?_
    refine va_get (D := D) (ci := 6) (v := .int (s_tp 0 1)) (C := RX6) (T := TX6) (N := 7) hx hb hts iwX6_tokenSpells_X6 hown hK hP 0 rfl rfl 2 (by decide) (hts _ lkX6_tokenSpells_f19) (fun _ h9 => h9) rfl dX6_tokenSpells_25 ?_
    refine lv_icmp_ge (tgt := 58) hx hb dX6_tokenSpells_28 (by decide) (fun c4 => ?_) (fun c4 => ?_)
    · rw [if_pos c4] at hf
      obtain rfl := so_eq hf
      exact HX _ rfl _ _ _ hP hD hS (lv_sub hl [] rfl)
    · rw [if_neg c4] at hf
      refine lv_aload_n hx hb dX6_tokenSpells_31 rfl (lv_at hl 0 rfl) ?_
      refine va_get (D := D) (ci := 6) (v := .ref (a_tp 1)) (C := RX6) (T := TX6) (N := 7) hx hb hts iwX6_tokenSpells_X6 hown hK hP 0 rfl rfl 0 (by decide) (hts _ lkX6_tokenSpells_f9) (fun _ h9 => h9) rfl dX6_tokenSpells_32 ?_
      refine lv_iload_n hx hb dX6_tokenSpells_35 rfl (lv_at hl 2 rfl) ?_
      obtain ⟨b5, hf⟩ := gd_some hf
      refine va_bald hx hb hK hP 1 1 rfl rfl (ixb_in b5) dX6_tokenSpells_36 ?_
      refine lv_aload_n hx hb dX6_tokenSpells_37 rfl (lv_at hl 1 rfl) ?_
      refine lv_iload_n hx hb dX6_tokenSpells_38 rfl (lv_at hl 2 rfl) ?_
      refine lv_aload_n hx hb dX6_tokenSpells_39 rfl (lv_at hl 0 rfl) ?_
      refine va_get (D := D) (ci := 6) (v := .int (s_tp 0 2)) (C := RX6) (T := TX6) (N := 7) hx hb hts iwX6_tokenSpells_X6 hown hK hP 0 rfl rfl 3 (by decide) (hts _ lkX6_tokenSpells_f28) (fun _ h9 => h9) rfl dX6_tokenSpells_40 ?_
      refine lv_isub hx hb dX6_tokenSpells_43 ?_
      obtain ⟨v6, ev6, hf⟩ := bd_some hf
      refine gk_Str C (As := [.int (x2 - (s_tp 0 2))]) (rest := [.int (s_tp 1 (Int32.toNatClampNeg x2))]) hsi (cJ0_charAt_ok (l := l) (D := D) (t := t) (κ := κ) hsi ev6) gX6_tokenSpells_J0_charAt_5068e rfl ⟨rfl, rfl⟩ hdJ0_charAt_5068e ⟨Nat.le_of_ble_eq_true rfl, Nat.le_of_ble_eq_true rfl⟩ hP hD hS rfl hl.1 (Nat.le_of_ble_eq_true rfl) dX6_tokenSpells_44 (Nat.zero_le _) (Nat.zero_le _) (fun H locs hP hD hS => ?_)
      refine W.eq (g2 := F0 m 47 ls [.int v6, .int (s_tp 1 (Int32.toNatClampNeg x2))]) rfl ?_
      refine lv_icmp_eq (tgt := 52) hx hb dX6_tokenSpells_47 (by decide) (fun c7 => ?_) (fun c7 => ?_)
      · rw [if_pos c7] at hf
        obtain ⟨y8, hy8, hf⟩ := nm_ex hf
        refine lv_iinc (v := y8) (lv' := [(2, .int y8), (0, .ref (a_tp 0)), (1, .ref (κ (3 + si)))]) hx hb dX6_tokenSpells_52 hl (k := 2) rfl (by rw [hy8]; rfl) (by decide) rfl (fun ls hl => ?_)
        refine lv_goto (tgt := 23) hx hb dX6_tokenSpells_55 (by decide) ?_
        obtain rfl := so_eq hf
        exact HB _ rfl _ _ _ hP hD hS (lv_sub hl [1, 2, 0] rfl)
      · rw [if_neg c7] at hf
        refine lv_iconst (v := 0) hx hb dX6_tokenSpells_50 (by decide) ?_
        obtain rfl := so_eq hf
        obtain ⟨rfl, rfl⟩ := HR _ rfl
        exact g_zret (v := 0) C rfl hP hD hS dX6_tokenSpells_51
set_option maxHeartbeats 4000000 in
set_option maxRecDepth 100000 in
theorem cX6_tokenSpells_ok {l : Launch} {D : va_G} {t : Nat → ClassId} {κ : Nat → Nat} {a_tp : Nat → Nat} {s_tp : S2} {si : Nat} {out : Int32} (hsi : si < 8) (hf : fX6_tokenSpells s_tp si = some out) : Ct l D t κ yX6_tokenSpells wsX6_tokenSpells (rmL 5) [.ref (a_tp 0), .ref (κ (3 + si))] (wTape t a_tp s_tp) (some (.int out)) (wTape t a_tp s_tp) := by
  refine Ct.ofW (own := RX6) (cc := cX6_tokenSpells) (maxL := 3) (ret := (some .boolean)) (by decide) rfl rfl (Nat.le_of_ble_eq_true rfl) ?_
  intro p e s m below meth c A C hP hD ls hl
  have hS : va_S A s.heap s.heap [] := va_S.rf
  obtain ⟨hx, hb, hr, hml, hown, hts, hC0, hlk, hA⟩ := id C
  have hK := hC0.1
  have hl : lv_has ls 3 [(0, .ref (a_tp 0)), (1, .ref (κ (3 + si)))] := hl
  unfold fX6_tokenSpells at hf
  refine lv_aload_n hx hb dX6_tokenSpells_0 rfl (lv_at hl 0 rfl) ?_
  refine va_get (D := D) (ci := 6) (v := .int (s_tp 0 1)) (C := RX6) (T := TX6) (N := 7) hx hb hts iwX6_tokenSpells_X6 hown hK hP 0 rfl rfl 2 (by decide) (hts _ lkX6_tokenSpells_f19) (fun _ h9 => h9) rfl dX6_tokenSpells_1 ?_
  refine lv_aload_n hx hb dX6_tokenSpells_4 rfl (lv_at hl 0 rfl) ?_
  refine va_get (D := D) (ci := 6) (v := .int (s_tp 0 2)) (C := RX6) (T := TX6) (N := 7) hx hb hts iwX6_tokenSpells_X6 hown hK hP 0 rfl rfl 3 (by decide) (hts _ lkX6_tokenSpells_f28) (fun _ h9 => h9) rfl dX6_tokenSpells_5 ?_
  refine lv_isub hx hb dX6_tokenSpells_8 ?_
  refine lv_aload_n hx hb dX6_tokenSpells_9 rfl (lv_at hl 1 rfl) ?_
  obtain ⟨v1, ev1, hf⟩ := bd_some hf
  refine gk_Str C (As := []) (rest := [.int ((s_tp 0 1) - (s_tp 0 2))]) hsi (cJ0_length_ok (l := l) (D := D) (t := t) (κ := κ) hsi ev1) gX6_tokenSpells_J0_length_8abf5 rfl ⟨rfl, rfl⟩ hdJ0_length_8abf5 ⟨Nat.le_of_ble_eq_true rfl, Nat.le_of_ble_eq_true rfl⟩ hP hD hS rfl hl.1 (Nat.le_of_ble_eq_true rfl) dX6_tokenSpells_10 (Nat.zero_le _) (Nat.zero_le _) (fun H locs hP hD hS => ?_)
  refine W.eq (g2 := F0 m 13 ls [.int v1, .int ((s_tp 0 1) - (s_tp 0 2))]) rfl ?_
  refine lv_icmp_eq (tgt := 18) hx hb dX6_tokenSpells_13 (by decide) (fun c2 => ?_) (fun c2 => ?_)
  · rw [if_pos c2] at hf
    refine lv_aload_n hx hb dX6_tokenSpells_18 rfl (lv_at hl 0 rfl) ?_
    refine va_get (D := D) (ci := 6) (v := .int (s_tp 0 2)) (C := RX6) (T := TX6) (N := 7) hx hb hts iwX6_tokenSpells_X6 hown hK hP 0 rfl rfl 3 (by decide) (hts _ lkX6_tokenSpells_f28) (fun _ h9 => h9) rfl dX6_tokenSpells_19 ?_
    obtain ⟨y3, hy3, hf⟩ := nm_ex hf
    refine W.eq (g2 := F0 m 22 ls [.int y3]) (by rw [hy3]) ?_
    refine lv_istore_n (lv' := [(2, .int y3), (0, .ref (a_tp 0)), (1, .ref (κ (3 + si)))]) hx hb dX6_tokenSpells_22 rfl hl (by decide) rfl (fun ls hl => ?_)
    obtain ⟨x9, ex9, hf⟩ := bd_some hf
    refine wX6_tokenSpells_l23 C hsi 5000 y3 x9 ex9 (fun q10 h9 H locs ls hP hD hS hl => ?_) (fun r11 h9 => ?_) _ _ _ hP hD hS (lv_sub hl [1, 2, 0] rfl)
    · rw [h9, Sum.elim_inl] at hf
      refine lv_iconst (v := 1) hx hb dX6_tokenSpells_58 (by decide) ?_
      obtain rfl := so_eq hf
      exact g_zret (v := 1) C rfl hP hD hS dX6_tokenSpells_59
    · rw [h9, Sum.elim_inr] at hf
      obtain rfl := so_eq hf
      exact ⟨rfl, rfl⟩
  · rw [if_neg c2] at hf
    refine lv_iconst (v := 0) hx hb dX6_tokenSpells_16 (by decide) ?_
    obtain rfl := so_eq hf
    exact g_zret (v := 0) C rfl hP hD hS dX6_tokenSpells_17
