/-! CoachCourt$Seeker.canBeHeardAlone -/
def fX3_canBeHeardAlone_b13 (s_sk : S2) (s_tr : S2) (s_dr : S2) (x1 : Int32) (x2 : Int32) : Option ((Int32 × S2 × S2) ⊕ ((Int32 × S2 × S2) ⊕ (Int32 × S2 × S2))) :=
  if (s_tr 0 0) ≤ x2 then
    (some (.inr (.inl (x2, s_tr, s_dr))))
  else
    (gd (ixb x1 4) <|
    nm (sE s_tr 8 (Int32.toNatClampNeg x1) x2) fun s4 =>
    (fX0_runParty s_dr s4 x1).bind fun v5 =>
    (fX0_hasVerdict v5 x1).bind fun v6 =>
    if v6 = (0 : Int32) then
      (nm (x2 + (1 : Int32)) fun y8 =>
      some (.inl (y8, s4, v5)))
    else
      (some (.inr (.inr ((1 : Int32), s4, v5)))))
def fX3_canBeHeardAlone (s_sk : S2) (s_tr : S2) (s_dr : S2) (p1 : Int32) : Option (Int32 × S2 × S2) :=
  (fX0_begin s_dr s_tr).bind fun v1 =>
  (wh (fun (c : Int32 × S2 × S2) => fX3_canBeHeardAlone_b13 s_sk c.2.1 c.2.2 p1 c.1) 5000 ((0 : Int32), s_tr, v1)).bind fun x9 =>
  Sum.elim (fun q10 =>
    some ((0 : Int32), q10.2.1, q10.2.2)) (fun r11 => some r11) x9
theorem hdX3_canBeHeardAlone : yX3_canBeHeardAlone.cls = RX3 ∧ yX3_canBeHeardAlone.cls ≠ "java/lang/invoke/MethodHandle" ∧ yX3_canBeHeardAlone.cls ≠ "java/lang/invoke/VarHandle" ∧ (parseMethodDescriptor yX3_canBeHeardAlone.desc).map (fun d => d.parameters.length) = some 1 := by decide +kernel
theorem iwX3_canBeHeardAlone_X3 : ∀ w ∈ wsX30, w ∈ wsX3_canBeHeardAlone := by decide +kernel
theorem lkX3_canBeHeardAlone_f22 : Cond.fieldLink RX3 22 "CoachCourt$Seeker" "drive" "LCoachCourt$Drive;" ∈ wsX3_canBeHeardAlone := by decide +kernel
theorem lkX3_canBeHeardAlone_f18 : Cond.fieldLink RX3 18 "CoachCourt$Seeker" "trial" "LCoachCourt$Road;" ∈ wsX3_canBeHeardAlone := by decide +kernel
theorem iwX3_canBeHeardAlone_X2 : ∀ w ∈ wsX20, w ∈ wsX3_canBeHeardAlone := by decide +kernel
set_option maxHeartbeats 4000000 in
set_option maxRecDepth 100000 in
theorem wX3_canBeHeardAlone_l13 {p : Program} {l : Launch} {e : Env} {s : State} {m : MethodId} {args : Array Value} {below : List Frame} {meth : Method} {c : Code} {D : va_G} {t : Nat → ClassId} {κ : Nat → Nat} {A : Nat → Prop} {a_sk : Nat → Nat} {a_tr : Nat → Nat} {a_dr : Nat → Nat} {s_sk : S2} {x1 : Int32} {rv : Option Value} {w1 : va_W} (C : Cxt p s m args meth c cX3_canBeHeardAlone 3 RX3 wsX3_canBeHeardAlone (some .boolean) D t κ A) : ∀ (n : Nat) (x2 : Int32) (s_tr : S2) (s_dr : S2) (x : (Int32 × S2 × S2) ⊕ (Int32 × S2 × S2)), wh (fun (c : Int32 × S2 × S2) => fX3_canBeHeardAlone_b13 s_sk c.2.1 c.2.2 x1 c.1) n (x2, s_tr, s_dr) = some x → (∀ (z : Int32 × S2 × S2), x = .inl z → ∀ (H : Heap) (locs : List Loc) (ls : Array Slot), va_P D vwCl ((wSeeker t a_sk (a_tr 0) (a_dr 0) s_sk) ++ (wRoad t a_tr z.2.1) ++ (wDrive t a_dr z.2.2)) H → va_D A ((wSeeker t a_sk (a_tr 0) (a_dr 0) s_sk) ++ (wRoad t a_tr z.2.1) ++ (wDrive t a_dr z.2.2)) → va_S A s.heap H locs → lv_has ls 3 [] → W p l e (rmL 3) s m args below meth c H locs 0 0 (MQ below (gQ D rv w1 A) args s 0 0 A) (F0 m 65 ls [])) → (∀ (r : Int32 × S2 × S2), x = .inr r → rv = (some (.int r.1)) ∧ w1 = ((wSeeker t a_sk (a_tr 0) (a_dr 0) s_sk) ++ (wRoad t a_tr r.2.1) ++ (wDrive t a_dr r.2.2))) → ∀ (H : Heap) (locs : List Loc) (ls : Array Slot), va_P D vwCl ((wSeeker t a_sk (a_tr 0) (a_dr 0) s_sk) ++ (wRoad t a_tr s_tr) ++ (wDrive t a_dr s_dr)) H → va_D A ((wSeeker t a_sk (a_tr 0) (a_dr 0) s_sk) ++ (wRoad t a_tr s_tr) ++ (wDrive t a_dr s_dr)) → va_S A s.heap H locs → lv_has ls 3 [(0, .ref (a_sk 0)), (1, .int x1), (2, .int x2)] → W p l e (rmL 3) s m args below meth c H locs 0 0 (MQ below (gQ D rv w1 A) args s 0 0 A) (F0 m 13 ls []) := by
  obtain ⟨hx, hb, hr, hml, hown, hts, hC0, hlk, hA⟩ := id C
  have hK := hC0.1
  intro n
  induction n with
  | zero =>
    intro x2 s_tr s_dr x h
    exact (wh_0 h).elim
  | succ n ih =>
    intro x2 s_tr s_dr x h HX HR H locs ls hP hD hS hl
    obtain ⟨v, hf, hB, hX⟩ := wh_step h
    have hf : fX3_canBeHeardAlone_b13 s_sk s_tr s_dr x1 x2 = some v := hf
    have HB : ∀ (z : Int32 × S2 × S2), v = .inl z → ∀ (H : Heap) (locs : List Loc) (ls : Array Slot), va_P D vwCl ((wSeeker t a_sk (a_tr 0) (a_dr 0) s_sk) ++ (wRoad t a_tr z.2.1) ++ (wDrive t a_dr z.2.2)) H → va_D A ((wSeeker t a_sk (a_tr 0) (a_dr 0) s_sk) ++ (wRoad t a_tr z.2.1) ++ (wDrive t a_dr z.2.2)) → va_S A s.heap H locs → lv_has ls 3 [(0, .ref (a_sk 0)), (1, .int x1), (2, .int z.1)] → W p l e (rmL 3) s m args below meth c H locs 0 0 (MQ below (gQ D rv w1 A) args s 0 0 A) (F0 m 13 ls []) := fun z hz H locs ls hP hD hS hl => ih z.1 z.2.1 z.2.2 x (hB z hz) HX HR H locs ls hP hD hS hl
    have HX : ∀ (z : Int32 × S2 × S2), v = .inr (.inl z) → ∀ (H : Heap) (locs : List Loc) (ls : Array Slot), va_P D vwCl ((wSeeker t a_sk (a_tr 0) (a_dr 0) s_sk) ++ (wRoad t a_tr z.2.1) ++ (wDrive t a_dr z.2.2)) H → va_D A ((wSeeker t a_sk (a_tr 0) (a_dr 0) s_sk) ++ (wRoad t a_tr z.2.1) ++ (wDrive t a_dr z.2.2)) → va_S A s.heap H locs → lv_has ls 3 [] → W p l e (rmL 3) s m args below meth c H locs 0 0 (MQ below (gQ D rv w1 A) args s 0 0 A) (F0 m 65 ls []) := fun z hz => HX z (hX _ hz).symm
    have HR : ∀ (r : Int32 × S2 × S2), v = .inr (.inr r) → rv = (some (.int r.1)) ∧ w1 = ((wSeeker t a_sk (a_tr 0) (a_dr 0) s_sk) ++ (wRoad t a_tr r.2.1) ++ (wDrive t a_dr r.2.2)) := fun r hz => HR r (hX _ hz).symm
    unfold fX3_canBeHeardAlone_b13 at hf
    refine lv_iload_n hx hb dX3_canBeHeardAlone_13 rfl (lv_at hl 2 rfl) ?_
    refine lv_aload_n hx hb dX3_canBeHeardAlone_14 rfl (lv_at hl 0 rfl) ?_
    refine va_get (D := D) (ci := 3) (v := .ref (a_tr 0)) (C := RX3) (T := TX3) (N := 5) hx hb hts iwX3_canBeHeardAlone_X3 hown hK hP 0 rfl rfl 0 (by decide) (hts _ lkX3_canBeHeardAlone_f18) (fun _ h9 => h9) rfl dX3_canBeHeardAlone_15 ?_
    refine va_getN (D := D) (ci := 2) (v := .int (s_tr 0 0)) (C := RX2) (T := TX2) (N := 12) hx hb hts iwX3_canBeHeardAlone_X2 hown hK hP 3 rfl rfl 8 (by decide) (hC0.2.1.f 23 rfl) (fun _ h9 => h9) rfl dX3_canBeHeardAlone_18 ?_
    refine lv_icmp_ge (tgt := 65) hx hb dX3_canBeHeardAlone_21 (by decide) (fun c2 => ?_) (fun c2 => ?_)
    · rw [if_pos c2] at hf
      obtain rfl := so_eq hf
      exact HX _ rfl _ _ _ hP hD hS (lv_sub hl [] rfl)
    · rw [if_neg c2] at hf
      refine lv_aload_n hx hb dX3_canBeHeardAlone_24 rfl (lv_at hl 0 rfl) ?_
      refine va_get (D := D) (ci := 3) (v := .ref (a_tr 0)) (C := RX3) (T := TX3) (N := 5) hx hb hts iwX3_canBeHeardAlone_X3 hown hK hP 0 rfl rfl 0 (by decide) (hts _ lkX3_canBeHeardAlone_f18) (fun _ h9 => h9) rfl dX3_canBeHeardAlone_25 ?_
      refine va_getN (D := D) (ci := 2) (v := .ref (a_tr 8)) (C := RX2) (T := TX2) (N := 12) hx hb hts iwX3_canBeHeardAlone_X2 hown hK hP 3 rfl rfl 7 (by decide) (hC0.2.1.f 21 rfl) (fun _ h9 => h9) rfl dX3_canBeHeardAlone_28 ?_
      refine lv_iload_n hx hb dX3_canBeHeardAlone_31 rfl (lv_at hl 1 rfl) ?_
      refine lv_iload_n hx hb dX3_canBeHeardAlone_32 rfl (lv_at hl 2 rfl) ?_
      obtain ⟨b3, hf⟩ := gd_some hf
      obtain ⟨s4, hs4, hf⟩ := nm_ex hf
      refine va_iast hx hb hK hP hD hS 11 0 rfl rfl (ixb_in b3) dX3_canBeHeardAlone_33 (fun H locs hP hD hS => ?_)
      have hP : va_P D vwCl ((wSeeker t a_sk (a_tr 0) (a_dr 0) s_sk) ++ (wRoad t a_tr s4) ++ (wDrive t a_dr s_dr)) H := by rw [hs4]; exact hP
      have hD : va_D A ((wSeeker t a_sk (a_tr 0) (a_dr 0) s_sk) ++ (wRoad t a_tr s4) ++ (wDrive t a_dr s_dr)) := by rw [hs4]; exact hD
      refine lv_aload_n hx hb dX3_canBeHeardAlone_34 rfl (lv_at hl 0 rfl) ?_
      refine va_get (D := D) (ci := 3) (v := .ref (a_dr 0)) (C := RX3) (T := TX3) (N := 5) hx hb hts iwX3_canBeHeardAlone_X3 hown hK hP 0 rfl rfl 1 (by decide) (hts _ lkX3_canBeHeardAlone_f22) (fun _ h9 => h9) rfl dX3_canBeHeardAlone_35 ?_
      refine lv_aload_n hx hb dX3_canBeHeardAlone_38 rfl (lv_at hl 0 rfl) ?_
      refine va_get (D := D) (ci := 3) (v := .ref (a_tr 0)) (C := RX3) (T := TX3) (N := 5) hx hb hts iwX3_canBeHeardAlone_X3 hown hK hP 0 rfl rfl 0 (by decide) (hts _ lkX3_canBeHeardAlone_f18) (fun _ h9 => h9) rfl dX3_canBeHeardAlone_39 ?_
      refine lv_iload_n hx hb dX3_canBeHeardAlone_42 rfl (lv_at hl 1 rfl) ?_
      obtain ⟨v5, ev5, hf⟩ := bd_some hf
      refine gk_V C (As := [.ref (a_tr 0), .int x1]) (rest := []) (ci := 0) (q := (RX0, TX0, 7)) (q0 := 0) (wr := (wSeeker t a_sk (a_tr 0) (a_dr 0) s_sk)) (wf := ((wSeeker t a_sk (a_tr 0) (a_dr 0) s_sk) ++ (wRoad t a_tr s4) ++ (wDrive t a_dr v5))) (cX0_runParty_ok (l := l) (D := D) (t := t) (κ := κ) (a_dr := a_dr) (a_rd := a_tr) ev5) gX3_canBeHeardAlone_X0_runParty rfl ⟨rfl, rfl⟩ hdX0_runParty ⟨Nat.le_of_ble_eq_true rfl, Nat.le_of_ble_eq_true rfl⟩ rfl rfl hP hD hS [12, 13, 14, 15, 16, 17, 3, 4, 5, 6, 7, 8, 9, 10, 11] [0, 1, 2] [0, 1, 2, 9, 10, 11, 12, 13, 14, 15, 16, 17, 3, 4, 5, 6, 7, 8] rfl rfl rfl rfl (by decide) rfl rfl rfl hl.1 (Nat.le_of_ble_eq_true rfl) dX3_canBeHeardAlone_43 (Nat.zero_le _) (Nat.zero_le _) (fun H locs hP hD hS => ?_)
      refine W.eq (g2 := F0 m 46 ls []) rfl ?_
      refine lv_aload_n hx hb dX3_canBeHeardAlone_46 rfl (lv_at hl 0 rfl) ?_
      refine va_get (D := D) (ci := 3) (v := .ref (a_dr 0)) (C := RX3) (T := TX3) (N := 5) hx hb hts iwX3_canBeHeardAlone_X3 hown hK hP 0 rfl rfl 1 (by decide) (hts _ lkX3_canBeHeardAlone_f22) (fun _ h9 => h9) rfl dX3_canBeHeardAlone_47 ?_
      refine lv_iload_n hx hb dX3_canBeHeardAlone_50 rfl (lv_at hl 1 rfl) ?_
      obtain ⟨v6, ev6, hf⟩ := bd_some hf
      refine gk_V C (As := [.int x1]) (rest := []) (ci := 0) (q := (RX0, TX0, 7)) (q0 := 0) (wr := ((wSeeker t a_sk (a_tr 0) (a_dr 0) s_sk) ++ (wRoad t a_tr s4))) (wf := ((wSeeker t a_sk (a_tr 0) (a_dr 0) s_sk) ++ (wRoad t a_tr s4) ++ (wDrive t a_dr v5))) (cX0_hasVerdict_ok (l := l) (D := D) (t := t) (κ := κ) (a_dr := a_dr) ev6) gX3_canBeHeardAlone_X0_hasVerdict rfl ⟨rfl, rfl⟩ hdX0_hasVerdict ⟨Nat.le_of_ble_eq_true rfl, Nat.le_of_ble_eq_true rfl⟩ rfl rfl hP hD hS [12, 13, 14, 15, 16, 17] [0, 1, 2, 3, 4, 5, 6, 7, 8, 9, 10, 11] [0, 1, 2, 3, 4, 5, 6, 7, 8, 9, 10, 11, 12, 13, 14, 15, 16, 17] rfl rfl rfl rfl (by decide) rfl rfl rfl hl.1 (Nat.le_of_ble_eq_true rfl) dX3_canBeHeardAlone_51 (Nat.zero_le _) (Nat.zero_le _) (fun H locs hP hD hS => ?_)
      refine W.eq (g2 := F0 m 54 ls [.int v6]) rfl ?_
      refine lv_if_eq (tgt := 59) hx hb dX3_canBeHeardAlone_54 (by decide) (fun c7 => ?_) (fun c7 => ?_)
      · rw [if_pos c7] at hf
        obtain ⟨y8, hy8, hf⟩ := nm_ex hf
        refine lv_iinc (v := y8) (lv' := [(2, .int y8), (0, .ref (a_sk 0)), (1, .int x1)]) hx hb dX3_canBeHeardAlone_59 hl (k := 2) rfl (by rw [hy8]; rfl) (by decide) rfl (fun ls hl => ?_)
        refine lv_goto (tgt := 13) hx hb dX3_canBeHeardAlone_62 (by decide) ?_
        obtain rfl := so_eq hf
        exact HB _ rfl _ _ _ hP hD hS (lv_sub hl [1, 2, 0] rfl)
      · rw [if_neg c7] at hf
        refine lv_iconst (v := 1) hx hb dX3_canBeHeardAlone_57 (by decide) ?_
        obtain rfl := so_eq hf
        obtain ⟨rfl, rfl⟩ := HR _ rfl
        exact g_zret (v := 1) C rfl hP hD hS dX3_canBeHeardAlone_58
set_option maxHeartbeats 4000000 in
set_option maxRecDepth 100000 in
theorem cX3_canBeHeardAlone_ok {l : Launch} {D : va_G} {t : Nat → ClassId} {κ : Nat → Nat} {a_sk : Nat → Nat} {a_tr : Nat → Nat} {a_dr : Nat → Nat} {s_sk : S2} {s_tr : S2} {s_dr : S2} {p1 : Int32} {out : Int32 × S2 × S2} (hf : fX3_canBeHeardAlone s_sk s_tr s_dr p1 = some out) : Ct l D t κ yX3_canBeHeardAlone wsX3_canBeHeardAlone (rmL 3) [.ref (a_sk 0), .int p1] ((wSeeker t a_sk (a_tr 0) (a_dr 0) s_sk) ++ (wRoad t a_tr s_tr) ++ (wDrive t a_dr s_dr)) (some (.int out.1)) ((wSeeker t a_sk (a_tr 0) (a_dr 0) s_sk) ++ (wRoad t a_tr out.2.1) ++ (wDrive t a_dr out.2.2)) := by
  refine Ct.ofW (own := RX3) (cc := cX3_canBeHeardAlone) (maxL := 3) (ret := (some .boolean)) (by decide) rfl rfl (Nat.le_of_ble_eq_true rfl) ?_
  intro p e s m below meth c A C hP hD ls hl
  have hS : va_S A s.heap s.heap [] := va_S.rf
  obtain ⟨hx, hb, hr, hml, hown, hts, hC0, hlk, hA⟩ := id C
  have hK := hC0.1
  have hl : lv_has ls 3 [(0, .ref (a_sk 0)), (1, .int p1)] := hl
  unfold fX3_canBeHeardAlone at hf
  refine lv_aload_n hx hb dX3_canBeHeardAlone_0 rfl (lv_at hl 0 rfl) ?_
  refine va_get (D := D) (ci := 3) (v := .ref (a_dr 0)) (C := RX3) (T := TX3) (N := 5) hx hb hts iwX3_canBeHeardAlone_X3 hown hK hP 0 rfl rfl 1 (by decide) (hts _ lkX3_canBeHeardAlone_f22) (fun _ h9 => h9) rfl dX3_canBeHeardAlone_1 ?_
  refine lv_aload_n hx hb dX3_canBeHeardAlone_4 rfl (lv_at hl 0 rfl) ?_
  refine va_get (D := D) (ci := 3) (v := .ref (a_tr 0)) (C := RX3) (T := TX3) (N := 5) hx hb hts iwX3_canBeHeardAlone_X3 hown hK hP 0 rfl rfl 0 (by decide) (hts _ lkX3_canBeHeardAlone_f18) (fun _ h9 => h9) rfl dX3_canBeHeardAlone_5 ?_
  obtain ⟨v1, ev1, hf⟩ := bd_some hf
  refine gk_V C (As := [.ref (a_tr 0)]) (rest := []) (ci := 0) (q := (RX0, TX0, 7)) (q0 := 0) (wr := (wSeeker t a_sk (a_tr 0) (a_dr 0) s_sk)) (wf := ((wSeeker t a_sk (a_tr 0) (a_dr 0) s_sk) ++ (wRoad t a_tr s_tr) ++ (wDrive t a_dr v1))) (cX0_begin_ok (l := l) (D := D) (t := t) (κ := κ) (a_dr := a_dr) (a_rd := a_tr) ev1) gX3_canBeHeardAlone_X0_begin rfl ⟨rfl, rfl⟩ hdX0_begin ⟨Nat.le_of_ble_eq_true rfl, Nat.le_of_ble_eq_true rfl⟩ rfl rfl hP hD hS [12, 13, 14, 15, 16, 17, 3, 4, 5, 6, 7, 8, 9, 10, 11] [0, 1, 2] [0, 1, 2, 9, 10, 11, 12, 13, 14, 15, 16, 17, 3, 4, 5, 6, 7, 8] rfl rfl rfl rfl (by decide) rfl rfl rfl hl.1 (Nat.le_of_ble_eq_true rfl) dX3_canBeHeardAlone_8 (Nat.zero_le _) (Nat.zero_le _) (fun H locs hP hD hS => ?_)
  refine W.eq (g2 := F0 m 11 ls []) rfl ?_
  refine lv_iconst (v := 0) hx hb dX3_canBeHeardAlone_11 (by decide) ?_
  refine lv_istore_n (lv' := [(2, .int (0 : Int32)), (0, .ref (a_sk 0)), (1, .int p1)]) hx hb dX3_canBeHeardAlone_12 rfl hl (by decide) rfl (fun ls hl => ?_)
  obtain ⟨x9, ex9, hf⟩ := bd_some hf
  refine wX3_canBeHeardAlone_l13 C 5000 (0 : Int32) s_tr v1 x9 ex9 (fun q10 h9 H locs ls hP hD hS hl => ?_) (fun r11 h9 => ?_) _ _ _ hP hD hS (lv_sub hl [1, 2, 0] rfl)
  · rw [h9, Sum.elim_inl] at hf
    refine lv_iconst (v := 0) hx hb dX3_canBeHeardAlone_65 (by decide) ?_
    obtain rfl := so_eq hf
    exact g_zret (v := 0) C rfl hP hD hS dX3_canBeHeardAlone_66
  · rw [h9, Sum.elim_inr] at hf
    obtain rfl := so_eq hf
    exact ⟨rfl, rfl⟩
/-! CoachCourt$Seeker.reckonHopes -/
def fX3_reckonHopes_43 (s_sk : S2) (s_tr : S2) (s_dr : S2) (x1 : Int32) (k0 : Int32) (k1 : Int32) (k2 : Int32) : Option ((Int32 × S2 × S2 × S2) ⊕ (Int32 × S2 × S2 × S2)) :=
  gd (ixb k2 5) <|
  nm (sE s_sk 2 (Int32.toNatClampNeg k2) (k1 + k0)) fun s6 =>
  nm (x1 + (-1 : Int32)) fun y7 =>
  some (.inl (y7, s6, s_tr, s_dr))
def fX3_reckonHopes_b2 (s_sk : S2) (s_tr : S2) (s_dr : S2) (x1 : Int32) : Option ((Int32 × S2 × S2 × S2) ⊕ (Int32 × S2 × S2 × S2)) :=
  if x1 < (0 : Int32) then
    (some (.inr (x1, s_sk, s_tr, s_dr)))
  else
    (gd (ixb (x1 + (1 : Int32)) 5) <|
    (fX2_hasParty s_tr x1).bind fun v3 =>
    if v3 = (0 : Int32) then
      (fX3_reckonHopes_43 s_sk s_tr s_dr x1 (0 : Int32) (s_sk 2 (Int32.toNatClampNeg (x1 + (1 : Int32)))) x1)
    else
      ((fX3_canBeHeardAlone s_sk s_tr s_dr x1).bind fun v8 =>
      if v8.1 = (0 : Int32) then
        (fX3_reckonHopes_43 s_sk v8.2.1 v8.2.2 x1 (0 : Int32) (s_sk 2 (Int32.toNatClampNeg (x1 + (1 : Int32)))) x1)
      else
        (fX3_reckonHopes_43 s_sk v8.2.1 v8.2.2 x1 (1 : Int32) (s_sk 2 (Int32.toNatClampNeg (x1 + (1 : Int32)))) x1)))
def fX3_reckonHopes (s_sk : S2) (s_tr : S2) (s_dr : S2) : Option (S2 × S2 × S2) :=
  (wh (fun (c : Int32 × S2 × S2 × S2) => fX3_reckonHopes_b2 c.2.1 c.2.2.1 c.2.2.2 c.1) 5000 ((3 : Int32), s_sk, s_tr, s_dr)).bind fun x10 =>
  some (x10.2.1, x10.2.2.1, x10.2.2.2)
theorem hdX3_reckonHopes : yX3_reckonHopes.cls = RX3 ∧ yX3_reckonHopes.cls ≠ "java/lang/invoke/MethodHandle" ∧ yX3_reckonHopes.cls ≠ "java/lang/invoke/VarHandle" ∧ (parseMethodDescriptor yX3_reckonHopes.desc).map (fun d => d.parameters.length) = some 0 := by decide +kernel
theorem iwX3_reckonHopes_X3 : ∀ w ∈ wsX30, w ∈ wsX3_reckonHopes := by decide +kernel
theorem lkX3_reckonHopes_f15 : Cond.fieldLink RX3 15 "CoachCourt$Seeker" "hopes" "[I" ∈ wsX3_reckonHopes := by decide +kernel
theorem lkX3_reckonHopes_f18 : Cond.fieldLink RX3 18 "CoachCourt$Seeker" "trial" "LCoachCourt$Road;" ∈ wsX3_reckonHopes := by decide +kernel
set_option maxHeartbeats 4000000 in
set_option maxRecDepth 100000 in
theorem wX3_reckonHopes_43 {p : Program} {l : Launch} {e : Env} {s : State} {m : MethodId} {args : Array Value} {below : List Frame} {meth : Method} {c : Code} {D : va_G} {t : Nat → ClassId} {κ : Nat → Nat} {A : Nat → Prop} {a_sk : Nat → Nat} {a_tr : Nat → Nat} {a_dr : Nat → Nat} {s_sk : S2} {s_tr : S2} {s_dr : S2} {x1 : Int32} {k0 : Int32} {k1 : Int32} {k2 : Int32} {rv : Option Value} {w1 : va_W} {v : (Int32 × S2 × S2 × S2) ⊕ (Int32 × S2 × S2 × S2)} (C : Cxt p s m args meth c cX3_reckonHopes 2 RX3 wsX3_reckonHopes none D t κ A) (hf : fX3_reckonHopes_43 s_sk s_tr s_dr x1 k0 k1 k2 = some v) (HB : ∀ (z : Int32 × S2 × S2 × S2), v = .inl z → ∀ (H : Heap) (locs : List Loc) (ls : Array Slot), va_P D vwCl ((wSeeker t a_sk (a_tr 0) (a_dr 0) z.2.1) ++ (wRoad t a_tr z.2.2.1) ++ (wDrive t a_dr z.2.2.2)) H → va_D A ((wSeeker t a_sk (a_tr 0) (a_dr 0) z.2.1) ++ (wRoad t a_tr z.2.2.1) ++ (wDrive t a_dr z.2.2.2)) → va_S A s.heap H locs → lv_has ls 2 [(0, .ref (a_sk 0)), (1, .int z.1)] → W p l e (rmL 4) s m args below meth c H locs 0 0 (MQ below (gQ D rv w1 A) args s 0 0 A) (F0 m 2 ls [])) : ∀ (H : Heap) (locs : List Loc) (ls : Array Slot), va_P D vwCl ((wSeeker t a_sk (a_tr 0) (a_dr 0) s_sk) ++ (wRoad t a_tr s_tr) ++ (wDrive t a_dr s_dr)) H → va_D A ((wSeeker t a_sk (a_tr 0) (a_dr 0) s_sk) ++ (wRoad t a_tr s_tr) ++ (wDrive t a_dr s_dr)) → va_S A s.heap H locs → lv_has ls 2 [(0, .ref (a_sk 0)), (1, .int x1)] → W p l e (rmL 4) s m args below meth c H locs 0 0 (MQ below (gQ D rv w1 A) args s 0 0 A) (F0 m 43 ls [.int k0, .int k1, .int k2, .ref (a_sk 2)]) := by
  obtain ⟨hx, hb, hr, hml, hown, hts, hC0, hlk, hA⟩ := id C
  have hK := hC0.1
  intro H locs ls hP hD hS hl
  unfold fX3_reckonHopes_43 at hf
  refine lv_iadd hx hb dX3_reckonHopes_43 ?_
  obtain ⟨b5, hf⟩ := gd_some hf
  obtain ⟨s6, hs6, hf⟩ := nm_ex hf
  refine va_iast hx hb hK hP hD hS 2 0 rfl rfl (ixb_in b5) dX3_reckonHopes_44 (fun H locs hP hD hS => ?_)
  have hP : va_P D vwCl ((wSeeker t a_sk (a_tr 0) (a_dr 0) s6) ++ (wRoad t a_tr s_tr) ++ (wDrive t a_dr s_dr)) H := by rw [hs6]; exact hP
  have hD : va_D A ((wSeeker t a_sk (a_tr 0) (a_dr 0) s6) ++ (wRoad t a_tr s_tr) ++ (wDrive t a_dr s_dr)) := by rw [hs6]; exact hD
  obtain ⟨y7, hy7, hf⟩ := nm_ex hf
  refine lv_iinc (v := y7) (lv' := [(1, .int y7), (0, .ref (a_sk 0))]) hx hb dX3_reckonHopes_45 hl (k := 1) rfl (by rw [hy7]; rfl) (by decide) rfl (fun ls hl => ?_)
  refine lv_goto (tgt := 2) hx hb dX3_reckonHopes_48 (by decide) ?_
  obtain rfl := so_eq hf
  exact HB _ rfl _ _ _ hP hD hS (lv_sub hl [1, 0] rfl)
set_option maxHeartbeats 4000000 in
set_option maxRecDepth 100000 in
theorem wX3_reckonHopes_l2 {p : Program} {l : Launch} {e : Env} {s : State} {m : MethodId} {args : Array Value} {below : List Frame} {meth : Method} {c : Code} {D : va_G} {t : Nat → ClassId} {κ : Nat → Nat} {A : Nat → Prop} {a_sk : Nat → Nat} {a_tr : Nat → Nat} {a_dr : Nat → Nat} {rv : Option Value} {w1 : va_W} (C : Cxt p s m args meth c cX3_reckonHopes 2 RX3 wsX3_reckonHopes none D t κ A) : ∀ (n : Nat) (x1 : Int32) (s_sk : S2) (s_tr : S2) (s_dr : S2) (x : Int32 × S2 × S2 × S2), wh (fun (c : Int32 × S2 × S2 × S2) => fX3_reckonHopes_b2 c.2.1 c.2.2.1 c.2.2.2 c.1) n (x1, s_sk, s_tr, s_dr) = some x → (∀ (z : Int32 × S2 × S2 × S2), x = z → ∀ (H : Heap) (locs : List Loc) (ls : Array Slot), va_P D vwCl ((wSeeker t a_sk (a_tr 0) (a_dr 0) z.2.1) ++ (wRoad t a_tr z.2.2.1) ++ (wDrive t a_dr z.2.2.2)) H → va_D A ((wSeeker t a_sk (a_tr 0) (a_dr 0) z.2.1) ++ (wRoad t a_tr z.2.2.1) ++ (wDrive t a_dr z.2.2.2)) → va_S A s.heap H locs → lv_has ls 2 [] → W p l e (rmL 4) s m args below meth c H locs 0 0 (MQ below (gQ D rv w1 A) args s 0 0 A) (F0 m 51 ls [])) → ∀ (H : Heap) (locs : List Loc) (ls : Array Slot), va_P D vwCl ((wSeeker t a_sk (a_tr 0) (a_dr 0) s_sk) ++ (wRoad t a_tr s_tr) ++ (wDrive t a_dr s_dr)) H → va_D A ((wSeeker t a_sk (a_tr 0) (a_dr 0) s_sk) ++ (wRoad t a_tr s_tr) ++ (wDrive t a_dr s_dr)) → va_S A s.heap H locs → lv_has ls 2 [(0, .ref (a_sk 0)), (1, .int x1)] → W p l e (rmL 4) s m args below meth c H locs 0 0 (MQ below (gQ D rv w1 A) args s 0 0 A) (F0 m 2 ls []) := by
  obtain ⟨hx, hb, hr, hml, hown, hts, hC0, hlk, hA⟩ := id C
  have hK := hC0.1
  intro n
  induction n with
  | zero =>
    intro x1 s_sk s_tr s_dr x h
    exact (wh_0 h).elim
  | succ n ih =>
    intro x1 s_sk s_tr s_dr x h HX H locs ls hP hD hS hl
    obtain ⟨v, hf, hB, hX⟩ := wh_step h
    have hf : fX3_reckonHopes_b2 s_sk s_tr s_dr x1 = some v := hf
    have HB : ∀ (z : Int32 × S2 × S2 × S2), v = .inl z → ∀ (H : Heap) (locs : List Loc) (ls : Array Slot), va_P D vwCl ((wSeeker t a_sk (a_tr 0) (a_dr 0) z.2.1) ++ (wRoad t a_tr z.2.2.1) ++ (wDrive t a_dr z.2.2.2)) H → va_D A ((wSeeker t a_sk (a_tr 0) (a_dr 0) z.2.1) ++ (wRoad t a_tr z.2.2.1) ++ (wDrive t a_dr z.2.2.2)) → va_S A s.heap H locs → lv_has ls 2 [(0, .ref (a_sk 0)), (1, .int z.1)] → W p l e (rmL 4) s m args below meth c H locs 0 0 (MQ below (gQ D rv w1 A) args s 0 0 A) (F0 m 2 ls []) := fun z hz H locs ls hP hD hS hl => ih z.1 z.2.1 z.2.2.1 z.2.2.2 x (hB z hz) HX H locs ls hP hD hS hl
    have HX : ∀ (z : Int32 × S2 × S2 × S2), v = .inr z → ∀ (H : Heap) (locs : List Loc) (ls : Array Slot), va_P D vwCl ((wSeeker t a_sk (a_tr 0) (a_dr 0) z.2.1) ++ (wRoad t a_tr z.2.2.1) ++ (wDrive t a_dr z.2.2.2)) H → va_D A ((wSeeker t a_sk (a_tr 0) (a_dr 0) z.2.1) ++ (wRoad t a_tr z.2.2.1) ++ (wDrive t a_dr z.2.2.2)) → va_S A s.heap H locs → lv_has ls 2 [] → W p l e (rmL 4) s m args below meth c H locs 0 0 (MQ below (gQ D rv w1 A) args s 0 0 A) (F0 m 51 ls []) := fun z hz => HX z (hX _ hz).symm
    unfold fX3_reckonHopes_b2 at hf
    refine lv_iload_n hx hb dX3_reckonHopes_2 rfl (lv_at hl 1 rfl) ?_
    refine lv_if_lt (tgt := 51) hx hb dX3_reckonHopes_3 (by decide) (fun c1 => ?_) (fun c1 => ?_)
    · rw [if_pos c1] at hf
      obtain rfl := so_eq hf
      exact HX _ rfl _ _ _ hP hD hS (lv_sub hl [] rfl)
    · rw [if_neg c1] at hf
      refine lv_aload_n hx hb dX3_reckonHopes_6 rfl (lv_at hl 0 rfl) ?_
      refine va_get (D := D) (ci := 3) (v := .ref (a_sk 2)) (C := RX3) (T := TX3) (N := 5) hx hb hts iwX3_reckonHopes_X3 hown hK hP 0 rfl rfl 3 (by decide) (hts _ lkX3_reckonHopes_f15) (fun _ h9 => h9) rfl dX3_reckonHopes_7 ?_
      refine lv_iload_n hx hb dX3_reckonHopes_10 rfl (lv_at hl 1 rfl) ?_
      refine lv_aload_n hx hb dX3_reckonHopes_11 rfl (lv_at hl 0 rfl) ?_
      refine va_get (D := D) (ci := 3) (v := .ref (a_sk 2)) (C := RX3) (T := TX3) (N := 5) hx hb hts iwX3_reckonHopes_X3 hown hK hP 0 rfl rfl 3 (by decide) (hts _ lkX3_reckonHopes_f15) (fun _ h9 => h9) rfl dX3_reckonHopes_12 ?_
      refine lv_iload_n hx hb dX3_reckonHopes_15 rfl (lv_at hl 1 rfl) ?_
      refine lv_iconst (v := 1) hx hb dX3_reckonHopes_16 (by decide) ?_
      refine lv_iadd hx hb dX3_reckonHopes_17 ?_
      obtain ⟨b2, hf⟩ := gd_some hf
      refine va_iald hx hb hK hP 2 0 rfl rfl (ixb_in b2) dX3_reckonHopes_18 ?_
      refine lv_aload_n hx hb dX3_reckonHopes_19 rfl (lv_at hl 0 rfl) ?_
      refine va_get (D := D) (ci := 3) (v := .ref (a_tr 0)) (C := RX3) (T := TX3) (N := 5) hx hb hts iwX3_reckonHopes_X3 hown hK hP 0 rfl rfl 0 (by decide) (hts _ lkX3_reckonHopes_f18) (fun _ h9 => h9) rfl dX3_reckonHopes_20 ?_
      refine lv_iload_n hx hb dX3_reckonHopes_23 rfl (lv_at hl 1 rfl) ?_
      obtain ⟨v3, ev3, hf⟩ := bd_some hf
      refine gk_V C (As := [.int x1]) (rest := [.int (s_sk 2 (Int32.toNatClampNeg (x1 + (1 : Int32)))), .int x1, .ref (a_sk 2)]) (ci := 2) (q := (RX2, TX2, 12)) (q0 := 0) (wr := ((wSeeker t a_sk (a_tr 0) (a_dr 0) s_sk) ++ (wDrive t a_dr s_dr))) (wf := ((wSeeker t a_sk (a_tr 0) (a_dr 0) s_sk) ++ (wRoad t a_tr s_tr) ++ (wDrive t a_dr s_dr))) (cX2_hasParty_ok (l := l) (D := D) (t := t) (κ := κ) (a_rd := a_tr) ev3) gX3_reckonHopes_X2_hasParty rfl ⟨rfl, rfl⟩ hdX2_hasParty ⟨Nat.le_of_ble_eq_true rfl, Nat.le_of_ble_eq_true rfl⟩ rfl rfl hP hD hS [3, 4, 5, 6, 7, 8, 9, 10, 11] [0, 1, 2, 12, 13, 14, 15, 16, 17] [0, 1, 2, 9, 10, 11, 12, 13, 14, 15, 16, 17, 3, 4, 5, 6, 7, 8] rfl rfl rfl rfl (by decide) rfl rfl rfl hl.1 (Nat.le_of_ble_eq_true rfl) dX3_reckonHopes_24 (Nat.zero_le _) (Nat.zero_le _) (fun H locs hP hD hS => ?_)
      refine W.eq (g2 := F0 m 27 ls [.int v3, .int (s_sk 2 (Int32.toNatClampNeg (x1 + (1 : Int32)))), .int x1, .ref (a_sk 2)]) rfl ?_
      refine lv_if_eq (tgt := 42) hx hb dX3_reckonHopes_27 (by decide) (fun c4 => ?_) (fun c4 => ?_)
      · rw [if_pos c4] at hf
        refine lv_iconst (v := 0) hx hb dX3_reckonHopes_42 (by decide) ?_
        exact wX3_reckonHopes_43 C hf HB _ _ _ hP hD hS (lv_sub hl [0, 1] rfl)
      · rw [if_neg c4] at hf
        refine lv_aload_n hx hb dX3_reckonHopes_30 rfl (lv_at hl 0 rfl) ?_
        refine lv_iload_n hx hb dX3_reckonHopes_31 rfl (lv_at hl 1 rfl) ?_
        obtain ⟨v8, ev8, hf⟩ := bd_some hf
        refine gk_V0 C (As := [.int x1]) (rest := [.int (s_sk 2 (Int32.toNatClampNeg (x1 + (1 : Int32)))), .int x1, .ref (a_sk 2)]) (ci := 3) (q := (RX3, TX3, 5)) (q0 := 0) (cX3_canBeHeardAlone_ok (l := l) (D := D) (t := t) (κ := κ) (a_sk := a_sk) (a_tr := a_tr) (a_dr := a_dr) ev8) gX3_reckonHopes_X3_canBeHeardAlone rfl ⟨rfl, rfl⟩ hdX3_canBeHeardAlone ⟨Nat.le_of_ble_eq_true rfl, Nat.le_of_ble_eq_true rfl⟩ rfl rfl hP hD hS rfl hl.1 (Nat.le_of_ble_eq_true rfl) dX3_reckonHopes_32 (Nat.zero_le _) (Nat.zero_le _) (fun H locs hP hD hS => ?_)
        refine W.eq (g2 := F0 m 35 ls [.int v8.1, .int (s_sk 2 (Int32.toNatClampNeg (x1 + (1 : Int32)))), .int x1, .ref (a_sk 2)]) rfl ?_
        refine lv_if_eq (tgt := 42) hx hb dX3_reckonHopes_35 (by decide) (fun c9 => ?_) (fun c9 => ?_)
        · rw [if_pos c9] at hf
          refine lv_iconst (v := 0) hx hb dX3_reckonHopes_42 (by decide) ?_
          exact wX3_reckonHopes_43 C hf HB _ _ _ hP hD hS (lv_sub hl [0, 1] rfl)
        · rw [if_neg c9] at hf
          refine lv_iconst (v := 1) hx hb dX3_reckonHopes_38 (by decide) ?_
          refine lv_goto (tgt := 43) hx hb dX3_reckonHopes_39 (by decide) ?_
          exact wX3_reckonHopes_43 C hf HB _ _ _ hP hD hS (lv_sub hl [0, 1] rfl)
set_option maxHeartbeats 4000000 in
set_option maxRecDepth 100000 in
theorem cX3_reckonHopes_ok {l : Launch} {D : va_G} {t : Nat → ClassId} {κ : Nat → Nat} {a_sk : Nat → Nat} {a_tr : Nat → Nat} {a_dr : Nat → Nat} {s_sk : S2} {s_tr : S2} {s_dr : S2} {out : S2 × S2 × S2} (hf : fX3_reckonHopes s_sk s_tr s_dr = some out) : Ct l D t κ yX3_reckonHopes wsX3_reckonHopes (rmL 4) [.ref (a_sk 0)] ((wSeeker t a_sk (a_tr 0) (a_dr 0) s_sk) ++ (wRoad t a_tr s_tr) ++ (wDrive t a_dr s_dr)) none ((wSeeker t a_sk (a_tr 0) (a_dr 0) out.1) ++ (wRoad t a_tr out.2.1) ++ (wDrive t a_dr out.2.2)) := by
  refine Ct.ofW (own := RX3) (cc := cX3_reckonHopes) (maxL := 2) (ret := none) (by decide) rfl rfl (Nat.le_of_ble_eq_true rfl) ?_
  intro p e s m below meth c A C hP hD ls hl
  have hS : va_S A s.heap s.heap [] := va_S.rf
  obtain ⟨hx, hb, hr, hml, hown, hts, hC0, hlk, hA⟩ := id C
  have hK := hC0.1
  have hl : lv_has ls 2 [(0, .ref (a_sk 0))] := hl
  unfold fX3_reckonHopes at hf
  refine lv_iconst (v := 3) hx hb dX3_reckonHopes_0 (by decide) ?_
  refine lv_istore_n (lv' := [(1, .int (3 : Int32)), (0, .ref (a_sk 0))]) hx hb dX3_reckonHopes_1 rfl hl (by decide) rfl (fun ls hl => ?_)
  obtain ⟨x10, ex10, hf⟩ := bd_some hf
  refine wX3_reckonHopes_l2 C 5000 (3 : Int32) s_sk s_tr s_dr x10 ex10 (fun c9 h9 H locs ls hP hD hS hl => ?_) _ _ _ hP hD hS (lv_sub hl [1, 0] rfl)
  subst h9
  obtain rfl := so_eq hf
  exact g_vret C hP hD hS dX3_reckonHopes_51
/-! CoachCourt$Seeker.seekFrom -/
def fX3_seekFrom_112 (rec : S2 → S2 → S2 → Int32 → Int32 → Option (S2 × S2 × S2)) (s_sk : S2) (s_tr : S2) (s_dr : S2) (x1 : Int32) (x2 : Int32) (x3 : Int32) (k0 : Int32) (k1 : Int32) : Option ((Int32 × S2 × S2 × S2) ⊕ (Int32 × S2 × S2 × S2)) :=
  (rec s_sk s_tr s_dr k1 k0).bind fun v12 =>
  nm (x3 + (1 : Int32)) fun y13 =>
  some (.inl (y13, v12.1, v12.2.1, v12.2.2))
def fX3_seekFrom_b57 (rec : S2 → S2 → S2 → Int32 → Int32 → Option (S2 × S2 × S2)) (s_sk : S2) (s_tr : S2) (s_dr : S2) (x1 : Int32) (x2 : Int32) (x3 : Int32) : Option ((Int32 × S2 × S2 × S2) ⊕ (Int32 × S2 × S2 × S2)) :=
  if (s_tr 0 0) ≤ x3 then
    (some (.inr (x3, s_sk, s_tr, s_dr)))
  else
    (gd (ixb x1 4) <|
    nm (sE s_tr 8 (Int32.toNatClampNeg x1) x3) fun s8 =>
    (fX0_runParty s_dr s8 x1).bind fun v9 =>
    (fX0_hasVerdict v9 x1).bind fun v10 =>
    if v10 = (0 : Int32) then
      (fX3_seekFrom_112 rec s_sk s8 v9 x1 x2 x3 x2 (x1 + (1 : Int32)))
    else
      (fX3_seekFrom_112 rec s_sk s8 v9 x1 x2 x3 (x2 + (1 : Int32)) (x1 + (1 : Int32))))
def fX3_seekFrom_S (rec : S2 → S2 → S2 → Int32 → Int32 → Option (S2 × S2 × S2)) (s_sk : S2) (s_tr : S2) (s_dr : S2) (p2 : Int32) (p3 : Int32) : Option (S2 × S2 × S2) :=
  if (4 : Int32) < p2 then
    (some (s_sk, s_tr, s_dr))
  else
    (gd (ixb p2 5) <|
    if (s_sk 0 0) < (p3 + (s_sk 2 (Int32.toNatClampNeg p2))) then
      ((fX2_hasParty s_tr p2).bind fun v4 =>
      if v4 = (0 : Int32) then
        (nm (sE s_sk 0 0 p3) fun s15 =>
        nm (sR s15 1 (va_cpy (s_tr 8) (s15 1) 0 0 4)) fun s16 =>
        some (s16, s_tr, s_dr))
      else
        ((wh (fun (c : Int32 × S2 × S2 × S2) => fX3_seekFrom_b57 rec c.2.1 c.2.2.1 c.2.2.2 p2 p3 c.1) 5000 ((0 : Int32), s_sk, s_tr, s_dr)).bind fun x14 =>
        some (x14.2.1, x14.2.2.1, x14.2.2.2)))
    else
      (some (s_sk, s_tr, s_dr)))
theorem hdX3_seekFrom : yX3_seekFrom.cls ≠ "java/lang/invoke/MethodHandle" ∧ yX3_seekFrom.cls ≠ "java/lang/invoke/VarHandle" ∧ (parseMethodDescriptor yX3_seekFrom.desc).map (fun d => d.parameters.length) = some 3 := by decide +kernel
theorem iwX3_seekFrom_X3 : ∀ w ∈ wsX30, w ∈ wsX3_seekFrom := by decide +kernel
theorem lkX3_seekFrom_f15 : Cond.fieldLink RX3 15 "CoachCourt$Seeker" "hopes" "[I" ∈ wsX3_seekFrom := by decide +kernel
theorem lkX3_seekFrom_f35 : Cond.fieldLink RX3 35 "CoachCourt$Seeker" "most" "I" ∈ wsX3_seekFrom := by decide +kernel
theorem lkX3_seekFrom_f18 : Cond.fieldLink RX3 18 "CoachCourt$Seeker" "trial" "LCoachCourt$Road;" ∈ wsX3_seekFrom := by decide +kernel
theorem iwX3_seekFrom_X2 : ∀ w ∈ wsX20, w ∈ wsX3_seekFrom := by decide +kernel
theorem lkX3_seekFrom_f22 : Cond.fieldLink RX3 22 "CoachCourt$Seeker" "drive" "LCoachCourt$Drive;" ∈ wsX3_seekFrom := by decide +kernel
theorem lkX3_seekFrom_f9 : Cond.fieldLink RX3 9 "CoachCourt$Seeker" "stones" "[I" ∈ wsX3_seekFrom := by decide +kernel
theorem lkX3_seekFrom_mac68 : Cond.methodLink RX3 68 arraycopyName ∈ wsX3_seekFrom := by decide +kernel
theorem lkX3_seekFrom_nac : Cond.native arraycopyName ∈ wsX3_seekFrom := by decide +kernel
theorem lkX3_seekFrom_sac : Cond.static arraycopyName ∈ wsX3_seekFrom := by decide +kernel
theorem lkX3_seekFrom_iac : Cond.initialized "java/lang/System" ∈ wsX3_seekFrom := by decide +kernel
set_option maxHeartbeats 4000000 in
set_option maxRecDepth 100000 in
theorem wX3_seekFrom_112 {p : Program} {l : Launch} {e : Env} {s : State} {m : MethodId} {args : Array Value} {below : List Frame} {meth : Method} {c : Code} {D : va_G} {t : Nat → ClassId} {κ : Nat → Nat} {A : Nat → Prop} {a_sk : Nat → Nat} {a_tr : Nat → Nat} {a_dr : Nat → Nat} {rec : S2 → S2 → S2 → Int32 → Int32 → Option (S2 × S2 × S2)} {d : Nat} {s_sk : S2} {s_tr : S2} {s_dr : S2} {x1 : Int32} {x2 : Int32} {x3 : Int32} {k0 : Int32} {k1 : Int32} {rv : Option Value} {w1 : va_W} {v : (Int32 × S2 × S2 × S2) ⊕ (Int32 × S2 × S2 × S2)} (C : Cxt p s m args meth c cX3_seekFrom 4 RX3 wsX3_seekFrom none D t κ A) (hrec : ∀ {u1 u2 u3 : S2} {i1 i2 : Int32} {o : S2 × S2 × S2}, rec u1 u2 u3 i1 i2 = some o → Ct l D t κ yX3_seekFrom wsX3_seekFrom (rmL (3 + d)) [.ref (a_sk 0), .int i1, .int i2] ((wSeeker t a_sk (a_tr 0) (a_dr 0) u1) ++ (wRoad t a_tr u2) ++ (wDrive t a_dr u3)) none ((wSeeker t a_sk (a_tr 0) (a_dr 0) o.1) ++ (wRoad t a_tr o.2.1) ++ (wDrive t a_dr o.2.2))) (hf : fX3_seekFrom_112 rec s_sk s_tr s_dr x1 x2 x3 k0 k1 = some v) (HB : ∀ (z : Int32 × S2 × S2 × S2), v = .inl z → ∀ (H : Heap) (locs : List Loc) (ls : Array Slot), va_P D vwCl ((wSeeker t a_sk (a_tr 0) (a_dr 0) z.2.1) ++ (wRoad t a_tr z.2.2.1) ++ (wDrive t a_dr z.2.2.2)) H → va_D A ((wSeeker t a_sk (a_tr 0) (a_dr 0) z.2.1) ++ (wRoad t a_tr z.2.2.1) ++ (wDrive t a_dr z.2.2.2)) → va_S A s.heap H locs → lv_has ls 4 [(0, .ref (a_sk 0)), (1, .int x1), (2, .int x2), (3, .int z.1)] → W p l e (rmL (4 + d)) s m args below meth c H locs 0 0 (MQ below (gQ D rv w1 A) args s 0 0 A) (F0 m 57 ls [])) : ∀ (H : Heap) (locs : List Loc) (ls : Array Slot), va_P D vwCl ((wSeeker t a_sk (a_tr 0) (a_dr 0) s_sk) ++ (wRoad t a_tr s_tr) ++ (wDrive t a_dr s_dr)) H → va_D A ((wSeeker t a_sk (a_tr 0) (a_dr 0) s_sk) ++ (wRoad t a_tr s_tr) ++ (wDrive t a_dr s_dr)) → va_S A s.heap H locs → lv_has ls 4 [(0, .ref (a_sk 0)), (1, .int x1), (2, .int x2), (3, .int x3)] → W p l e (rmL (4 + d)) s m args below meth c H locs 0 0 (MQ below (gQ D rv w1 A) args s 0 0 A) (F0 m 112 ls [.int k0, .int k1, .ref (a_sk 0)]) := by
  obtain ⟨hx, hb, hr, hml, hown, hts, hC0, hlk, hA⟩ := id C
  have hK := hC0.1
  intro H locs ls hP hD hS hl
  unfold fX3_seekFrom_112 at hf
  obtain ⟨v12, ev12, hf⟩ := bd_some hf
  refine gk_SW C (As := [.ref (a_sk 0), .int k1, .int k0]) (rest := []) (wr := ([] : va_W)) (wf := ((wSeeker t a_sk (a_tr 0) (a_dr 0) v12.1) ++ (wRoad t a_tr v12.2.1) ++ (wDrive t a_dr v12.2.2))) (hrec ev12) gX3_seekFrom_X3_seekFrom rfl ⟨rfl, rfl⟩ hdX3_seekFrom (rm_le (by omega) (by decide)) hP hD hS [0, 1, 2, 3, 4, 5, 6, 7, 8, 9, 10, 11, 12, 13, 14, 15, 16, 17] [] [0, 1, 2, 3, 4, 5, 6, 7, 8, 9, 10, 11, 12, 13, 14, 15, 16, 17] rfl rfl rfl rfl (by decide) rfl rfl rfl hl.1 (Nat.le_of_ble_eq_true rfl) dX3_seekFrom_112 (Nat.zero_le _) (Nat.zero_le _) (fun H locs hP hD hS => ?_)
  refine W.eq (g2 := F0 m 115 ls []) rfl ?_
  obtain ⟨y13, hy13, hf⟩ := nm_ex hf
  refine lv_iinc (v := y13) (lv' := [(3, .int y13), (0, .ref (a_sk 0)), (1, .int x1), (2, .int x2)]) hx hb dX3_seekFrom_115 hl (k := 3) rfl (by rw [hy13]; rfl) (by decide) rfl (fun ls hl => ?_)
  refine lv_goto (tgt := 57) hx hb dX3_seekFrom_118 (by decide) ?_
  obtain rfl := so_eq hf
  exact HB _ rfl _ _ _ hP hD hS (lv_sub hl [1, 2, 3, 0] rfl)
set_option maxHeartbeats 4000000 in
set_option maxRecDepth 100000 in
theorem wX3_seekFrom_l57 {p : Program} {l : Launch} {e : Env} {s : State} {m : MethodId} {args : Array Value} {below : List Frame} {meth : Method} {c : Code} {D : va_G} {t : Nat → ClassId} {κ : Nat → Nat} {A : Nat → Prop} {a_sk : Nat → Nat} {a_tr : Nat → Nat} {a_dr : Nat → Nat} {rec : S2 → S2 → S2 → Int32 → Int32 → Option (S2 × S2 × S2)} {d : Nat} {x1 : Int32} {x2 : Int32} {rv : Option Value} {w1 : va_W} (C : Cxt p s m args meth c cX3_seekFrom 4 RX3 wsX3_seekFrom none D t κ A) (hrec : ∀ {u1 u2 u3 : S2} {i1 i2 : Int32} {o : S2 × S2 × S2}, rec u1 u2 u3 i1 i2 = some o → Ct l D t κ yX3_seekFrom wsX3_seekFrom (rmL (3 + d)) [.ref (a_sk 0), .int i1, .int i2] ((wSeeker t a_sk (a_tr 0) (a_dr 0) u1) ++ (wRoad t a_tr u2) ++ (wDrive t a_dr u3)) none ((wSeeker t a_sk (a_tr 0) (a_dr 0) o.1) ++ (wRoad t a_tr o.2.1) ++ (wDrive t a_dr o.2.2))) : ∀ (n : Nat) (x3 : Int32) (s_sk : S2) (s_tr : S2) (s_dr : S2) (x : Int32 × S2 × S2 × S2), wh (fun (c : Int32 × S2 × S2 × S2) => fX3_seekFrom_b57 rec c.2.1 c.2.2.1 c.2.2.2 x1 x2 c.1) n (x3, s_sk, s_tr, s_dr) = some x → (∀ (z : Int32 × S2 × S2 × S2), x = z → ∀ (H : Heap) (locs : List Loc) (ls : Array Slot), va_P D vwCl ((wSeeker t a_sk (a_tr 0) (a_dr 0) z.2.1) ++ (wRoad t a_tr z.2.2.1) ++ (wDrive t a_dr z.2.2.2)) H → va_D A ((wSeeker t a_sk (a_tr 0) (a_dr 0) z.2.1) ++ (wRoad t a_tr z.2.2.1) ++ (wDrive t a_dr z.2.2.2)) → va_S A s.heap H locs → lv_has ls 4 [] → W p l e (rmL (4 + d)) s m args below meth c H locs 0 0 (MQ below (gQ D rv w1 A) args s 0 0 A) (F0 m 121 ls [])) → ∀ (H : Heap) (locs : List Loc) (ls : Array Slot), va_P D vwCl ((wSeeker t a_sk (a_tr 0) (a_dr 0) s_sk) ++ (wRoad t a_tr s_tr) ++ (wDrive t a_dr s_dr)) H → va_D A ((wSeeker t a_sk (a_tr 0) (a_dr 0) s_sk) ++ (wRoad t a_tr s_tr) ++ (wDrive t a_dr s_dr)) → va_S A s.heap H locs → lv_has ls 4 [(0, .ref (a_sk 0)), (1, .int x1), (2, .int x2), (3, .int x3)] → W p l e (rmL (4 + d)) s m args below meth c H locs 0 0 (MQ below (gQ D rv w1 A) args s 0 0 A) (F0 m 57 ls []) := by
  obtain ⟨hx, hb, hr, hml, hown, hts, hC0, hlk, hA⟩ := id C
  have hK := hC0.1
  intro n
  induction n with
  | zero =>
    intro x3 s_sk s_tr s_dr x h
    exact (wh_0 h).elim
  | succ n ih =>
    intro x3 s_sk s_tr s_dr x h HX H locs ls hP hD hS hl
    obtain ⟨v, hf, hB, hX⟩ := wh_step h
    have hf : fX3_seekFrom_b57 rec s_sk s_tr s_dr x1 x2 x3 = some v := hf
    have HB : ∀ (z : Int32 × S2 × S2 × S2), v = .inl z → ∀ (H : Heap) (locs : List Loc) (ls : Array Slot), va_P D vwCl ((wSeeker t a_sk (a_tr 0) (a_dr 0) z.2.1) ++ (wRoad t a_tr z.2.2.1) ++ (wDrive t a_dr z.2.2.2)) H → va_D A ((wSeeker t a_sk (a_tr 0) (a_dr 0) z.2.1) ++ (wRoad t a_tr z.2.2.1) ++ (wDrive t a_dr z.2.2.2)) → va_S A s.heap H locs → lv_has ls 4 [(0, .ref (a_sk 0)), (1, .int x1), (2, .int x2), (3, .int z.1)] → W p l e (rmL (4 + d)) s m args below meth c H locs 0 0 (MQ below (gQ D rv w1 A) args s 0 0 A) (F0 m 57 ls []) := fun z hz H locs ls hP hD hS hl => ih z.1 z.2.1 z.2.2.1 z.2.2.2 x (hB z hz) HX H locs ls hP hD hS hl
    have HX : ∀ (z : Int32 × S2 × S2 × S2), v = .inr z → ∀ (H : Heap) (locs : List Loc) (ls : Array Slot), va_P D vwCl ((wSeeker t a_sk (a_tr 0) (a_dr 0) z.2.1) ++ (wRoad t a_tr z.2.2.1) ++ (wDrive t a_dr z.2.2.2)) H → va_D A ((wSeeker t a_sk (a_tr 0) (a_dr 0) z.2.1) ++ (wRoad t a_tr z.2.2.1) ++ (wDrive t a_dr z.2.2.2)) → va_S A s.heap H locs → lv_has ls 4 [] → W p l e (rmL (4 + d)) s m args below meth c H locs 0 0 (MQ below (gQ D rv w1 A) args s 0 0 A) (F0 m 121 ls []) := fun z hz => HX z (hX _ hz).symm
    unfold fX3_seekFrom_b57 at hf
    refine lv_iload_n hx hb dX3_seekFrom_57 rfl (lv_at hl 3 rfl) ?_
    refine lv_aload_n hx hb dX3_seekFrom_58 rfl (lv_at hl 0 rfl) ?_
    refine va_get (D := D) (ci := 3) (v := .ref (a_tr 0)) (C := RX3) (T := TX3) (N := 5) hx hb hts iwX3_seekFrom_X3 hown hK hP 0 rfl rfl 0 (by decide) (hts _ lkX3_seekFrom_f18) (fun _ h9 => h9) rfl dX3_seekFrom_59 ?_
    refine va_getN (D := D) (ci := 2) (v := .int (s_tr 0 0)) (C := RX2) (T := TX2) (N := 12) hx hb hts iwX3_seekFrom_X2 hown hK hP 3 rfl rfl 8 (by decide) (hC0.2.1.f 23 rfl) (fun _ h9 => h9) rfl dX3_seekFrom_62 ?_
    refine lv_icmp_ge (tgt := 121) hx hb dX3_seekFrom_65 (by decide) (fun c6 => ?_) (fun c6 => ?_)
    · rw [if_pos c6] at hf
      obtain rfl := so_eq hf
      exact HX _ rfl _ _ _ hP hD hS (lv_sub hl [] rfl)
    · rw [if_neg c6] at hf
      refine lv_aload_n hx hb dX3_seekFrom_68 rfl (lv_at hl 0 rfl) ?_
      refine va_get (D := D) (ci := 3) (v := .ref (a_tr 0)) (C := RX3) (T := TX3) (N := 5) hx hb hts iwX3_seekFrom_X3 hown hK hP 0 rfl rfl 0 (by decide) (hts _ lkX3_seekFrom_f18) (fun _ h9 => h9) rfl dX3_seekFrom_69 ?_
      refine va_getN (D := D) (ci := 2) (v := .ref (a_tr 8)) (C := RX2) (T := TX2) (N := 12) hx hb hts iwX3_seekFrom_X2 hown hK hP 3 rfl rfl 7 (by decide) (hC0.2.1.f 21 rfl) (fun _ h9 => h9) rfl dX3_seekFrom_72 ?_
      refine lv_iload_n hx hb dX3_seekFrom_75 rfl (lv_at hl 1 rfl) ?_
      refine lv_iload_n hx hb dX3_seekFrom_76 rfl (lv_at hl 3 rfl) ?_
      obtain ⟨b7, hf⟩ := gd_some hf
      obtain ⟨s8, hs8, hf⟩ := nm_ex hf
      refine va_iast hx hb hK hP hD hS 11 0 rfl rfl (ixb_in b7) dX3_seekFrom_77 (fun H locs hP hD hS => ?_)
      have hP : va_P D vwCl ((wSeeker t a_sk (a_tr 0) (a_dr 0) s_sk) ++ (wRoad t a_tr s8) ++ (wDrive t a_dr s_dr)) H := by rw [hs8]; exact hP
      have hD : va_D A ((wSeeker t a_sk (a_tr 0) (a_dr 0) s_sk) ++ (wRoad t a_tr s8) ++ (wDrive t a_dr s_dr)) := by rw [hs8]; exact hD
      refine lv_aload_n hx hb dX3_seekFrom_78 rfl (lv_at hl 0 rfl) ?_
      refine va_get (D := D) (ci := 3) (v := .ref (a_dr 0)) (C := RX3) (T := TX3) (N := 5) hx hb hts iwX3_seekFrom_X3 hown hK hP 0 rfl rfl 1 (by decide) (hts _ lkX3_seekFrom_f22) (fun _ h9 => h9) rfl dX3_seekFrom_79 ?_
      refine lv_aload_n hx hb dX3_seekFrom_82 rfl (lv_at hl 0 rfl) ?_
      refine va_get (D := D) (ci := 3) (v := .ref (a_tr 0)) (C := RX3) (T := TX3) (N := 5) hx hb hts iwX3_seekFrom_X3 hown hK hP 0 rfl rfl 0 (by decide) (hts _ lkX3_seekFrom_f18) (fun _ h9 => h9) rfl dX3_seekFrom_83 ?_
      refine lv_iload_n hx hb dX3_seekFrom_86 rfl (lv_at hl 1 rfl) ?_
      obtain ⟨v9, ev9, hf⟩ := bd_some hf
      refine gk_V C (As := [.ref (a_tr 0), .int x1]) (rest := []) (ci := 0) (q := (RX0, TX0, 7)) (q0 := 0) (wr := (wSeeker t a_sk (a_tr 0) (a_dr 0) s_sk)) (wf := ((wSeeker t a_sk (a_tr 0) (a_dr 0) s_sk) ++ (wRoad t a_tr s8) ++ (wDrive t a_dr v9))) (cX0_runParty_ok (l := l) (D := D) (t := t) (κ := κ) (a_dr := a_dr) (a_rd := a_tr) ev9) gX3_seekFrom_X0_runParty rfl ⟨rfl, rfl⟩ hdX0_runParty (rm_le (by omega) (by decide)) rfl rfl hP hD hS [12, 13, 14, 15, 16, 17, 3, 4, 5, 6, 7, 8, 9, 10, 11] [0, 1, 2] [0, 1, 2, 9, 10, 11, 12, 13, 14, 15, 16, 17, 3, 4, 5, 6, 7, 8] rfl rfl rfl rfl (by decide) rfl rfl rfl hl.1 (Nat.le_of_ble_eq_true rfl) dX3_seekFrom_87 (Nat.zero_le _) (Nat.zero_le _) (fun H locs hP hD hS => ?_)
      refine W.eq (g2 := F0 m 90 ls []) rfl ?_
      refine lv_aload_n hx hb dX3_seekFrom_90 rfl (lv_at hl 0 rfl) ?_
      refine lv_iload_n hx hb dX3_seekFrom_91 rfl (lv_at hl 1 rfl) ?_
      refine lv_iconst (v := 1) hx hb dX3_seekFrom_92 (by decide) ?_
      refine lv_iadd hx hb dX3_seekFrom_93 ?_
      refine lv_aload_n hx hb dX3_seekFrom_94 rfl (lv_at hl 0 rfl) ?_
      refine va_get (D := D) (ci := 3) (v := .ref (a_dr 0)) (C := RX3) (T := TX3) (N := 5) hx hb hts iwX3_seekFrom_X3 hown hK hP 0 rfl rfl 1 (by decide) (hts _ lkX3_seekFrom_f22) (fun _ h9 => h9) rfl dX3_seekFrom_95 ?_
      refine lv_iload_n hx hb dX3_seekFrom_98 rfl (lv_at hl 1 rfl) ?_
      obtain ⟨v10, ev10, hf⟩ := bd_some hf
      refine gk_V C (As := [.int x1]) (rest := [.int (x1 + (1 : Int32)), .ref (a_sk 0)]) (ci := 0) (q := (RX0, TX0, 7)) (q0 := 0) (wr := ((wSeeker t a_sk (a_tr 0) (a_dr 0) s_sk) ++ (wRoad t a_tr s8))) (wf := ((wSeeker t a_sk (a_tr 0) (a_dr 0) s_sk) ++ (wRoad t a_tr s8) ++ (wDrive t a_dr v9))) (cX0_hasVerdict_ok (l := l) (D := D) (t := t) (κ := κ) (a_dr := a_dr) ev10) gX3_seekFrom_X0_hasVerdict rfl ⟨rfl, rfl⟩ hdX0_hasVerdict (rm_le (by omega) (by decide)) rfl rfl hP hD hS [12, 13, 14, 15, 16, 17] [0, 1, 2, 3, 4, 5, 6, 7, 8, 9, 10, 11] [0, 1, 2, 3, 4, 5, 6, 7, 8, 9, 10, 11, 12, 13, 14, 15, 16, 17] rfl rfl rfl rfl (by decide) rfl rfl rfl hl.1 (Nat.le_of_ble_eq_true rfl) dX3_seekFrom_99 (Nat.zero_le _) (Nat.zero_le _) (fun H locs hP hD hS => ?_)
      refine W.eq (g2 := F0 m 102 ls [.int v10, .int (x1 + (1 : Int32)), .ref (a_sk 0)]) rfl ?_
      refine lv_if_eq (tgt := 111) hx hb dX3_seekFrom_102 (by decide) (fun c11 => ?_) (fun c11 => ?_)
      · rw [if_pos c11] at hf
        refine lv_iload_n hx hb dX3_seekFrom_111 rfl (lv_at hl 2 rfl) ?_
        exact wX3_seekFrom_112 C hrec hf HB _ _ _ hP hD hS (lv_sub hl [0, 1, 2, 3] rfl)
      · rw [if_neg c11] at hf
        refine lv_iload_n hx hb dX3_seekFrom_105 rfl (lv_at hl 2 rfl) ?_
        refine lv_iconst (v := 1) hx hb dX3_seekFrom_106 (by decide) ?_
        refine lv_iadd hx hb dX3_seekFrom_107 ?_
        refine lv_goto (tgt := 112) hx hb dX3_seekFrom_108 (by decide) ?_
        exact wX3_seekFrom_112 C hrec hf HB _ _ _ hP hD hS (lv_sub hl [0, 1, 2, 3] rfl)
set_option maxHeartbeats 4000000 in
set_option maxRecDepth 100000 in
theorem cX3_seekFrom_S_ok {l : Launch} {D : va_G} {t : Nat → ClassId} {κ : Nat → Nat} {a_sk : Nat → Nat} {a_tr : Nat → Nat} {a_dr : Nat → Nat} {rec : S2 → S2 → S2 → Int32 → Int32 → Option (S2 × S2 × S2)} {d : Nat} {s_sk : S2} {s_tr : S2} {s_dr : S2} {p2 : Int32} {p3 : Int32} {out : S2 × S2 × S2} (hrec : ∀ {u1 u2 u3 : S2} {i1 i2 : Int32} {o : S2 × S2 × S2}, rec u1 u2 u3 i1 i2 = some o → Ct l D t κ yX3_seekFrom wsX3_seekFrom (rmL (3 + d)) [.ref (a_sk 0), .int i1, .int i2] ((wSeeker t a_sk (a_tr 0) (a_dr 0) u1) ++ (wRoad t a_tr u2) ++ (wDrive t a_dr u3)) none ((wSeeker t a_sk (a_tr 0) (a_dr 0) o.1) ++ (wRoad t a_tr o.2.1) ++ (wDrive t a_dr o.2.2))) (hf : fX3_seekFrom_S rec s_sk s_tr s_dr p2 p3 = some out) : Ct l D t κ yX3_seekFrom wsX3_seekFrom (rmL (4 + d)) [.ref (a_sk 0), .int p2, .int p3] ((wSeeker t a_sk (a_tr 0) (a_dr 0) s_sk) ++ (wRoad t a_tr s_tr) ++ (wDrive t a_dr s_dr)) none ((wSeeker t a_sk (a_tr 0) (a_dr 0) out.1) ++ (wRoad t a_tr out.2.1) ++ (wDrive t a_dr out.2.2)) := by
  refine Ct.ofW (own := RX3) (cc := cX3_seekFrom) (maxL := 4) (ret := none) (by decide) rfl rfl (Nat.le_of_ble_eq_true rfl) ?_
  intro p e s m below meth c A C hP hD ls hl
  have hS : va_S A s.heap s.heap [] := va_S.rf
  obtain ⟨hx, hb, hr, hml, hown, hts, hC0, hlk, hA⟩ := id C
  have hK := hC0.1
  have hl : lv_has ls 4 [(0, .ref (a_sk 0)), (1, .int p2), (2, .int p3)] := hl
  unfold fX3_seekFrom_S at hf
  refine lv_iload_n hx hb dX3_seekFrom_0 rfl (lv_at hl 1 rfl) ?_
  refine lv_iconst (v := 4) hx hb dX3_seekFrom_1 (by decide) ?_
  refine lv_icmp_gt (tgt := 20) hx hb dX3_seekFrom_2 (by decide) (fun c1 => ?_) (fun c1 => ?_)
  · rw [if_pos c1] at hf
    obtain rfl := so_eq hf
    exact g_vret C hP hD hS dX3_seekFrom_20
  · rw [if_neg c1] at hf
    refine lv_iload_n hx hb dX3_seekFrom_5 rfl (lv_at hl 2 rfl) ?_
    refine lv_aload_n hx hb dX3_seekFrom_6 rfl (lv_at hl 0 rfl) ?_
    refine va_get (D := D) (ci := 3) (v := .ref (a_sk 2)) (C := RX3) (T := TX3) (N := 5) hx hb hts iwX3_seekFrom_X3 hown hK hP 0 rfl rfl 3 (by decide) (hts _ lkX3_seekFrom_f15) (fun _ h9 => h9) rfl dX3_seekFrom_7 ?_
    refine lv_iload_n hx hb dX3_seekFrom_10 rfl (lv_at hl 1 rfl) ?_
    obtain ⟨b2, hf⟩ := gd_some hf
    refine va_iald hx hb hK hP 2 0 rfl rfl (ixb_in b2) dX3_seekFrom_11 ?_
    refine lv_iadd hx hb dX3_seekFrom_12 ?_
    refine lv_aload_n hx hb dX3_seekFrom_13 rfl (lv_at hl 0 rfl) ?_
    refine va_get (D := D) (ci := 3) (v := .int (s_sk 0 0)) (C := RX3) (T := TX3) (N := 5) hx hb hts iwX3_seekFrom_X3 hown hK hP 0 rfl rfl 4 (by decide) (hts _ lkX3_seekFrom_f35) (fun _ h9 => h9) rfl dX3_seekFrom_14 ?_
    refine lv_icmp_gt (tgt := 21) hx hb dX3_seekFrom_17 (by decide) (fun c3 => ?_) (fun c3 => ?_)
    · rw [if_pos c3] at hf
      refine lv_aload_n hx hb dX3_seekFrom_21 rfl (lv_at hl 0 rfl) ?_
      refine va_get (D := D) (ci := 3) (v := .ref (a_tr 0)) (C := RX3) (T := TX3) (N := 5) hx hb hts iwX3_seekFrom_X3 hown hK hP 0 rfl rfl 0 (by decide) (hts _ lkX3_seekFrom_f18) (fun _ h9 => h9) rfl dX3_seekFrom_22 ?_
      refine lv_iload_n hx hb dX3_seekFrom_25 rfl (lv_at hl 1 rfl) ?_
      obtain ⟨v4, ev4, hf⟩ := bd_some hf
      refine gk_V C (As := [.int p2]) (rest := []) (ci := 2) (q := (RX2, TX2, 12)) (q0 := 0) (wr := ((wSeeker t a_sk (a_tr 0) (a_dr 0) s_sk) ++ (wDrive t a_dr s_dr))) (wf := ((wSeeker t a_sk (a_tr 0) (a_dr 0) s_sk) ++ (wRoad t a_tr s_tr) ++ (wDrive t a_dr s_dr))) (cX2_hasParty_ok (l := l) (D := D) (t := t) (κ := κ) (a_rd := a_tr) ev4) gX3_seekFrom_X2_hasParty rfl ⟨rfl, rfl⟩ hdX2_hasParty (rm_le (by omega) (by decide)) rfl rfl hP hD hS [3, 4, 5, 6, 7, 8, 9, 10, 11] [0, 1, 2, 12, 13, 14, 15, 16, 17] [0, 1, 2, 9, 10, 11, 12, 13, 14, 15, 16, 17, 3, 4, 5, 6, 7, 8] rfl rfl rfl rfl (by decide) rfl rfl rfl hl.1 (Nat.le_of_ble_eq_true rfl) dX3_seekFrom_26 (Nat.zero_le _) (Nat.zero_le _) (fun H locs hP hD hS => ?_)
      refine W.eq (g2 := F0 m 29 ls [.int v4]) rfl ?_
      refine lv_if_ne (tgt := 55) hx hb dX3_seekFrom_29 (by decide) (fun c5 => ?_) (fun c5 => ?_)
      · rw [if_neg c5] at hf
        refine lv_iconst (v := 0) hx hb dX3_seekFrom_55 (by decide) ?_
        refine lv_istore_n (lv' := [(3, .int (0 : Int32)), (0, .ref (a_sk 0)), (1, .int p2), (2, .int p3)]) hx hb dX3_seekFrom_56 rfl hl (by decide) rfl (fun ls hl => ?_)
        obtain ⟨x14, ex14, hf⟩ := bd_some hf
        refine wX3_seekFrom_l57 C hrec 5000 (0 : Int32) s_sk s_tr s_dr x14 ex14 (fun c9 h9 H locs ls hP hD hS hl => ?_) _ _ _ hP hD hS (lv_sub hl [1, 2, 3, 0] rfl)
        subst h9
        obtain rfl := so_eq hf
        exact g_vret C hP hD hS dX3_seekFrom_121
      · rw [if_pos c5] at hf
        refine lv_aload_n hx hb dX3_seekFrom_32 rfl (lv_at hl 0 rfl) ?_
        refine lv_iload_n hx hb dX3_seekFrom_33 rfl (lv_at hl 2 rfl) ?_
        obtain ⟨s15, hs15, hf⟩ := nm_ex hf
        refine va_put (D := D) (ci := 3) (v := .int p3) (ty := .int) (C := RX3) (T := TX3) (N := 5) hx hb hts iwX3_seekFrom_X3 tyX3 tyX3_ok nmX3 hown hK hP hD hS 0 rfl rfl 4 (by decide) (hts _ lkX3_seekFrom_f35) (fun _ h9 => h9) rfl (by decide +kernel) rfl rfl (Nat.le_of_ble_eq_true rfl) dX3_seekFrom_34 (fun H locs hP hD hS => ?_)
        have hP : va_P D vwCl ((wSeeker t a_sk (a_tr 0) (a_dr 0) s15) ++ (wRoad t a_tr s_tr) ++ (wDrive t a_dr s_dr)) H := by rw [hs15]; exact hP
        have hD : va_D A ((wSeeker t a_sk (a_tr 0) (a_dr 0) s15) ++ (wRoad t a_tr s_tr) ++ (wDrive t a_dr s_dr)) := by rw [hs15]; exact hD
        refine lv_aload_n hx hb dX3_seekFrom_37 rfl (lv_at hl 0 rfl) ?_
        refine va_get (D := D) (ci := 3) (v := .ref (a_tr 0)) (C := RX3) (T := TX3) (N := 5) hx hb hts iwX3_seekFrom_X3 hown hK hP 0 rfl rfl 0 (by decide) (hts _ lkX3_seekFrom_f18) (fun _ h9 => h9) rfl dX3_seekFrom_38 ?_
        refine va_getN (D := D) (ci := 2) (v := .ref (a_tr 8)) (C := RX2) (T := TX2) (N := 12) hx hb hts iwX3_seekFrom_X2 hown hK hP 3 rfl rfl 7 (by decide) (hC0.2.1.f 21 rfl) (fun _ h9 => h9) rfl dX3_seekFrom_41 ?_
        refine lv_iconst (v := 0) hx hb dX3_seekFrom_44 (by decide) ?_
        refine lv_aload_n hx hb dX3_seekFrom_45 rfl (lv_at hl 0 rfl) ?_
        refine va_get (D := D) (ci := 3) (v := .ref (a_sk 1)) (C := RX3) (T := TX3) (N := 5) hx hb hts iwX3_seekFrom_X3 hown hK hP 0 rfl rfl 2 (by decide) (hts _ lkX3_seekFrom_f9) (fun _ h9 => h9) rfl dX3_seekFrom_46 ?_
        refine lv_iconst (v := 0) hx hb dX3_seekFrom_49 (by decide) ?_
        refine lv_iconst (v := 4) hx hb dX3_seekFrom_50 (by decide) ?_
        obtain ⟨s16, hs16, hf⟩ := nm_ex hf
        refine va_copyi hx hb (hml.trans hl.1.symm) hown (hts _ lkX3_seekFrom_mac68) (hts _ lkX3_seekFrom_nac) (hts _ lkX3_seekFrom_sac) (hts _ lkX3_seekFrom_iac) hK hP hD hS 11 1 0 0 rfl rfl rfl rfl rfl (by decide) (by decide) (by decide) (by decide) (by decide) (fun _ _ => rfl) (by simp only [rmL]; omega) (Nat.le_trans (m := 200) (Nat.le_of_ble_eq_true rfl) (by simp only [rmL]; omega)) dX3_seekFrom_51 (fun H locs hP hD hS => ?_)
        have hP : va_P D vwCl ((wSeeker t a_sk (a_tr 0) (a_dr 0) s16) ++ (wRoad t a_tr s_tr) ++ (wDrive t a_dr s_dr)) H := by rw [hs16]; exact hP
        have hD : va_D A ((wSeeker t a_sk (a_tr 0) (a_dr 0) s16) ++ (wRoad t a_tr s_tr) ++ (wDrive t a_dr s_dr)) := by rw [hs16]; exact hD
        obtain rfl := so_eq hf
        exact g_vret C hP hD hS dX3_seekFrom_54
    · rw [if_neg c3] at hf
      obtain rfl := so_eq hf
      exact g_vret C hP hD hS dX3_seekFrom_20
def fX3_seekFrom_F : Nat → S2 → S2 → S2 → Int32 → Int32 → Option (S2 × S2 × S2)
  | 0 => fun _ _ _ _ _ => none
  | n + 1 => fX3_seekFrom_S (fX3_seekFrom_F n)
theorem cX3_seekFrom_n {l : Launch} {D : va_G} {t : Nat → ClassId} {κ : Nat → Nat} {a_sk a_tr a_dr : Nat → Nat} : ∀ (n : Nat) {u1 u2 u3 : S2} {i1 i2 : Int32} {o : S2 × S2 × S2}, fX3_seekFrom_F n u1 u2 u3 i1 i2 = some o → Ct l D t κ yX3_seekFrom wsX3_seekFrom (rmL (3 + n)) [.ref (a_sk 0), .int i1, .int i2] ((wSeeker t a_sk (a_tr 0) (a_dr 0) u1) ++ (wRoad t a_tr u2) ++ (wDrive t a_dr u3)) none ((wSeeker t a_sk (a_tr 0) (a_dr 0) o.1) ++ (wRoad t a_tr o.2.1) ++ (wDrive t a_dr o.2.2)) := by
  intro n
  induction n with
  | zero => intro u1 u2 u3 i1 i2 o h; cases h
  | succ n ih =>
    intro u1 u2 u3 i1 i2 o h
    have e : 3 + (n + 1) = 4 + n := by omega
    rw [e]
    exact cX3_seekFrom_S_ok (d := n) ih h
theorem cX3_seekFrom_ok {l : Launch} {D : va_G} {t : Nat → ClassId} {κ : Nat → Nat} {a_sk a_tr a_dr : Nat → Nat} {u1 u2 u3 : S2} {i1 i2 : Int32} {o : S2 × S2 × S2} (hf : fX3_seekFrom_F 8 u1 u2 u3 i1 i2 = some o) : Ct l D t κ yX3_seekFrom wsX3_seekFrom (rmL 11) [.ref (a_sk 0), .int i1, .int i2] ((wSeeker t a_sk (a_tr 0) (a_dr 0) u1) ++ (wRoad t a_tr u2) ++ (wDrive t a_dr u3)) none ((wSeeker t a_sk (a_tr 0) (a_dr 0) o.1) ++ (wRoad t a_tr o.2.1) ++ (wDrive t a_dr o.2.2)) := cX3_seekFrom_n 8 hf
/-! CoachCourt$Seeker.seekFor -/
def fX3_seekFor (s_sk : S2) (s_tr : S2) (s_dr : S2) (s_rd : S2) : Option (S2 × S2 × S2) :=
  (fX2_copyFrom s_tr s_rd).bind fun v1 =>
  (fX3_reckonHopes s_sk v1 s_dr).bind fun v2 =>
  nm (sE v2.1 0 0 (-1 : Int32)) fun s3 =>
  (fX0_begin v2.2.2 v2.2.1).bind fun v4 =>
  (fX3_seekFrom_F 8 s3 v2.2.1 v4 (0 : Int32) (0 : Int32)).bind fun v5 =>
  some (v5.1, v5.2.1, v5.2.2)
theorem hdX3_seekFor : yX3_seekFor.cls = RX3 ∧ yX3_seekFor.cls ≠ "java/lang/invoke/MethodHandle" ∧ yX3_seekFor.cls ≠ "java/lang/invoke/VarHandle" ∧ (parseMethodDescriptor yX3_seekFor.desc).map (fun d => d.parameters.length) = some 1 := by decide +kernel
theorem iwX3_seekFor_X3 : ∀ w ∈ wsX30, w ∈ wsX3_seekFor := by decide +kernel
theorem lkX3_seekFor_f18 : Cond.fieldLink RX3 18 "CoachCourt$Seeker" "trial" "LCoachCourt$Road;" ∈ wsX3_seekFor := by decide +kernel
theorem lkX3_seekFor_f35 : Cond.fieldLink RX3 35 "CoachCourt$Seeker" "most" "I" ∈ wsX3_seekFor := by decide +kernel
theorem lkX3_seekFor_f22 : Cond.fieldLink RX3 22 "CoachCourt$Seeker" "drive" "LCoachCourt$Drive;" ∈ wsX3_seekFor := by decide +kernel
set_option maxHeartbeats 4000000 in
set_option maxRecDepth 100000 in
theorem cX3_seekFor_ok {l : Launch} {D : va_G} {t : Nat → ClassId} {κ : Nat → Nat} {a_sk : Nat → Nat} {a_tr : Nat → Nat} {a_dr : Nat → Nat} {a_rd : Nat → Nat} {s_sk : S2} {s_tr : S2} {s_dr : S2} {s_rd : S2} {out : S2 × S2 × S2} (hf : fX3_seekFor s_sk s_tr s_dr s_rd = some out) : Ct l D t κ yX3_seekFor wsX3_seekFor (rmL 12) [.ref (a_sk 0), .ref (a_rd 0)] ((wSeeker t a_sk (a_tr 0) (a_dr 0) s_sk) ++ (wRoad t a_tr s_tr) ++ (wDrive t a_dr s_dr) ++ (wRoad t a_rd s_rd)) none ((wSeeker t a_sk (a_tr 0) (a_dr 0) out.1) ++ (wRoad t a_tr out.2.1) ++ (wDrive t a_dr out.2.2) ++ (wRoad t a_rd s_rd)) := by
  refine Ct.ofW (own := RX3) (cc := cX3_seekFor) (maxL := 2) (ret := none) (by decide) rfl rfl (Nat.le_of_ble_eq_true rfl) ?_
  intro p e s m below meth c A C hP hD ls hl
  have hS : va_S A s.heap s.heap [] := va_S.rf
  obtain ⟨hx, hb, hr, hml, hown, hts, hC0, hlk, hA⟩ := id C
  have hK := hC0.1
  have hl : lv_has ls 2 [(0, .ref (a_sk 0)), (1, .ref (a_rd 0))] := hl
  unfold fX3_seekFor at hf
  refine lv_aload_n hx hb dX3_seekFor_0 rfl (lv_at hl 0 rfl) ?_
  refine va_get (D := D) (ci := 3) (v := .ref (a_tr 0)) (C := RX3) (T := TX3) (N := 5) hx hb hts iwX3_seekFor_X3 hown hK hP 0 rfl rfl 0 (by decide) (hts _ lkX3_seekFor_f18) (fun _ h9 => h9) rfl dX3_seekFor_1 ?_
  refine lv_aload_n hx hb dX3_seekFor_4 rfl (lv_at hl 1 rfl) ?_
  obtain ⟨v1, ev1, hf⟩ := bd_some hf
  refine gk_V C (As := [.ref (a_rd 0)]) (rest := []) (ci := 2) (q := (RX2, TX2, 12)) (q0 := 0) (wr := ((wSeeker t a_sk (a_tr 0) (a_dr 0) s_sk) ++ (wDrive t a_dr s_dr))) (wf := ((wSeeker t a_sk (a_tr 0) (a_dr 0) s_sk) ++ (wRoad t a_tr v1) ++ (wDrive t a_dr s_dr) ++ (wRoad t a_rd s_rd))) (cX2_copyFrom_ok (l := l) (D := D) (t := t) (κ := κ) (a_rd := a_tr) (a_ro := a_rd) ev1) gX3_seekFor_X2_copyFrom rfl ⟨rfl, rfl⟩ hdX2_copyFrom ⟨Nat.le_of_ble_eq_true rfl, Nat.le_of_ble_eq_true rfl⟩ rfl rfl hP hD hS [3, 4, 5, 6, 7, 8, 9, 10, 11, 18, 19, 20, 21, 22, 23, 24, 25, 26] [0, 1, 2, 12, 13, 14, 15, 16, 17] [0, 1, 2, 9, 10, 11, 12, 13, 14, 15, 16, 17, 3, 4, 5, 6, 7, 8, 18, 19, 20, 21, 22, 23, 24, 25, 26] rfl rfl rfl rfl (by decide) rfl rfl rfl hl.1 (Nat.le_of_ble_eq_true rfl) dX3_seekFor_5 (Nat.zero_le _) (Nat.zero_le _) (fun H locs hP hD hS => ?_)
  refine W.eq (g2 := F0 m 8 ls []) rfl ?_
  refine lv_aload_n hx hb dX3_seekFor_8 rfl (lv_at hl 0 rfl) ?_
  obtain ⟨v2, ev2, hf⟩ := bd_some hf
  refine gk_V C (As := []) (rest := []) (ci := 3) (q := (RX3, TX3, 5)) (q0 := 0) (wr := (wRoad t a_rd s_rd)) (wf := ((wSeeker t a_sk (a_tr 0) (a_dr 0) v2.1) ++ (wRoad t a_tr v2.2.1) ++ (wDrive t a_dr v2.2.2) ++ (wRoad t a_rd s_rd))) (cX3_reckonHopes_ok (l := l) (D := D) (t := t) (κ := κ) (a_sk := a_sk) (a_tr := a_tr) (a_dr := a_dr) ev2) gX3_seekFor_X3_reckonHopes rfl ⟨rfl, rfl⟩ hdX3_reckonHopes ⟨Nat.le_of_ble_eq_true rfl, Nat.le_of_ble_eq_true rfl⟩ rfl rfl hP hD hS [0, 1, 2, 3, 4, 5, 6, 7, 8, 9, 10, 11, 12, 13, 14, 15, 16, 17] [18, 19, 20, 21, 22, 23, 24, 25, 26] [9, 10, 11, 12, 13, 14, 15, 16, 17, 18, 19, 20, 21, 22, 23, 24, 25, 26, 0, 1, 2, 3, 4, 5, 6, 7, 8] rfl rfl rfl rfl (by decide) rfl rfl rfl hl.1 (Nat.le_of_ble_eq_true rfl) dX3_seekFor_9 (Nat.zero_le _) (Nat.zero_le _) (fun H locs hP hD hS => ?_)
  refine W.eq (g2 := F0 m 12 ls []) rfl ?_
  refine lv_aload_n hx hb dX3_seekFor_12 rfl (lv_at hl 0 rfl) ?_
  refine lv_iconst (v := -1) hx hb dX3_seekFor_13 (by decide) ?_
  obtain ⟨s3, hs3, hf⟩ := nm_ex hf
  refine va_put (D := D) (ci := 3) (v := .int (-1 : Int32)) (ty := .int) (C := RX3) (T := TX3) (N := 5) hx hb hts iwX3_seekFor_X3 tyX3 tyX3_ok nmX3 hown hK hP hD hS 0 rfl rfl 4 (by decide) (hts _ lkX3_seekFor_f35) (fun _ h9 => h9) rfl (by decide +kernel) rfl rfl (Nat.le_of_ble_eq_true rfl) dX3_seekFor_14 (fun H locs hP hD hS => ?_)
  have hP : va_P D vwCl ((wSeeker t a_sk (a_tr 0) (a_dr 0) s3) ++ (wRoad t a_tr v2.2.1) ++ (wDrive t a_dr v2.2.2) ++ (wRoad t a_rd s_rd)) H := by rw [hs3]; exact hP
  have hD : va_D A ((wSeeker t a_sk (a_tr 0) (a_dr 0) s3) ++ (wRoad t a_tr v2.2.1) ++ (wDrive t a_dr v2.2.2) ++ (wRoad t a_rd s_rd)) := by rw [hs3]; exact hD
  refine lv_aload_n hx hb dX3_seekFor_17 rfl (lv_at hl 0 rfl) ?_
  refine va_get (D := D) (ci := 3) (v := .ref (a_dr 0)) (C := RX3) (T := TX3) (N := 5) hx hb hts iwX3_seekFor_X3 hown hK hP 0 rfl rfl 1 (by decide) (hts _ lkX3_seekFor_f22) (fun _ h9 => h9) rfl dX3_seekFor_18 ?_
  refine lv_aload_n hx hb dX3_seekFor_21 rfl (lv_at hl 0 rfl) ?_
  refine va_get (D := D) (ci := 3) (v := .ref (a_tr 0)) (C := RX3) (T := TX3) (N := 5) hx hb hts iwX3_seekFor_X3 hown hK hP 0 rfl rfl 0 (by decide) (hts _ lkX3_seekFor_f18) (fun _ h9 => h9) rfl dX3_seekFor_22 ?_
  obtain ⟨v4, ev4, hf⟩ := bd_some hf
  refine gk_V C (As := [.ref (a_tr 0)]) (rest := []) (ci := 0) (q := (RX0, TX0, 7)) (q0 := 0) (wr := ((wSeeker t a_sk (a_tr 0) (a_dr 0) s3) ++ (wRoad t a_rd s_rd))) (wf := ((wSeeker t a_sk (a_tr 0) (a_dr 0) s3) ++ (wRoad t a_tr v2.2.1) ++ (wDrive t a_dr v4) ++ (wRoad t a_rd s_rd))) (cX0_begin_ok (l := l) (D := D) (t := t) (κ := κ) (a_dr := a_dr) (a_rd := a_tr) ev4) gX3_seekFor_X0_begin rfl ⟨rfl, rfl⟩ hdX0_begin ⟨Nat.le_of_ble_eq_true rfl, Nat.le_of_ble_eq_true rfl⟩ rfl rfl hP hD hS [12, 13, 14, 15, 16, 17, 3, 4, 5, 6, 7, 8, 9, 10, 11] [0, 1, 2, 18, 19, 20, 21, 22, 23, 24, 25, 26] [0, 1, 2, 18, 19, 20, 21, 22, 23, 24, 25, 26, 12, 13, 14, 15, 16, 17, 3, 4, 5, 6, 7, 8, 9, 10, 11] rfl rfl rfl rfl (by decide) rfl rfl rfl hl.1 (Nat.le_of_ble_eq_true rfl) dX3_seekFor_25 (Nat.zero_le _) (Nat.zero_le _) (fun H locs hP hD hS => ?_)
  refine W.eq (g2 := F0 m 28 ls []) rfl ?_
  refine lv_aload_n hx hb dX3_seekFor_28 rfl (lv_at hl 0 rfl) ?_
  refine lv_iconst (v := 0) hx hb dX3_seekFor_29 (by decide) ?_
  refine lv_iconst (v := 0) hx hb dX3_seekFor_30 (by decide) ?_
  obtain ⟨v5, ev5, hf⟩ := bd_some hf
  refine gk_SW C (As := [.ref (a_sk 0), .int (0 : Int32), .int (0 : Int32)]) (rest := []) (wr := (wRoad t a_rd s_rd)) (wf := ((wSeeker t a_sk (a_tr 0) (a_dr 0) v5.1) ++ (wRoad t a_tr v5.2.1) ++ (wDrive t a_dr v5.2.2) ++ (wRoad t a_rd s_rd))) (cX3_seekFrom_ok (l := l) (D := D) (t := t) (κ := κ) (a_sk := a_sk) (a_tr := a_tr) (a_dr := a_dr) ev5) gX3_seekFor_X3_seekFrom rfl ⟨rfl, rfl⟩ hdX3_seekFrom ⟨Nat.le_of_ble_eq_true rfl, Nat.le_of_ble_eq_true rfl⟩ hP hD hS [0, 1, 2, 3, 4, 5, 6, 7, 8, 9, 10, 11, 12, 13, 14, 15, 16, 17] [18, 19, 20, 21, 22, 23, 24, 25, 26] [9, 10, 11, 12, 13, 14, 15, 16, 17, 18, 19, 20, 21, 22, 23, 24, 25, 26, 0, 1, 2, 3, 4, 5, 6, 7, 8] rfl rfl rfl rfl (by decide) rfl rfl rfl hl.1 (Nat.le_of_ble_eq_true rfl) dX3_seekFor_31 (Nat.zero_le _) (Nat.zero_le _) (fun H locs hP hD hS => ?_)
  refine W.eq (g2 := F0 m 34 ls []) rfl ?_
  obtain rfl := so_eq hf
  exact g_vret C hP hD hS dX3_seekFor_34
