/-! CoachCourt.verdictFrom -/
def fX8_verdictFrom (s_cc : S2) (s_rd : S2) (s_tr : S2) (s_dr : S2) (p1 : Int32) (p2 : Int32) : Option (Int32 × S2 × S2) :=
  (fX2_copyFrom s_tr s_rd).bind fun v1 =>
  gd (ixb p1 4) <|
  nm (sE v1 8 (Int32.toNatClampNeg p1) p2) fun s3 =>
  (fX0_run s_dr s3).bind fun v4 =>
  some (v4 1 (Int32.toNatClampNeg p1), s3, v4)
theorem hdX8_verdictFrom : yX8_verdictFrom.cls = RX8 ∧ yX8_verdictFrom.cls ≠ "java/lang/invoke/MethodHandle" ∧ yX8_verdictFrom.cls ≠ "java/lang/invoke/VarHandle" ∧ (parseMethodDescriptor yX8_verdictFrom.desc).map (fun d => d.parameters.length) = some 2 := by decide +kernel
theorem iwX8_verdictFrom_X8 : ∀ w ∈ wsX80, w ∈ wsX8_verdictFrom := by decide +kernel
theorem lkX8_verdictFrom_f32 : Cond.fieldLink RX8 32 "CoachCourt" "trial" "LCoachCourt$Road;" ∈ wsX8_verdictFrom := by decide +kernel
theorem lkX8_verdictFrom_f28 : Cond.fieldLink RX8 28 "CoachCourt" "road" "LCoachCourt$Road;" ∈ wsX8_verdictFrom := by decide +kernel
theorem iwX8_verdictFrom_X2 : ∀ w ∈ wsX20, w ∈ wsX8_verdictFrom := by decide +kernel
theorem lkX8_verdictFrom_f38 : Cond.fieldLink RX8 38 "CoachCourt" "drive" "LCoachCourt$Drive;" ∈ wsX8_verdictFrom := by decide +kernel
theorem iwX8_verdictFrom_X0 : ∀ w ∈ wsX00, w ∈ wsX8_verdictFrom := by decide +kernel
set_option maxHeartbeats 4000000 in
set_option maxRecDepth 100000 in
theorem cX8_verdictFrom_ok {l : Launch} {D : va_G} {t : Nat → ClassId} {κ : Nat → Nat} {a_cc : Nat → Nat} {y_cc_tape : Nat} {y_cc_teller : Nat} {y_cc_seeker : Nat} {y_cc_seen : Nat} {y_cc_images : Nat} {y_cc_sheets : Nat} {a_rd : Nat → Nat} {a_tr : Nat → Nat} {a_dr : Nat → Nat} {s_cc : S2} {s_rd : S2} {s_tr : S2} {s_dr : S2} {p1 : Int32} {p2 : Int32} {out : Int32 × S2 × S2} (hf : fX8_verdictFrom s_cc s_rd s_tr s_dr p1 p2 = some out) : Ct l D t κ yX8_verdictFrom wsX8_verdictFrom (rmL 4) [.ref (a_cc 0), .int p1, .int p2] ((wCC t a_cc y_cc_tape y_cc_teller (a_rd 0) (a_tr 0) (a_dr 0) y_cc_seeker y_cc_seen y_cc_images y_cc_sheets s_cc) ++ (wRoad t a_rd s_rd) ++ (wRoad t a_tr s_tr) ++ (wDrive t a_dr s_dr)) (some (.int out.1)) ((wCC t a_cc y_cc_tape y_cc_teller (a_rd 0) (a_tr 0) (a_dr 0) y_cc_seeker y_cc_seen y_cc_images y_cc_sheets s_cc) ++ (wRoad t a_rd s_rd) ++ (wRoad t a_tr out.2.1) ++ (wDrive t a_dr out.2.2)) := by
  refine Ct.ofW (own := RX8) (cc := cX8_verdictFrom) (maxL := 3) (ret := (some .int)) (by decide) rfl rfl (Nat.le_of_ble_eq_true rfl) ?_
  intro p e s m below meth c A C hP hD ls hl
  have hS : va_S A s.heap s.heap [] := va_S.rf
  obtain ⟨hx, hb, hr, hml, hown, hts, hC0, hlk, hA⟩ := id C
  have hK := hC0.1
  have hl : lv_has ls 3 [(0, .ref (a_cc 0)), (1, .int p1), (2, .int p2)] := hl
  unfold fX8_verdictFrom at hf
  refine lv_aload_n hx hb dX8_verdictFrom_0 rfl (lv_at hl 0 rfl) ?_
  refine va_get (D := D) (ci := 8) (v := .ref (a_tr 0)) (C := RX8) (T := TX8) (N := 11) hx hb hts iwX8_verdictFrom_X8 hown hK hP 0 rfl rfl 3 (by decide) (hts _ lkX8_verdictFrom_f32) (fun _ h9 => h9) rfl dX8_verdictFrom_1 ?_
  refine lv_aload_n hx hb dX8_verdictFrom_4 rfl (lv_at hl 0 rfl) ?_
  refine va_get (D := D) (ci := 8) (v := .ref (a_rd 0)) (C := RX8) (T := TX8) (N := 11) hx hb hts iwX8_verdictFrom_X8 hown hK hP 0 rfl rfl 2 (by decide) (hts _ lkX8_verdictFrom_f28) (fun _ h9 => h9) rfl dX8_verdictFrom_5 ?_
  obtain ⟨v1, ev1, hf⟩ := bd_some hf
  refine gk_V C (As := [.ref (a_rd 0)]) (rest := []) (ci := 2) (q := (RX2, TX2, 12)) (q0 := 0) (wr := ((wCC t a_cc y_cc_tape y_cc_teller (a_rd 0) (a_tr 0) (a_dr 0) y_cc_seeker y_cc_seen y_cc_images y_cc_sheets s_cc) ++ (wDrive t a_dr s_dr))) (wf := ((wCC t a_cc y_cc_tape y_cc_teller (a_rd 0) (a_tr 0) (a_dr 0) y_cc_seeker y_cc_seen y_cc_images y_cc_sheets s_cc) ++ (wRoad t a_rd s_rd) ++ (wRoad t a_tr v1) ++ (wDrive t a_dr s_dr))) (cX2_copyFrom_ok (l := l) (D := D) (t := t) (κ := κ) (a_rd := a_tr) (a_ro := a_rd) ev1) gX8_verdictFrom_X2_copyFrom rfl ⟨rfl, rfl⟩ hdX2_copyFrom ⟨Nat.le_of_ble_eq_true rfl, Nat.le_of_ble_eq_true rfl⟩ rfl rfl hP hD hS [11, 12, 13, 14, 15, 16, 17, 18, 19, 2, 3, 4, 5, 6, 7, 8, 9, 10] [0, 1, 20, 21, 22, 23, 24, 25] [0, 1, 17, 18, 19, 20, 21, 22, 23, 24, 25, 8, 9, 10, 11, 12, 13, 14, 15, 16, 2, 3, 4, 5, 6, 7] rfl rfl rfl rfl (by decide) rfl rfl rfl hl.1 (Nat.le_of_ble_eq_true rfl) dX8_verdictFrom_8 (Nat.zero_le _) (Nat.zero_le _) (fun H locs hP hD hS => ?_)
  refine W.eq (g2 := F0 m 11 ls []) rfl ?_
  refine lv_aload_n hx hb dX8_verdictFrom_11 rfl (lv_at hl 0 rfl) ?_
  refine va_get (D := D) (ci := 8) (v := .ref (a_tr 0)) (C := RX8) (T := TX8) (N := 11) hx hb hts iwX8_verdictFrom_X8 hown hK hP 0 rfl rfl 3 (by decide) (hts _ lkX8_verdictFrom_f32) (fun _ h9 => h9) rfl dX8_verdictFrom_12 ?_
  refine va_getN (D := D) (ci := 2) (v := .ref (a_tr 8)) (C := RX2) (T := TX2) (N := 12) hx hb hts iwX8_verdictFrom_X2 hown hK hP 11 rfl rfl 7 (by decide) (hC0.2.1.f 22 rfl) (fun _ h9 => h9) rfl dX8_verdictFrom_15 ?_
  refine lv_iload_n hx hb dX8_verdictFrom_18 rfl (lv_at hl 1 rfl) ?_
  refine lv_iload_n hx hb dX8_verdictFrom_19 rfl (lv_at hl 2 rfl) ?_
  obtain ⟨b2, hf⟩ := gd_some hf
  obtain ⟨s3, hs3, hf⟩ := nm_ex hf
  refine va_iast hx hb hK hP hD hS 19 0 rfl rfl (ixb_in b2) dX8_verdictFrom_20 (fun H locs hP hD hS => ?_)
  have hP : va_P D vwCl ((wCC t a_cc y_cc_tape y_cc_teller (a_rd 0) (a_tr 0) (a_dr 0) y_cc_seeker y_cc_seen y_cc_images y_cc_sheets s_cc) ++ (wRoad t a_rd s_rd) ++ (wRoad t a_tr s3) ++ (wDrive t a_dr s_dr)) H := by rw [hs3]; exact hP
  have hD : va_D A ((wCC t a_cc y_cc_tape y_cc_teller (a_rd 0) (a_tr 0) (a_dr 0) y_cc_seeker y_cc_seen y_cc_images y_cc_sheets s_cc) ++ (wRoad t a_rd s_rd) ++ (wRoad t a_tr s3) ++ (wDrive t a_dr s_dr)) := by rw [hs3]; exact hD
  refine lv_aload_n hx hb dX8_verdictFrom_21 rfl (lv_at hl 0 rfl) ?_
  refine va_get (D := D) (ci := 8) (v := .ref (a_dr 0)) (C := RX8) (T := TX8) (N := 11) hx hb hts iwX8_verdictFrom_X8 hown hK hP 0 rfl rfl 4 (by decide) (hts _ lkX8_verdictFrom_f38) (fun _ h9 => h9) rfl dX8_verdictFrom_22 ?_
  refine lv_aload_n hx hb dX8_verdictFrom_25 rfl (lv_at hl 0 rfl) ?_
  refine va_get (D := D) (ci := 8) (v := .ref (a_tr 0)) (C := RX8) (T := TX8) (N := 11) hx hb hts iwX8_verdictFrom_X8 hown hK hP 0 rfl rfl 3 (by decide) (hts _ lkX8_verdictFrom_f32) (fun _ h9 => h9) rfl dX8_verdictFrom_26 ?_
  obtain ⟨v4, ev4, hf⟩ := bd_some hf
  refine gk_V C (As := [.ref (a_tr 0)]) (rest := []) (ci := 0) (q := (RX0, TX0, 7)) (q0 := 0) (wr := ((wCC t a_cc y_cc_tape y_cc_teller (a_rd 0) (a_tr 0) (a_dr 0) y_cc_seeker y_cc_seen y_cc_images y_cc_sheets s_cc) ++ (wRoad t a_rd s_rd))) (wf := ((wCC t a_cc y_cc_tape y_cc_teller (a_rd 0) (a_tr 0) (a_dr 0) y_cc_seeker y_cc_seen y_cc_images y_cc_sheets s_cc) ++ (wRoad t a_rd s_rd) ++ (wRoad t a_tr s3) ++ (wDrive t a_dr v4))) (cX0_run_ok (l := l) (D := D) (t := t) (κ := κ) (a_dr := a_dr) (a_rd := a_tr) ev4) gX8_verdictFrom_X0_run rfl ⟨rfl, rfl⟩ hdX0_run ⟨Nat.le_of_ble_eq_true rfl, Nat.le_of_ble_eq_true rfl⟩ rfl rfl hP hD hS [20, 21, 22, 23, 24, 25, 11, 12, 13, 14, 15, 16, 17, 18, 19] [0, 1, 2, 3, 4, 5, 6, 7, 8, 9, 10] [0, 1, 2, 3, 4, 5, 6, 7, 8, 9, 10, 17, 18, 19, 20, 21, 22, 23, 24, 25, 11, 12, 13, 14, 15, 16] rfl rfl rfl rfl (by decide) rfl rfl rfl hl.1 (Nat.le_of_ble_eq_true rfl) dX8_verdictFrom_29 (Nat.zero_le _) (Nat.zero_le _) (fun H locs hP hD hS => ?_)
  refine W.eq (g2 := F0 m 32 ls []) rfl ?_
  refine lv_aload_n hx hb dX8_verdictFrom_32 rfl (lv_at hl 0 rfl) ?_
  refine va_get (D := D) (ci := 8) (v := .ref (a_dr 0)) (C := RX8) (T := TX8) (N := 11) hx hb hts iwX8_verdictFrom_X8 hown hK hP 0 rfl rfl 4 (by decide) (hts _ lkX8_verdictFrom_f38) (fun _ h9 => h9) rfl dX8_verdictFrom_33 ?_
  refine va_getN (D := D) (ci := 0) (v := .ref (a_dr 1)) (C := RX0) (T := TX0) (N := 7) hx hb hts iwX8_verdictFrom_X0 hown hK hP 20 rfl rfl 0 (by decide) (hC0.2.1.f 35 rfl) (fun _ h9 => h9) rfl dX8_verdictFrom_36 ?_
  refine lv_iload_n hx hb dX8_verdictFrom_39 rfl (lv_at hl 1 rfl) ?_
  refine va_iald hx hb hK hP 21 0 rfl rfl (ixb_in b2) dX8_verdictFrom_40 ?_
  obtain rfl := so_eq hf
  exact g_iret C hP hD hS dX8_verdictFrom_41
/-! CoachCourt.soonestStone -/
def fX8_soonestStone_b9 (s_cc : S2) (s_rd : S2) (s_tr : S2) (s_dr : S2) (x1 : Int32) (x2 : Int32) (x3 : Int32) (x4 : Int32) : Option ((Int32 × Int32 × Int32 × S2 × S2) ⊕ (Int32 × Int32 × Int32 × S2 × S2)) :=
  if (s_rd 0 0) ≤ x4 then
    (some (.inr (x2, x3, x4, s_tr, s_dr)))
  else
    ((fX8_verdictFrom s_cc s_rd s_tr s_dr x1 x4).bind fun v2 =>
    nm v2.1 fun y3 =>
    if y3 = (-4 : Int32) then
      (nm (x4 + (1 : Int32)) fun y5 =>
      some (.inl (x2, x3, y5, v2.2.1, v2.2.2)))
    else
      (if x2 < y3 then
        (nm (x4 + (1 : Int32)) fun y7 =>
        some (.inl (x2, x3, y7, v2.2.1, v2.2.2)))
      else
        (nm (x4 + (1 : Int32)) fun y8 =>
        some (.inl (y3, x4, y8, v2.2.1, v2.2.2)))))
def fX8_soonestStone (s_cc : S2) (s_rd : S2) (s_tr : S2) (s_dr : S2) (p1 : Int32) : Option (Int32 × S2 × S2) :=
  (wh (fun (c : Int32 × Int32 × Int32 × S2 × S2) => fX8_soonestStone_b9 s_cc s_rd c.2.2.2.1 c.2.2.2.2 p1 c.1 c.2.1 c.2.2.1) 5000 ((8 : Int32), (-4 : Int32), (0 : Int32), s_tr, s_dr)).bind fun x9 =>
  some (x9.2.1, x9.2.2.2.1, x9.2.2.2.2)
theorem hdX8_soonestStone : yX8_soonestStone.cls = RX8 ∧ yX8_soonestStone.cls ≠ "java/lang/invoke/MethodHandle" ∧ yX8_soonestStone.cls ≠ "java/lang/invoke/VarHandle" ∧ (parseMethodDescriptor yX8_soonestStone.desc).map (fun d => d.parameters.length) = some 1 := by decide +kernel
theorem iwX8_soonestStone_X8 : ∀ w ∈ wsX80, w ∈ wsX8_soonestStone := by decide +kernel
theorem lkX8_soonestStone_f28 : Cond.fieldLink RX8 28 "CoachCourt" "road" "LCoachCourt$Road;" ∈ wsX8_soonestStone := by decide +kernel
theorem iwX8_soonestStone_X2 : ∀ w ∈ wsX20, w ∈ wsX8_soonestStone := by decide +kernel
set_option maxHeartbeats 4000000 in
set_option maxRecDepth 100000 in
theorem wX8_soonestStone_l9 {p : Program} {l : Launch} {e : Env} {s : State} {m : MethodId} {args : Array Value} {below : List Frame} {meth : Method} {c : Code} {D : va_G} {t : Nat → ClassId} {κ : Nat → Nat} {A : Nat → Prop} {a_cc : Nat → Nat} {y_cc_tape : Nat} {y_cc_teller : Nat} {y_cc_seeker : Nat} {y_cc_seen : Nat} {y_cc_images : Nat} {y_cc_sheets : Nat} {a_rd : Nat → Nat} {a_tr : Nat → Nat} {a_dr : Nat → Nat} {s_cc : S2} {s_rd : S2} {x1 : Int32} {rv : Option Value} {w1 : va_W} (C : Cxt p s m args meth c cX8_soonestStone 6 RX8 wsX8_soonestStone (some .int) D t κ A) : ∀ (n : Nat) (x2 : Int32) (x3 : Int32) (x4 : Int32) (s_tr : S2) (s_dr : S2) (x : Int32 × Int32 × Int32 × S2 × S2), wh (fun (c : Int32 × Int32 × Int32 × S2 × S2) => fX8_soonestStone_b9 s_cc s_rd c.2.2.2.1 c.2.2.2.2 x1 c.1 c.2.1 c.2.2.1) n (x2, x3, x4, s_tr, s_dr) = some x → (∀ (z : Int32 × Int32 × Int32 × S2 × S2), x = z → ∀ (H : Heap) (locs : List Loc) (ls : Array Slot), va_P D vwCl ((wCC t a_cc y_cc_tape y_cc_teller (a_rd 0) (a_tr 0) (a_dr 0) y_cc_seeker y_cc_seen y_cc_images y_cc_sheets s_cc) ++ (wRoad t a_rd s_rd) ++ (wRoad t a_tr z.2.2.2.1) ++ (wDrive t a_dr z.2.2.2.2)) H → va_D A ((wCC t a_cc y_cc_tape y_cc_teller (a_rd 0) (a_tr 0) (a_dr 0) y_cc_seeker y_cc_seen y_cc_images y_cc_sheets s_cc) ++ (wRoad t a_rd s_rd) ++ (wRoad t a_tr z.2.2.2.1) ++ (wDrive t a_dr z.2.2.2.2)) → va_S A s.heap H locs → lv_has ls 6 [(3, .int z.2.1)] → W p l e (rmL 5) s m args below meth c H locs 0 0 (MQ below (gQ D rv w1 A) args s 0 0 A) (F0 m 55 ls [])) → ∀ (H : Heap) (locs : List Loc) (ls : Array Slot), va_P D vwCl ((wCC t a_cc y_cc_tape y_cc_teller (a_rd 0) (a_tr 0) (a_dr 0) y_cc_seeker y_cc_seen y_cc_images y_cc_sheets s_cc) ++ (wRoad t a_rd s_rd) ++ (wRoad t a_tr s_tr) ++ (wDrive t a_dr s_dr)) H → va_D A ((wCC t a_cc y_cc_tape y_cc_teller (a_rd 0) (a_tr 0) (a_dr 0) y_cc_seeker y_cc_seen y_cc_images y_cc_sheets s_cc) ++ (wRoad t a_rd s_rd) ++ (wRoad t a_tr s_tr) ++ (wDrive t a_dr s_dr)) → va_S A s.heap H locs → lv_has ls 6 [(0, .ref (a_cc 0)), (1, .int x1), (2, .int x2), (3, .int x3), (4, .int x4)] → W p l e (rmL 5) s m args below meth c H locs 0 0 (MQ below (gQ D rv w1 A) args s 0 0 A) (F0 m 9 ls []) := by
  obtain ⟨hx, hb, hr, hml, hown, hts, hC0, hlk, hA⟩ := id C
  have hK := hC0.1
  intro n
  induction n with
  | zero =>
    intro x2 x3 x4 s_tr s_dr x h
    exact (wh_0 h).elim
  | succ n ih =>
    intro x2 x3 x4 s_tr s_dr x h HX H locs ls hP hD hS hl
    obtain ⟨v, hf, hB, hX⟩ := wh_step h
    have hf : fX8_soonestStone_b9 s_cc s_rd s_tr s_dr x1 x2 x3 x4 = some v := hf
    have HB : ∀ (z : Int32 × Int32 × Int32 × S2 × S2), v = .inl z → ∀ (H : Heap) (locs : List Loc) (ls : Array Slot), va_P D vwCl ((wCC t a_cc y_cc_tape y_cc_teller (a_rd 0) (a_tr 0) (a_dr 0) y_cc_seeker y_cc_seen y_cc_images y_cc_sheets s_cc) ++ (wRoad t a_rd s_rd) ++ (wRoad t a_tr z.2.2.2.1) ++ (wDrive t a_dr z.2.2.2.2)) H → va_D A ((wCC t a_cc y_cc_tape y_cc_teller (a_rd 0) (a_tr 0) (a_dr 0) y_cc_seeker y_cc_seen y_cc_images y_cc_sheets s_cc) ++ (wRoad t a_rd s_rd) ++ (wRoad t a_tr z.2.2.2.1) ++ (wDrive t a_dr z.2.2.2.2)) → va_S A s.heap H locs → lv_has ls 6 [(0, .ref (a_cc 0)), (1, .int x1), (2, .int z.1), (3, .int z.2.1), (4, .int z.2.2.1)] → W p l e (rmL 5) s m args below meth c H locs 0 0 (MQ below (gQ D rv w1 A) args s 0 0 A) (F0 m 9 ls []) := fun z hz H locs ls hP hD hS hl => ih z.1 z.2.1 z.2.2.1 z.2.2.2.1 z.2.2.2.2 x (hB z hz) HX H locs ls hP hD hS hl
    have HX : ∀ (z : Int32 × Int32 × Int32 × S2 × S2), v = .inr z → ∀ (H : Heap) (locs : List Loc) (ls : Array Slot), va_P D vwCl ((wCC t a_cc y_cc_tape y_cc_teller (a_rd 0) (a_tr 0) (a_dr 0) y_cc_seeker y_cc_seen y_cc_images y_cc_sheets s_cc) ++ (wRoad t a_rd s_rd) ++ (wRoad t a_tr z.2.2.2.1) ++ (wDrive t a_dr z.2.2.2.2)) H → va_D A ((wCC t a_cc y_cc_tape y_cc_teller (a_rd 0) (a_tr 0) (a_dr 0) y_cc_seeker y_cc_seen y_cc_images y_cc_sheets s_cc) ++ (wRoad t a_rd s_rd) ++ (wRoad t a_tr z.2.2.2.1) ++ (wDrive t a_dr z.2.2.2.2)) → va_S A s.heap H locs → lv_has ls 6 [(3, .int z.2.1)] → W p l e (rmL 5) s m args below meth c H locs 0 0 (MQ below (gQ D rv w1 A) args s 0 0 A) (F0 m 55 ls []) := fun z hz => HX z (hX _ hz).symm
    unfold fX8_soonestStone_b9 at hf
    refine lv_iload hx hb dX8_soonestStone_9 (lv_at hl 4 rfl) ?_
    refine lv_aload_n hx hb dX8_soonestStone_11 rfl (lv_at hl 0 rfl) ?_
    refine va_get (D := D) (ci := 8) (v := .ref (a_rd 0)) (C := RX8) (T := TX8) (N := 11) hx hb hts iwX8_soonestStone_X8 hown hK hP 0 rfl rfl 2 (by decide) (hts _ lkX8_soonestStone_f28) (fun _ h9 => h9) rfl dX8_soonestStone_12 ?_
    refine va_getN (D := D) (ci := 2) (v := .int (s_rd 0 0)) (C := RX2) (T := TX2) (N := 12) hx hb hts iwX8_soonestStone_X2 hown hK hP 2 rfl rfl 8 (by decide) (hC0.2.1.f 24 rfl) (fun _ h9 => h9) rfl dX8_soonestStone_15 ?_
    refine lv_icmp_ge (tgt := 55) hx hb dX8_soonestStone_18 (by decide) (fun c1 => ?_) (fun c1 => ?_)
    · rw [if_pos c1] at hf
      obtain rfl := so_eq hf
      exact HX _ rfl _ _ _ hP hD hS (lv_sub hl [3] rfl)
    · rw [if_neg c1] at hf
      refine lv_aload_n hx hb dX8_soonestStone_21 rfl (lv_at hl 0 rfl) ?_
      refine lv_iload_n hx hb dX8_soonestStone_22 rfl (lv_at hl 1 rfl) ?_
      refine lv_iload hx hb dX8_soonestStone_23 (lv_at hl 4 rfl) ?_
      obtain ⟨v2, ev2, hf⟩ := bd_some hf
      refine gk_V0 C (As := [.int x1, .int x4]) (rest := []) (ci := 8) (q := (RX8, TX8, 11)) (q0 := 0) (cX8_verdictFrom_ok (l := l) (D := D) (t := t) (κ := κ) (a_cc := a_cc) (a_rd := a_rd) (a_tr := a_tr) (a_dr := a_dr) (y_cc_tape := y_cc_tape) (y_cc_teller := y_cc_teller) (y_cc_seeker := y_cc_seeker) (y_cc_seen := y_cc_seen) (y_cc_images := y_cc_images) (y_cc_sheets := y_cc_sheets) ev2) gX8_soonestStone_X8_verdictFrom rfl ⟨rfl, rfl⟩ hdX8_verdictFrom ⟨Nat.le_of_ble_eq_true rfl, Nat.le_of_ble_eq_true rfl⟩ rfl rfl hP hD hS rfl hl.1 (Nat.le_of_ble_eq_true rfl) dX8_soonestStone_25 (Nat.zero_le _) (Nat.zero_le _) (fun H locs hP hD hS => ?_)
      refine W.eq (g2 := F0 m 28 ls [.int v2.1]) rfl ?_
      obtain ⟨y3, hy3, hf⟩ := nm_ex hf
      refine W.eq (g2 := F0 m 28 ls [.int y3]) (by rw [hy3]) ?_
      refine lv_istore (lv' := [(5, .int y3), (0, .ref (a_cc 0)), (1, .int x1), (2, .int x2), (3, .int x3), (4, .int x4)]) hx hb dX8_soonestStone_28 hl (by decide) rfl (fun ls hl => ?_)
      refine lv_iload hx hb dX8_soonestStone_30 (lv_at hl 0 rfl) ?_
      refine lv_bipush (v := -4) hx hb dX8_soonestStone_32 (by decide) ?_
      refine lv_icmp_eq (tgt := 49) hx hb dX8_soonestStone_34 (by decide) (fun c4 => ?_) (fun c4 => ?_)
      · rw [if_pos c4] at hf
        obtain ⟨y5, hy5, hf⟩ := nm_ex hf
        refine lv_iinc (v := y5) (lv' := [(4, .int y5), (5, .int y3), (0, .ref (a_cc 0)), (1, .int x1), (2, .int x2), (3, .int x3)]) hx hb dX8_soonestStone_49 hl (k := 5) rfl (by rw [hy5]; rfl) (by decide) rfl (fun ls hl => ?_)
        refine lv_goto (tgt := 9) hx hb dX8_soonestStone_52 (by decide) ?_
        obtain rfl := so_eq hf
        exact HB _ rfl _ _ _ hP hD hS (lv_sub hl [2, 3, 4, 5, 0] rfl)
      · rw [if_neg c4] at hf
        refine lv_iload hx hb dX8_soonestStone_37 (lv_at hl 0 rfl) ?_
        refine lv_iload_n hx hb dX8_soonestStone_39 rfl (lv_at hl 3 rfl) ?_
        refine lv_icmp_gt (tgt := 49) hx hb dX8_soonestStone_40 (by decide) (fun c6 => ?_) (fun c6 => ?_)
        · rw [if_pos c6] at hf
          obtain ⟨y7, hy7, hf⟩ := nm_ex hf
          refine lv_iinc (v := y7) (lv' := [(4, .int y7), (5, .int y3), (0, .ref (a_cc 0)), (1, .int x1), (2, .int x2), (3, .int x3)]) hx hb dX8_soonestStone_49 hl (k := 5) rfl (by rw [hy7]; rfl) (by decide) rfl (fun ls hl => ?_)
          refine lv_goto (tgt := 9) hx hb dX8_soonestStone_52 (by decide) ?_
          obtain rfl := so_eq hf
          exact HB _ rfl _ _ _ hP hD hS (lv_sub hl [2, 3, 4, 5, 0] rfl)
        · rw [if_neg c6] at hf
          refine lv_iload hx hb dX8_soonestStone_43 (lv_at hl 0 rfl) ?_
          refine lv_istore_n (lv' := [(2, .int y3), (5, .int y3), (0, .ref (a_cc 0)), (1, .int x1), (3, .int x3), (4, .int x4)]) hx hb dX8_soonestStone_45 rfl hl (by decide) rfl (fun ls hl => ?_)
          refine lv_iload hx hb dX8_soonestStone_46 (lv_at hl 5 rfl) ?_
          refine lv_istore_n (lv' := [(3, .int x4), (2, .int y3), (5, .int y3), (0, .ref (a_cc 0)), (1, .int x1), (4, .int x4)]) hx hb dX8_soonestStone_48 rfl hl (by decide) rfl (fun ls hl => ?_)
          obtain ⟨y8, hy8, hf⟩ := nm_ex hf
          refine lv_iinc (v := y8) (lv' := [(4, .int y8), (3, .int x4), (2, .int y3), (5, .int y3), (0, .ref (a_cc 0)), (1, .int x1)]) hx hb dX8_soonestStone_49 hl (k := 5) rfl (by rw [hy8]; rfl) (by decide) rfl (fun ls hl => ?_)
          refine lv_goto (tgt := 9) hx hb dX8_soonestStone_52 (by decide) ?_
          obtain rfl := so_eq hf
          exact HB _ rfl _ _ _ hP hD hS (lv_sub hl [4, 5, 2, 1, 0] rfl)
set_option maxHeartbeats 4000000 in
set_option maxRecDepth 100000 in
theorem cX8_soonestStone_ok {l : Launch} {D : va_G} {t : Nat → ClassId} {κ : Nat → Nat} {a_cc : Nat → Nat} {y_cc_tape : Nat} {y_cc_teller : Nat} {y_cc_seeker : Nat} {y_cc_seen : Nat} {y_cc_images : Nat} {y_cc_sheets : Nat} {a_rd : Nat → Nat} {a_tr : Nat → Nat} {a_dr : Nat → Nat} {s_cc : S2} {s_rd : S2} {s_tr : S2} {s_dr : S2} {p1 : Int32} {out : Int32 × S2 × S2} (hf : fX8_soonestStone s_cc s_rd s_tr s_dr p1 = some out) : Ct l D t κ yX8_soonestStone wsX8_soonestStone (rmL 5) [.ref (a_cc 0), .int p1] ((wCC t a_cc y_cc_tape y_cc_teller (a_rd 0) (a_tr 0) (a_dr 0) y_cc_seeker y_cc_seen y_cc_images y_cc_sheets s_cc) ++ (wRoad t a_rd s_rd) ++ (wRoad t a_tr s_tr) ++ (wDrive t a_dr s_dr)) (some (.int out.1)) ((wCC t a_cc y_cc_tape y_cc_teller (a_rd 0) (a_tr 0) (a_dr 0) y_cc_seeker y_cc_seen y_cc_images y_cc_sheets s_cc) ++ (wRoad t a_rd s_rd) ++ (wRoad t a_tr out.2.1) ++ (wDrive t a_dr out.2.2)) := by
  refine Ct.ofW (own := RX8) (cc := cX8_soonestStone) (maxL := 6) (ret := (some .int)) (by decide) rfl rfl (Nat.le_of_ble_eq_true rfl) ?_
  intro p e s m below meth c A C hP hD ls hl
  have hS : va_S A s.heap s.heap [] := va_S.rf
  obtain ⟨hx, hb, hr, hml, hown, hts, hC0, hlk, hA⟩ := id C
  have hK := hC0.1
  have hl : lv_has ls 6 [(0, .ref (a_cc 0)), (1, .int p1)] := hl
  unfold fX8_soonestStone at hf
  refine lv_bipush (v := 8) hx hb dX8_soonestStone_0 (by decide) ?_
  refine lv_istore_n (lv' := [(2, .int (8 : Int32)), (0, .ref (a_cc 0)), (1, .int p1)]) hx hb dX8_soonestStone_2 rfl hl (by decide) rfl (fun ls hl => ?_)
  refine lv_bipush (v := -4) hx hb dX8_soonestStone_3 (by decide) ?_
  refine lv_istore_n (lv' := [(3, .int (-4 : Int32)), (2, .int (8 : Int32)), (0, .ref (a_cc 0)), (1, .int p1)]) hx hb dX8_soonestStone_5 rfl hl (by decide) rfl (fun ls hl => ?_)
  refine lv_iconst (v := 0) hx hb dX8_soonestStone_6 (by decide) ?_
  refine lv_istore (lv' := [(4, .int (0 : Int32)), (3, .int (-4 : Int32)), (2, .int (8 : Int32)), (0, .ref (a_cc 0)), (1, .int p1)]) hx hb dX8_soonestStone_7 hl (by decide) rfl (fun ls hl => ?_)
  obtain ⟨x9, ex9, hf⟩ := bd_some hf
  refine wX8_soonestStone_l9 C 5000 (8 : Int32) (-4 : Int32) (0 : Int32) s_tr s_dr x9 ex9 (fun c9 h9 H locs ls hP hD hS hl => ?_) _ _ _ hP hD hS (lv_sub hl [3, 4, 2, 1, 0] rfl)
  subst h9
  refine lv_iload_n hx hb dX8_soonestStone_55 rfl (lv_at hl 0 rfl) ?_
  obtain rfl := so_eq hf
  exact g_iret C hP hD hS dX8_soonestStone_56
/-! CoachCourt.verdictsUnder -/
def fX8_verdictsUnder (s_cc : S2) (s_rd : S2) (s_tr : S2) (s_dr : S2) (p1 : Int32) (p2 : Int32) : Option (Int32 × S2 × S2) :=
  (fX2_copyFrom s_tr s_rd).bind fun v1 =>
  nm (sE v1 0 2 p1) fun s2 =>
  nm (sE s2 0 3 p2) fun s3 =>
  (fX0_run s_dr s3).bind fun v4 =>
  (fX0_verdicts v4).bind fun v5 =>
  some (v5, s3, v4)
theorem hdX8_verdictsUnder : yX8_verdictsUnder.cls = RX8 ∧ yX8_verdictsUnder.cls ≠ "java/lang/invoke/MethodHandle" ∧ yX8_verdictsUnder.cls ≠ "java/lang/invoke/VarHandle" ∧ (parseMethodDescriptor yX8_verdictsUnder.desc).map (fun d => d.parameters.length) = some 2 := by decide +kernel
theorem iwX8_verdictsUnder_X8 : ∀ w ∈ wsX80, w ∈ wsX8_verdictsUnder := by decide +kernel
theorem lkX8_verdictsUnder_f32 : Cond.fieldLink RX8 32 "CoachCourt" "trial" "LCoachCourt$Road;" ∈ wsX8_verdictsUnder := by decide +kernel
theorem lkX8_verdictsUnder_f28 : Cond.fieldLink RX8 28 "CoachCourt" "road" "LCoachCourt$Road;" ∈ wsX8_verdictsUnder := by decide +kernel
theorem iwX8_verdictsUnder_X2 : ∀ w ∈ wsX20, w ∈ wsX8_verdictsUnder := by decide +kernel
theorem lkX8_verdictsUnder_f38 : Cond.fieldLink RX8 38 "CoachCourt" "drive" "LCoachCourt$Drive;" ∈ wsX8_verdictsUnder := by decide +kernel
set_option maxHeartbeats 4000000 in
set_option maxRecDepth 100000 in
theorem cX8_verdictsUnder_ok {l : Launch} {D : va_G} {t : Nat → ClassId} {κ : Nat → Nat} {a_cc : Nat → Nat} {y_cc_tape : Nat} {y_cc_teller : Nat} {y_cc_seeker : Nat} {y_cc_seen : Nat} {y_cc_images : Nat} {y_cc_sheets : Nat} {a_rd : Nat → Nat} {a_tr : Nat → Nat} {a_dr : Nat → Nat} {s_cc : S2} {s_rd : S2} {s_tr : S2} {s_dr : S2} {p1 : Int32} {p2 : Int32} {out : Int32 × S2 × S2} (hf : fX8_verdictsUnder s_cc s_rd s_tr s_dr p1 p2 = some out) : Ct l D t κ yX8_verdictsUnder wsX8_verdictsUnder (rmL 4) [.ref (a_cc 0), .int p1, .int p2] ((wCC t a_cc y_cc_tape y_cc_teller (a_rd 0) (a_tr 0) (a_dr 0) y_cc_seeker y_cc_seen y_cc_images y_cc_sheets s_cc) ++ (wRoad t a_rd s_rd) ++ (wRoad t a_tr s_tr) ++ (wDrive t a_dr s_dr)) (some (.int out.1)) ((wCC t a_cc y_cc_tape y_cc_teller (a_rd 0) (a_tr 0) (a_dr 0) y_cc_seeker y_cc_seen y_cc_images y_cc_sheets s_cc) ++ (wRoad t a_rd s_rd) ++ (wRoad t a_tr out.2.1) ++ (wDrive t a_dr out.2.2)) := by
  refine Ct.ofW (own := RX8) (cc := cX8_verdictsUnder) (maxL := 3) (ret := (some .int)) (by decide) rfl rfl (Nat.le_of_ble_eq_true rfl) ?_
  intro p e s m below meth c A C hP hD ls hl
  have hS : va_S A s.heap s.heap [] := va_S.rf
  obtain ⟨hx, hb, hr, hml, hown, hts, hC0, hlk, hA⟩ := id C
  have hK := hC0.1
  have hl : lv_has ls 3 [(0, .ref (a_cc 0)), (1, .int p1), (2, .int p2)] := hl
  unfold fX8_verdictsUnder at hf
  refine lv_aload_n hx hb dX8_verdictsUnder_0 rfl (lv_at hl 0 rfl) ?_
  refine va_get (D := D) (ci := 8) (v := .ref (a_tr 0)) (C := RX8) (T := TX8) (N := 11) hx hb hts iwX8_verdictsUnder_X8 hown hK hP 0 rfl rfl 3 (by decide) (hts _ lkX8_verdictsUnder_f32) (fun _ h9 => h9) rfl dX8_verdictsUnder_1 ?_
  refine lv_aload_n hx hb dX8_verdictsUnder_4 rfl (lv_at hl 0 rfl) ?_
  refine va_get (D := D) (ci := 8) (v := .ref (a_rd 0)) (C := RX8) (T := TX8) (N := 11) hx hb hts iwX8_verdictsUnder_X8 hown hK hP 0 rfl rfl 2 (by decide) (hts _ lkX8_verdictsUnder_f28) (fun _ h9 => h9) rfl dX8_verdictsUnder_5 ?_
  obtain ⟨v1, ev1, hf⟩ := bd_some hf
  refine gk_V C (As := [.ref (a_rd 0)]) (rest := []) (ci := 2) (q := (RX2, TX2, 12)) (q0 := 0) (wr := ((wCC t a_cc y_cc_tape y_cc_teller (a_rd 0) (a_tr 0) (a_dr 0) y_cc_seeker y_cc_seen y_cc_images y_cc_sheets s_cc) ++ (wDrive t a_dr s_dr))) (wf := ((wCC t a_cc y_cc_tape y_cc_teller (a_rd 0) (a_tr 0) (a_dr 0) y_cc_seeker y_cc_seen y_cc_images y_cc_sheets s_cc) ++ (wRoad t a_rd s_rd) ++ (wRoad t a_tr v1) ++ (wDrive t a_dr s_dr))) (cX2_copyFrom_ok (l := l) (D := D) (t := t) (κ := κ) (a_rd := a_tr) (a_ro := a_rd) ev1) gX8_verdictsUnder_X2_copyFrom rfl ⟨rfl, rfl⟩ hdX2_copyFrom ⟨Nat.le_of_ble_eq_true rfl, Nat.le_of_ble_eq_true rfl⟩ rfl rfl hP hD hS [11, 12, 13, 14, 15, 16, 17, 18, 19, 2, 3, 4, 5, 6, 7, 8, 9, 10] [0, 1, 20, 21, 22, 23, 24, 25] [0, 1, 17, 18, 19, 20, 21, 22, 23, 24, 25, 8, 9, 10, 11, 12, 13, 14, 15, 16, 2, 3, 4, 5, 6, 7] rfl rfl rfl rfl (by decide) rfl rfl rfl hl.1 (Nat.le_of_ble_eq_true rfl) dX8_verdictsUnder_8 (Nat.zero_le _) (Nat.zero_le _) (fun H locs hP hD hS => ?_)
  refine W.eq (g2 := F0 m 11 ls []) rfl ?_
  refine lv_aload_n hx hb dX8_verdictsUnder_11 rfl (lv_at hl 0 rfl) ?_
  refine va_get (D := D) (ci := 8) (v := .ref (a_tr 0)) (C := RX8) (T := TX8) (N := 11) hx hb hts iwX8_verdictsUnder_X8 hown hK hP 0 rfl rfl 3 (by decide) (hts _ lkX8_verdictsUnder_f32) (fun _ h9 => h9) rfl dX8_verdictsUnder_12 ?_
  refine lv_iload_n hx hb dX8_verdictsUnder_15 rfl (lv_at hl 1 rfl) ?_
  obtain ⟨s2, hs2, hf⟩ := nm_ex hf
  refine va_putN (D := D) (ci := 2) (v := .int p1) (ty := .int) (C := RX2) (T := TX2) (N := 12) hx hb hts iwX8_verdictsUnder_X2 tyX2 tyX2_ok nmX2 hown hK hP hD hS 11 rfl rfl 10 (by decide) (hC0.2.1.f 30 rfl) (fun _ h9 => h9) rfl (by decide +kernel) rfl rfl (Nat.le_of_ble_eq_true rfl) dX8_verdictsUnder_16 (fun H locs hP hD hS => ?_)
  have hP : va_P D vwCl ((wCC t a_cc y_cc_tape y_cc_teller (a_rd 0) (a_tr 0) (a_dr 0) y_cc_seeker y_cc_seen y_cc_images y_cc_sheets s_cc) ++ (wRoad t a_rd s_rd) ++ (wRoad t a_tr s2) ++ (wDrive t a_dr s_dr)) H := by rw [hs2]; exact hP
  have hD : va_D A ((wCC t a_cc y_cc_tape y_cc_teller (a_rd 0) (a_tr 0) (a_dr 0) y_cc_seeker y_cc_seen y_cc_images y_cc_sheets s_cc) ++ (wRoad t a_rd s_rd) ++ (wRoad t a_tr s2) ++ (wDrive t a_dr s_dr)) := by rw [hs2]; exact hD
  refine lv_aload_n hx hb dX8_verdictsUnder_19 rfl (lv_at hl 0 rfl) ?_
  refine va_get (D := D) (ci := 8) (v := .ref (a_tr 0)) (C := RX8) (T := TX8) (N := 11) hx hb hts iwX8_verdictsUnder_X8 hown hK hP 0 rfl rfl 3 (by decide) (hts _ lkX8_verdictsUnder_f32) (fun _ h9 => h9) rfl dX8_verdictsUnder_20 ?_
  refine lv_iload_n hx hb dX8_verdictsUnder_23 rfl (lv_at hl 2 rfl) ?_
  obtain ⟨s3, hs3, hf⟩ := nm_ex hf
  refine va_putN (D := D) (ci := 2) (v := .int p2) (ty := .int) (C := RX2) (T := TX2) (N := 12) hx hb hts iwX8_verdictsUnder_X2 tyX2 tyX2_ok nmX2 hown hK hP hD hS 11 rfl rfl 11 (by decide) (hC0.2.1.f 32 rfl) (fun _ h9 => h9) rfl (by decide +kernel) rfl rfl (Nat.le_of_ble_eq_true rfl) dX8_verdictsUnder_24 (fun H locs hP hD hS => ?_)
  have hP : va_P D vwCl ((wCC t a_cc y_cc_tape y_cc_teller (a_rd 0) (a_tr 0) (a_dr 0) y_cc_seeker y_cc_seen y_cc_images y_cc_sheets s_cc) ++ (wRoad t a_rd s_rd) ++ (wRoad t a_tr s3) ++ (wDrive t a_dr s_dr)) H := by rw [hs3]; exact hP
  have hD : va_D A ((wCC t a_cc y_cc_tape y_cc_teller (a_rd 0) (a_tr 0) (a_dr 0) y_cc_seeker y_cc_seen y_cc_images y_cc_sheets s_cc) ++ (wRoad t a_rd s_rd) ++ (wRoad t a_tr s3) ++ (wDrive t a_dr s_dr)) := by rw [hs3]; exact hD
  refine lv_aload_n hx hb dX8_verdictsUnder_27 rfl (lv_at hl 0 rfl) ?_
  refine va_get (D := D) (ci := 8) (v := .ref (a_dr 0)) (C := RX8) (T := TX8) (N := 11) hx hb hts iwX8_verdictsUnder_X8 hown hK hP 0 rfl rfl 4 (by decide) (hts _ lkX8_verdictsUnder_f38) (fun _ h9 => h9) rfl dX8_verdictsUnder_28 ?_
  refine lv_aload_n hx hb dX8_verdictsUnder_31 rfl (lv_at hl 0 rfl) ?_
  refine va_get (D := D) (ci := 8) (v := .ref (a_tr 0)) (C := RX8) (T := TX8) (N := 11) hx hb hts iwX8_verdictsUnder_X8 hown hK hP 0 rfl rfl 3 (by decide) (hts _ lkX8_verdictsUnder_f32) (fun _ h9 => h9) rfl dX8_verdictsUnder_32 ?_
  obtain ⟨v4, ev4, hf⟩ := bd_some hf
  refine gk_V C (As := [.ref (a_tr 0)]) (rest := []) (ci := 0) (q := (RX0, TX0, 7)) (q0 := 0) (wr := ((wCC t a_cc y_cc_tape y_cc_teller (a_rd 0) (a_tr 0) (a_dr 0) y_cc_seeker y_cc_seen y_cc_images y_cc_sheets s_cc) ++ (wRoad t a_rd s_rd))) (wf := ((wCC t a_cc y_cc_tape y_cc_teller (a_rd 0) (a_tr 0) (a_dr 0) y_cc_seeker y_cc_seen y_cc_images y_cc_sheets s_cc) ++ (wRoad t a_rd s_rd) ++ (wRoad t a_tr s3) ++ (wDrive t a_dr v4))) (cX0_run_ok (l := l) (D := D) (t := t) (κ := κ) (a_dr := a_dr) (a_rd := a_tr) ev4) gX8_verdictsUnder_X0_run rfl ⟨rfl, rfl⟩ hdX0_run ⟨Nat.le_of_ble_eq_true rfl, Nat.le_of_ble_eq_true rfl⟩ rfl rfl hP hD hS [20, 21, 22, 23, 24, 25, 11, 12, 13, 14, 15, 16, 17, 18, 19] [0, 1, 2, 3, 4, 5, 6, 7, 8, 9, 10] [0, 1, 2, 3, 4, 5, 6, 7, 8, 9, 10, 17, 18, 19, 20, 21, 22, 23, 24, 25, 11, 12, 13, 14, 15, 16] rfl rfl rfl rfl (by decide) rfl rfl rfl hl.1 (Nat.le_of_ble_eq_true rfl) dX8_verdictsUnder_35 (Nat.zero_le _) (Nat.zero_le _) (fun H locs hP hD hS => ?_)
  refine W.eq (g2 := F0 m 38 ls []) rfl ?_
  refine lv_aload_n hx hb dX8_verdictsUnder_38 rfl (lv_at hl 0 rfl) ?_
  refine va_get (D := D) (ci := 8) (v := .ref (a_dr 0)) (C := RX8) (T := TX8) (N := 11) hx hb hts iwX8_verdictsUnder_X8 hown hK hP 0 rfl rfl 4 (by decide) (hts _ lkX8_verdictsUnder_f38) (fun _ h9 => h9) rfl dX8_verdictsUnder_39 ?_
  obtain ⟨v5, ev5, hf⟩ := bd_some hf
  refine gk_V C (As := []) (rest := []) (ci := 0) (q := (RX0, TX0, 7)) (q0 := 0) (wr := ((wCC t a_cc y_cc_tape y_cc_teller (a_rd 0) (a_tr 0) (a_dr 0) y_cc_seeker y_cc_seen y_cc_images y_cc_sheets s_cc) ++ (wRoad t a_rd s_rd) ++ (wRoad t a_tr s3))) (wf := ((wCC t a_cc y_cc_tape y_cc_teller (a_rd 0) (a_tr 0) (a_dr 0) y_cc_seeker y_cc_seen y_cc_images y_cc_sheets s_cc) ++ (wRoad t a_rd s_rd) ++ (wRoad t a_tr s3) ++ (wDrive t a_dr v4))) (cX0_verdicts_ok (l := l) (D := D) (t := t) (κ := κ) (a_dr := a_dr) ev5) gX8_verdictsUnder_X0_verdicts rfl ⟨rfl, rfl⟩ hdX0_verdicts ⟨Nat.le_of_ble_eq_true rfl, Nat.le_of_ble_eq_true rfl⟩ rfl rfl hP hD hS [20, 21, 22, 23, 24, 25] [0, 1, 2, 3, 4, 5, 6, 7, 8, 9, 10, 11, 12, 13, 14, 15, 16, 17, 18, 19] [0, 1, 2, 3, 4, 5, 6, 7, 8, 9, 10, 11, 12, 13, 14, 15, 16, 17, 18, 19, 20, 21, 22, 23, 24, 25] rfl rfl rfl rfl (by decide) rfl rfl rfl hl.1 (Nat.le_of_ble_eq_true rfl) dX8_verdictsUnder_42 (Nat.zero_le _) (Nat.zero_le _) (fun H locs hP hD hS => ?_)
  refine W.eq (g2 := F0 m 45 ls [.int v5]) rfl ?_
  obtain rfl := so_eq hf
  exact g_iret C hP hD hS dX8_verdictsUnder_45
/-! CoachCourt.verdictsWithOtherMud -/
def fX8_verdictsWithOtherMud (s_cc : S2) (s_rd : S2) (s_tr : S2) (s_dr : S2) (p1 : Int32) : Option (Int32 × S2 × S2) :=
  (fX2_copyFrom s_tr s_rd).bind fun v1 =>
  gd (ixb p1 8) <|
  nm (sE v1 3 (Int32.toNatClampNeg p1) ((1 : Int32) - (s_rd 3 (Int32.toNatClampNeg p1)))) fun s3 =>
  (fX0_run s_dr s3).bind fun v4 =>
  (fX0_verdicts v4).bind fun v5 =>
  some (v5, s3, v4)
theorem hdX8_verdictsWithOtherMud : yX8_verdictsWithOtherMud.cls = RX8 ∧ yX8_verdictsWithOtherMud.cls ≠ "java/lang/invoke/MethodHandle" ∧ yX8_verdictsWithOtherMud.cls ≠ "java/lang/invoke/VarHandle" ∧ (parseMethodDescriptor yX8_verdictsWithOtherMud.desc).map (fun d => d.parameters.length) = some 1 := by decide +kernel
theorem iwX8_verdictsWithOtherMud_X8 : ∀ w ∈ wsX80, w ∈ wsX8_verdictsWithOtherMud := by decide +kernel
theorem lkX8_verdictsWithOtherMud_f32 : Cond.fieldLink RX8 32 "CoachCourt" "trial" "LCoachCourt$Road;" ∈ wsX8_verdictsWithOtherMud := by decide +kernel
theorem lkX8_verdictsWithOtherMud_f28 : Cond.fieldLink RX8 28 "CoachCourt" "road" "LCoachCourt$Road;" ∈ wsX8_verdictsWithOtherMud := by decide +kernel
theorem iwX8_verdictsWithOtherMud_X2 : ∀ w ∈ wsX20, w ∈ wsX8_verdictsWithOtherMud := by decide +kernel
theorem lkX8_verdictsWithOtherMud_f38 : Cond.fieldLink RX8 38 "CoachCourt" "drive" "LCoachCourt$Drive;" ∈ wsX8_verdictsWithOtherMud := by decide +kernel
set_option maxHeartbeats 4000000 in
set_option maxRecDepth 100000 in
theorem cX8_verdictsWithOtherMud_ok {l : Launch} {D : va_G} {t : Nat → ClassId} {κ : Nat → Nat} {a_cc : Nat → Nat} {y_cc_tape : Nat} {y_cc_teller : Nat} {y_cc_seeker : Nat} {y_cc_seen : Nat} {y_cc_images : Nat} {y_cc_sheets : Nat} {a_rd : Nat → Nat} {a_tr : Nat → Nat} {a_dr : Nat → Nat} {s_cc : S2} {s_rd : S2} {s_tr : S2} {s_dr : S2} {p1 : Int32} {out : Int32 × S2 × S2} (hf : fX8_verdictsWithOtherMud s_cc s_rd s_tr s_dr p1 = some out) : Ct l D t κ yX8_verdictsWithOtherMud wsX8_verdictsWithOtherMud (rmL 4) [.ref (a_cc 0), .int p1] ((wCC t a_cc y_cc_tape y_cc_teller (a_rd 0) (a_tr 0) (a_dr 0) y_cc_seeker y_cc_seen y_cc_images y_cc_sheets s_cc) ++ (wRoad t a_rd s_rd) ++ (wRoad t a_tr s_tr) ++ (wDrive t a_dr s_dr)) (some (.int out.1)) ((wCC t a_cc y_cc_tape y_cc_teller (a_rd 0) (a_tr 0) (a_dr 0) y_cc_seeker y_cc_seen y_cc_images y_cc_sheets s_cc) ++ (wRoad t a_rd s_rd) ++ (wRoad t a_tr out.2.1) ++ (wDrive t a_dr out.2.2)) := by
  refine Ct.ofW (own := RX8) (cc := cX8_verdictsWithOtherMud) (maxL := 2) (ret := (some .int)) (by decide) rfl rfl (Nat.le_of_ble_eq_true rfl) ?_
  intro p e s m below meth c A C hP hD ls hl
  have hS : va_S A s.heap s.heap [] := va_S.rf
  obtain ⟨hx, hb, hr, hml, hown, hts, hC0, hlk, hA⟩ := id C
  have hK := hC0.1
  have hl : lv_has ls 2 [(0, .ref (a_cc 0)), (1, .int p1)] := hl
  unfold fX8_verdictsWithOtherMud at hf
  refine lv_aload_n hx hb dX8_verdictsWithOtherMud_0 rfl (lv_at hl 0 rfl) ?_
  refine va_get (D := D) (ci := 8) (v := .ref (a_tr 0)) (C := RX8) (T := TX8) (N := 11) hx hb hts iwX8_verdictsWithOtherMud_X8 hown hK hP 0 rfl rfl 3 (by decide) (hts _ lkX8_verdictsWithOtherMud_f32) (fun _ h9 => h9) rfl dX8_verdictsWithOtherMud_1 ?_
  refine lv_aload_n hx hb dX8_verdictsWithOtherMud_4 rfl (lv_at hl 0 rfl) ?_
  refine va_get (D := D) (ci := 8) (v := .ref (a_rd 0)) (C := RX8) (T := TX8) (N := 11) hx hb hts iwX8_verdictsWithOtherMud_X8 hown hK hP 0 rfl rfl 2 (by decide) (hts _ lkX8_verdictsWithOtherMud_f28) (fun _ h9 => h9) rfl dX8_verdictsWithOtherMud_5 ?_
  obtain ⟨v1, ev1, hf⟩ := bd_some hf
  refine gk_V C (As := [.ref (a_rd 0)]) (rest := []) (ci := 2) (q := (RX2, TX2, 12)) (q0 := 0) (wr := ((wCC t a_cc y_cc_tape y_cc_teller (a_rd 0) (a_tr 0) (a_dr 0) y_cc_seeker y_cc_seen y_cc_images y_cc_sheets s_cc) ++ (wDrive t a_dr s_dr))) (wf := ((wCC t a_cc y_cc_tape y_cc_teller (a_rd 0) (a_tr 0) (a_dr 0) y_cc_seeker y_cc_seen y_cc_images y_cc_sheets s_cc) ++ (wRoad t a_rd s_rd) ++ (wRoad t a_tr v1) ++ (wDrive t a_dr s_dr))) (cX2_copyFrom_ok (l := l) (D := D) (t := t) (κ := κ) (a_rd := a_tr) (a_ro := a_rd) ev1) gX8_verdictsWithOtherMud_X2_copyFrom rfl ⟨rfl, rfl⟩ hdX2_copyFrom ⟨Nat.le_of_ble_eq_true rfl, Nat.le_of_ble_eq_true rfl⟩ rfl rfl hP hD hS [11, 12, 13, 14, 15, 16, 17, 18, 19, 2, 3, 4, 5, 6, 7, 8, 9, 10] [0, 1, 20, 21, 22, 23, 24, 25] [0, 1, 17, 18, 19, 20, 21, 22, 23, 24, 25, 8, 9, 10, 11, 12, 13, 14, 15, 16, 2, 3, 4, 5, 6, 7] rfl rfl rfl rfl (by decide) rfl rfl rfl hl.1 (Nat.le_of_ble_eq_true rfl) dX8_verdictsWithOtherMud_8 (Nat.zero_le _) (Nat.zero_le _) (fun H locs hP hD hS => ?_)
  refine W.eq (g2 := F0 m 11 ls []) rfl ?_
  refine lv_aload_n hx hb dX8_verdictsWithOtherMud_11 rfl (lv_at hl 0 rfl) ?_
  refine va_get (D := D) (ci := 8) (v := .ref (a_tr 0)) (C := RX8) (T := TX8) (N := 11) hx hb hts iwX8_verdictsWithOtherMud_X8 hown hK hP 0 rfl rfl 3 (by decide) (hts _ lkX8_verdictsWithOtherMud_f32) (fun _ h9 => h9) rfl dX8_verdictsWithOtherMud_12 ?_
  refine va_getN (D := D) (ci := 2) (v := .ref (a_tr 3)) (C := RX2) (T := TX2) (N := 12) hx hb hts iwX8_verdictsWithOtherMud_X2 hown hK hP 11 rfl rfl 2 (by decide) (hC0.2.1.f 12 rfl) (fun _ h9 => h9) rfl dX8_verdictsWithOtherMud_15 ?_
  refine lv_iload_n hx hb dX8_verdictsWithOtherMud_18 rfl (lv_at hl 1 rfl) ?_
  refine lv_iconst (v := 1) hx hb dX8_verdictsWithOtherMud_19 (by decide) ?_
  refine lv_aload_n hx hb dX8_verdictsWithOtherMud_20 rfl (lv_at hl 0 rfl) ?_
  refine va_get (D := D) (ci := 8) (v := .ref (a_rd 0)) (C := RX8) (T := TX8) (N := 11) hx hb hts iwX8_verdictsWithOtherMud_X8 hown hK hP 0 rfl rfl 2 (by decide) (hts _ lkX8_verdictsWithOtherMud_f28) (fun _ h9 => h9) rfl dX8_verdictsWithOtherMud_21 ?_
  refine va_getN (D := D) (ci := 2) (v := .ref (a_rd 3)) (C := RX2) (T := TX2) (N := 12) hx hb hts iwX8_verdictsWithOtherMud_X2 hown hK hP 2 rfl rfl 2 (by decide) (hC0.2.1.f 12 rfl) (fun _ h9 => h9) rfl dX8_verdictsWithOtherMud_24 ?_
  refine lv_iload_n hx hb dX8_verdictsWithOtherMud_27 rfl (lv_at hl 1 rfl) ?_
  obtain ⟨b2, hf⟩ := gd_some hf
  refine va_iald hx hb hK hP 5 0 rfl rfl (ixb_in b2) dX8_verdictsWithOtherMud_28 ?_
  refine lv_isub hx hb dX8_verdictsWithOtherMud_29 ?_
  obtain ⟨s3, hs3, hf⟩ := nm_ex hf
  refine va_iast hx hb hK hP hD hS 14 0 rfl rfl (ixb_in b2) dX8_verdictsWithOtherMud_30 (fun H locs hP hD hS => ?_)
  have hP : va_P D vwCl ((wCC t a_cc y_cc_tape y_cc_teller (a_rd 0) (a_tr 0) (a_dr 0) y_cc_seeker y_cc_seen y_cc_images y_cc_sheets s_cc) ++ (wRoad t a_rd s_rd) ++ (wRoad t a_tr s3) ++ (wDrive t a_dr s_dr)) H := by rw [hs3]; exact hP
  have hD : va_D A ((wCC t a_cc y_cc_tape y_cc_teller (a_rd 0) (a_tr 0) (a_dr 0) y_cc_seeker y_cc_seen y_cc_images y_cc_sheets s_cc) ++ (wRoad t a_rd s_rd) ++ (wRoad t a_tr s3) ++ (wDrive t a_dr s_dr)) := by rw [hs3]; exact hD
  refine lv_aload_n hx hb dX8_verdictsWithOtherMud_31 rfl (lv_at hl 0 rfl) ?_
  refine va_get (D := D) (ci := 8) (v := .ref (a_dr 0)) (C := RX8) (T := TX8) (N := 11) hx hb hts iwX8_verdictsWithOtherMud_X8 hown hK hP 0 rfl rfl 4 (by decide) (hts _ lkX8_verdictsWithOtherMud_f38) (fun _ h9 => h9) rfl dX8_verdictsWithOtherMud_32 ?_
  refine lv_aload_n hx hb dX8_verdictsWithOtherMud_35 rfl (lv_at hl 0 rfl) ?_
  refine va_get (D := D) (ci := 8) (v := .ref (a_tr 0)) (C := RX8) (T := TX8) (N := 11) hx hb hts iwX8_verdictsWithOtherMud_X8 hown hK hP 0 rfl rfl 3 (by decide) (hts _ lkX8_verdictsWithOtherMud_f32) (fun _ h9 => h9) rfl dX8_verdictsWithOtherMud_36 ?_
  obtain ⟨v4, ev4, hf⟩ := bd_some hf
  refine gk_V C (As := [.ref (a_tr 0)]) (rest := []) (ci := 0) (q := (RX0, TX0, 7)) (q0 := 0) (wr := ((wCC t a_cc y_cc_tape y_cc_teller (a_rd 0) (a_tr 0) (a_dr 0) y_cc_seeker y_cc_seen y_cc_images y_cc_sheets s_cc) ++ (wRoad t a_rd s_rd))) (wf := ((wCC t a_cc y_cc_tape y_cc_teller (a_rd 0) (a_tr 0) (a_dr 0) y_cc_seeker y_cc_seen y_cc_images y_cc_sheets s_cc) ++ (wRoad t a_rd s_rd) ++ (wRoad t a_tr s3) ++ (wDrive t a_dr v4))) (cX0_run_ok (l := l) (D := D) (t := t) (κ := κ) (a_dr := a_dr) (a_rd := a_tr) ev4) gX8_verdictsWithOtherMud_X0_run rfl ⟨rfl, rfl⟩ hdX0_run ⟨Nat.le_of_ble_eq_true rfl, Nat.le_of_ble_eq_true rfl⟩ rfl rfl hP hD hS [20, 21, 22, 23, 24, 25, 11, 12, 13, 14, 15, 16, 17, 18, 19] [0, 1, 2, 3, 4, 5, 6, 7, 8, 9, 10] [0, 1, 2, 3, 4, 5, 6, 7, 8, 9, 10, 17, 18, 19, 20, 21, 22, 23, 24, 25, 11, 12, 13, 14, 15, 16] rfl rfl rfl rfl (by decide) rfl rfl rfl hl.1 (Nat.le_of_ble_eq_true rfl) dX8_verdictsWithOtherMud_39 (Nat.zero_le _) (Nat.zero_le _) (fun H locs hP hD hS => ?_)
  refine W.eq (g2 := F0 m 42 ls []) rfl ?_
  refine lv_aload_n hx hb dX8_verdictsWithOtherMud_42 rfl (lv_at hl 0 rfl) ?_
  refine va_get (D := D) (ci := 8) (v := .ref (a_dr 0)) (C := RX8) (T := TX8) (N := 11) hx hb hts iwX8_verdictsWithOtherMud_X8 hown hK hP 0 rfl rfl 4 (by decide) (hts _ lkX8_verdictsWithOtherMud_f38) (fun _ h9 => h9) rfl dX8_verdictsWithOtherMud_43 ?_
  obtain ⟨v5, ev5, hf⟩ := bd_some hf
  refine gk_V C (As := []) (rest := []) (ci := 0) (q := (RX0, TX0, 7)) (q0 := 0) (wr := ((wCC t a_cc y_cc_tape y_cc_teller (a_rd 0) (a_tr 0) (a_dr 0) y_cc_seeker y_cc_seen y_cc_images y_cc_sheets s_cc) ++ (wRoad t a_rd s_rd) ++ (wRoad t a_tr s3))) (wf := ((wCC t a_cc y_cc_tape y_cc_teller (a_rd 0) (a_tr 0) (a_dr 0) y_cc_seeker y_cc_seen y_cc_images y_cc_sheets s_cc) ++ (wRoad t a_rd s_rd) ++ (wRoad t a_tr s3) ++ (wDrive t a_dr v4))) (cX0_verdicts_ok (l := l) (D := D) (t := t) (κ := κ) (a_dr := a_dr) ev5) gX8_verdictsWithOtherMud_X0_verdicts rfl ⟨rfl, rfl⟩ hdX0_verdicts ⟨Nat.le_of_ble_eq_true rfl, Nat.le_of_ble_eq_true rfl⟩ rfl rfl hP hD hS [20, 21, 22, 23, 24, 25] [0, 1, 2, 3, 4, 5, 6, 7, 8, 9, 10, 11, 12, 13, 14, 15, 16, 17, 18, 19] [0, 1, 2, 3, 4, 5, 6, 7, 8, 9, 10, 11, 12, 13, 14, 15, 16, 17, 18, 19, 20, 21, 22, 23, 24, 25] rfl rfl rfl rfl (by decide) rfl rfl rfl hl.1 (Nat.le_of_ble_eq_true rfl) dX8_verdictsWithOtherMud_46 (Nat.zero_le _) (Nat.zero_le _) (fun H locs hP hD hS => ?_)
  refine W.eq (g2 := F0 m 49 ls [.int v5]) rfl ?_
  obtain rfl := so_eq hf
  exact g_iret C hP hD hS dX8_verdictsWithOtherMud_49
/-! CoachCourt.verdictsOf -/
def fX8_verdictsOf (s_cc : S2) (s_dr : S2) (p1 : Int32) : Option (Int32) :=
  if p1 = (-1 : Int32) then
    ((fX0_verdicts s_dr).bind fun v4 =>
    some v4)
  else
    ((fX0_hasVerdict s_dr p1).bind fun v2 =>
    if v2 = (0 : Int32) then
      (some (0 : Int32))
    else
      (some (1 : Int32)))
theorem hdX8_verdictsOf : yX8_verdictsOf.cls = RX8 ∧ yX8_verdictsOf.cls ≠ "java/lang/invoke/MethodHandle" ∧ yX8_verdictsOf.cls ≠ "java/lang/invoke/VarHandle" ∧ (parseMethodDescriptor yX8_verdictsOf.desc).map (fun d => d.parameters.length) = some 1 := by decide +kernel
theorem iwX8_verdictsOf_X8 : ∀ w ∈ wsX80, w ∈ wsX8_verdictsOf := by decide +kernel
theorem lkX8_verdictsOf_f38 : Cond.fieldLink RX8 38 "CoachCourt" "drive" "LCoachCourt$Drive;" ∈ wsX8_verdictsOf := by decide +kernel
set_option maxHeartbeats 4000000 in
set_option maxRecDepth 100000 in
theorem cX8_verdictsOf_ok {l : Launch} {D : va_G} {t : Nat → ClassId} {κ : Nat → Nat} {a_cc : Nat → Nat} {y_cc_tape : Nat} {y_cc_teller : Nat} {y_cc_road : Nat} {y_cc_trial : Nat} {y_cc_seeker : Nat} {y_cc_seen : Nat} {y_cc_images : Nat} {y_cc_sheets : Nat} {a_dr : Nat → Nat} {s_cc : S2} {s_dr : S2} {p1 : Int32} {out : Int32} (hf : fX8_verdictsOf s_cc s_dr p1 = some out) : Ct l D t κ yX8_verdictsOf wsX8_verdictsOf (rmL 3) [.ref (a_cc 0), .int p1] ((wCC t a_cc y_cc_tape y_cc_teller y_cc_road y_cc_trial (a_dr 0) y_cc_seeker y_cc_seen y_cc_images y_cc_sheets s_cc) ++ (wDrive t a_dr s_dr)) (some (.int out)) ((wCC t a_cc y_cc_tape y_cc_teller y_cc_road y_cc_trial (a_dr 0) y_cc_seeker y_cc_seen y_cc_images y_cc_sheets s_cc) ++ (wDrive t a_dr s_dr)) := by
  refine Ct.ofW (own := RX8) (cc := cX8_verdictsOf) (maxL := 2) (ret := (some .int)) (by decide) rfl rfl (Nat.le_of_ble_eq_true rfl) ?_
  intro p e s m below meth c A C hP hD ls hl
  have hS : va_S A s.heap s.heap [] := va_S.rf
  obtain ⟨hx, hb, hr, hml, hown, hts, hC0, hlk, hA⟩ := id C
  have hK := hC0.1
  have hl : lv_has ls 2 [(0, .ref (a_cc 0)), (1, .int p1)] := hl
  unfold fX8_verdictsOf at hf
  refine lv_iload_n hx hb dX8_verdictsOf_0 rfl (lv_at hl 1 rfl) ?_
  refine lv_iconst (v := -1) hx hb dX8_verdictsOf_1 (by decide) ?_
  refine lv_icmp_ne (tgt := 13) hx hb dX8_verdictsOf_2 (by decide) (fun c1 => ?_) (fun c1 => ?_)
  · rw [if_neg c1] at hf
    refine lv_aload_n hx hb dX8_verdictsOf_13 rfl (lv_at hl 0 rfl) ?_
    refine va_get (D := D) (ci := 8) (v := .ref (a_dr 0)) (C := RX8) (T := TX8) (N := 11) hx hb hts iwX8_verdictsOf_X8 hown hK hP 0 rfl rfl 4 (by decide) (hts _ lkX8_verdictsOf_f38) (fun _ h9 => h9) rfl dX8_verdictsOf_14 ?_
    refine lv_iload_n hx hb dX8_verdictsOf_17 rfl (lv_at hl 1 rfl) ?_
    obtain ⟨v2, ev2, hf⟩ := bd_some hf
    refine gk_V C (As := [.int p1]) (rest := []) (ci := 0) (q := (RX0, TX0, 7)) (q0 := 0) (wr := (wCC t a_cc y_cc_tape y_cc_teller y_cc_road y_cc_trial (a_dr 0) y_cc_seeker y_cc_seen y_cc_images y_cc_sheets s_cc)) (wf := ((wCC t a_cc y_cc_tape y_cc_teller y_cc_road y_cc_trial (a_dr 0) y_cc_seeker y_cc_seen y_cc_images y_cc_sheets s_cc) ++ (wDrive t a_dr s_dr))) (cX0_hasVerdict_ok (l := l) (D := D) (t := t) (κ := κ) (a_dr := a_dr) ev2) gX8_verdictsOf_X0_hasVerdict rfl ⟨rfl, rfl⟩ hdX0_hasVerdict ⟨Nat.le_of_ble_eq_true rfl, Nat.le_of_ble_eq_true rfl⟩ rfl rfl hP hD hS [2, 3, 4, 5, 6, 7] [0, 1] [0, 1, 2, 3, 4, 5, 6, 7] rfl rfl rfl rfl (by decide) rfl rfl rfl hl.1 (Nat.le_of_ble_eq_true rfl) dX8_verdictsOf_18 (Nat.zero_le _) (Nat.zero_le _) (fun H locs hP hD hS => ?_)
    refine W.eq (g2 := F0 m 21 ls [.int v2]) rfl ?_
    refine lv_if_eq (tgt := 28) hx hb dX8_verdictsOf_21 (by decide) (fun c3 => ?_) (fun c3 => ?_)
    · rw [if_pos c3] at hf
      refine lv_iconst (v := 0) hx hb dX8_verdictsOf_28 (by decide) ?_
      obtain rfl := so_eq hf
      exact g_iret C hP hD hS dX8_verdictsOf_29
    · rw [if_neg c3] at hf
      refine lv_iconst (v := 1) hx hb dX8_verdictsOf_24 (by decide) ?_
      refine lv_goto (tgt := 29) hx hb dX8_verdictsOf_25 (by decide) ?_
      obtain rfl := so_eq hf
      exact g_iret C hP hD hS dX8_verdictsOf_29
  · rw [if_pos c1] at hf
    refine lv_aload_n hx hb dX8_verdictsOf_5 rfl (lv_at hl 0 rfl) ?_
    refine va_get (D := D) (ci := 8) (v := .ref (a_dr 0)) (C := RX8) (T := TX8) (N := 11) hx hb hts iwX8_verdictsOf_X8 hown hK hP 0 rfl rfl 4 (by decide) (hts _ lkX8_verdictsOf_f38) (fun _ h9 => h9) rfl dX8_verdictsOf_6 ?_
    obtain ⟨v4, ev4, hf⟩ := bd_some hf
    refine gk_V C (As := []) (rest := []) (ci := 0) (q := (RX0, TX0, 7)) (q0 := 0) (wr := (wCC t a_cc y_cc_tape y_cc_teller y_cc_road y_cc_trial (a_dr 0) y_cc_seeker y_cc_seen y_cc_images y_cc_sheets s_cc)) (wf := ((wCC t a_cc y_cc_tape y_cc_teller y_cc_road y_cc_trial (a_dr 0) y_cc_seeker y_cc_seen y_cc_images y_cc_sheets s_cc) ++ (wDrive t a_dr s_dr))) (cX0_verdicts_ok (l := l) (D := D) (t := t) (κ := κ) (a_dr := a_dr) ev4) gX8_verdictsOf_X0_verdicts rfl ⟨rfl, rfl⟩ hdX0_verdicts ⟨Nat.le_of_ble_eq_true rfl, Nat.le_of_ble_eq_true rfl⟩ rfl rfl hP hD hS [2, 3, 4, 5, 6, 7] [0, 1] [0, 1, 2, 3, 4, 5, 6, 7] rfl rfl rfl rfl (by decide) rfl rfl rfl hl.1 (Nat.le_of_ble_eq_true rfl) dX8_verdictsOf_9 (Nat.zero_le _) (Nat.zero_le _) (fun H locs hP hD hS => ?_)
    refine W.eq (g2 := F0 m 12 ls [.int v4]) rfl ?_
    obtain rfl := so_eq hf
    exact g_iret C hP hD hS dX8_verdictsOf_12
/-! CoachCourt.weighVerdicts -/
def fX8_weighVerdicts_b16 (s_cc : S2) (s_rd : S2) (s_tr : S2) (s_dr : S2) (x1 : Int32) (x2 : Int32) (x3 : Int64) (x5 : Int32) : Option ((Int64 × Int32 × S2 × S2) ⊕ (Int64 × Int32 × S2 × S2)) :=
  if ((1 : Int32) <<< ((s_rd 0 0) &&& 31)) ≤ x5 then
    (some (.inr (x3, x5, s_tr, s_dr)))
  else
    ((fJ6_bitCount_0f7a4 x5).bind fun v3 =>
    (fX8_power x1 v3).bind fun v4 =>
    (fX8_power ((10 : Int32) - x1) ((s_rd 0 0) - v3)).bind fun v5 =>
    nm (v4 * v5) fun y6 =>
    if (lg_cmp y6 (0 : Int64)) = (0 : Int32) then
      (nm (x5 + (1 : Int32)) fun y8 =>
      some (.inl (x3, y8, s_tr, s_dr)))
    else
      ((fX2_putMuds s_tr x5).bind fun v9 =>
      (fX0_run s_dr v9).bind fun v10 =>
      (fX8_verdictsOf s_cc v10 x2).bind fun v11 =>
      nm (x3 + (y6 * (Int32.toInt64 v11))) fun y12 =>
      nm (x5 + (1 : Int32)) fun y13 =>
      some (.inl (y12, y13, v9, v10))))
def fX8_weighVerdicts (s_cc : S2) (s_rd : S2) (s_tr : S2) (s_dr : S2) (p1 : Int32) (p2 : Int32) : Option (Int64 × S2 × S2) :=
  (fX2_copyFrom s_tr s_rd).bind fun v1 =>
  (wh (fun (c : Int64 × Int32 × S2 × S2) => fX8_weighVerdicts_b16 s_cc s_rd c.2.2.1 c.2.2.2 p1 p2 c.1 c.2.1) 5000 ((0 : Int64), (0 : Int32), v1, s_dr)).bind fun x14 =>
  some (x14.1, x14.2.2.1, x14.2.2.2)
theorem hdX8_weighVerdicts : yX8_weighVerdicts.cls = RX8 ∧ yX8_weighVerdicts.cls ≠ "java/lang/invoke/MethodHandle" ∧ yX8_weighVerdicts.cls ≠ "java/lang/invoke/VarHandle" ∧ (parseMethodDescriptor yX8_weighVerdicts.desc).map (fun d => d.parameters.length) = some 2 := by decide +kernel
theorem iwX8_weighVerdicts_X8 : ∀ w ∈ wsX80, w ∈ wsX8_weighVerdicts := by decide +kernel
theorem lkX8_weighVerdicts_f32 : Cond.fieldLink RX8 32 "CoachCourt" "trial" "LCoachCourt$Road;" ∈ wsX8_weighVerdicts := by decide +kernel
theorem lkX8_weighVerdicts_f28 : Cond.fieldLink RX8 28 "CoachCourt" "road" "LCoachCourt$Road;" ∈ wsX8_weighVerdicts := by decide +kernel
theorem iwX8_weighVerdicts_X2 : ∀ w ∈ wsX20, w ∈ wsX8_weighVerdicts := by decide +kernel
theorem lkX8_weighVerdicts_f38 : Cond.fieldLink RX8 38 "CoachCourt" "drive" "LCoachCourt$Drive;" ∈ wsX8_weighVerdicts := by decide +kernel
set_option maxHeartbeats 4000000 in
set_option maxRecDepth 100000 in
theorem wX8_weighVerdicts_l16 {p : Program} {l : Launch} {e : Env} {s : State} {m : MethodId} {args : Array Value} {below : List Frame} {meth : Method} {c : Code} {D : va_G} {t : Nat → ClassId} {κ : Nat → Nat} {A : Nat → Prop} {a_cc : Nat → Nat} {y_cc_tape : Nat} {y_cc_teller : Nat} {y_cc_seeker : Nat} {y_cc_seen : Nat} {y_cc_images : Nat} {y_cc_sheets : Nat} {a_rd : Nat → Nat} {a_tr : Nat → Nat} {a_dr : Nat → Nat} {s_cc : S2} {s_rd : S2} {x1 : Int32} {x2 : Int32} {rv : Option Value} {w1 : va_W} (C : Cxt p s m args meth c cX8_weighVerdicts 9 RX8 wsX8_weighVerdicts (some .long) D t κ A) : ∀ (n : Nat) (x3 : Int64) (x5 : Int32) (s_tr : S2) (s_dr : S2) (x : Int64 × Int32 × S2 × S2), wh (fun (c : Int64 × Int32 × S2 × S2) => fX8_weighVerdicts_b16 s_cc s_rd c.2.2.1 c.2.2.2 x1 x2 c.1 c.2.1) n (x3, x5, s_tr, s_dr) = some x → (∀ (z : Int64 × Int32 × S2 × S2), x = z → ∀ (H : Heap) (locs : List Loc) (ls : Array Slot), va_P D vwCl ((wCC t a_cc y_cc_tape y_cc_teller (a_rd 0) (a_tr 0) (a_dr 0) y_cc_seeker y_cc_seen y_cc_images y_cc_sheets s_cc) ++ (wRoad t a_rd s_rd) ++ (wRoad t a_tr z.2.2.1) ++ (wDrive t a_dr z.2.2.2)) H → va_D A ((wCC t a_cc y_cc_tape y_cc_teller (a_rd 0) (a_tr 0) (a_dr 0) y_cc_seeker y_cc_seen y_cc_images y_cc_sheets s_cc) ++ (wRoad t a_rd s_rd) ++ (wRoad t a_tr z.2.2.1) ++ (wDrive t a_dr z.2.2.2)) → va_S A s.heap H locs → lv_has ls 9 [(3, .long z.1)] → W p l e (rmL 4) s m args below meth c H locs 0 0 (MQ below (gQ D rv w1 A) args s 0 0 A) (F0 m 108 ls [])) → ∀ (H : Heap) (locs : List Loc) (ls : Array Slot), va_P D vwCl ((wCC t a_cc y_cc_tape y_cc_teller (a_rd 0) (a_tr 0) (a_dr 0) y_cc_seeker y_cc_seen y_cc_images y_cc_sheets s_cc) ++ (wRoad t a_rd s_rd) ++ (wRoad t a_tr s_tr) ++ (wDrive t a_dr s_dr)) H → va_D A ((wCC t a_cc y_cc_tape y_cc_teller (a_rd 0) (a_tr 0) (a_dr 0) y_cc_seeker y_cc_seen y_cc_images y_cc_sheets s_cc) ++ (wRoad t a_rd s_rd) ++ (wRoad t a_tr s_tr) ++ (wDrive t a_dr s_dr)) → va_S A s.heap H locs → lv_has ls 9 [(0, .ref (a_cc 0)), (1, .int x1), (2, .int x2), (3, .long x3), (5, .int x5)] → W p l e (rmL 4) s m args below meth c H locs 0 0 (MQ below (gQ D rv w1 A) args s 0 0 A) (F0 m 16 ls []) := by
  obtain ⟨hx, hb, hr, hml, hown, hts, hC0, hlk, hA⟩ := id C
  have hK := hC0.1
  intro n
  induction n with
  | zero =>
    intro x3 x5 s_tr s_dr x h
    exact (wh_0 h).elim
  | succ n ih =>
    intro x3 x5 s_tr s_dr x h HX H locs ls hP hD hS hl
    obtain ⟨v, hf, hB, hX⟩ := wh_step h
    have hf : fX8_weighVerdicts_b16 s_cc s_rd s_tr s_dr x1 x2 x3 x5 = some v := hf
    have HB : ∀ (z : Int64 × Int32 × S2 × S2), v = .inl z → ∀ (H : Heap) (locs : List Loc) (ls : Array Slot), va_P D vwCl ((wCC t a_cc y_cc_tape y_cc_teller (a_rd 0) (a_tr 0) (a_dr 0) y_cc_seeker y_cc_seen y_cc_images y_cc_sheets s_cc) ++ (wRoad t a_rd s_rd) ++ (wRoad t a_tr z.2.2.1) ++ (wDrive t a_dr z.2.2.2)) H → va_D A ((wCC t a_cc y_cc_tape y_cc_teller (a_rd 0) (a_tr 0) (a_dr 0) y_cc_seeker y_cc_seen y_cc_images y_cc_sheets s_cc) ++ (wRoad t a_rd s_rd) ++ (wRoad t a_tr z.2.2.1) ++ (wDrive t a_dr z.2.2.2)) → va_S A s.heap H locs → lv_has ls 9 [(0, .ref (a_cc 0)), (1, .int x1), (2, .int x2), (3, .long z.1), (5, .int z.2.1)] → W p l e (rmL 4) s m args below meth c H locs 0 0 (MQ below (gQ D rv w1 A) args s 0 0 A) (F0 m 16 ls []) := fun z hz H locs ls hP hD hS hl => ih z.1 z.2.1 z.2.2.1 z.2.2.2 x (hB z hz) HX H locs ls hP hD hS hl
    have HX : ∀ (z : Int64 × Int32 × S2 × S2), v = .inr z → ∀ (H : Heap) (locs : List Loc) (ls : Array Slot), va_P D vwCl ((wCC t a_cc y_cc_tape y_cc_teller (a_rd 0) (a_tr 0) (a_dr 0) y_cc_seeker y_cc_seen y_cc_images y_cc_sheets s_cc) ++ (wRoad t a_rd s_rd) ++ (wRoad t a_tr z.2.2.1) ++ (wDrive t a_dr z.2.2.2)) H → va_D A ((wCC t a_cc y_cc_tape y_cc_teller (a_rd 0) (a_tr 0) (a_dr 0) y_cc_seeker y_cc_seen y_cc_images y_cc_sheets s_cc) ++ (wRoad t a_rd s_rd) ++ (wRoad t a_tr z.2.2.1) ++ (wDrive t a_dr z.2.2.2)) → va_S A s.heap H locs → lv_has ls 9 [(3, .long z.1)] → W p l e (rmL 4) s m args below meth c H locs 0 0 (MQ below (gQ D rv w1 A) args s 0 0 A) (F0 m 108 ls []) := fun z hz => HX z (hX _ hz).symm
    unfold fX8_weighVerdicts_b16 at hf
    refine lv_iload hx hb dX8_weighVerdicts_16 (lv_at hl 4 rfl) ?_
    refine lv_iconst (v := 1) hx hb dX8_weighVerdicts_18 (by decide) ?_
    refine lv_aload_n hx hb dX8_weighVerdicts_19 rfl (lv_at hl 0 rfl) ?_
    refine va_get (D := D) (ci := 8) (v := .ref (a_rd 0)) (C := RX8) (T := TX8) (N := 11) hx hb hts iwX8_weighVerdicts_X8 hown hK hP 0 rfl rfl 2 (by decide) (hts _ lkX8_weighVerdicts_f28) (fun _ h9 => h9) rfl dX8_weighVerdicts_20 ?_
    refine va_getN (D := D) (ci := 2) (v := .int (s_rd 0 0)) (C := RX2) (T := TX2) (N := 12) hx hb hts iwX8_weighVerdicts_X2 hown hK hP 2 rfl rfl 8 (by decide) (hC0.2.1.f 24 rfl) (fun _ h9 => h9) rfl dX8_weighVerdicts_23 ?_
    refine lv_ishl hx hb dX8_weighVerdicts_26 ?_
    refine lv_icmp_ge (tgt := 108) hx hb dX8_weighVerdicts_27 (by decide) (fun c2 => ?_) (fun c2 => ?_)
    · rw [if_pos c2] at hf
      obtain rfl := so_eq hf
      exact HX _ rfl _ _ _ hP hD hS (lv_sub hl [3] rfl)
    · rw [if_neg c2] at hf
      refine lv_iload hx hb dX8_weighVerdicts_30 (lv_at hl 4 rfl) ?_
      obtain ⟨v3, ev3, hf⟩ := bd_some hf
      refine gk_S C (As := [.int x5]) (rest := []) (cJ6_bitCount_0f7a4_ok (l := l) (D := D) (t := t) (κ := κ) ev3) gX8_weighVerdicts_J6_bitCount_0f7a4 rfl ⟨rfl, rfl⟩ hdJ6_bitCount_0f7a4 ⟨Nat.le_of_ble_eq_true rfl, Nat.le_of_ble_eq_true rfl⟩ hP hD hS rfl hl.1 (Nat.le_of_ble_eq_true rfl) dX8_weighVerdicts_32 (Nat.zero_le _) (Nat.zero_le _) (fun H locs hP hD hS => ?_)
      refine W.eq (g2 := F0 m 35 ls [.int v3]) rfl ?_
      refine lv_istore (lv' := [(6, .int v3), (0, .ref (a_cc 0)), (1, .int x1), (2, .int x2), (3, .long x3), (5, .int x5)]) hx hb dX8_weighVerdicts_35 hl (by decide) rfl (fun ls hl => ?_)
      refine lv_iload_n hx hb dX8_weighVerdicts_37 rfl (lv_at hl 2 rfl) ?_
      refine lv_iload hx hb dX8_weighVerdicts_38 (lv_at hl 0 rfl) ?_
      obtain ⟨v4, ev4, hf⟩ := bd_some hf
      refine gk_S C (As := [.int x1, .int v3]) (rest := []) (cX8_power_ok (l := l) (D := D) (t := t) (κ := κ) ev4) gX8_weighVerdicts_X8_power rfl ⟨rfl, rfl⟩ hdX8_power ⟨Nat.le_of_ble_eq_true rfl, Nat.le_of_ble_eq_true rfl⟩ hP hD hS rfl hl.1 (Nat.le_of_ble_eq_true rfl) dX8_weighVerdicts_40 (Nat.zero_le _) (Nat.zero_le _) (fun H locs hP hD hS => ?_)
      refine W.eq (g2 := F0 m 43 ls [.long v4]) rfl ?_
      refine lv_bipush (v := 10) hx hb dX8_weighVerdicts_43 (by decide) ?_
      refine lv_iload_n hx hb dX8_weighVerdicts_45 rfl (lv_at hl 2 rfl) ?_
      refine lv_isub hx hb dX8_weighVerdicts_46 ?_
      refine lv_aload_n hx hb dX8_weighVerdicts_47 rfl (lv_at hl 1 rfl) ?_
      refine va_get (D := D) (ci := 8) (v := .ref (a_rd 0)) (C := RX8) (T := TX8) (N := 11) hx hb hts iwX8_weighVerdicts_X8 hown hK hP 0 rfl rfl 2 (by decide) (hts _ lkX8_weighVerdicts_f28) (fun _ h9 => h9) rfl dX8_weighVerdicts_48 ?_
      refine va_getN (D := D) (ci := 2) (v := .int (s_rd 0 0)) (C := RX2) (T := TX2) (N := 12) hx hb hts iwX8_weighVerdicts_X2 hown hK hP 2 rfl rfl 8 (by decide) (hC0.2.1.f 24 rfl) (fun _ h9 => h9) rfl dX8_weighVerdicts_51 ?_
      refine lv_iload hx hb dX8_weighVerdicts_54 (lv_at hl 0 rfl) ?_
      refine lv_isub hx hb dX8_weighVerdicts_56 ?_
      obtain ⟨v5, ev5, hf⟩ := bd_some hf
      refine gk_S C (As := [.int ((10 : Int32) - x1), .int ((s_rd 0 0) - v3)]) (rest := [.long v4]) (cX8_power_ok (l := l) (D := D) (t := t) (κ := κ) ev5) gX8_weighVerdicts_X8_power rfl ⟨rfl, rfl⟩ hdX8_power ⟨Nat.le_of_ble_eq_true rfl, Nat.le_of_ble_eq_true rfl⟩ hP hD hS rfl hl.1 (Nat.le_of_ble_eq_true rfl) dX8_weighVerdicts_57 (Nat.zero_le _) (Nat.zero_le _) (fun H locs hP hD hS => ?_)
      refine W.eq (g2 := F0 m 60 ls [.long v5, .long v4]) rfl ?_
      refine lv_lmul hx hb dX8_weighVerdicts_60 ?_
      obtain ⟨y6, hy6, hf⟩ := nm_ex hf
      refine W.eq (g2 := F0 m 61 ls [.long y6]) (by rw [hy6]) ?_
      refine lv_lstore (lv' := [(7, .long y6), (6, .int v3), (0, .ref (a_cc 0)), (1, .int x1), (2, .int x2), (3, .long x3), (5, .int x5)]) hx hb dX8_weighVerdicts_61 hl (by decide) rfl (fun ls hl => ?_)
      refine lv_lload hx hb dX8_weighVerdicts_63 (lv_at hl 0 rfl) ?_
      refine lv_lconst (v := 0) hx hb dX8_weighVerdicts_65 (by decide) ?_
      refine W.lcmp hx hb dX8_weighVerdicts_66 ?_
      refine lv_if_eq (tgt := 102) hx hb dX8_weighVerdicts_67 (by decide) (fun c7 => ?_) (fun c7 => ?_)
      · rw [if_pos c7] at hf
        obtain ⟨y8, hy8, hf⟩ := nm_ex hf
        refine lv_iinc (v := y8) (lv' := [(5, .int y8), (7, .long y6), (6, .int v3), (0, .ref (a_cc 0)), (1, .int x1), (2, .int x2), (3, .long x3)]) hx hb dX8_weighVerdicts_102 hl (k := 6) rfl (by rw [hy8]; rfl) (by decide) rfl (fun ls hl => ?_)
        refine lv_goto (tgt := 16) hx hb dX8_weighVerdicts_105 (by decide) ?_
        obtain rfl := so_eq hf
        exact HB _ rfl _ _ _ hP hD hS (lv_sub hl [3, 4, 5, 6, 0] rfl)
      · rw [if_neg c7] at hf
        refine lv_aload_n hx hb dX8_weighVerdicts_70 rfl (lv_at hl 2 rfl) ?_
        refine va_get (D := D) (ci := 8) (v := .ref (a_tr 0)) (C := RX8) (T := TX8) (N := 11) hx hb hts iwX8_weighVerdicts_X8 hown hK hP 0 rfl rfl 3 (by decide) (hts _ lkX8_weighVerdicts_f32) (fun _ h9 => h9) rfl dX8_weighVerdicts_71 ?_
        refine lv_iload hx hb dX8_weighVerdicts_74 (lv_at hl 6 rfl) ?_
        obtain ⟨v9, ev9, hf⟩ := bd_some hf
        refine gk_V C (As := [.int x5]) (rest := []) (ci := 2) (q := (RX2, TX2, 12)) (q0 := 0) (wr := ((wCC t a_cc y_cc_tape y_cc_teller (a_rd 0) (a_tr 0) (a_dr 0) y_cc_seeker y_cc_seen y_cc_images y_cc_sheets s_cc) ++ (wRoad t a_rd s_rd) ++ (wDrive t a_dr s_dr))) (wf := ((wCC t a_cc y_cc_tape y_cc_teller (a_rd 0) (a_tr 0) (a_dr 0) y_cc_seeker y_cc_seen y_cc_images y_cc_sheets s_cc) ++ (wRoad t a_rd s_rd) ++ (wRoad t a_tr v9) ++ (wDrive t a_dr s_dr))) (cX2_putMuds_ok (l := l) (D := D) (t := t) (κ := κ) (a_rd := a_tr) ev9) gX8_weighVerdicts_X2_putMuds rfl ⟨rfl, rfl⟩ hdX2_putMuds ⟨Nat.le_of_ble_eq_true rfl, Nat.le_of_ble_eq_true rfl⟩ rfl rfl hP hD hS [11, 12, 13, 14, 15, 16, 17, 18, 19] [0, 1, 2, 3, 4, 5, 6, 7, 8, 9, 10, 20, 21, 22, 23, 24, 25] [0, 1, 2, 3, 4, 5, 6, 7, 8, 9, 10, 17, 18, 19, 20, 21, 22, 23, 24, 25, 11, 12, 13, 14, 15, 16] rfl rfl rfl rfl (by decide) rfl rfl rfl hl.1 (Nat.le_of_ble_eq_true rfl) dX8_weighVerdicts_76 (Nat.zero_le _) (Nat.zero_le _) (fun H locs hP hD hS => ?_)
        refine W.eq (g2 := F0 m 79 ls []) rfl ?_
        refine lv_aload_n hx hb dX8_weighVerdicts_79 rfl (lv_at hl 2 rfl) ?_
        refine va_get (D := D) (ci := 8) (v := .ref (a_dr 0)) (C := RX8) (T := TX8) (N := 11) hx hb hts iwX8_weighVerdicts_X8 hown hK hP 0 rfl rfl 4 (by decide) (hts _ lkX8_weighVerdicts_f38) (fun _ h9 => h9) rfl dX8_weighVerdicts_80 ?_
        refine lv_aload_n hx hb dX8_weighVerdicts_83 rfl (lv_at hl 2 rfl) ?_
        refine va_get (D := D) (ci := 8) (v := .ref (a_tr 0)) (C := RX8) (T := TX8) (N := 11) hx hb hts iwX8_weighVerdicts_X8 hown hK hP 0 rfl rfl 3 (by decide) (hts _ lkX8_weighVerdicts_f32) (fun _ h9 => h9) rfl dX8_weighVerdicts_84 ?_
        obtain ⟨v10, ev10, hf⟩ := bd_some hf
        refine gk_V C (As := [.ref (a_tr 0)]) (rest := []) (ci := 0) (q := (RX0, TX0, 7)) (q0 := 0) (wr := ((wCC t a_cc y_cc_tape y_cc_teller (a_rd 0) (a_tr 0) (a_dr 0) y_cc_seeker y_cc_seen y_cc_images y_cc_sheets s_cc) ++ (wRoad t a_rd s_rd))) (wf := ((wCC t a_cc y_cc_tape y_cc_teller (a_rd 0) (a_tr 0) (a_dr 0) y_cc_seeker y_cc_seen y_cc_images y_cc_sheets s_cc) ++ (wRoad t a_rd s_rd) ++ (wRoad t a_tr v9) ++ (wDrive t a_dr v10))) (cX0_run_ok (l := l) (D := D) (t := t) (κ := κ) (a_dr := a_dr) (a_rd := a_tr) ev10) gX8_weighVerdicts_X0_run rfl ⟨rfl, rfl⟩ hdX0_run ⟨Nat.le_of_ble_eq_true rfl, Nat.le_of_ble_eq_true rfl⟩ rfl rfl hP hD hS [20, 21, 22, 23, 24, 25, 11, 12, 13, 14, 15, 16, 17, 18, 19] [0, 1, 2, 3, 4, 5, 6, 7, 8, 9, 10] [0, 1, 2, 3, 4, 5, 6, 7, 8, 9, 10, 17, 18, 19, 20, 21, 22, 23, 24, 25, 11, 12, 13, 14, 15, 16] rfl rfl rfl rfl (by decide) rfl rfl rfl hl.1 (Nat.le_of_ble_eq_true rfl) dX8_weighVerdicts_87 (Nat.zero_le _) (Nat.zero_le _) (fun H locs hP hD hS => ?_)
        refine W.eq (g2 := F0 m 90 ls []) rfl ?_
        refine lv_lload_n hx hb dX8_weighVerdicts_90 rfl (lv_at hl 5 rfl) ?_
        refine lv_lload hx hb dX8_weighVerdicts_91 (lv_at hl 0 rfl) ?_
        refine lv_aload_n hx hb dX8_weighVerdicts_93 rfl (lv_at hl 2 rfl) ?_
        refine lv_iload_n hx hb dX8_weighVerdicts_94 rfl (lv_at hl 4 rfl) ?_
        obtain ⟨v11, ev11, hf⟩ := bd_some hf
        refine gk_V C (As := [.int x2]) (rest := [.long y6, .long x3]) (ci := 8) (q := (RX8, TX8, 11)) (q0 := 0) (wr := ((wRoad t a_rd s_rd) ++ (wRoad t a_tr v9))) (wf := ((wCC t a_cc y_cc_tape y_cc_teller (a_rd 0) (a_tr 0) (a_dr 0) y_cc_seeker y_cc_seen y_cc_images y_cc_sheets s_cc) ++ (wRoad t a_rd s_rd) ++ (wRoad t a_tr v9) ++ (wDrive t a_dr v10))) (cX8_verdictsOf_ok (l := l) (D := D) (t := t) (κ := κ) (a_cc := a_cc) (a_dr := a_dr) (y_cc_tape := y_cc_tape) (y_cc_teller := y_cc_teller) (y_cc_road := a_rd 0) (y_cc_trial := a_tr 0) (y_cc_seeker := y_cc_seeker) (y_cc_seen := y_cc_seen) (y_cc_images := y_cc_images) (y_cc_sheets := y_cc_sheets) ev11) gX8_weighVerdicts_X8_verdictsOf rfl ⟨rfl, rfl⟩ hdX8_verdictsOf ⟨Nat.le_of_ble_eq_true rfl, Nat.le_of_ble_eq_true rfl⟩ rfl rfl hP hD hS [0, 1, 20, 21, 22, 23, 24, 25] [2, 3, 4, 5, 6, 7, 8, 9, 10, 11, 12, 13, 14, 15, 16, 17, 18, 19] [18, 19, 0, 1, 2, 3, 4, 5, 6, 7, 8, 9, 10, 11, 12, 13, 14, 15, 16, 17, 20, 21, 22, 23, 24, 25] rfl rfl rfl rfl (by decide) rfl rfl rfl hl.1 (Nat.le_of_ble_eq_true rfl) dX8_weighVerdicts_95 (Nat.zero_le _) (Nat.zero_le _) (fun H locs hP hD hS => ?_)
        refine W.eq (g2 := F0 m 98 ls [.int v11, .long y6, .long x3]) rfl ?_
        refine lv_i2l hx hb dX8_weighVerdicts_98 rfl ?_
        refine lv_lmul hx hb dX8_weighVerdicts_99 ?_
        refine lv_ladd hx hb dX8_weighVerdicts_100 ?_
        obtain ⟨y12, hy12, hf⟩ := nm_ex hf
        refine W.eq (g2 := F0 m 101 ls [.long y12]) (by rw [hy12]) ?_
        refine lv_lstore_n (lv' := [(3, .long y12), (7, .long y6), (6, .int v3), (0, .ref (a_cc 0)), (1, .int x1), (2, .int x2), (5, .int x5)]) hx hb dX8_weighVerdicts_101 rfl hl (by decide) rfl (fun ls hl => ?_)
        obtain ⟨y13, hy13, hf⟩ := nm_ex hf
        refine lv_iinc (v := y13) (lv' := [(5, .int y13), (3, .long y12), (7, .long y6), (6, .int v3), (0, .ref (a_cc 0)), (1, .int x1), (2, .int x2)]) hx hb dX8_weighVerdicts_102 hl (k := 6) rfl (by rw [hy13]; rfl) (by decide) rfl (fun ls hl => ?_)
        refine lv_goto (tgt := 16) hx hb dX8_weighVerdicts_105 (by decide) ?_
        obtain rfl := so_eq hf
        exact HB _ rfl _ _ _ hP hD hS (lv_sub hl [4, 5, 6, 1, 0] rfl)
set_option maxHeartbeats 4000000 in
set_option maxRecDepth 100000 in
theorem cX8_weighVerdicts_ok {l : Launch} {D : va_G} {t : Nat → ClassId} {κ : Nat → Nat} {a_cc : Nat → Nat} {y_cc_tape : Nat} {y_cc_teller : Nat} {y_cc_seeker : Nat} {y_cc_seen : Nat} {y_cc_images : Nat} {y_cc_sheets : Nat} {a_rd : Nat → Nat} {a_tr : Nat → Nat} {a_dr : Nat → Nat} {s_cc : S2} {s_rd : S2} {s_tr : S2} {s_dr : S2} {p1 : Int32} {p2 : Int32} {out : Int64 × S2 × S2} (hf : fX8_weighVerdicts s_cc s_rd s_tr s_dr p1 p2 = some out) : Ct l D t κ yX8_weighVerdicts wsX8_weighVerdicts (rmL 4) [.ref (a_cc 0), .int p1, .int p2] ((wCC t a_cc y_cc_tape y_cc_teller (a_rd 0) (a_tr 0) (a_dr 0) y_cc_seeker y_cc_seen y_cc_images y_cc_sheets s_cc) ++ (wRoad t a_rd s_rd) ++ (wRoad t a_tr s_tr) ++ (wDrive t a_dr s_dr)) (some (.long out.1)) ((wCC t a_cc y_cc_tape y_cc_teller (a_rd 0) (a_tr 0) (a_dr 0) y_cc_seeker y_cc_seen y_cc_images y_cc_sheets s_cc) ++ (wRoad t a_rd s_rd) ++ (wRoad t a_tr out.2.1) ++ (wDrive t a_dr out.2.2)) := by
  refine Ct.ofW (own := RX8) (cc := cX8_weighVerdicts) (maxL := 9) (ret := (some .long)) (by decide) rfl rfl (Nat.le_of_ble_eq_true rfl) ?_
  intro p e s m below meth c A C hP hD ls hl
  have hS : va_S A s.heap s.heap [] := va_S.rf
  obtain ⟨hx, hb, hr, hml, hown, hts, hC0, hlk, hA⟩ := id C
  have hK := hC0.1
  have hl : lv_has ls 9 [(0, .ref (a_cc 0)), (1, .int p1), (2, .int p2)] := hl
  unfold fX8_weighVerdicts at hf
  refine lv_lconst (v := 0) hx hb dX8_weighVerdicts_0 (by decide) ?_
  refine lv_lstore_n (lv' := [(3, .long (0 : Int64)), (0, .ref (a_cc 0)), (1, .int p1), (2, .int p2)]) hx hb dX8_weighVerdicts_1 rfl hl (by decide) rfl (fun ls hl => ?_)
  refine lv_aload_n hx hb dX8_weighVerdicts_2 rfl (lv_at hl 1 rfl) ?_
  refine va_get (D := D) (ci := 8) (v := .ref (a_tr 0)) (C := RX8) (T := TX8) (N := 11) hx hb hts iwX8_weighVerdicts_X8 hown hK hP 0 rfl rfl 3 (by decide) (hts _ lkX8_weighVerdicts_f32) (fun _ h9 => h9) rfl dX8_weighVerdicts_3 ?_
  refine lv_aload_n hx hb dX8_weighVerdicts_6 rfl (lv_at hl 1 rfl) ?_
  refine va_get (D := D) (ci := 8) (v := .ref (a_rd 0)) (C := RX8) (T := TX8) (N := 11) hx hb hts iwX8_weighVerdicts_X8 hown hK hP 0 rfl rfl 2 (by decide) (hts _ lkX8_weighVerdicts_f28) (fun _ h9 => h9) rfl dX8_weighVerdicts_7 ?_
  obtain ⟨v1, ev1, hf⟩ := bd_some hf
  refine gk_V C (As := [.ref (a_rd 0)]) (rest := []) (ci := 2) (q := (RX2, TX2, 12)) (q0 := 0) (wr := ((wCC t a_cc y_cc_tape y_cc_teller (a_rd 0) (a_tr 0) (a_dr 0) y_cc_seeker y_cc_seen y_cc_images y_cc_sheets s_cc) ++ (wDrive t a_dr s_dr))) (wf := ((wCC t a_cc y_cc_tape y_cc_teller (a_rd 0) (a_tr 0) (a_dr 0) y_cc_seeker y_cc_seen y_cc_images y_cc_sheets s_cc) ++ (wRoad t a_rd s_rd) ++ (wRoad t a_tr v1) ++ (wDrive t a_dr s_dr))) (cX2_copyFrom_ok (l := l) (D := D) (t := t) (κ := κ) (a_rd := a_tr) (a_ro := a_rd) ev1) gX8_weighVerdicts_X2_copyFrom rfl ⟨rfl, rfl⟩ hdX2_copyFrom ⟨Nat.le_of_ble_eq_true rfl, Nat.le_of_ble_eq_true rfl⟩ rfl rfl hP hD hS [11, 12, 13, 14, 15, 16, 17, 18, 19, 2, 3, 4, 5, 6, 7, 8, 9, 10] [0, 1, 20, 21, 22, 23, 24, 25] [0, 1, 17, 18, 19, 20, 21, 22, 23, 24, 25, 8, 9, 10, 11, 12, 13, 14, 15, 16, 2, 3, 4, 5, 6, 7] rfl rfl rfl rfl (by decide) rfl rfl rfl hl.1 (Nat.le_of_ble_eq_true rfl) dX8_weighVerdicts_10 (Nat.zero_le _) (Nat.zero_le _) (fun H locs hP hD hS => ?_)
  refine W.eq (g2 := F0 m 13 ls []) rfl ?_
  refine lv_iconst (v := 0) hx hb dX8_weighVerdicts_13 (by decide) ?_
  refine lv_istore (lv' := [(5, .int (0 : Int32)), (3, .long (0 : Int64)), (0, .ref (a_cc 0)), (1, .int p1), (2, .int p2)]) hx hb dX8_weighVerdicts_14 hl (by decide) rfl (fun ls hl => ?_)
  obtain ⟨x14, ex14, hf⟩ := bd_some hf
  refine wX8_weighVerdicts_l16 C 5000 (0 : Int64) (0 : Int32) v1 s_dr x14 ex14 (fun c9 h9 H locs ls hP hD hS hl => ?_) _ _ _ hP hD hS (lv_sub hl [2, 3, 4, 1, 0] rfl)
  subst h9
  refine lv_lload_n hx hb dX8_weighVerdicts_108 rfl (lv_at hl 0 rfl) ?_
  obtain rfl := so_eq hf
  exact g_lret C hP hD hS dX8_weighVerdicts_109
/-! CoachCourt.driveIfTurned -/
def fX8_driveIfTurned_30 (s_cc : S2) (s_rd : S2) (s_tr : S2) (s_dr : S2) : Option (S2 × S2) :=
  (fX0_run s_dr s_tr).bind fun v4 =>
  some (s_tr, v4)
def fX8_driveIfTurned (s_cc : S2) (s_rd : S2) (s_tr : S2) (s_dr : S2) (p1 : Int32) : Option (S2 × S2) :=
  (fX2_copyFrom s_tr s_rd).bind fun v1 =>
  (fX2_hasSignpost v1 p1).bind fun v2 =>
  if v2 = (0 : Int32) then
    (fX8_driveIfTurned_30 s_cc s_rd v1 s_dr)
  else
    ((fX2_turnSignpost v1 p1).bind fun v5 =>
    fX8_driveIfTurned_30 s_cc s_rd v5 s_dr)
theorem hdX8_driveIfTurned : yX8_driveIfTurned.cls = RX8 ∧ yX8_driveIfTurned.cls ≠ "java/lang/invoke/MethodHandle" ∧ yX8_driveIfTurned.cls ≠ "java/lang/invoke/VarHandle" ∧ (parseMethodDescriptor yX8_driveIfTurned.desc).map (fun d => d.parameters.length) = some 1 := by decide +kernel
theorem iwX8_driveIfTurned_X8 : ∀ w ∈ wsX80, w ∈ wsX8_driveIfTurned := by decide +kernel
theorem lkX8_driveIfTurned_f32 : Cond.fieldLink RX8 32 "CoachCourt" "trial" "LCoachCourt$Road;" ∈ wsX8_driveIfTurned := by decide +kernel
theorem lkX8_driveIfTurned_f28 : Cond.fieldLink RX8 28 "CoachCourt" "road" "LCoachCourt$Road;" ∈ wsX8_driveIfTurned := by decide +kernel
theorem lkX8_driveIfTurned_f38 : Cond.fieldLink RX8 38 "CoachCourt" "drive" "LCoachCourt$Drive;" ∈ wsX8_driveIfTurned := by decide +kernel
set_option maxHeartbeats 4000000 in
set_option maxRecDepth 100000 in
theorem wX8_driveIfTurned_30 {p : Program} {l : Launch} {e : Env} {s : State} {m : MethodId} {args : Array Value} {below : List Frame} {meth : Method} {c : Code} {D : va_G} {t : Nat → ClassId} {κ : Nat → Nat} {A : Nat → Prop} {a_cc : Nat → Nat} {y_cc_tape : Nat} {y_cc_teller : Nat} {y_cc_seeker : Nat} {y_cc_seen : Nat} {y_cc_images : Nat} {y_cc_sheets : Nat} {a_rd : Nat → Nat} {a_tr : Nat → Nat} {a_dr : Nat → Nat} {s_cc : S2} {s_rd : S2} {s_tr : S2} {s_dr : S2} {out : S2 × S2} (C : Cxt p s m args meth c cX8_driveIfTurned 2 RX8 wsX8_driveIfTurned none D t κ A) (hf : fX8_driveIfTurned_30 s_cc s_rd s_tr s_dr = some out) : ∀ (H : Heap) (locs : List Loc) (ls : Array Slot), va_P D vwCl ((wCC t a_cc y_cc_tape y_cc_teller (a_rd 0) (a_tr 0) (a_dr 0) y_cc_seeker y_cc_seen y_cc_images y_cc_sheets s_cc) ++ (wRoad t a_rd s_rd) ++ (wRoad t a_tr s_tr) ++ (wDrive t a_dr s_dr)) H → va_D A ((wCC t a_cc y_cc_tape y_cc_teller (a_rd 0) (a_tr 0) (a_dr 0) y_cc_seeker y_cc_seen y_cc_images y_cc_sheets s_cc) ++ (wRoad t a_rd s_rd) ++ (wRoad t a_tr s_tr) ++ (wDrive t a_dr s_dr)) → va_S A s.heap H locs → lv_has ls 2 [(0, .ref (a_cc 0))] → W p l e (rmL 4) s m args below meth c H locs 0 0 (MQ below (gQ D none ((wCC t a_cc y_cc_tape y_cc_teller (a_rd 0) (a_tr 0) (a_dr 0) y_cc_seeker y_cc_seen y_cc_images y_cc_sheets s_cc) ++ (wRoad t a_rd s_rd) ++ (wRoad t a_tr out.1) ++ (wDrive t a_dr out.2)) A) args s 0 0 A) (F0 m 30 ls []) := by
  obtain ⟨hx, hb, hr, hml, hown, hts, hC0, hlk, hA⟩ := id C
  have hK := hC0.1
  intro H locs ls hP hD hS hl
  unfold fX8_driveIfTurned_30 at hf
  refine lv_aload_n hx hb dX8_driveIfTurned_30 rfl (lv_at hl 0 rfl) ?_
  refine va_get (D := D) (ci := 8) (v := .ref (a_dr 0)) (C := RX8) (T := TX8) (N := 11) hx hb hts iwX8_driveIfTurned_X8 hown hK hP 0 rfl rfl 4 (by decide) (hts _ lkX8_driveIfTurned_f38) (fun _ h9 => h9) rfl dX8_driveIfTurned_31 ?_
  refine lv_aload_n hx hb dX8_driveIfTurned_34 rfl (lv_at hl 0 rfl) ?_
  refine va_get (D := D) (ci := 8) (v := .ref (a_tr 0)) (C := RX8) (T := TX8) (N := 11) hx hb hts iwX8_driveIfTurned_X8 hown hK hP 0 rfl rfl 3 (by decide) (hts _ lkX8_driveIfTurned_f32) (fun _ h9 => h9) rfl dX8_driveIfTurned_35 ?_
  obtain ⟨v4, ev4, hf⟩ := bd_some hf
  refine gk_V C (As := [.ref (a_tr 0)]) (rest := []) (ci := 0) (q := (RX0, TX0, 7)) (q0 := 0) (wr := ((wCC t a_cc y_cc_tape y_cc_teller (a_rd 0) (a_tr 0) (a_dr 0) y_cc_seeker y_cc_seen y_cc_images y_cc_sheets s_cc) ++ (wRoad t a_rd s_rd))) (wf := ((wCC t a_cc y_cc_tape y_cc_teller (a_rd 0) (a_tr 0) (a_dr 0) y_cc_seeker y_cc_seen y_cc_images y_cc_sheets s_cc) ++ (wRoad t a_rd s_rd) ++ (wRoad t a_tr s_tr) ++ (wDrive t a_dr v4))) (cX0_run_ok (l := l) (D := D) (t := t) (κ := κ) (a_dr := a_dr) (a_rd := a_tr) ev4) gX8_driveIfTurned_X0_run rfl ⟨rfl, rfl⟩ hdX0_run ⟨Nat.le_of_ble_eq_true rfl, Nat.le_of_ble_eq_true rfl⟩ rfl rfl hP hD hS [20, 21, 22, 23, 24, 25, 11, 12, 13, 14, 15, 16, 17, 18, 19] [0, 1, 2, 3, 4, 5, 6, 7, 8, 9, 10] [0, 1, 2, 3, 4, 5, 6, 7, 8, 9, 10, 17, 18, 19, 20, 21, 22, 23, 24, 25, 11, 12, 13, 14, 15, 16] rfl rfl rfl rfl (by decide) rfl rfl rfl hl.1 (Nat.le_of_ble_eq_true rfl) dX8_driveIfTurned_38 (Nat.zero_le _) (Nat.zero_le _) (fun H locs hP hD hS => ?_)
  refine W.eq (g2 := F0 m 41 ls []) rfl ?_
  obtain rfl := so_eq hf
  exact g_vret C hP hD hS dX8_driveIfTurned_41
set_option maxHeartbeats 4000000 in
set_option maxRecDepth 100000 in
theorem cX8_driveIfTurned_ok {l : Launch} {D : va_G} {t : Nat → ClassId} {κ : Nat → Nat} {a_cc : Nat → Nat} {y_cc_tape : Nat} {y_cc_teller : Nat} {y_cc_seeker : Nat} {y_cc_seen : Nat} {y_cc_images : Nat} {y_cc_sheets : Nat} {a_rd : Nat → Nat} {a_tr : Nat → Nat} {a_dr : Nat → Nat} {s_cc : S2} {s_rd : S2} {s_tr : S2} {s_dr : S2} {p1 : Int32} {out : S2 × S2} (hf : fX8_driveIfTurned s_cc s_rd s_tr s_dr p1 = some out) : Ct l D t κ yX8_driveIfTurned wsX8_driveIfTurned (rmL 4) [.ref (a_cc 0), .int p1] ((wCC t a_cc y_cc_tape y_cc_teller (a_rd 0) (a_tr 0) (a_dr 0) y_cc_seeker y_cc_seen y_cc_images y_cc_sheets s_cc) ++ (wRoad t a_rd s_rd) ++ (wRoad t a_tr s_tr) ++ (wDrive t a_dr s_dr)) none ((wCC t a_cc y_cc_tape y_cc_teller (a_rd 0) (a_tr 0) (a_dr 0) y_cc_seeker y_cc_seen y_cc_images y_cc_sheets s_cc) ++ (wRoad t a_rd s_rd) ++ (wRoad t a_tr out.1) ++ (wDrive t a_dr out.2)) := by
  refine Ct.ofW (own := RX8) (cc := cX8_driveIfTurned) (maxL := 2) (ret := none) (by decide) rfl rfl (Nat.le_of_ble_eq_true rfl) ?_
  intro p e s m below meth c A C hP hD ls hl
  have hS : va_S A s.heap s.heap [] := va_S.rf
  obtain ⟨hx, hb, hr, hml, hown, hts, hC0, hlk, hA⟩ := id C
  have hK := hC0.1
  have hl : lv_has ls 2 [(0, .ref (a_cc 0)), (1, .int p1)] := hl
  unfold fX8_driveIfTurned at hf
  refine lv_aload_n hx hb dX8_driveIfTurned_0 rfl (lv_at hl 0 rfl) ?_
  refine va_get (D := D) (ci := 8) (v := .ref (a_tr 0)) (C := RX8) (T := TX8) (N := 11) hx hb hts iwX8_driveIfTurned_X8 hown hK hP 0 rfl rfl 3 (by decide) (hts _ lkX8_driveIfTurned_f32) (fun _ h9 => h9) rfl dX8_driveIfTurned_1 ?_
  refine lv_aload_n hx hb dX8_driveIfTurned_4 rfl (lv_at hl 0 rfl) ?_
  refine va_get (D := D) (ci := 8) (v := .ref (a_rd 0)) (C := RX8) (T := TX8) (N := 11) hx hb hts iwX8_driveIfTurned_X8 hown hK hP 0 rfl rfl 2 (by decide) (hts _ lkX8_driveIfTurned_f28) (fun _ h9 => h9) rfl dX8_driveIfTurned_5 ?_
  obtain ⟨v1, ev1, hf⟩ := bd_some hf
  refine gk_V C (As := [.ref (a_rd 0)]) (rest := []) (ci := 2) (q := (RX2, TX2, 12)) (q0 := 0) (wr := ((wCC t a_cc y_cc_tape y_cc_teller (a_rd 0) (a_tr 0) (a_dr 0) y_cc_seeker y_cc_seen y_cc_images y_cc_sheets s_cc) ++ (wDrive t a_dr s_dr))) (wf := ((wCC t a_cc y_cc_tape y_cc_teller (a_rd 0) (a_tr 0) (a_dr 0) y_cc_seeker y_cc_seen y_cc_images y_cc_sheets s_cc) ++ (wRoad t a_rd s_rd) ++ (wRoad t a_tr v1) ++ (wDrive t a_dr s_dr))) (cX2_copyFrom_ok (l := l) (D := D) (t := t) (κ := κ) (a_rd := a_tr) (a_ro := a_rd) ev1) gX8_driveIfTurned_X2_copyFrom rfl ⟨rfl, rfl⟩ hdX2_copyFrom ⟨Nat.le_of_ble_eq_true rfl, Nat.le_of_ble_eq_true rfl⟩ rfl rfl hP hD hS [11, 12, 13, 14, 15, 16, 17, 18, 19, 2, 3, 4, 5, 6, 7, 8, 9, 10] [0, 1, 20, 21, 22, 23, 24, 25] [0, 1, 17, 18, 19, 20, 21, 22, 23, 24, 25, 8, 9, 10, 11, 12, 13, 14, 15, 16, 2, 3, 4, 5, 6, 7] rfl rfl rfl rfl (by decide) rfl rfl rfl hl.1 (Nat.le_of_ble_eq_true rfl) dX8_driveIfTurned_8 (Nat.zero_le _) (Nat.zero_le _) (fun H locs hP hD hS => ?_)
  refine W.eq (g2 := F0 m 11 ls []) rfl ?_
  refine lv_aload_n hx hb dX8_driveIfTurned_11 rfl (lv_at hl 0 rfl) ?_
  refine va_get (D := D) (ci := 8) (v := .ref (a_tr 0)) (C := RX8) (T := TX8) (N := 11) hx hb hts iwX8_driveIfTurned_X8 hown hK hP 0 rfl rfl 3 (by decide) (hts _ lkX8_driveIfTurned_f32) (fun _ h9 => h9) rfl dX8_driveIfTurned_12 ?_
  refine lv_iload_n hx hb dX8_driveIfTurned_15 rfl (lv_at hl 1 rfl) ?_
  obtain ⟨v2, ev2, hf⟩ := bd_some hf
  refine gk_V C (As := [.int p1]) (rest := []) (ci := 2) (q := (RX2, TX2, 12)) (q0 := 0) (wr := ((wCC t a_cc y_cc_tape y_cc_teller (a_rd 0) (a_tr 0) (a_dr 0) y_cc_seeker y_cc_seen y_cc_images y_cc_sheets s_cc) ++ (wRoad t a_rd s_rd) ++ (wDrive t a_dr s_dr))) (wf := ((wCC t a_cc y_cc_tape y_cc_teller (a_rd 0) (a_tr 0) (a_dr 0) y_cc_seeker y_cc_seen y_cc_images y_cc_sheets s_cc) ++ (wRoad t a_rd s_rd) ++ (wRoad t a_tr v1) ++ (wDrive t a_dr s_dr))) (cX2_hasSignpost_ok (l := l) (D := D) (t := t) (κ := κ) (a_rd := a_tr) ev2) gX8_driveIfTurned_X2_hasSignpost rfl ⟨rfl, rfl⟩ hdX2_hasSignpost ⟨Nat.le_of_ble_eq_true rfl, Nat.le_of_ble_eq_true rfl⟩ rfl rfl hP hD hS [11, 12, 13, 14, 15, 16, 17, 18, 19] [0, 1, 2, 3, 4, 5, 6, 7, 8, 9, 10, 20, 21, 22, 23, 24, 25] [0, 1, 2, 3, 4, 5, 6, 7, 8, 9, 10, 17, 18, 19, 20, 21, 22, 23, 24, 25, 11, 12, 13, 14, 15, 16] rfl rfl rfl rfl (by decide) rfl rfl rfl hl.1 (Nat.le_of_ble_eq_true rfl) dX8_driveIfTurned_16 (Nat.zero_le _) (Nat.zero_le _) (fun H locs hP hD hS => ?_)
  refine W.eq (g2 := F0 m 19 ls [.int v2]) rfl ?_
  refine lv_if_eq (tgt := 30) hx hb dX8_driveIfTurned_19 (by decide) (fun c3 => ?_) (fun c3 => ?_)
  · rw [if_pos c3] at hf
    exact wX8_driveIfTurned_30 C hf _ _ _ hP hD hS (lv_sub hl [0] rfl)
  · rw [if_neg c3] at hf
    refine lv_aload_n hx hb dX8_driveIfTurned_22 rfl (lv_at hl 0 rfl) ?_
    refine va_get (D := D) (ci := 8) (v := .ref (a_tr 0)) (C := RX8) (T := TX8) (N := 11) hx hb hts iwX8_driveIfTurned_X8 hown hK hP 0 rfl rfl 3 (by decide) (hts _ lkX8_driveIfTurned_f32) (fun _ h9 => h9) rfl dX8_driveIfTurned_23 ?_
    refine lv_iload_n hx hb dX8_driveIfTurned_26 rfl (lv_at hl 1 rfl) ?_
    obtain ⟨v5, ev5, hf⟩ := bd_some hf
    refine gk_V C (As := [.int p1]) (rest := []) (ci := 2) (q := (RX2, TX2, 12)) (q0 := 0) (wr := ((wCC t a_cc y_cc_tape y_cc_teller (a_rd 0) (a_tr 0) (a_dr 0) y_cc_seeker y_cc_seen y_cc_images y_cc_sheets s_cc) ++ (wRoad t a_rd s_rd) ++ (wDrive t a_dr s_dr))) (wf := ((wCC t a_cc y_cc_tape y_cc_teller (a_rd 0) (a_tr 0) (a_dr 0) y_cc_seeker y_cc_seen y_cc_images y_cc_sheets s_cc) ++ (wRoad t a_rd s_rd) ++ (wRoad t a_tr v5) ++ (wDrive t a_dr s_dr))) (cX2_turnSignpost_ok (l := l) (D := D) (t := t) (κ := κ) (a_rd := a_tr) ev5) gX8_driveIfTurned_X2_turnSignpost rfl ⟨rfl, rfl⟩ hdX2_turnSignpost ⟨Nat.le_of_ble_eq_true rfl, Nat.le_of_ble_eq_true rfl⟩ rfl rfl hP hD hS [11, 12, 13, 14, 15, 16, 17, 18, 19] [0, 1, 2, 3, 4, 5, 6, 7, 8, 9, 10, 20, 21, 22, 23, 24, 25] [0, 1, 2, 3, 4, 5, 6, 7, 8, 9, 10, 17, 18, 19, 20, 21, 22, 23, 24, 25, 11, 12, 13, 14, 15, 16] rfl rfl rfl rfl (by decide) rfl rfl rfl hl.1 (Nat.le_of_ble_eq_true rfl) dX8_driveIfTurned_27 (Nat.zero_le _) (Nat.zero_le _) (fun H locs hP hD hS => ?_)
    refine W.eq (g2 := F0 m 30 ls []) rfl ?_
    exact wX8_driveIfTurned_30 C hf _ _ _ hP hD hS (lv_sub hl [0] rfl)
/-! CoachCourt.mostLeftBy -/
def fX8_mostLeftBy_b2 (s_cc : S2) (s_rd : S2) (s_tr : S2) (s_dr : S2) (x1 : Int32) (x2 : Int32) (x3 : Int32) : Option ((Int32 × S2 × S2 × S2) ⊕ (Int32 × S2 × S2 × S2)) :=
  if (9 : Int32) ≤ x3 then
    (some (.inr (x3, s_cc, s_tr, s_dr)))
  else
    (gd (ixb x3 9) <|
    nm (sE s_cc 1 (Int32.toNatClampNeg x3) (0 : Int32)) fun s3 =>
    nm (x3 + (1 : Int32)) fun y4 =>
    some (.inl (y4, s3, s_tr, s_dr)))
def fX8_mostLeftBy_80 (s_cc : S2) (s_rd : S2) (s_tr : S2) (s_dr : S2) (x1 : Int32) (x2 : Int32) (x3 : Int32) (x4 : Int32) (k0 : Int32) : Option ((Int32 × Int32 × S2 × S2 × S2) ⊕ (Int32 × Int32 × S2 × S2 × S2)) :=
  gd (ixb k0 9) <|
  nm (sE s_cc 1 (Int32.toNatClampNeg k0) ((s_cc 1 (Int32.toNatClampNeg k0)) + (1 : Int32))) fun s15 =>
  nm (if x3 < (s15 1 (Int32.toNatClampNeg k0)) then (s15 1 (Int32.toNatClampNeg k0)) else x3) fun y16 =>
  nm (x4 + (1 : Int32)) fun y17 =>
  some (.inl (y16, y17, s15, s_tr, s_dr))
def fX8_mostLeftBy_b29 (s_cc : S2) (s_rd : S2) (s_tr : S2) (s_dr : S2) (x1 : Int32) (x2 : Int32) (x3 : Int32) (x4 : Int32) : Option ((Int32 × Int32 × S2 × S2 × S2) ⊕ (Int32 × Int32 × S2 × S2 × S2)) :=
  if (8 : Int32) < x4 then
    (some (.inr (x3, x4, s_cc, s_tr, s_dr)))
  else
    (if ((x2 >>> (x4 &&& 31)) &&& (1 : Int32)) = (0 : Int32) then
      (nm (x4 + (1 : Int32)) fun y8 =>
      some (.inl (x3, y8, s_cc, s_tr, s_dr)))
    else
      ((fX8_driveIfTurned s_cc s_rd s_tr s_dr x4).bind fun v9 =>
      gd (ixb x1 4) <|
      nm (v9.2 1 (Int32.toNatClampNeg x1)) fun y11 =>
      (fX8_within y11 (0 : Int32) (7 : Int32)).bind fun v12 =>
      if v12 = (0 : Int32) then
        (fX8_mostLeftBy_80 s_cc s_rd v9.1 v9.2 x1 x2 x3 x4 (8 : Int32))
      else
        (fX8_mostLeftBy_80 s_cc s_rd v9.1 v9.2 x1 x2 x3 x4 y11)))
def fX8_mostLeftBy (s_cc : S2) (s_rd : S2) (s_tr : S2) (s_dr : S2) (p1 : Int32) (p2 : Int32) : Option (Int32 × S2 × S2 × S2) :=
  (wh (fun (c : Int32 × S2 × S2 × S2) => fX8_mostLeftBy_b2 c.2.1 s_rd c.2.2.1 c.2.2.2 p1 p2 c.1) 5000 ((0 : Int32), s_cc, s_tr, s_dr)).bind fun x5 =>
  (wh (fun (c : Int32 × Int32 × S2 × S2 × S2) => fX8_mostLeftBy_b29 c.2.2.1 s_rd c.2.2.2.1 c.2.2.2.2 p1 p2 c.1 c.2.1) 5000 ((0 : Int32), (0 : Int32), x5.2.1, x5.2.2.1, x5.2.2.2)).bind fun x18 =>
  some (x18.1, x18.2.2.1, x18.2.2.2.1, x18.2.2.2.2)
theorem hdX8_mostLeftBy : yX8_mostLeftBy.cls = RX8 ∧ yX8_mostLeftBy.cls ≠ "java/lang/invoke/MethodHandle" ∧ yX8_mostLeftBy.cls ≠ "java/lang/invoke/VarHandle" ∧ (parseMethodDescriptor yX8_mostLeftBy.desc).map (fun d => d.parameters.length) = some 2 := by decide +kernel
theorem iwX8_mostLeftBy_X8 : ∀ w ∈ wsX80, w ∈ wsX8_mostLeftBy := by decide +kernel
theorem lkX8_mostLeftBy_f72 : Cond.fieldLink RX8 72 "CoachCourt" "tally" "[I" ∈ wsX8_mostLeftBy := by decide +kernel
theorem lkX8_mostLeftBy_f38 : Cond.fieldLink RX8 38 "CoachCourt" "drive" "LCoachCourt$Drive;" ∈ wsX8_mostLeftBy := by decide +kernel
theorem iwX8_mostLeftBy_X0 : ∀ w ∈ wsX00, w ∈ wsX8_mostLeftBy := by decide +kernel
theorem lkX8_mostLeftBy_mm318 : Cond.methodLink RX8 318 Lib.Math.max.name ∈ wsX8_mostLeftBy := by decide +kernel
theorem lkX8_mostLeftBy_ms : Cond.static Lib.Math.max.name ∈ wsX8_mostLeftBy := by decide +kernel
theorem lkX8_mostLeftBy_mi : Cond.initialized "java/lang/Math" ∈ wsX8_mostLeftBy := by decide +kernel
theorem lkX8_mostLeftBy_mc : Cond.code Lib.Math.max.name Lib.Math.max.code 2 (some .int) ∈ wsX8_mostLeftBy := by decide +kernel
set_option maxHeartbeats 4000000 in
set_option maxRecDepth 100000 in
theorem wX8_mostLeftBy_l2 {p : Program} {l : Launch} {e : Env} {s : State} {m : MethodId} {args : Array Value} {below : List Frame} {meth : Method} {c : Code} {D : va_G} {t : Nat → ClassId} {κ : Nat → Nat} {A : Nat → Prop} {a_cc : Nat → Nat} {y_cc_tape : Nat} {y_cc_teller : Nat} {y_cc_seeker : Nat} {y_cc_seen : Nat} {y_cc_images : Nat} {y_cc_sheets : Nat} {a_rd : Nat → Nat} {a_tr : Nat → Nat} {a_dr : Nat → Nat} {s_rd : S2} {x1 : Int32} {x2 : Int32} {rv : Option Value} {w1 : va_W} (C : Cxt p s m args meth c cX8_mostLeftBy 7 RX8 wsX8_mostLeftBy (some .int) D t κ A) : ∀ (n : Nat) (x3 : Int32) (s_cc : S2) (s_tr : S2) (s_dr : S2) (x : Int32 × S2 × S2 × S2), wh (fun (c : Int32 × S2 × S2 × S2) => fX8_mostLeftBy_b2 c.2.1 s_rd c.2.2.1 c.2.2.2 x1 x2 c.1) n (x3, s_cc, s_tr, s_dr) = some x → (∀ (z : Int32 × S2 × S2 × S2), x = z → ∀ (H : Heap) (locs : List Loc) (ls : Array Slot), va_P D vwCl ((wCC t a_cc y_cc_tape y_cc_teller (a_rd 0) (a_tr 0) (a_dr 0) y_cc_seeker y_cc_seen y_cc_images y_cc_sheets z.2.1) ++ (wRoad t a_rd s_rd) ++ (wRoad t a_tr z.2.2.1) ++ (wDrive t a_dr z.2.2.2)) H → va_D A ((wCC t a_cc y_cc_tape y_cc_teller (a_rd 0) (a_tr 0) (a_dr 0) y_cc_seeker y_cc_seen y_cc_images y_cc_sheets z.2.1) ++ (wRoad t a_rd s_rd) ++ (wRoad t a_tr z.2.2.1) ++ (wDrive t a_dr z.2.2.2)) → va_S A s.heap H locs → lv_has ls 7 [(0, .ref (a_cc 0)), (1, .int x1), (2, .int x2)] → W p l e (rmL 5) s m args below meth c H locs 0 0 (MQ below (gQ D rv w1 A) args s 0 0 A) (F0 m 24 ls [])) → ∀ (H : Heap) (locs : List Loc) (ls : Array Slot), va_P D vwCl ((wCC t a_cc y_cc_tape y_cc_teller (a_rd 0) (a_tr 0) (a_dr 0) y_cc_seeker y_cc_seen y_cc_images y_cc_sheets s_cc) ++ (wRoad t a_rd s_rd) ++ (wRoad t a_tr s_tr) ++ (wDrive t a_dr s_dr)) H → va_D A ((wCC t a_cc y_cc_tape y_cc_teller (a_rd 0) (a_tr 0) (a_dr 0) y_cc_seeker y_cc_seen y_cc_images y_cc_sheets s_cc) ++ (wRoad t a_rd s_rd) ++ (wRoad t a_tr s_tr) ++ (wDrive t a_dr s_dr)) → va_S A s.heap H locs → lv_has ls 7 [(0, .ref (a_cc 0)), (1, .int x1), (2, .int x2), (3, .int x3)] → W p l e (rmL 5) s m args below meth c H locs 0 0 (MQ below (gQ D rv w1 A) args s 0 0 A) (F0 m 2 ls []) := by
  obtain ⟨hx, hb, hr, hml, hown, hts, hC0, hlk, hA⟩ := id C
  have hK := hC0.1
  intro n
  induction n with
  | zero =>
    intro x3 s_cc s_tr s_dr x h
    exact (wh_0 h).elim
  | succ n ih =>
    intro x3 s_cc s_tr s_dr x h HX H locs ls hP hD hS hl
    obtain ⟨v, hf, hB, hX⟩ := wh_step h
    have hf : fX8_mostLeftBy_b2 s_cc s_rd s_tr s_dr x1 x2 x3 = some v := hf
    have HB : ∀ (z : Int32 × S2 × S2 × S2), v = .inl z → ∀ (H : Heap) (locs : List Loc) (ls : Array Slot), va_P D vwCl ((wCC t a_cc y_cc_tape y_cc_teller (a_rd 0) (a_tr 0) (a_dr 0) y_cc_seeker y_cc_seen y_cc_images y_cc_sheets z.2.1) ++ (wRoad t a_rd s_rd) ++ (wRoad t a_tr z.2.2.1) ++ (wDrive t a_dr z.2.2.2)) H → va_D A ((wCC t a_cc y_cc_tape y_cc_teller (a_rd 0) (a_tr 0) (a_dr 0) y_cc_seeker y_cc_seen y_cc_images y_cc_sheets z.2.1) ++ (wRoad t a_rd s_rd) ++ (wRoad t a_tr z.2.2.1) ++ (wDrive t a_dr z.2.2.2)) → va_S A s.heap H locs → lv_has ls 7 [(0, .ref (a_cc 0)), (1, .int x1), (2, .int x2), (3, .int z.1)] → W p l e (rmL 5) s m args below meth c H locs 0 0 (MQ below (gQ D rv w1 A) args s 0 0 A) (F0 m 2 ls []) := fun z hz H locs ls hP hD hS hl => ih z.1 z.2.1 z.2.2.1 z.2.2.2 x (hB z hz) HX H locs ls hP hD hS hl
    have HX : ∀ (z : Int32 × S2 × S2 × S2), v = .inr z → ∀ (H : Heap) (locs : List Loc) (ls : Array Slot), va_P D vwCl ((wCC t a_cc y_cc_tape y_cc_teller (a_rd 0) (a_tr 0) (a_dr 0) y_cc_seeker y_cc_seen y_cc_images y_cc_sheets z.2.1) ++ (wRoad t a_rd s_rd) ++ (wRoad t a_tr z.2.2.1) ++ (wDrive t a_dr z.2.2.2)) H → va_D A ((wCC t a_cc y_cc_tape y_cc_teller (a_rd 0) (a_tr 0) (a_dr 0) y_cc_seeker y_cc_seen y_cc_images y_cc_sheets z.2.1) ++ (wRoad t a_rd s_rd) ++ (wRoad t a_tr z.2.2.1) ++ (wDrive t a_dr z.2.2.2)) → va_S A s.heap H locs → lv_has ls 7 [(0, .ref (a_cc 0)), (1, .int x1), (2, .int x2)] → W p l e (rmL 5) s m args below meth c H locs 0 0 (MQ below (gQ D rv w1 A) args s 0 0 A) (F0 m 24 ls []) := fun z hz => HX z (hX _ hz).symm
    unfold fX8_mostLeftBy_b2 at hf
    refine lv_iload_n hx hb dX8_mostLeftBy_2 rfl (lv_at hl 3 rfl) ?_
    refine lv_aload_n hx hb dX8_mostLeftBy_3 rfl (lv_at hl 0 rfl) ?_
    refine va_get (D := D) (ci := 8) (v := .ref (a_cc 1)) (C := RX8) (T := TX8) (N := 11) hx hb hts iwX8_mostLeftBy_X8 hown hK hP 0 rfl rfl 9 (by decide) (hts _ lkX8_mostLeftBy_f72) (fun _ h9 => h9) rfl dX8_mostLeftBy_4 ?_
    refine va_alen (v := 9) hx hb hK hP 1 0 rfl rfl rfl dX8_mostLeftBy_7 ?_
    refine lv_icmp_ge (tgt := 24) hx hb dX8_mostLeftBy_8 (by decide) (fun c1 => ?_) (fun c1 => ?_)
    · rw [if_pos c1] at hf
      obtain rfl := so_eq hf
      exact HX _ rfl _ _ _ hP hD hS (lv_sub hl [0, 1, 2] rfl)
    · rw [if_neg c1] at hf
      refine lv_aload_n hx hb dX8_mostLeftBy_11 rfl (lv_at hl 0 rfl) ?_
      refine va_get (D := D) (ci := 8) (v := .ref (a_cc 1)) (C := RX8) (T := TX8) (N := 11) hx hb hts iwX8_mostLeftBy_X8 hown hK hP 0 rfl rfl 9 (by decide) (hts _ lkX8_mostLeftBy_f72) (fun _ h9 => h9) rfl dX8_mostLeftBy_12 ?_
      refine lv_iload_n hx hb dX8_mostLeftBy_15 rfl (lv_at hl 3 rfl) ?_
      refine lv_iconst (v := 0) hx hb dX8_mostLeftBy_16 (by decide) ?_
      obtain ⟨b2, hf⟩ := gd_some hf
      obtain ⟨s3, hs3, hf⟩ := nm_ex hf
      refine va_iast hx hb hK hP hD hS 1 0 rfl rfl (ixb_in b2) dX8_mostLeftBy_17 (fun H locs hP hD hS => ?_)
      have hP : va_P D vwCl ((wCC t a_cc y_cc_tape y_cc_teller (a_rd 0) (a_tr 0) (a_dr 0) y_cc_seeker y_cc_seen y_cc_images y_cc_sheets s3) ++ (wRoad t a_rd s_rd) ++ (wRoad t a_tr s_tr) ++ (wDrive t a_dr s_dr)) H := by rw [hs3]; exact hP
      have hD : va_D A ((wCC t a_cc y_cc_tape y_cc_teller (a_rd 0) (a_tr 0) (a_dr 0) y_cc_seeker y_cc_seen y_cc_images y_cc_sheets s3) ++ (wRoad t a_rd s_rd) ++ (wRoad t a_tr s_tr) ++ (wDrive t a_dr s_dr)) := by rw [hs3]; exact hD
      obtain ⟨y4, hy4, hf⟩ := nm_ex hf
      refine lv_iinc (v := y4) (lv' := [(3, .int y4), (0, .ref (a_cc 0)), (1, .int x1), (2, .int x2)]) hx hb dX8_mostLeftBy_18 hl (k := 3) rfl (by rw [hy4]; rfl) (by decide) rfl (fun ls hl => ?_)
      refine lv_goto (tgt := 2) hx hb dX8_mostLeftBy_21 (by decide) ?_
      obtain rfl := so_eq hf
      exact HB _ rfl _ _ _ hP hD hS (lv_sub hl [1, 2, 3, 0] rfl)
set_option maxHeartbeats 4000000 in
set_option maxRecDepth 100000 in
theorem wX8_mostLeftBy_80 {p : Program} {l : Launch} {e : Env} {s : State} {m : MethodId} {args : Array Value} {below : List Frame} {meth : Method} {c : Code} {D : va_G} {t : Nat → ClassId} {κ : Nat → Nat} {A : Nat → Prop} {a_cc : Nat → Nat} {y_cc_tape : Nat} {y_cc_teller : Nat} {y_cc_seeker : Nat} {y_cc_seen : Nat} {y_cc_images : Nat} {y_cc_sheets : Nat} {a_rd : Nat → Nat} {a_tr : Nat → Nat} {a_dr : Nat → Nat} {s_cc : S2} {s_rd : S2} {s_tr : S2} {s_dr : S2} {x1 : Int32} {x2 : Int32} {x3 : Int32} {x4 : Int32} {k0 : Int32} {rv : Option Value} {w1 : va_W} {v : (Int32 × Int32 × S2 × S2 × S2) ⊕ (Int32 × Int32 × S2 × S2 × S2)} (C : Cxt p s m args meth c cX8_mostLeftBy 7 RX8 wsX8_mostLeftBy (some .int) D t κ A) (hf : fX8_mostLeftBy_80 s_cc s_rd s_tr s_dr x1 x2 x3 x4 k0 = some v) (HB : ∀ (z : Int32 × Int32 × S2 × S2 × S2), v = .inl z → ∀ (H : Heap) (locs : List Loc) (ls : Array Slot), va_P D vwCl ((wCC t a_cc y_cc_tape y_cc_teller (a_rd 0) (a_tr 0) (a_dr 0) y_cc_seeker y_cc_seen y_cc_images y_cc_sheets z.2.2.1) ++ (wRoad t a_rd s_rd) ++ (wRoad t a_tr z.2.2.2.1) ++ (wDrive t a_dr z.2.2.2.2)) H → va_D A ((wCC t a_cc y_cc_tape y_cc_teller (a_rd 0) (a_tr 0) (a_dr 0) y_cc_seeker y_cc_seen y_cc_images y_cc_sheets z.2.2.1) ++ (wRoad t a_rd s_rd) ++ (wRoad t a_tr z.2.2.2.1) ++ (wDrive t a_dr z.2.2.2.2)) → va_S A s.heap H locs → lv_has ls 7 [(0, .ref (a_cc 0)), (1, .int x1), (2, .int x2), (3, .int z.1), (4, .int z.2.1)] → W p l e (rmL 5) s m args below meth c H locs 0 0 (MQ below (gQ D rv w1 A) args s 0 0 A) (F0 m 29 ls [])) : ∀ (H : Heap) (locs : List Loc) (ls : Array Slot), va_P D vwCl ((wCC t a_cc y_cc_tape y_cc_teller (a_rd 0) (a_tr 0) (a_dr 0) y_cc_seeker y_cc_seen y_cc_images y_cc_sheets s_cc) ++ (wRoad t a_rd s_rd) ++ (wRoad t a_tr s_tr) ++ (wDrive t a_dr s_dr)) H → va_D A ((wCC t a_cc y_cc_tape y_cc_teller (a_rd 0) (a_tr 0) (a_dr 0) y_cc_seeker y_cc_seen y_cc_images y_cc_sheets s_cc) ++ (wRoad t a_rd s_rd) ++ (wRoad t a_tr s_tr) ++ (wDrive t a_dr s_dr)) → va_S A s.heap H locs → lv_has ls 7 [(0, .ref (a_cc 0)), (1, .int x1), (2, .int x2), (3, .int x3), (4, .int x4)] → W p l e (rmL 5) s m args below meth c H locs 0 0 (MQ below (gQ D rv w1 A) args s 0 0 A) (F0 m 80 ls [.int k0]) := by
  obtain ⟨hx, hb, hr, hml, hown, hts, hC0, hlk, hA⟩ := id C
  have hK := hC0.1
  intro H locs ls hP hD hS hl
  unfold fX8_mostLeftBy_80 at hf
  refine lv_istore (lv' := [(6, .int k0), (0, .ref (a_cc 0)), (1, .int x1), (2, .int x2), (3, .int x3), (4, .int x4)]) hx hb dX8_mostLeftBy_80 hl (by decide) rfl (fun ls hl => ?_)
  refine lv_aload_n hx hb dX8_mostLeftBy_82 rfl (lv_at hl 1 rfl) ?_
  refine va_get (D := D) (ci := 8) (v := .ref (a_cc 1)) (C := RX8) (T := TX8) (N := 11) hx hb hts iwX8_mostLeftBy_X8 hown hK hP 0 rfl rfl 9 (by decide) (hts _ lkX8_mostLeftBy_f72) (fun _ h9 => h9) rfl dX8_mostLeftBy_83 ?_
  refine lv_iload hx hb dX8_mostLeftBy_86 (lv_at hl 0 rfl) ?_
  refine lv_dup2_11 hx hb dX8_mostLeftBy_88 rfl rfl ?_
  obtain ⟨b14, hf⟩ := gd_some hf
  refine va_iald hx hb hK hP 1 0 rfl rfl (ixb_in b14) dX8_mostLeftBy_89 ?_
  refine lv_iconst (v := 1) hx hb dX8_mostLeftBy_90 (by decide) ?_
  refine lv_iadd hx hb dX8_mostLeftBy_91 ?_
  obtain ⟨s15, hs15, hf⟩ := nm_ex hf
  refine va_iast hx hb hK hP hD hS 1 0 rfl rfl (ixb_in b14) dX8_mostLeftBy_92 (fun H locs hP hD hS => ?_)
  have hP : va_P D vwCl ((wCC t a_cc y_cc_tape y_cc_teller (a_rd 0) (a_tr 0) (a_dr 0) y_cc_seeker y_cc_seen y_cc_images y_cc_sheets s15) ++ (wRoad t a_rd s_rd) ++ (wRoad t a_tr s_tr) ++ (wDrive t a_dr s_dr)) H := by rw [hs15]; exact hP
  have hD : va_D A ((wCC t a_cc y_cc_tape y_cc_teller (a_rd 0) (a_tr 0) (a_dr 0) y_cc_seeker y_cc_seen y_cc_images y_cc_sheets s15) ++ (wRoad t a_rd s_rd) ++ (wRoad t a_tr s_tr) ++ (wDrive t a_dr s_dr)) := by rw [hs15]; exact hD
  refine lv_iload_n hx hb dX8_mostLeftBy_93 rfl (lv_at hl 4 rfl) ?_
  refine lv_aload_n hx hb dX8_mostLeftBy_94 rfl (lv_at hl 1 rfl) ?_
  refine va_get (D := D) (ci := 8) (v := .ref (a_cc 1)) (C := RX8) (T := TX8) (N := 11) hx hb hts iwX8_mostLeftBy_X8 hown hK hP 0 rfl rfl 9 (by decide) (hts _ lkX8_mostLeftBy_f72) (fun _ h9 => h9) rfl dX8_mostLeftBy_95 ?_
  refine lv_iload hx hb dX8_mostLeftBy_98 (lv_at hl 0 rfl) ?_
  refine va_iald hx hb hK hP 1 0 rfl rfl (ixb_in b14) dX8_mostLeftBy_100 ?_
  refine va_mmax hx hb (hml.trans hl.1.symm) hown (hts _ lkX8_mostLeftBy_mm318) (hts _ lkX8_mostLeftBy_ms) (hts _ lkX8_mostLeftBy_mi) (hts _ lkX8_mostLeftBy_mc) (Nat.le_of_ble_eq_true rfl) (Nat.le_of_ble_eq_true rfl) (Nat.zero_le _) (Nat.zero_le _) dX8_mostLeftBy_101 ?_
  obtain ⟨y16, hy16, hf⟩ := nm_ex hf
  refine W.eq (g2 := F0 m 104 ls [.int y16]) (by rw [hy16]) ?_
  refine lv_istore_n (lv' := [(3, .int y16), (6, .int k0), (0, .ref (a_cc 0)), (1, .int x1), (2, .int x2), (4, .int x4)]) hx hb dX8_mostLeftBy_104 rfl hl (by decide) rfl (fun ls hl => ?_)
  obtain ⟨y17, hy17, hf⟩ := nm_ex hf
  refine lv_iinc (v := y17) (lv' := [(4, .int y17), (3, .int y16), (6, .int k0), (0, .ref (a_cc 0)), (1, .int x1), (2, .int x2)]) hx hb dX8_mostLeftBy_105 hl (k := 5) rfl (by rw [hy17]; rfl) (by decide) rfl (fun ls hl => ?_)
  refine lv_goto (tgt := 29) hx hb dX8_mostLeftBy_108 (by decide) ?_
  obtain rfl := so_eq hf
  exact HB _ rfl _ _ _ hP hD hS (lv_sub hl [3, 4, 5, 1, 0] rfl)
set_option maxHeartbeats 4000000 in
set_option maxRecDepth 100000 in
theorem wX8_mostLeftBy_l29 {p : Program} {l : Launch} {e : Env} {s : State} {m : MethodId} {args : Array Value} {below : List Frame} {meth : Method} {c : Code} {D : va_G} {t : Nat → ClassId} {κ : Nat → Nat} {A : Nat → Prop} {a_cc : Nat → Nat} {y_cc_tape : Nat} {y_cc_teller : Nat} {y_cc_seeker : Nat} {y_cc_seen : Nat} {y_cc_images : Nat} {y_cc_sheets : Nat} {a_rd : Nat → Nat} {a_tr : Nat → Nat} {a_dr : Nat → Nat} {s_rd : S2} {x1 : Int32} {x2 : Int32} {rv : Option Value} {w1 : va_W} (C : Cxt p s m args meth c cX8_mostLeftBy 7 RX8 wsX8_mostLeftBy (some .int) D t κ A) : ∀ (n : Nat) (x3 : Int32) (x4 : Int32) (s_cc : S2) (s_tr : S2) (s_dr : S2) (x : Int32 × Int32 × S2 × S2 × S2), wh (fun (c : Int32 × Int32 × S2 × S2 × S2) => fX8_mostLeftBy_b29 c.2.2.1 s_rd c.2.2.2.1 c.2.2.2.2 x1 x2 c.1 c.2.1) n (x3, x4, s_cc, s_tr, s_dr) = some x → (∀ (z : Int32 × Int32 × S2 × S2 × S2), x = z → ∀ (H : Heap) (locs : List Loc) (ls : Array Slot), va_P D vwCl ((wCC t a_cc y_cc_tape y_cc_teller (a_rd 0) (a_tr 0) (a_dr 0) y_cc_seeker y_cc_seen y_cc_images y_cc_sheets z.2.2.1) ++ (wRoad t a_rd s_rd) ++ (wRoad t a_tr z.2.2.2.1) ++ (wDrive t a_dr z.2.2.2.2)) H → va_D A ((wCC t a_cc y_cc_tape y_cc_teller (a_rd 0) (a_tr 0) (a_dr 0) y_cc_seeker y_cc_seen y_cc_images y_cc_sheets z.2.2.1) ++ (wRoad t a_rd s_rd) ++ (wRoad t a_tr z.2.2.2.1) ++ (wDrive t a_dr z.2.2.2.2)) → va_S A s.heap H locs → lv_has ls 7 [(3, .int z.1)] → W p l e (rmL 5) s m args below meth c H locs 0 0 (MQ below (gQ D rv w1 A) args s 0 0 A) (F0 m 111 ls [])) → ∀ (H : Heap) (locs : List Loc) (ls : Array Slot), va_P D vwCl ((wCC t a_cc y_cc_tape y_cc_teller (a_rd 0) (a_tr 0) (a_dr 0) y_cc_seeker y_cc_seen y_cc_images y_cc_sheets s_cc) ++ (wRoad t a_rd s_rd) ++ (wRoad t a_tr s_tr) ++ (wDrive t a_dr s_dr)) H → va_D A ((wCC t a_cc y_cc_tape y_cc_teller (a_rd 0) (a_tr 0) (a_dr 0) y_cc_seeker y_cc_seen y_cc_images y_cc_sheets s_cc) ++ (wRoad t a_rd s_rd) ++ (wRoad t a_tr s_tr) ++ (wDrive t a_dr s_dr)) → va_S A s.heap H locs → lv_has ls 7 [(0, .ref (a_cc 0)), (1, .int x1), (2, .int x2), (3, .int x3), (4, .int x4)] → W p l e (rmL 5) s m args below meth c H locs 0 0 (MQ below (gQ D rv w1 A) args s 0 0 A) (F0 m 29 ls []) := by
  obtain ⟨hx, hb, hr, hml, hown, hts, hC0, hlk, hA⟩ := id C
  have hK := hC0.1
  intro n
  induction n with
  | zero =>
    intro x3 x4 s_cc s_tr s_dr x h
    exact (wh_0 h).elim
  | succ n ih =>
    intro x3 x4 s_cc s_tr s_dr x h HX H locs ls hP hD hS hl
    obtain ⟨v, hf, hB, hX⟩ := wh_step h
    have hf : fX8_mostLeftBy_b29 s_cc s_rd s_tr s_dr x1 x2 x3 x4 = some v := hf
    have HB : ∀ (z : Int32 × Int32 × S2 × S2 × S2), v = .inl z → ∀ (H : Heap) (locs : List Loc) (ls : Array Slot), va_P D vwCl ((wCC t a_cc y_cc_tape y_cc_teller (a_rd 0) (a_tr 0) (a_dr 0) y_cc_seeker y_cc_seen y_cc_images y_cc_sheets z.2.2.1) ++ (wRoad t a_rd s_rd) ++ (wRoad t a_tr z.2.2.2.1) ++ (wDrive t a_dr z.2.2.2.2)) H → va_D A ((wCC t a_cc y_cc_tape y_cc_teller (a_rd 0) (a_tr 0) (a_dr 0) y_cc_seeker y_cc_seen y_cc_images y_cc_sheets z.2.2.1) ++ (wRoad t a_rd s_rd) ++ (wRoad t a_tr z.2.2.2.1) ++ (wDrive t a_dr z.2.2.2.2)) → va_S A s.heap H locs → lv_has ls 7 [(0, .ref (a_cc 0)), (1, .int x1), (2, .int x2), (3, .int z.1), (4, .int z.2.1)] → W p l e (rmL 5) s m args below meth c H locs 0 0 (MQ below (gQ D rv w1 A) args s 0 0 A) (F0 m 29 ls []) := fun z hz H locs ls hP hD hS hl => ih z.1 z.2.1 z.2.2.1 z.2.2.2.1 z.2.2.2.2 x (hB z hz) HX H locs ls hP hD hS hl
    have HX : ∀ (z : Int32 × Int32 × S2 × S2 × S2), v = .inr z → ∀ (H : Heap) (locs : List Loc) (ls : Array Slot), va_P D vwCl ((wCC t a_cc y_cc_tape y_cc_teller (a_rd 0) (a_tr 0) (a_dr 0) y_cc_seeker y_cc_seen y_cc_images y_cc_sheets z.2.2.1) ++ (wRoad t a_rd s_rd) ++ (wRoad t a_tr z.2.2.2.1) ++ (wDrive t a_dr z.2.2.2.2)) H → va_D A ((wCC t a_cc y_cc_tape y_cc_teller (a_rd 0) (a_tr 0) (a_dr 0) y_cc_seeker y_cc_seen y_cc_images y_cc_sheets z.2.2.1) ++ (wRoad t a_rd s_rd) ++ (wRoad t a_tr z.2.2.2.1) ++ (wDrive t a_dr z.2.2.2.2)) → va_S A s.heap H locs → lv_has ls 7 [(3, .int z.1)] → W p l e (rmL 5) s m args below meth c H locs 0 0 (MQ below (gQ D rv w1 A) args s 0 0 A) (F0 m 111 ls []) := fun z hz => HX z (hX _ hz).symm
    unfold fX8_mostLeftBy_b29 at hf
    refine lv_iload hx hb dX8_mostLeftBy_29 (lv_at hl 4 rfl) ?_
    refine lv_bipush (v := 8) hx hb dX8_mostLeftBy_31 (by decide) ?_
    refine lv_icmp_gt (tgt := 111) hx hb dX8_mostLeftBy_33 (by decide) (fun c6 => ?_) (fun c6 => ?_)
    · rw [if_pos c6] at hf
      obtain rfl := so_eq hf
      exact HX _ rfl _ _ _ hP hD hS (lv_sub hl [3] rfl)
    · rw [if_neg c6] at hf
      refine lv_iload_n hx hb dX8_mostLeftBy_36 rfl (lv_at hl 2 rfl) ?_
      refine lv_iload hx hb dX8_mostLeftBy_37 (lv_at hl 4 rfl) ?_
      refine lv_ishr hx hb dX8_mostLeftBy_39 ?_
      refine lv_iconst (v := 1) hx hb dX8_mostLeftBy_40 (by decide) ?_
      refine lv_iand hx hb dX8_mostLeftBy_41 ?_
      refine lv_if_eq (tgt := 105) hx hb dX8_mostLeftBy_42 (by decide) (fun c7 => ?_) (fun c7 => ?_)
      · rw [if_pos c7] at hf
        obtain ⟨y8, hy8, hf⟩ := nm_ex hf
        refine lv_iinc (v := y8) (lv' := [(4, .int y8), (0, .ref (a_cc 0)), (1, .int x1), (2, .int x2), (3, .int x3)]) hx hb dX8_mostLeftBy_105 hl (k := 4) rfl (by rw [hy8]; rfl) (by decide) rfl (fun ls hl => ?_)
        refine lv_goto (tgt := 29) hx hb dX8_mostLeftBy_108 (by decide) ?_
        obtain rfl := so_eq hf
        exact HB _ rfl _ _ _ hP hD hS (lv_sub hl [1, 2, 3, 4, 0] rfl)
      · rw [if_neg c7] at hf
        refine lv_aload_n hx hb dX8_mostLeftBy_45 rfl (lv_at hl 0 rfl) ?_
        refine lv_iload hx hb dX8_mostLeftBy_46 (lv_at hl 4 rfl) ?_
        obtain ⟨v9, ev9, hf⟩ := bd_some hf
        refine gk_V0 C (As := [.int x4]) (rest := []) (ci := 8) (q := (RX8, TX8, 11)) (q0 := 0) (cX8_driveIfTurned_ok (l := l) (D := D) (t := t) (κ := κ) (a_cc := a_cc) (a_rd := a_rd) (a_tr := a_tr) (a_dr := a_dr) (y_cc_tape := y_cc_tape) (y_cc_teller := y_cc_teller) (y_cc_seeker := y_cc_seeker) (y_cc_seen := y_cc_seen) (y_cc_images := y_cc_images) (y_cc_sheets := y_cc_sheets) ev9) gX8_mostLeftBy_X8_driveIfTurned rfl ⟨rfl, rfl⟩ hdX8_driveIfTurned ⟨Nat.le_of_ble_eq_true rfl, Nat.le_of_ble_eq_true rfl⟩ rfl rfl hP hD hS rfl hl.1 (Nat.le_of_ble_eq_true rfl) dX8_mostLeftBy_48 (Nat.zero_le _) (Nat.zero_le _) (fun H locs hP hD hS => ?_)
        refine W.eq (g2 := F0 m 51 ls []) rfl ?_
        refine lv_aload_n hx hb dX8_mostLeftBy_51 rfl (lv_at hl 0 rfl) ?_
        refine va_get (D := D) (ci := 8) (v := .ref (a_dr 0)) (C := RX8) (T := TX8) (N := 11) hx hb hts iwX8_mostLeftBy_X8 hown hK hP 0 rfl rfl 4 (by decide) (hts _ lkX8_mostLeftBy_f38) (fun _ h9 => h9) rfl dX8_mostLeftBy_52 ?_
        refine va_getN (D := D) (ci := 0) (v := .ref (a_dr 1)) (C := RX0) (T := TX0) (N := 7) hx hb hts iwX8_mostLeftBy_X0 hown hK hP 20 rfl rfl 0 (by decide) (hC0.2.1.f 35 rfl) (fun _ h9 => h9) rfl dX8_mostLeftBy_55 ?_
        refine lv_iload_n hx hb dX8_mostLeftBy_58 rfl (lv_at hl 1 rfl) ?_
        obtain ⟨b10, hf⟩ := gd_some hf
        refine va_iald hx hb hK hP 21 0 rfl rfl (ixb_in b10) dX8_mostLeftBy_59 ?_
        obtain ⟨y11, hy11, hf⟩ := nm_ex hf
        refine W.eq (g2 := F0 m 60 ls [.int y11]) (by rw [hy11]) ?_
        refine lv_istore (lv' := [(5, .int y11), (0, .ref (a_cc 0)), (1, .int x1), (2, .int x2), (3, .int x3), (4, .int x4)]) hx hb dX8_mostLeftBy_60 hl (by decide) rfl (fun ls hl => ?_)
        refine lv_iload hx hb dX8_mostLeftBy_62 (lv_at hl 0 rfl) ?_
        refine lv_iconst (v := 0) hx hb dX8_mostLeftBy_64 (by decide) ?_
        refine lv_bipush (v := 7) hx hb dX8_mostLeftBy_65 (by decide) ?_
        obtain ⟨v12, ev12, hf⟩ := bd_some hf
        refine gk_S C (As := [.int y11, .int (0 : Int32), .int (7 : Int32)]) (rest := []) (cX8_within_ok (l := l) (D := D) (t := t) (κ := κ) ev12) gX8_mostLeftBy_X8_within rfl ⟨rfl, rfl⟩ hdX8_within ⟨Nat.le_of_ble_eq_true rfl, Nat.le_of_ble_eq_true rfl⟩ hP hD hS rfl hl.1 (Nat.le_of_ble_eq_true rfl) dX8_mostLeftBy_67 (Nat.zero_le _) (Nat.zero_le _) (fun H locs hP hD hS => ?_)
        refine W.eq (g2 := F0 m 70 ls [.int v12]) rfl ?_
        refine lv_if_eq (tgt := 78) hx hb dX8_mostLeftBy_70 (by decide) (fun c13 => ?_) (fun c13 => ?_)
        · rw [if_pos c13] at hf
          refine lv_bipush (v := 8) hx hb dX8_mostLeftBy_78 (by decide) ?_
          exact wX8_mostLeftBy_80 C hf HB _ _ _ hP hD hS (lv_sub hl [1, 2, 3, 4, 5] rfl)
        · rw [if_neg c13] at hf
          refine lv_iload hx hb dX8_mostLeftBy_73 (lv_at hl 0 rfl) ?_
          refine lv_goto (tgt := 80) hx hb dX8_mostLeftBy_75 (by decide) ?_
          exact wX8_mostLeftBy_80 C hf HB _ _ _ hP hD hS (lv_sub hl [1, 2, 3, 4, 5] rfl)
set_option maxHeartbeats 4000000 in
set_option maxRecDepth 100000 in
theorem cX8_mostLeftBy_ok {l : Launch} {D : va_G} {t : Nat → ClassId} {κ : Nat → Nat} {a_cc : Nat → Nat} {y_cc_tape : Nat} {y_cc_teller : Nat} {y_cc_seeker : Nat} {y_cc_seen : Nat} {y_cc_images : Nat} {y_cc_sheets : Nat} {a_rd : Nat → Nat} {a_tr : Nat → Nat} {a_dr : Nat → Nat} {s_cc : S2} {s_rd : S2} {s_tr : S2} {s_dr : S2} {p1 : Int32} {p2 : Int32} {out : Int32 × S2 × S2 × S2} (hf : fX8_mostLeftBy s_cc s_rd s_tr s_dr p1 p2 = some out) : Ct l D t κ yX8_mostLeftBy wsX8_mostLeftBy (rmL 5) [.ref (a_cc 0), .int p1, .int p2] ((wCC t a_cc y_cc_tape y_cc_teller (a_rd 0) (a_tr 0) (a_dr 0) y_cc_seeker y_cc_seen y_cc_images y_cc_sheets s_cc) ++ (wRoad t a_rd s_rd) ++ (wRoad t a_tr s_tr) ++ (wDrive t a_dr s_dr)) (some (.int out.1)) ((wCC t a_cc y_cc_tape y_cc_teller (a_rd 0) (a_tr 0) (a_dr 0) y_cc_seeker y_cc_seen y_cc_images y_cc_sheets out.2.1) ++ (wRoad t a_rd s_rd) ++ (wRoad t a_tr out.2.2.1) ++ (wDrive t a_dr out.2.2.2)) := by
  refine Ct.ofW (own := RX8) (cc := cX8_mostLeftBy) (maxL := 7) (ret := (some .int)) (by decide) rfl rfl (Nat.le_of_ble_eq_true rfl) ?_
  intro p e s m below meth c A C hP hD ls hl
  have hS : va_S A s.heap s.heap [] := va_S.rf
  obtain ⟨hx, hb, hr, hml, hown, hts, hC0, hlk, hA⟩ := id C
  have hK := hC0.1
  have hl : lv_has ls 7 [(0, .ref (a_cc 0)), (1, .int p1), (2, .int p2)] := hl
  unfold fX8_mostLeftBy at hf
  refine lv_iconst (v := 0) hx hb dX8_mostLeftBy_0 (by decide) ?_
  refine lv_istore_n (lv' := [(3, .int (0 : Int32)), (0, .ref (a_cc 0)), (1, .int p1), (2, .int p2)]) hx hb dX8_mostLeftBy_1 rfl hl (by decide) rfl (fun ls hl => ?_)
  obtain ⟨x5, ex5, hf⟩ := bd_some hf
  refine wX8_mostLeftBy_l2 C 5000 (0 : Int32) s_cc s_tr s_dr x5 ex5 (fun c9 h9 H locs ls hP hD hS hl => ?_) _ _ _ hP hD hS (lv_sub hl [1, 2, 3, 0] rfl)
  subst h9
  refine lv_iconst (v := 0) hx hb dX8_mostLeftBy_24 (by decide) ?_
  refine lv_istore_n (lv' := [(3, .int (0 : Int32)), (0, .ref (a_cc 0)), (1, .int p1), (2, .int p2)]) hx hb dX8_mostLeftBy_25 rfl hl (by decide) rfl (fun ls hl => ?_)
  refine lv_iconst (v := 0) hx hb dX8_mostLeftBy_26 (by decide) ?_
  refine lv_istore (lv' := [(4, .int (0 : Int32)), (3, .int (0 : Int32)), (0, .ref (a_cc 0)), (1, .int p1), (2, .int p2)]) hx hb dX8_mostLeftBy_27 hl (by decide) rfl (fun ls hl => ?_)
  obtain ⟨x18, ex18, hf⟩ := bd_some hf
  refine wX8_mostLeftBy_l29 C 5000 (0 : Int32) (0 : Int32) x5.2.1 x5.2.2.1 x5.2.2.2 x18 ex18 (fun c9 h9 H locs ls hP hD hS hl => ?_) _ _ _ hP hD hS (lv_sub hl [2, 3, 4, 1, 0] rfl)
  subst h9
  refine lv_iload_n hx hb dX8_mostLeftBy_111 rfl (lv_at hl 0 rfl) ?_
  obtain rfl := so_eq hf
  exact g_iret C hP hD hS dX8_mostLeftBy_112
/-! CoachCourt.best -/
def fX8_best_36 (s_cc : S2) (s_rd : S2) (s_tr : S2) (s_dr : S2) (s_sk : S2) (x1 : Int32) (x2 : Int32) : Option (Int32 × S2 × S2 × S2) :=
  if (s_rd 0 0) = (0 : Int32) then
    (some ((-2 : Int32), s_tr, s_dr, s_sk))
  else
    ((fX3_seekFor s_sk s_tr s_dr s_rd).bind fun v4 =>
    if x2 = (0 : Int32) then
      (some (v4.1 0 0, v4.2.1, v4.2.2, v4.1))
    else
      (gd (ixb (x1 - (10 : Int32)) 4) <|
      some (v4.1 1 (Int32.toNatClampNeg (x1 - (10 : Int32))), v4.2.1, v4.2.2, v4.1)))
def fX8_best_25 (s_cc : S2) (s_rd : S2) (s_tr : S2) (s_dr : S2) (s_sk : S2) (x1 : Int32) (k0 : Int32) : Option (Int32 × S2 × S2 × S2) :=
  if x1 = (0 : Int32) then
    (fX8_best_36 s_cc s_rd s_tr s_dr s_sk x1 k0)
  else
    (if k0 = (0 : Int32) then
      (some ((-1 : Int32), s_tr, s_dr, s_sk))
    else
      (fX8_best_36 s_cc s_rd s_tr s_dr s_sk x1 k0))
def fX8_best (s_cc : S2) (s_rd : S2) (s_tr : S2) (s_dr : S2) (s_sk : S2) (p1 : Int32) : Option (Int32 × S2 × S2 × S2) :=
  if p1 < (10 : Int32) then
    (fX8_best_25 s_cc s_rd s_tr s_dr s_sk p1 (0 : Int32))
  else
    ((fX2_hasParty s_rd (p1 - (10 : Int32))).bind fun v8 =>
    if v8 = (0 : Int32) then
      (fX8_best_25 s_cc s_rd s_tr s_dr s_sk p1 (0 : Int32))
    else
      (fX8_best_25 s_cc s_rd s_tr s_dr s_sk p1 (1 : Int32)))
theorem hdX8_best : yX8_best.cls = RX8 ∧ yX8_best.cls ≠ "java/lang/invoke/MethodHandle" ∧ yX8_best.cls ≠ "java/lang/invoke/VarHandle" ∧ (parseMethodDescriptor yX8_best.desc).map (fun d => d.parameters.length) = some 1 := by decide +kernel
theorem iwX8_best_X8 : ∀ w ∈ wsX80, w ∈ wsX8_best := by decide +kernel
theorem lkX8_best_f28 : Cond.fieldLink RX8 28 "CoachCourt" "road" "LCoachCourt$Road;" ∈ wsX8_best := by decide +kernel
theorem iwX8_best_X2 : ∀ w ∈ wsX20, w ∈ wsX8_best := by decide +kernel
theorem lkX8_best_f47 : Cond.fieldLink RX8 47 "CoachCourt" "seeker" "LCoachCourt$Seeker;" ∈ wsX8_best := by decide +kernel
theorem iwX8_best_X3 : ∀ w ∈ wsX30, w ∈ wsX8_best := by decide +kernel
set_option maxHeartbeats 4000000 in
set_option maxRecDepth 100000 in
theorem wX8_best_36 {p : Program} {l : Launch} {e : Env} {s : State} {m : MethodId} {args : Array Value} {below : List Frame} {meth : Method} {c : Code} {D : va_G} {t : Nat → ClassId} {κ : Nat → Nat} {A : Nat → Prop} {a_cc : Nat → Nat} {y_cc_tape : Nat} {y_cc_teller : Nat} {y_cc_seen : Nat} {y_cc_images : Nat} {y_cc_sheets : Nat} {a_rd : Nat → Nat} {a_tr : Nat → Nat} {a_dr : Nat → Nat} {a_sk : Nat → Nat} {s_cc : S2} {s_rd : S2} {s_tr : S2} {s_dr : S2} {s_sk : S2} {x1 : Int32} {x2 : Int32} {out : Int32 × S2 × S2 × S2} (C : Cxt p s m args meth c cX8_best 3 RX8 wsX8_best (some .int) D t κ A) (hf : fX8_best_36 s_cc s_rd s_tr s_dr s_sk x1 x2 = some out) : ∀ (H : Heap) (locs : List Loc) (ls : Array Slot), va_P D vwCl ((wCC t a_cc y_cc_tape y_cc_teller (a_rd 0) (a_tr 0) (a_dr 0) (a_sk 0) y_cc_seen y_cc_images y_cc_sheets s_cc) ++ (wRoad t a_rd s_rd) ++ (wRoad t a_tr s_tr) ++ (wDrive t a_dr s_dr) ++ (wSeeker t a_sk (a_tr 0) (a_dr 0) s_sk)) H → va_D A ((wCC t a_cc y_cc_tape y_cc_teller (a_rd 0) (a_tr 0) (a_dr 0) (a_sk 0) y_cc_seen y_cc_images y_cc_sheets s_cc) ++ (wRoad t a_rd s_rd) ++ (wRoad t a_tr s_tr) ++ (wDrive t a_dr s_dr) ++ (wSeeker t a_sk (a_tr 0) (a_dr 0) s_sk)) → va_S A s.heap H locs → lv_has ls 3 [(0, .ref (a_cc 0)), (1, .int x1), (2, .int x2)] → W p l e (rmL 13) s m args below meth c H locs 0 0 (MQ below (gQ D (some (.int out.1)) ((wCC t a_cc y_cc_tape y_cc_teller (a_rd 0) (a_tr 0) (a_dr 0) (a_sk 0) y_cc_seen y_cc_images y_cc_sheets s_cc) ++ (wRoad t a_rd s_rd) ++ (wRoad t a_tr out.2.1) ++ (wDrive t a_dr out.2.2.1) ++ (wSeeker t a_sk (a_tr 0) (a_dr 0) out.2.2.2)) A) args s 0 0 A) (F0 m 36 ls []) := by
  obtain ⟨hx, hb, hr, hml, hown, hts, hC0, hlk, hA⟩ := id C
  have hK := hC0.1
  intro H locs ls hP hD hS hl
  unfold fX8_best_36 at hf
  refine lv_aload_n hx hb dX8_best_36 rfl (lv_at hl 0 rfl) ?_
  refine va_get (D := D) (ci := 8) (v := .ref (a_rd 0)) (C := RX8) (T := TX8) (N := 11) hx hb hts iwX8_best_X8 hown hK hP 0 rfl rfl 2 (by decide) (hts _ lkX8_best_f28) (fun _ h9 => h9) rfl dX8_best_37 ?_
  refine va_getN (D := D) (ci := 2) (v := .int (s_rd 0 0)) (C := RX2) (T := TX2) (N := 12) hx hb hts iwX8_best_X2 hown hK hP 2 rfl rfl 8 (by decide) (hC0.2.1.f 24 rfl) (fun _ h9 => h9) rfl dX8_best_40 ?_
  refine lv_if_ne (tgt := 49) hx hb dX8_best_43 (by decide) (fun c3 => ?_) (fun c3 => ?_)
  · rw [if_neg c3] at hf
    refine lv_aload_n hx hb dX8_best_49 rfl (lv_at hl 0 rfl) ?_
    refine va_get (D := D) (ci := 8) (v := .ref (a_sk 0)) (C := RX8) (T := TX8) (N := 11) hx hb hts iwX8_best_X8 hown hK hP 0 rfl rfl 5 (by decide) (hts _ lkX8_best_f47) (fun _ h9 => h9) rfl dX8_best_50 ?_
    refine lv_aload_n hx hb dX8_best_53 rfl (lv_at hl 0 rfl) ?_
    refine va_get (D := D) (ci := 8) (v := .ref (a_rd 0)) (C := RX8) (T := TX8) (N := 11) hx hb hts iwX8_best_X8 hown hK hP 0 rfl rfl 2 (by decide) (hts _ lkX8_best_f28) (fun _ h9 => h9) rfl dX8_best_54 ?_
    obtain ⟨v4, ev4, hf⟩ := bd_some hf
    refine gk_V C (As := [.ref (a_rd 0)]) (rest := []) (ci := 3) (q := (RX3, TX3, 5)) (q0 := 0) (wr := (wCC t a_cc y_cc_tape y_cc_teller (a_rd 0) (a_tr 0) (a_dr 0) (a_sk 0) y_cc_seen y_cc_images y_cc_sheets s_cc)) (wf := ((wCC t a_cc y_cc_tape y_cc_teller (a_rd 0) (a_tr 0) (a_dr 0) (a_sk 0) y_cc_seen y_cc_images y_cc_sheets s_cc) ++ (wRoad t a_rd s_rd) ++ (wRoad t a_tr v4.2.1) ++ (wDrive t a_dr v4.2.2) ++ (wSeeker t a_sk (a_tr 0) (a_dr 0) v4.1))) (cX3_seekFor_ok (l := l) (D := D) (t := t) (κ := κ) (a_sk := a_sk) (a_tr := a_tr) (a_dr := a_dr) (a_rd := a_rd) ev4) gX8_best_X3_seekFor rfl ⟨rfl, rfl⟩ hdX3_seekFor ⟨Nat.le_of_ble_eq_true rfl, Nat.le_of_ble_eq_true rfl⟩ rfl rfl hP hD hS [26, 27, 28, 11, 12, 13, 14, 15, 16, 17, 18, 19, 20, 21, 22, 23, 24, 25, 2, 3, 4, 5, 6, 7, 8, 9, 10] [0, 1] [0, 1, 20, 21, 22, 23, 24, 25, 26, 27, 28, 5, 6, 7, 8, 9, 10, 11, 12, 13, 14, 15, 16, 17, 18, 19, 2, 3, 4] rfl rfl rfl rfl (by decide) rfl rfl rfl hl.1 (Nat.le_of_ble_eq_true rfl) dX8_best_57 (Nat.zero_le _) (Nat.zero_le _) (fun H locs hP hD hS => ?_)
    refine W.eq (g2 := F0 m 60 ls []) rfl ?_
    refine lv_iload_n hx hb dX8_best_60 rfl (lv_at hl 2 rfl) ?_
    refine lv_if_eq (tgt := 79) hx hb dX8_best_61 (by decide) (fun c5 => ?_) (fun c5 => ?_)
    · rw [if_pos c5] at hf
      refine lv_aload_n hx hb dX8_best_79 rfl (lv_at hl 0 rfl) ?_
      refine va_get (D := D) (ci := 8) (v := .ref (a_sk 0)) (C := RX8) (T := TX8) (N := 11) hx hb hts iwX8_best_X8 hown hK hP 0 rfl rfl 5 (by decide) (hts _ lkX8_best_f47) (fun _ h9 => h9) rfl dX8_best_80 ?_
      refine va_getN (D := D) (ci := 3) (v := .int (v4.1 0 0)) (C := RX3) (T := TX3) (N := 5) hx hb hts iwX8_best_X3 hown hK hP 26 rfl rfl 4 (by decide) (hC0.2.1.f 38 rfl) (fun _ h9 => h9) rfl dX8_best_83 ?_
      obtain rfl := so_eq hf
      exact g_iret C hP hD hS dX8_best_86
    · rw [if_neg c5] at hf
      refine lv_aload_n hx hb dX8_best_64 rfl (lv_at hl 0 rfl) ?_
      refine va_get (D := D) (ci := 8) (v := .ref (a_sk 0)) (C := RX8) (T := TX8) (N := 11) hx hb hts iwX8_best_X8 hown hK hP 0 rfl rfl 5 (by decide) (hts _ lkX8_best_f47) (fun _ h9 => h9) rfl dX8_best_65 ?_
      refine va_getN (D := D) (ci := 3) (v := .ref (a_sk 1)) (C := RX3) (T := TX3) (N := 5) hx hb hts iwX8_best_X3 hown hK hP 26 rfl rfl 2 (by decide) (hC0.2.1.f 37 rfl) (fun _ h9 => h9) rfl dX8_best_68 ?_
      refine lv_iload_n hx hb dX8_best_71 rfl (lv_at hl 1 rfl) ?_
      refine lv_bipush (v := 10) hx hb dX8_best_72 (by decide) ?_
      refine lv_isub hx hb dX8_best_74 ?_
      obtain ⟨b6, hf⟩ := gd_some hf
      refine va_iald hx hb hK hP 27 0 rfl rfl (ixb_in b6) dX8_best_75 ?_
      refine lv_goto (tgt := 86) hx hb dX8_best_76 (by decide) ?_
      obtain rfl := so_eq hf
      exact g_iret C hP hD hS dX8_best_86
  · rw [if_pos c3] at hf
    refine lv_bipush (v := -2) hx hb dX8_best_46 (by decide) ?_
    obtain rfl := so_eq hf
    exact g_iret C hP hD hS dX8_best_48
set_option maxHeartbeats 4000000 in
set_option maxRecDepth 100000 in
theorem wX8_best_25 {p : Program} {l : Launch} {e : Env} {s : State} {m : MethodId} {args : Array Value} {below : List Frame} {meth : Method} {c : Code} {D : va_G} {t : Nat → ClassId} {κ : Nat → Nat} {A : Nat → Prop} {a_cc : Nat → Nat} {y_cc_tape : Nat} {y_cc_teller : Nat} {y_cc_seen : Nat} {y_cc_images : Nat} {y_cc_sheets : Nat} {a_rd : Nat → Nat} {a_tr : Nat → Nat} {a_dr : Nat → Nat} {a_sk : Nat → Nat} {s_cc : S2} {s_rd : S2} {s_tr : S2} {s_dr : S2} {s_sk : S2} {x1 : Int32} {k0 : Int32} {out : Int32 × S2 × S2 × S2} (C : Cxt p s m args meth c cX8_best 3 RX8 wsX8_best (some .int) D t κ A) (hf : fX8_best_25 s_cc s_rd s_tr s_dr s_sk x1 k0 = some out) : ∀ (H : Heap) (locs : List Loc) (ls : Array Slot), va_P D vwCl ((wCC t a_cc y_cc_tape y_cc_teller (a_rd 0) (a_tr 0) (a_dr 0) (a_sk 0) y_cc_seen y_cc_images y_cc_sheets s_cc) ++ (wRoad t a_rd s_rd) ++ (wRoad t a_tr s_tr) ++ (wDrive t a_dr s_dr) ++ (wSeeker t a_sk (a_tr 0) (a_dr 0) s_sk)) H → va_D A ((wCC t a_cc y_cc_tape y_cc_teller (a_rd 0) (a_tr 0) (a_dr 0) (a_sk 0) y_cc_seen y_cc_images y_cc_sheets s_cc) ++ (wRoad t a_rd s_rd) ++ (wRoad t a_tr s_tr) ++ (wDrive t a_dr s_dr) ++ (wSeeker t a_sk (a_tr 0) (a_dr 0) s_sk)) → va_S A s.heap H locs → lv_has ls 3 [(0, .ref (a_cc 0)), (1, .int x1)] → W p l e (rmL 13) s m args below meth c H locs 0 0 (MQ below (gQ D (some (.int out.1)) ((wCC t a_cc y_cc_tape y_cc_teller (a_rd 0) (a_tr 0) (a_dr 0) (a_sk 0) y_cc_seen y_cc_images y_cc_sheets s_cc) ++ (wRoad t a_rd s_rd) ++ (wRoad t a_tr out.2.1) ++ (wDrive t a_dr out.2.2.1) ++ (wSeeker t a_sk (a_tr 0) (a_dr 0) out.2.2.2)) A) args s 0 0 A) (F0 m 25 ls [.int k0]) := by
  obtain ⟨hx, hb, hr, hml, hown, hts, hC0, hlk, hA⟩ := id C
  have hK := hC0.1
  intro H locs ls hP hD hS hl
  unfold fX8_best_25 at hf
  refine lv_istore_n (lv' := [(2, .int k0), (0, .ref (a_cc 0)), (1, .int x1)]) hx hb dX8_best_25 rfl hl (by decide) rfl (fun ls hl => ?_)
  refine lv_iload_n hx hb dX8_best_26 rfl (lv_at hl 2 rfl) ?_
  refine lv_if_eq (tgt := 36) hx hb dX8_best_27 (by decide) (fun c2 => ?_) (fun c2 => ?_)
  · rw [if_pos c2] at hf
    exact wX8_best_36 C hf _ _ _ hP hD hS (lv_sub hl [1, 2, 0] rfl)
  · rw [if_neg c2] at hf
    refine lv_iload_n hx hb dX8_best_30 rfl (lv_at hl 0 rfl) ?_
    refine lv_if_ne (tgt := 36) hx hb dX8_best_31 (by decide) (fun c7 => ?_) (fun c7 => ?_)
    · rw [if_neg c7] at hf
      exact wX8_best_36 C hf _ _ _ hP hD hS (lv_sub hl [1, 2, 0] rfl)
    · rw [if_pos c7] at hf
      refine lv_iconst (v := -1) hx hb dX8_best_34 (by decide) ?_
      obtain rfl := so_eq hf
      exact g_iret C hP hD hS dX8_best_35
set_option maxHeartbeats 4000000 in
set_option maxRecDepth 100000 in
theorem cX8_best_ok {l : Launch} {D : va_G} {t : Nat → ClassId} {κ : Nat → Nat} {a_cc : Nat → Nat} {y_cc_tape : Nat} {y_cc_teller : Nat} {y_cc_seen : Nat} {y_cc_images : Nat} {y_cc_sheets : Nat} {a_rd : Nat → Nat} {a_tr : Nat → Nat} {a_dr : Nat → Nat} {a_sk : Nat → Nat} {s_cc : S2} {s_rd : S2} {s_tr : S2} {s_dr : S2} {s_sk : S2} {p1 : Int32} {out : Int32 × S2 × S2 × S2} (hf : fX8_best s_cc s_rd s_tr s_dr s_sk p1 = some out) : Ct l D t κ yX8_best wsX8_best (rmL 13) [.ref (a_cc 0), .int p1] ((wCC t a_cc y_cc_tape y_cc_teller (a_rd 0) (a_tr 0) (a_dr 0) (a_sk 0) y_cc_seen y_cc_images y_cc_sheets s_cc) ++ (wRoad t a_rd s_rd) ++ (wRoad t a_tr s_tr) ++ (wDrive t a_dr s_dr) ++ (wSeeker t a_sk (a_tr 0) (a_dr 0) s_sk)) (some (.int out.1)) ((wCC t a_cc y_cc_tape y_cc_teller (a_rd 0) (a_tr 0) (a_dr 0) (a_sk 0) y_cc_seen y_cc_images y_cc_sheets s_cc) ++ (wRoad t a_rd s_rd) ++ (wRoad t a_tr out.2.1) ++ (wDrive t a_dr out.2.2.1) ++ (wSeeker t a_sk (a_tr 0) (a_dr 0) out.2.2.2)) := by
  refine Ct.ofW (own := RX8) (cc := cX8_best) (maxL := 3) (ret := (some .int)) (by decide) rfl rfl (Nat.le_of_ble_eq_true rfl) ?_
  intro p e s m below meth c A C hP hD ls hl
  have hS : va_S A s.heap s.heap [] := va_S.rf
  obtain ⟨hx, hb, hr, hml, hown, hts, hC0, hlk, hA⟩ := id C
  have hK := hC0.1
  have hl : lv_has ls 3 [(0, .ref (a_cc 0)), (1, .int p1)] := hl
  unfold fX8_best at hf
  refine lv_iload_n hx hb dX8_best_0 rfl (lv_at hl 1 rfl) ?_
  refine lv_bipush (v := 10) hx hb dX8_best_1 (by decide) ?_
  refine lv_icmp_lt (tgt := 24) hx hb dX8_best_3 (by decide) (fun c1 => ?_) (fun c1 => ?_)
  · rw [if_pos c1] at hf
    refine lv_iconst (v := 0) hx hb dX8_best_24 (by decide) ?_
    exact wX8_best_25 C hf _ _ _ hP hD hS (lv_sub hl [0, 1] rfl)
  · rw [if_neg c1] at hf
    refine lv_aload_n hx hb dX8_best_6 rfl (lv_at hl 0 rfl) ?_
    refine va_get (D := D) (ci := 8) (v := .ref (a_rd 0)) (C := RX8) (T := TX8) (N := 11) hx hb hts iwX8_best_X8 hown hK hP 0 rfl rfl 2 (by decide) (hts _ lkX8_best_f28) (fun _ h9 => h9) rfl dX8_best_7 ?_
    refine lv_iload_n hx hb dX8_best_10 rfl (lv_at hl 1 rfl) ?_
    refine lv_bipush (v := 10) hx hb dX8_best_11 (by decide) ?_
    refine lv_isub hx hb dX8_best_13 ?_
    obtain ⟨v8, ev8, hf⟩ := bd_some hf
    refine gk_V C (As := [.int (p1 - (10 : Int32))]) (rest := []) (ci := 2) (q := (RX2, TX2, 12)) (q0 := 0) (wr := ((wCC t a_cc y_cc_tape y_cc_teller (a_rd 0) (a_tr 0) (a_dr 0) (a_sk 0) y_cc_seen y_cc_images y_cc_sheets s_cc) ++ (wRoad t a_tr s_tr) ++ (wDrive t a_dr s_dr) ++ (wSeeker t a_sk (a_tr 0) (a_dr 0) s_sk))) (wf := ((wCC t a_cc y_cc_tape y_cc_teller (a_rd 0) (a_tr 0) (a_dr 0) (a_sk 0) y_cc_seen y_cc_images y_cc_sheets s_cc) ++ (wRoad t a_rd s_rd) ++ (wRoad t a_tr s_tr) ++ (wDrive t a_dr s_dr) ++ (wSeeker t a_sk (a_tr 0) (a_dr 0) s_sk))) (cX2_hasParty_ok (l := l) (D := D) (t := t) (κ := κ) (a_rd := a_rd) ev8) gX8_best_X2_hasParty rfl ⟨rfl, rfl⟩ hdX2_hasParty ⟨Nat.le_of_ble_eq_true rfl, Nat.le_of_ble_eq_true rfl⟩ rfl rfl hP hD hS [2, 3, 4, 5, 6, 7, 8, 9, 10] [0, 1, 11, 12, 13, 14, 15, 16, 17, 18, 19, 20, 21, 22, 23, 24, 25, 26, 27, 28] [0, 1, 20, 21, 22, 23, 24, 25, 26, 27, 28, 2, 3, 4, 5, 6, 7, 8, 9, 10, 11, 12, 13, 14, 15, 16, 17, 18, 19] rfl rfl rfl rfl (by decide) rfl rfl rfl hl.1 (Nat.le_of_ble_eq_true rfl) dX8_best_14 (Nat.zero_le _) (Nat.zero_le _) (fun H locs hP hD hS => ?_)
    refine W.eq (g2 := F0 m 17 ls [.int v8]) rfl ?_
    refine lv_if_eq (tgt := 24) hx hb dX8_best_17 (by decide) (fun c9 => ?_) (fun c9 => ?_)
    · rw [if_pos c9] at hf
      refine lv_iconst (v := 0) hx hb dX8_best_24 (by decide) ?_
      exact wX8_best_25 C hf _ _ _ hP hD hS (lv_sub hl [0, 1] rfl)
    · rw [if_neg c9] at hf
      refine lv_iconst (v := 1) hx hb dX8_best_20 (by decide) ?_
      refine lv_goto (tgt := 25) hx hb dX8_best_21 (by decide) ?_
      exact wX8_best_25 C hf _ _ _ hP hD hS (lv_sub hl [0, 1] rfl)
/-! CoachCourt.place -/
def fX8_place (s_cc : S2) (s_rd : S2) (s_tr : S2) (s_dr : S2) (p1 : Int32) (p2 : Int32) : Option (Int32 × S2 × S2) :=
  (fX2_hasParty s_rd p1).bind fun v1 =>
  if v1 = (0 : Int32) then
    (some ((-1 : Int32), s_tr, s_dr))
  else
    ((fX8_within p2 (0 : Int32) (1 : Int32)).bind fun v3 =>
    if v3 = (0 : Int32) then
      (some ((-1 : Int32), s_tr, s_dr))
    else
      ((fX8_soonestStone s_cc s_rd s_tr s_dr p1).bind fun v5 =>
      nm v5.1 fun y6 =>
      if p2 = (0 : Int32) then
        (some (y6, v5.2.1, v5.2.2))
      else
        (if y6 = (-4 : Int32) then
          (some (y6, v5.2.1, v5.2.2))
        else
          ((fX8_verdictFrom s_cc s_rd v5.2.1 v5.2.2 p1 y6).bind fun v9 =>
          some (v9.1, v9.2.1, v9.2.2)))))
theorem hdX8_place : yX8_place.cls = RX8 ∧ yX8_place.cls ≠ "java/lang/invoke/MethodHandle" ∧ yX8_place.cls ≠ "java/lang/invoke/VarHandle" ∧ (parseMethodDescriptor yX8_place.desc).map (fun d => d.parameters.length) = some 2 := by decide +kernel
theorem iwX8_place_X8 : ∀ w ∈ wsX80, w ∈ wsX8_place := by decide +kernel
theorem lkX8_place_f28 : Cond.fieldLink RX8 28 "CoachCourt" "road" "LCoachCourt$Road;" ∈ wsX8_place := by decide +kernel
set_option maxHeartbeats 4000000 in
set_option maxRecDepth 100000 in
theorem cX8_place_ok {l : Launch} {D : va_G} {t : Nat → ClassId} {κ : Nat → Nat} {a_cc : Nat → Nat} {y_cc_tape : Nat} {y_cc_teller : Nat} {y_cc_seeker : Nat} {y_cc_seen : Nat} {y_cc_images : Nat} {y_cc_sheets : Nat} {a_rd : Nat → Nat} {a_tr : Nat → Nat} {a_dr : Nat → Nat} {s_cc : S2} {s_rd : S2} {s_tr : S2} {s_dr : S2} {p1 : Int32} {p2 : Int32} {out : Int32 × S2 × S2} (hf : fX8_place s_cc s_rd s_tr s_dr p1 p2 = some out) : Ct l D t κ yX8_place wsX8_place (rmL 6) [.ref (a_cc 0), .int p1, .int p2] ((wCC t a_cc y_cc_tape y_cc_teller (a_rd 0) (a_tr 0) (a_dr 0) y_cc_seeker y_cc_seen y_cc_images y_cc_sheets s_cc) ++ (wRoad t a_rd s_rd) ++ (wRoad t a_tr s_tr) ++ (wDrive t a_dr s_dr)) (some (.int out.1)) ((wCC t a_cc y_cc_tape y_cc_teller (a_rd 0) (a_tr 0) (a_dr 0) y_cc_seeker y_cc_seen y_cc_images y_cc_sheets s_cc) ++ (wRoad t a_rd s_rd) ++ (wRoad t a_tr out.2.1) ++ (wDrive t a_dr out.2.2)) := by
  refine Ct.ofW (own := RX8) (cc := cX8_place) (maxL := 4) (ret := (some .int)) (by decide) rfl rfl (Nat.le_of_ble_eq_true rfl) ?_
  intro p e s m below meth c A C hP hD ls hl
  have hS : va_S A s.heap s.heap [] := va_S.rf
  obtain ⟨hx, hb, hr, hml, hown, hts, hC0, hlk, hA⟩ := id C
  have hK := hC0.1
  have hl : lv_has ls 4 [(0, .ref (a_cc 0)), (1, .int p1), (2, .int p2)] := hl
  unfold fX8_place at hf
  refine lv_aload_n hx hb dX8_place_0 rfl (lv_at hl 0 rfl) ?_
  refine va_get (D := D) (ci := 8) (v := .ref (a_rd 0)) (C := RX8) (T := TX8) (N := 11) hx hb hts iwX8_place_X8 hown hK hP 0 rfl rfl 2 (by decide) (hts _ lkX8_place_f28) (fun _ h9 => h9) rfl dX8_place_1 ?_
  refine lv_iload_n hx hb dX8_place_4 rfl (lv_at hl 1 rfl) ?_
  obtain ⟨v1, ev1, hf⟩ := bd_some hf
  refine gk_V C (As := [.int p1]) (rest := []) (ci := 2) (q := (RX2, TX2, 12)) (q0 := 0) (wr := ((wCC t a_cc y_cc_tape y_cc_teller (a_rd 0) (a_tr 0) (a_dr 0) y_cc_seeker y_cc_seen y_cc_images y_cc_sheets s_cc) ++ (wRoad t a_tr s_tr) ++ (wDrive t a_dr s_dr))) (wf := ((wCC t a_cc y_cc_tape y_cc_teller (a_rd 0) (a_tr 0) (a_dr 0) y_cc_seeker y_cc_seen y_cc_images y_cc_sheets s_cc) ++ (wRoad t a_rd s_rd) ++ (wRoad t a_tr s_tr) ++ (wDrive t a_dr s_dr))) (cX2_hasParty_ok (l := l) (D := D) (t := t) (κ := κ) (a_rd := a_rd) ev1) gX8_place_X2_hasParty rfl ⟨rfl, rfl⟩ hdX2_hasParty ⟨Nat.le_of_ble_eq_true rfl, Nat.le_of_ble_eq_true rfl⟩ rfl rfl hP hD hS [2, 3, 4, 5, 6, 7, 8, 9, 10] [0, 1, 11, 12, 13, 14, 15, 16, 17, 18, 19, 20, 21, 22, 23, 24, 25] [0, 1, 17, 18, 19, 20, 21, 22, 23, 24, 25, 2, 3, 4, 5, 6, 7, 8, 9, 10, 11, 12, 13, 14, 15, 16] rfl rfl rfl rfl (by decide) rfl rfl rfl hl.1 (Nat.le_of_ble_eq_true rfl) dX8_place_5 (Nat.zero_le _) (Nat.zero_le _) (fun H locs hP hD hS => ?_)
  refine W.eq (g2 := F0 m 8 ls [.int v1]) rfl ?_
  refine lv_if_eq (tgt := 20) hx hb dX8_place_8 (by decide) (fun c2 => ?_) (fun c2 => ?_)
  · rw [if_pos c2] at hf
    refine lv_iconst (v := -1) hx hb dX8_place_20 (by decide) ?_
    obtain rfl := so_eq hf
    exact g_iret C hP hD hS dX8_place_21
  · rw [if_neg c2] at hf
    refine lv_iload_n hx hb dX8_place_11 rfl (lv_at hl 2 rfl) ?_
    refine lv_iconst (v := 0) hx hb dX8_place_12 (by decide) ?_
    refine lv_iconst (v := 1) hx hb dX8_place_13 (by decide) ?_
    obtain ⟨v3, ev3, hf⟩ := bd_some hf
    refine gk_S C (As := [.int p2, .int (0 : Int32), .int (1 : Int32)]) (rest := []) (cX8_within_ok (l := l) (D := D) (t := t) (κ := κ) ev3) gX8_place_X8_within rfl ⟨rfl, rfl⟩ hdX8_within ⟨Nat.le_of_ble_eq_true rfl, Nat.le_of_ble_eq_true rfl⟩ hP hD hS rfl hl.1 (Nat.le_of_ble_eq_true rfl) dX8_place_14 (Nat.zero_le _) (Nat.zero_le _) (fun H locs hP hD hS => ?_)
    refine W.eq (g2 := F0 m 17 ls [.int v3]) rfl ?_
    refine lv_if_ne (tgt := 22) hx hb dX8_place_17 (by decide) (fun c4 => ?_) (fun c4 => ?_)
    · rw [if_neg c4] at hf
      refine lv_aload_n hx hb dX8_place_22 rfl (lv_at hl 0 rfl) ?_
      refine lv_iload_n hx hb dX8_place_23 rfl (lv_at hl 1 rfl) ?_
      obtain ⟨v5, ev5, hf⟩ := bd_some hf
      refine gk_V0 C (As := [.int p1]) (rest := []) (ci := 8) (q := (RX8, TX8, 11)) (q0 := 0) (cX8_soonestStone_ok (l := l) (D := D) (t := t) (κ := κ) (a_cc := a_cc) (a_rd := a_rd) (a_tr := a_tr) (a_dr := a_dr) (y_cc_tape := y_cc_tape) (y_cc_teller := y_cc_teller) (y_cc_seeker := y_cc_seeker) (y_cc_seen := y_cc_seen) (y_cc_images := y_cc_images) (y_cc_sheets := y_cc_sheets) ev5) gX8_place_X8_soonestStone rfl ⟨rfl, rfl⟩ hdX8_soonestStone ⟨Nat.le_of_ble_eq_true rfl, Nat.le_of_ble_eq_true rfl⟩ rfl rfl hP hD hS rfl hl.1 (Nat.le_of_ble_eq_true rfl) dX8_place_24 (Nat.zero_le _) (Nat.zero_le _) (fun H locs hP hD hS => ?_)
      refine W.eq (g2 := F0 m 27 ls [.int v5.1]) rfl ?_
      obtain ⟨y6, hy6, hf⟩ := nm_ex hf
      refine W.eq (g2 := F0 m 27 ls [.int y6]) (by rw [hy6]) ?_
      refine lv_istore_n (lv' := [(3, .int y6), (0, .ref (a_cc 0)), (1, .int p1), (2, .int p2)]) hx hb dX8_place_27 rfl hl (by decide) rfl (fun ls hl => ?_)
      refine lv_iload_n hx hb dX8_place_28 rfl (lv_at hl 3 rfl) ?_
      refine lv_if_eq (tgt := 38) hx hb dX8_place_29 (by decide) (fun c7 => ?_) (fun c7 => ?_)
      · rw [if_pos c7] at hf
        refine lv_iload_n hx hb dX8_place_38 rfl (lv_at hl 0 rfl) ?_
        refine lv_goto (tgt := 48) hx hb dX8_place_39 (by decide) ?_
        obtain rfl := so_eq hf
        exact g_iret C hP hD hS dX8_place_48
      · rw [if_neg c7] at hf
        refine lv_iload_n hx hb dX8_place_32 rfl (lv_at hl 0 rfl) ?_
        refine lv_bipush (v := -4) hx hb dX8_place_33 (by decide) ?_
        refine lv_icmp_ne (tgt := 42) hx hb dX8_place_35 (by decide) (fun c8 => ?_) (fun c8 => ?_)
        · rw [if_neg c8] at hf
          refine lv_aload_n hx hb dX8_place_42 rfl (lv_at hl 1 rfl) ?_
          refine lv_iload_n hx hb dX8_place_43 rfl (lv_at hl 2 rfl) ?_
          refine lv_iload_n hx hb dX8_place_44 rfl (lv_at hl 0 rfl) ?_
          obtain ⟨v9, ev9, hf⟩ := bd_some hf
          refine gk_V0 C (As := [.int p1, .int y6]) (rest := []) (ci := 8) (q := (RX8, TX8, 11)) (q0 := 0) (cX8_verdictFrom_ok (l := l) (D := D) (t := t) (κ := κ) (a_cc := a_cc) (a_rd := a_rd) (a_tr := a_tr) (a_dr := a_dr) (y_cc_tape := y_cc_tape) (y_cc_teller := y_cc_teller) (y_cc_seeker := y_cc_seeker) (y_cc_seen := y_cc_seen) (y_cc_images := y_cc_images) (y_cc_sheets := y_cc_sheets) ev9) gX8_place_X8_verdictFrom rfl ⟨rfl, rfl⟩ hdX8_verdictFrom ⟨Nat.le_of_ble_eq_true rfl, Nat.le_of_ble_eq_true rfl⟩ rfl rfl hP hD hS rfl hl.1 (Nat.le_of_ble_eq_true rfl) dX8_place_45 (Nat.zero_le _) (Nat.zero_le _) (fun H locs hP hD hS => ?_)
          refine W.eq (g2 := F0 m 48 ls [.int v9.1]) rfl ?_
          obtain rfl := so_eq hf
          exact g_iret C hP hD hS dX8_place_48
        · rw [if_pos c8] at hf
          refine lv_iload_n hx hb dX8_place_38 rfl (lv_at hl 0 rfl) ?_
          refine lv_goto (tgt := 48) hx hb dX8_place_39 (by decide) ?_
          obtain rfl := so_eq hf
          exact g_iret C hP hD hS dX8_place_48
    · rw [if_pos c4] at hf
      refine lv_iconst (v := -1) hx hb dX8_place_20 (by decide) ?_
      obtain rfl := so_eq hf
      exact g_iret C hP hD hS dX8_place_21
/-! CoachCourt.never -/
def fX8_never_b4 (s_cc : S2) (s_rd : S2) (s_tr : S2) (s_dr : S2) (x1 : Int32) (x2 : Int32) : Option ((Int32 × Int32 × S2 × S2) ⊕ (Int32 × Int32 × S2 × S2)) :=
  if (s_rd 0 1) ≤ x2 then
    (some (.inr (x1, x2, s_tr, s_dr)))
  else
    ((fX8_soonestStone s_cc s_rd s_tr s_dr x2).bind fun v2 =>
    if v2.1 = (-4 : Int32) then
      (nm (x1 ||| ((1 : Int32) <<< (x2 &&& 31))) fun y5 =>
      nm (x2 + (1 : Int32)) fun y6 =>
      some (.inl (y5, y6, v2.2.1, v2.2.2)))
    else
      (nm (x2 + (1 : Int32)) fun y4 =>
      some (.inl (x1, y4, v2.2.1, v2.2.2))))
def fX8_never (s_cc : S2) (s_rd : S2) (s_tr : S2) (s_dr : S2) : Option (Int32 × S2 × S2) :=
  (wh (fun (c : Int32 × Int32 × S2 × S2) => fX8_never_b4 s_cc s_rd c.2.2.1 c.2.2.2 c.1 c.2.1) 5000 ((0 : Int32), (0 : Int32), s_tr, s_dr)).bind fun x7 =>
  some (x7.1, x7.2.2.1, x7.2.2.2)
theorem hdX8_never : yX8_never.cls = RX8 ∧ yX8_never.cls ≠ "java/lang/invoke/MethodHandle" ∧ yX8_never.cls ≠ "java/lang/invoke/VarHandle" ∧ (parseMethodDescriptor yX8_never.desc).map (fun d => d.parameters.length) = some 0 := by decide +kernel
theorem iwX8_never_X8 : ∀ w ∈ wsX80, w ∈ wsX8_never := by decide +kernel
theorem lkX8_never_f28 : Cond.fieldLink RX8 28 "CoachCourt" "road" "LCoachCourt$Road;" ∈ wsX8_never := by decide +kernel
theorem iwX8_never_X2 : ∀ w ∈ wsX20, w ∈ wsX8_never := by decide +kernel
set_option maxHeartbeats 4000000 in
set_option maxRecDepth 100000 in
theorem wX8_never_l4 {p : Program} {l : Launch} {e : Env} {s : State} {m : MethodId} {args : Array Value} {below : List Frame} {meth : Method} {c : Code} {D : va_G} {t : Nat → ClassId} {κ : Nat → Nat} {A : Nat → Prop} {a_cc : Nat → Nat} {y_cc_tape : Nat} {y_cc_teller : Nat} {y_cc_seeker : Nat} {y_cc_seen : Nat} {y_cc_images : Nat} {y_cc_sheets : Nat} {a_rd : Nat → Nat} {a_tr : Nat → Nat} {a_dr : Nat → Nat} {s_cc : S2} {s_rd : S2} {rv : Option Value} {w1 : va_W} (C : Cxt p s m args meth c cX8_never 3 RX8 wsX8_never (some .int) D t κ A) : ∀ (n : Nat) (x1 : Int32) (x2 : Int32) (s_tr : S2) (s_dr : S2) (x : Int32 × Int32 × S2 × S2), wh (fun (c : Int32 × Int32 × S2 × S2) => fX8_never_b4 s_cc s_rd c.2.2.1 c.2.2.2 c.1 c.2.1) n (x1, x2, s_tr, s_dr) = some x → (∀ (z : Int32 × Int32 × S2 × S2), x = z → ∀ (H : Heap) (locs : List Loc) (ls : Array Slot), va_P D vwCl ((wCC t a_cc y_cc_tape y_cc_teller (a_rd 0) (a_tr 0) (a_dr 0) y_cc_seeker y_cc_seen y_cc_images y_cc_sheets s_cc) ++ (wRoad t a_rd s_rd) ++ (wRoad t a_tr z.2.2.1) ++ (wDrive t a_dr z.2.2.2)) H → va_D A ((wCC t a_cc y_cc_tape y_cc_teller (a_rd 0) (a_tr 0) (a_dr 0) y_cc_seeker y_cc_seen y_cc_images y_cc_sheets s_cc) ++ (wRoad t a_rd s_rd) ++ (wRoad t a_tr z.2.2.1) ++ (wDrive t a_dr z.2.2.2)) → va_S A s.heap H locs → lv_has ls 3 [(1, .int z.1)] → W p l e (rmL 6) s m args below meth c H locs 0 0 (MQ below (gQ D rv w1 A) args s 0 0 A) (F0 m 37 ls [])) → ∀ (H : Heap) (locs : List Loc) (ls : Array Slot), va_P D vwCl ((wCC t a_cc y_cc_tape y_cc_teller (a_rd 0) (a_tr 0) (a_dr 0) y_cc_seeker y_cc_seen y_cc_images y_cc_sheets s_cc) ++ (wRoad t a_rd s_rd) ++ (wRoad t a_tr s_tr) ++ (wDrive t a_dr s_dr)) H → va_D A ((wCC t a_cc y_cc_tape y_cc_teller (a_rd 0) (a_tr 0) (a_dr 0) y_cc_seeker y_cc_seen y_cc_images y_cc_sheets s_cc) ++ (wRoad t a_rd s_rd) ++ (wRoad t a_tr s_tr) ++ (wDrive t a_dr s_dr)) → va_S A s.heap H locs → lv_has ls 3 [(0, .ref (a_cc 0)), (1, .int x1), (2, .int x2)] → W p l e (rmL 6) s m args below meth c H locs 0 0 (MQ below (gQ D rv w1 A) args s 0 0 A) (F0 m 4 ls []) := by
  obtain ⟨hx, hb, hr, hml, hown, hts, hC0, hlk, hA⟩ := id C
  have hK := hC0.1
  intro n
  induction n with
  | zero =>
    intro x1 x2 s_tr s_dr x h
    exact (wh_0 h).elim
  | succ n ih =>
    intro x1 x2 s_tr s_dr x h HX H locs ls hP hD hS hl
    obtain ⟨v, hf, hB, hX⟩ := wh_step h
    have hf : fX8_never_b4 s_cc s_rd s_tr s_dr x1 x2 = some v := hf
    have HB : ∀ (z : Int32 × Int32 × S2 × S2), v = .inl z → ∀ (H : Heap) (locs : List Loc) (ls : Array Slot), va_P D vwCl ((wCC t a_cc y_cc_tape y_cc_teller (a_rd 0) (a_tr 0) (a_dr 0) y_cc_seeker y_cc_seen y_cc_images y_cc_sheets s_cc) ++ (wRoad t a_rd s_rd) ++ (wRoad t a_tr z.2.2.1) ++ (wDrive t a_dr z.2.2.2)) H → va_D A ((wCC t a_cc y_cc_tape y_cc_teller (a_rd 0) (a_tr 0) (a_dr 0) y_cc_seeker y_cc_seen y_cc_images y_cc_sheets s_cc) ++ (wRoad t a_rd s_rd) ++ (wRoad t a_tr z.2.2.1) ++ (wDrive t a_dr z.2.2.2)) → va_S A s.heap H locs → lv_has ls 3 [(0, .ref (a_cc 0)), (1, .int z.1), (2, .int z.2.1)] → W p l e (rmL 6) s m args below meth c H locs 0 0 (MQ below (gQ D rv w1 A) args s 0 0 A) (F0 m 4 ls []) := fun z hz H locs ls hP hD hS hl => ih z.1 z.2.1 z.2.2.1 z.2.2.2 x (hB z hz) HX H locs ls hP hD hS hl
    have HX : ∀ (z : Int32 × Int32 × S2 × S2), v = .inr z → ∀ (H : Heap) (locs : List Loc) (ls : Array Slot), va_P D vwCl ((wCC t a_cc y_cc_tape y_cc_teller (a_rd 0) (a_tr 0) (a_dr 0) y_cc_seeker y_cc_seen y_cc_images y_cc_sheets s_cc) ++ (wRoad t a_rd s_rd) ++ (wRoad t a_tr z.2.2.1) ++ (wDrive t a_dr z.2.2.2)) H → va_D A ((wCC t a_cc y_cc_tape y_cc_teller (a_rd 0) (a_tr 0) (a_dr 0) y_cc_seeker y_cc_seen y_cc_images y_cc_sheets s_cc) ++ (wRoad t a_rd s_rd) ++ (wRoad t a_tr z.2.2.1) ++ (wDrive t a_dr z.2.2.2)) → va_S A s.heap H locs → lv_has ls 3 [(1, .int z.1)] → W p l e (rmL 6) s m args below meth c H locs 0 0 (MQ below (gQ D rv w1 A) args s 0 0 A) (F0 m 37 ls []) := fun z hz => HX z (hX _ hz).symm
    unfold fX8_never_b4 at hf
    refine lv_iload_n hx hb dX8_never_4 rfl (lv_at hl 2 rfl) ?_
    refine lv_aload_n hx hb dX8_never_5 rfl (lv_at hl 0 rfl) ?_
    refine va_get (D := D) (ci := 8) (v := .ref (a_rd 0)) (C := RX8) (T := TX8) (N := 11) hx hb hts iwX8_never_X8 hown hK hP 0 rfl rfl 2 (by decide) (hts _ lkX8_never_f28) (fun _ h9 => h9) rfl dX8_never_6 ?_
    refine va_getN (D := D) (ci := 2) (v := .int (s_rd 0 1)) (C := RX2) (T := TX2) (N := 12) hx hb hts iwX8_never_X2 hown hK hP 2 rfl rfl 9 (by decide) (hC0.2.1.f 27 rfl) (fun _ h9 => h9) rfl dX8_never_9 ?_
    refine lv_icmp_ge (tgt := 37) hx hb dX8_never_12 (by decide) (fun c1 => ?_) (fun c1 => ?_)
    · rw [if_pos c1] at hf
      obtain rfl := so_eq hf
      exact HX _ rfl _ _ _ hP hD hS (lv_sub hl [1] rfl)
    · rw [if_neg c1] at hf
      refine lv_aload_n hx hb dX8_never_15 rfl (lv_at hl 0 rfl) ?_
      refine lv_iload_n hx hb dX8_never_16 rfl (lv_at hl 2 rfl) ?_
      obtain ⟨v2, ev2, hf⟩ := bd_some hf
      refine gk_V0 C (As := [.int x2]) (rest := []) (ci := 8) (q := (RX8, TX8, 11)) (q0 := 0) (cX8_soonestStone_ok (l := l) (D := D) (t := t) (κ := κ) (a_cc := a_cc) (a_rd := a_rd) (a_tr := a_tr) (a_dr := a_dr) (y_cc_tape := y_cc_tape) (y_cc_teller := y_cc_teller) (y_cc_seeker := y_cc_seeker) (y_cc_seen := y_cc_seen) (y_cc_images := y_cc_images) (y_cc_sheets := y_cc_sheets) ev2) gX8_never_X8_soonestStone rfl ⟨rfl, rfl⟩ hdX8_soonestStone ⟨Nat.le_of_ble_eq_true rfl, Nat.le_of_ble_eq_true rfl⟩ rfl rfl hP hD hS rfl hl.1 (Nat.le_of_ble_eq_true rfl) dX8_never_17 (Nat.zero_le _) (Nat.zero_le _) (fun H locs hP hD hS => ?_)
      refine W.eq (g2 := F0 m 20 ls [.int v2.1]) rfl ?_
      refine lv_bipush (v := -4) hx hb dX8_never_20 (by decide) ?_
      refine lv_icmp_ne (tgt := 31) hx hb dX8_never_22 (by decide) (fun c3 => ?_) (fun c3 => ?_)
      · rw [if_neg c3] at hf
        obtain ⟨y4, hy4, hf⟩ := nm_ex hf
        refine lv_iinc (v := y4) (lv' := [(2, .int y4), (0, .ref (a_cc 0)), (1, .int x1)]) hx hb dX8_never_31 hl (k := 2) rfl (by rw [hy4]; rfl) (by decide) rfl (fun ls hl => ?_)
        refine lv_goto (tgt := 4) hx hb dX8_never_34 (by decide) ?_
        obtain rfl := so_eq hf
        exact HB _ rfl _ _ _ hP hD hS (lv_sub hl [1, 2, 0] rfl)
      · rw [if_pos c3] at hf
        refine lv_iload_n hx hb dX8_never_25 rfl (lv_at hl 1 rfl) ?_
        refine lv_iconst (v := 1) hx hb dX8_never_26 (by decide) ?_
        refine lv_iload_n hx hb dX8_never_27 rfl (lv_at hl 2 rfl) ?_
        refine lv_ishl hx hb dX8_never_28 ?_
        refine lv_ior hx hb dX8_never_29 ?_
        obtain ⟨y5, hy5, hf⟩ := nm_ex hf
        refine W.eq (g2 := F0 m 30 ls [.int y5]) (by rw [hy5]) ?_
        refine lv_istore_n (lv' := [(1, .int y5), (0, .ref (a_cc 0)), (2, .int x2)]) hx hb dX8_never_30 rfl hl (by decide) rfl (fun ls hl => ?_)
        obtain ⟨y6, hy6, hf⟩ := nm_ex hf
        refine lv_iinc (v := y6) (lv' := [(2, .int y6), (1, .int y5), (0, .ref (a_cc 0))]) hx hb dX8_never_31 hl (k := 2) rfl (by rw [hy6]; rfl) (by decide) rfl (fun ls hl => ?_)
        refine lv_goto (tgt := 4) hx hb dX8_never_34 (by decide) ?_
        obtain rfl := so_eq hf
        exact HB _ rfl _ _ _ hP hD hS (lv_sub hl [2, 1, 0] rfl)
set_option maxHeartbeats 4000000 in
set_option maxRecDepth 100000 in
theorem cX8_never_ok {l : Launch} {D : va_G} {t : Nat → ClassId} {κ : Nat → Nat} {a_cc : Nat → Nat} {y_cc_tape : Nat} {y_cc_teller : Nat} {y_cc_seeker : Nat} {y_cc_seen : Nat} {y_cc_images : Nat} {y_cc_sheets : Nat} {a_rd : Nat → Nat} {a_tr : Nat → Nat} {a_dr : Nat → Nat} {s_cc : S2} {s_rd : S2} {s_tr : S2} {s_dr : S2} {out : Int32 × S2 × S2} (hf : fX8_never s_cc s_rd s_tr s_dr = some out) : Ct l D t κ yX8_never wsX8_never (rmL 6) [.ref (a_cc 0)] ((wCC t a_cc y_cc_tape y_cc_teller (a_rd 0) (a_tr 0) (a_dr 0) y_cc_seeker y_cc_seen y_cc_images y_cc_sheets s_cc) ++ (wRoad t a_rd s_rd) ++ (wRoad t a_tr s_tr) ++ (wDrive t a_dr s_dr)) (some (.int out.1)) ((wCC t a_cc y_cc_tape y_cc_teller (a_rd 0) (a_tr 0) (a_dr 0) y_cc_seeker y_cc_seen y_cc_images y_cc_sheets s_cc) ++ (wRoad t a_rd s_rd) ++ (wRoad t a_tr out.2.1) ++ (wDrive t a_dr out.2.2)) := by
  refine Ct.ofW (own := RX8) (cc := cX8_never) (maxL := 3) (ret := (some .int)) (by decide) rfl rfl (Nat.le_of_ble_eq_true rfl) ?_
  intro p e s m below meth c A C hP hD ls hl
  have hS : va_S A s.heap s.heap [] := va_S.rf
  obtain ⟨hx, hb, hr, hml, hown, hts, hC0, hlk, hA⟩ := id C
  have hK := hC0.1
  have hl : lv_has ls 3 [(0, .ref (a_cc 0))] := hl
  unfold fX8_never at hf
  refine lv_iconst (v := 0) hx hb dX8_never_0 (by decide) ?_
  refine lv_istore_n (lv' := [(1, .int (0 : Int32)), (0, .ref (a_cc 0))]) hx hb dX8_never_1 rfl hl (by decide) rfl (fun ls hl => ?_)
  refine lv_iconst (v := 0) hx hb dX8_never_2 (by decide) ?_
  refine lv_istore_n (lv' := [(2, .int (0 : Int32)), (1, .int (0 : Int32)), (0, .ref (a_cc 0))]) hx hb dX8_never_3 rfl hl (by decide) rfl (fun ls hl => ?_)
  obtain ⟨x7, ex7, hf⟩ := bd_some hf
  refine wX8_never_l4 C 5000 (0 : Int32) (0 : Int32) s_tr s_dr x7 ex7 (fun c9 h9 H locs ls hP hD hS hl => ?_) _ _ _ hP hD hS (lv_sub hl [2, 1, 0] rfl)
  subst h9
  refine lv_iload_n hx hb dX8_never_37 rfl (lv_at hl 0 rfl) ?_
  obtain rfl := so_eq hf
  exact g_iret C hP hD hS dX8_never_38
/-! CoachCourt.oats -/
def fX8_oats_b26 (s_cc : S2) (s_rd : S2) (s_tr : S2) (s_dr : S2) (x1 : Int32) (x2 : Int32) : Option ((Int32 × S2 × S2) ⊕ ((Int32 × S2 × S2) ⊕ (Int32 × S2 × S2))) :=
  if (99 : Int32) < x2 then
    (some (.inr (.inl (x2, s_tr, s_dr))))
  else
    (gd (ixb x1 4) <|
    nm (sE s_tr 5 (Int32.toNatClampNeg x1) x2) fun s6 =>
    (fX0_run s_dr s6).bind fun v7 =>
    (fX0_hasVerdict v7 x1).bind fun v8 =>
    if v8 = (0 : Int32) then
      (nm (x2 + (1 : Int32)) fun y10 =>
      some (.inl (y10, s6, v7)))
    else
      (some (.inr (.inr (x2, s6, v7)))))
def fX8_oats (s_cc : S2) (s_rd : S2) (s_tr : S2) (s_dr : S2) (p1 : Int32) : Option (Int32 × S2 × S2) :=
  (fX2_hasParty s_rd p1).bind fun v1 =>
  if v1 = (0 : Int32) then
    (some ((-1 : Int32), s_tr, s_dr))
  else
    ((fX2_copyFrom s_tr s_rd).bind fun v3 =>
    (wh (fun (c : Int32 × S2 × S2) => fX8_oats_b26 s_cc s_rd c.2.1 c.2.2 p1 c.1) 5000 ((0 : Int32), v3, s_dr)).bind fun x11 =>
    Sum.elim (fun q12 =>
      some ((-4 : Int32), q12.2.1, q12.2.2)) (fun r13 => some r13) x11)
theorem hdX8_oats : yX8_oats.cls = RX8 ∧ yX8_oats.cls ≠ "java/lang/invoke/MethodHandle" ∧ yX8_oats.cls ≠ "java/lang/invoke/VarHandle" ∧ (parseMethodDescriptor yX8_oats.desc).map (fun d => d.parameters.length) = some 1 := by decide +kernel
theorem iwX8_oats_X8 : ∀ w ∈ wsX80, w ∈ wsX8_oats := by decide +kernel
theorem lkX8_oats_f28 : Cond.fieldLink RX8 28 "CoachCourt" "road" "LCoachCourt$Road;" ∈ wsX8_oats := by decide +kernel
theorem lkX8_oats_f32 : Cond.fieldLink RX8 32 "CoachCourt" "trial" "LCoachCourt$Road;" ∈ wsX8_oats := by decide +kernel
theorem iwX8_oats_X2 : ∀ w ∈ wsX20, w ∈ wsX8_oats := by decide +kernel
theorem lkX8_oats_f38 : Cond.fieldLink RX8 38 "CoachCourt" "drive" "LCoachCourt$Drive;" ∈ wsX8_oats := by decide +kernel
set_option maxHeartbeats 4000000 in
set_option maxRecDepth 100000 in
theorem wX8_oats_l26 {p : Program} {l : Launch} {e : Env} {s : State} {m : MethodId} {args : Array Value} {below : List Frame} {meth : Method} {c : Code} {D : va_G} {t : Nat → ClassId} {κ : Nat → Nat} {A : Nat → Prop} {a_cc : Nat → Nat} {y_cc_tape : Nat} {y_cc_teller : Nat} {y_cc_seeker : Nat} {y_cc_seen : Nat} {y_cc_images : Nat} {y_cc_sheets : Nat} {a_rd : Nat → Nat} {a_tr : Nat → Nat} {a_dr : Nat → Nat} {s_cc : S2} {s_rd : S2} {x1 : Int32} {rv : Option Value} {w1 : va_W} (C : Cxt p s m args meth c cX8_oats 3 RX8 wsX8_oats (some .int) D t κ A) : ∀ (n : Nat) (x2 : Int32) (s_tr : S2) (s_dr : S2) (x : (Int32 × S2 × S2) ⊕ (Int32 × S2 × S2)), wh (fun (c : Int32 × S2 × S2) => fX8_oats_b26 s_cc s_rd c.2.1 c.2.2 x1 c.1) n (x2, s_tr, s_dr) = some x → (∀ (z : Int32 × S2 × S2), x = .inl z → ∀ (H : Heap) (locs : List Loc) (ls : Array Slot), va_P D vwCl ((wCC t a_cc y_cc_tape y_cc_teller (a_rd 0) (a_tr 0) (a_dr 0) y_cc_seeker y_cc_seen y_cc_images y_cc_sheets s_cc) ++ (wRoad t a_rd s_rd) ++ (wRoad t a_tr z.2.1) ++ (wDrive t a_dr z.2.2)) H → va_D A ((wCC t a_cc y_cc_tape y_cc_teller (a_rd 0) (a_tr 0) (a_dr 0) y_cc_seeker y_cc_seen y_cc_images y_cc_sheets s_cc) ++ (wRoad t a_rd s_rd) ++ (wRoad t a_tr z.2.1) ++ (wDrive t a_dr z.2.2)) → va_S A s.heap H locs → lv_has ls 3 [] → W p l e (rmL 4) s m args below meth c H locs 0 0 (MQ below (gQ D rv w1 A) args s 0 0 A) (F0 m 72 ls [])) → (∀ (r : Int32 × S2 × S2), x = .inr r → rv = (some (.int r.1)) ∧ w1 = ((wCC t a_cc y_cc_tape y_cc_teller (a_rd 0) (a_tr 0) (a_dr 0) y_cc_seeker y_cc_seen y_cc_images y_cc_sheets s_cc) ++ (wRoad t a_rd s_rd) ++ (wRoad t a_tr r.2.1) ++ (wDrive t a_dr r.2.2))) → ∀ (H : Heap) (locs : List Loc) (ls : Array Slot), va_P D vwCl ((wCC t a_cc y_cc_tape y_cc_teller (a_rd 0) (a_tr 0) (a_dr 0) y_cc_seeker y_cc_seen y_cc_images y_cc_sheets s_cc) ++ (wRoad t a_rd s_rd) ++ (wRoad t a_tr s_tr) ++ (wDrive t a_dr s_dr)) H → va_D A ((wCC t a_cc y_cc_tape y_cc_teller (a_rd 0) (a_tr 0) (a_dr 0) y_cc_seeker y_cc_seen y_cc_images y_cc_sheets s_cc) ++ (wRoad t a_rd s_rd) ++ (wRoad t a_tr s_tr) ++ (wDrive t a_dr s_dr)) → va_S A s.heap H locs → lv_has ls 3 [(0, .ref (a_cc 0)), (1, .int x1), (2, .int x2)] → W p l e (rmL 4) s m args below meth c H locs 0 0 (MQ below (gQ D rv w1 A) args s 0 0 A) (F0 m 26 ls []) := by
  obtain ⟨hx, hb, hr, hml, hown, hts, hC0, hlk, hA⟩ := id C
  have hK := hC0.1
  intro n
  induction n with
  | zero =>
    intro x2 s_tr s_dr x h
    exact (wh_0 h).elim
  | succ n ih =>
    intro x2 s_tr s_dr x h HX HR H locs ls hP hD hS hl
    obtain ⟨v, hf, hB, hX⟩ := wh_step h
    have hf : fX8_oats_b26 s_cc s_rd s_tr s_dr x1 x2 = some v := hf
    have HB : ∀ (z : Int32 × S2 × S2), v = .inl z → ∀ (H : Heap) (locs : List Loc) (ls : Array Slot), va_P D vwCl ((wCC t a_cc y_cc_tape y_cc_teller (a_rd 0) (a_tr 0) (a_dr 0) y_cc_seeker y_cc_seen y_cc_images y_cc_sheets s_cc) ++ (wRoad t a_rd s_rd) ++ (wRoad t a_tr z.2.1) ++ (wDrive t a_dr z.2.2)) H → va_D A ((wCC t a_cc y_cc_tape y_cc_teller (a_rd 0) (a_tr 0) (a_dr 0) y_cc_seeker y_cc_seen y_cc_images y_cc_sheets s_cc) ++ (wRoad t a_rd s_rd) ++ (wRoad t a_tr z.2.1) ++ (wDrive t a_dr z.2.2)) → va_S A s.heap H locs → lv_has ls 3 [(0, .ref (a_cc 0)), (1, .int x1), (2, .int z.1)] → W p l e (rmL 4) s m args below meth c H locs 0 0 (MQ below (gQ D rv w1 A) args s 0 0 A) (F0 m 26 ls []) := fun z hz H locs ls hP hD hS hl => ih z.1 z.2.1 z.2.2 x (hB z hz) HX HR H locs ls hP hD hS hl
    have HX : ∀ (z : Int32 × S2 × S2), v = .inr (.inl z) → ∀ (H : Heap) (locs : List Loc) (ls : Array Slot), va_P D vwCl ((wCC t a_cc y_cc_tape y_cc_teller (a_rd 0) (a_tr 0) (a_dr 0) y_cc_seeker y_cc_seen y_cc_images y_cc_sheets s_cc) ++ (wRoad t a_rd s_rd) ++ (wRoad t a_tr z.2.1) ++ (wDrive t a_dr z.2.2)) H → va_D A ((wCC t a_cc y_cc_tape y_cc_teller (a_rd 0) (a_tr 0) (a_dr 0) y_cc_seeker y_cc_seen y_cc_images y_cc_sheets s_cc) ++ (wRoad t a_rd s_rd) ++ (wRoad t a_tr z.2.1) ++ (wDrive t a_dr z.2.2)) → va_S A s.heap H locs → lv_has ls 3 [] → W p l e (rmL 4) s m args below meth c H locs 0 0 (MQ below (gQ D rv w1 A) args s 0 0 A) (F0 m 72 ls []) := fun z hz => HX z (hX _ hz).symm
    have HR : ∀ (r : Int32 × S2 × S2), v = .inr (.inr r) → rv = (some (.int r.1)) ∧ w1 = ((wCC t a_cc y_cc_tape y_cc_teller (a_rd 0) (a_tr 0) (a_dr 0) y_cc_seeker y_cc_seen y_cc_images y_cc_sheets s_cc) ++ (wRoad t a_rd s_rd) ++ (wRoad t a_tr r.2.1) ++ (wDrive t a_dr r.2.2)) := fun r hz => HR r (hX _ hz).symm
    unfold fX8_oats_b26 at hf
    refine lv_iload_n hx hb dX8_oats_26 rfl (lv_at hl 2 rfl) ?_
    refine lv_bipush (v := 99) hx hb dX8_oats_27 (by decide) ?_
    refine lv_icmp_gt (tgt := 72) hx hb dX8_oats_29 (by decide) (fun c4 => ?_) (fun c4 => ?_)
    · rw [if_pos c4] at hf
      obtain rfl := so_eq hf
      exact HX _ rfl _ _ _ hP hD hS (lv_sub hl [] rfl)
    · rw [if_neg c4] at hf
      refine lv_aload_n hx hb dX8_oats_32 rfl (lv_at hl 0 rfl) ?_
      refine va_get (D := D) (ci := 8) (v := .ref (a_tr 0)) (C := RX8) (T := TX8) (N := 11) hx hb hts iwX8_oats_X8 hown hK hP 0 rfl rfl 3 (by decide) (hts _ lkX8_oats_f32) (fun _ h9 => h9) rfl dX8_oats_33 ?_
      refine va_getN (D := D) (ci := 2) (v := .ref (a_tr 5)) (C := RX2) (T := TX2) (N := 12) hx hb hts iwX8_oats_X2 hown hK hP 11 rfl rfl 4 (by decide) (hC0.2.1.f 16 rfl) (fun _ h9 => h9) rfl dX8_oats_36 ?_
      refine lv_iload_n hx hb dX8_oats_39 rfl (lv_at hl 1 rfl) ?_
      refine lv_iload_n hx hb dX8_oats_40 rfl (lv_at hl 2 rfl) ?_
      obtain ⟨b5, hf⟩ := gd_some hf
      obtain ⟨s6, hs6, hf⟩ := nm_ex hf
      refine va_iast hx hb hK hP hD hS 16 0 rfl rfl (ixb_in b5) dX8_oats_41 (fun H locs hP hD hS => ?_)
      have hP : va_P D vwCl ((wCC t a_cc y_cc_tape y_cc_teller (a_rd 0) (a_tr 0) (a_dr 0) y_cc_seeker y_cc_seen y_cc_images y_cc_sheets s_cc) ++ (wRoad t a_rd s_rd) ++ (wRoad t a_tr s6) ++ (wDrive t a_dr s_dr)) H := by rw [hs6]; exact hP
      have hD : va_D A ((wCC t a_cc y_cc_tape y_cc_teller (a_rd 0) (a_tr 0) (a_dr 0) y_cc_seeker y_cc_seen y_cc_images y_cc_sheets s_cc) ++ (wRoad t a_rd s_rd) ++ (wRoad t a_tr s6) ++ (wDrive t a_dr s_dr)) := by rw [hs6]; exact hD
      refine lv_aload_n hx hb dX8_oats_42 rfl (lv_at hl 0 rfl) ?_
      refine va_get (D := D) (ci := 8) (v := .ref (a_dr 0)) (C := RX8) (T := TX8) (N := 11) hx hb hts iwX8_oats_X8 hown hK hP 0 rfl rfl 4 (by decide) (hts _ lkX8_oats_f38) (fun _ h9 => h9) rfl dX8_oats_43 ?_
      refine lv_aload_n hx hb dX8_oats_46 rfl (lv_at hl 0 rfl) ?_
      refine va_get (D := D) (ci := 8) (v := .ref (a_tr 0)) (C := RX8) (T := TX8) (N := 11) hx hb hts iwX8_oats_X8 hown hK hP 0 rfl rfl 3 (by decide) (hts _ lkX8_oats_f32) (fun _ h9 => h9) rfl dX8_oats_47 ?_
      obtain ⟨v7, ev7, hf⟩ := bd_some hf
      refine gk_V C (As := [.ref (a_tr 0)]) (rest := []) (ci := 0) (q := (RX0, TX0, 7)) (q0 := 0) (wr := ((wCC t a_cc y_cc_tape y_cc_teller (a_rd 0) (a_tr 0) (a_dr 0) y_cc_seeker y_cc_seen y_cc_images y_cc_sheets s_cc) ++ (wRoad t a_rd s_rd))) (wf := ((wCC t a_cc y_cc_tape y_cc_teller (a_rd 0) (a_tr 0) (a_dr 0) y_cc_seeker y_cc_seen y_cc_images y_cc_sheets s_cc) ++ (wRoad t a_rd s_rd) ++ (wRoad t a_tr s6) ++ (wDrive t a_dr v7))) (cX0_run_ok (l := l) (D := D) (t := t) (κ := κ) (a_dr := a_dr) (a_rd := a_tr) ev7) gX8_oats_X0_run rfl ⟨rfl, rfl⟩ hdX0_run ⟨Nat.le_of_ble_eq_true rfl, Nat.le_of_ble_eq_true rfl⟩ rfl rfl hP hD hS [20, 21, 22, 23, 24, 25, 11, 12, 13, 14, 15, 16, 17, 18, 19] [0, 1, 2, 3, 4, 5, 6, 7, 8, 9, 10] [0, 1, 2, 3, 4, 5, 6, 7, 8, 9, 10, 17, 18, 19, 20, 21, 22, 23, 24, 25, 11, 12, 13, 14, 15, 16] rfl rfl rfl rfl (by decide) rfl rfl rfl hl.1 (Nat.le_of_ble_eq_true rfl) dX8_oats_50 (Nat.zero_le _) (Nat.zero_le _) (fun H locs hP hD hS => ?_)
      refine W.eq (g2 := F0 m 53 ls []) rfl ?_
      refine lv_aload_n hx hb dX8_oats_53 rfl (lv_at hl 0 rfl) ?_
      refine va_get (D := D) (ci := 8) (v := .ref (a_dr 0)) (C := RX8) (T := TX8) (N := 11) hx hb hts iwX8_oats_X8 hown hK hP 0 rfl rfl 4 (by decide) (hts _ lkX8_oats_f38) (fun _ h9 => h9) rfl dX8_oats_54 ?_
      refine lv_iload_n hx hb dX8_oats_57 rfl (lv_at hl 1 rfl) ?_
      obtain ⟨v8, ev8, hf⟩ := bd_some hf
      refine gk_V C (As := [.int x1]) (rest := []) (ci := 0) (q := (RX0, TX0, 7)) (q0 := 0) (wr := ((wCC t a_cc y_cc_tape y_cc_teller (a_rd 0) (a_tr 0) (a_dr 0) y_cc_seeker y_cc_seen y_cc_images y_cc_sheets s_cc) ++ (wRoad t a_rd s_rd) ++ (wRoad t a_tr s6))) (wf := ((wCC t a_cc y_cc_tape y_cc_teller (a_rd 0) (a_tr 0) (a_dr 0) y_cc_seeker y_cc_seen y_cc_images y_cc_sheets s_cc) ++ (wRoad t a_rd s_rd) ++ (wRoad t a_tr s6) ++ (wDrive t a_dr v7))) (cX0_hasVerdict_ok (l := l) (D := D) (t := t) (κ := κ) (a_dr := a_dr) ev8) gX8_oats_X0_hasVerdict rfl ⟨rfl, rfl⟩ hdX0_hasVerdict ⟨Nat.le_of_ble_eq_true rfl, Nat.le_of_ble_eq_true rfl⟩ rfl rfl hP hD hS [20, 21, 22, 23, 24, 25] [0, 1, 2, 3, 4, 5, 6, 7, 8, 9, 10, 11, 12, 13, 14, 15, 16, 17, 18, 19] [0, 1, 2, 3, 4, 5, 6, 7, 8, 9, 10, 11, 12, 13, 14, 15, 16, 17, 18, 19, 20, 21, 22, 23, 24, 25] rfl rfl rfl rfl (by decide) rfl rfl rfl hl.1 (Nat.le_of_ble_eq_true rfl) dX8_oats_58 (Nat.zero_le _) (Nat.zero_le _) (fun H locs hP hD hS => ?_)
      refine W.eq (g2 := F0 m 61 ls [.int v8]) rfl ?_
      refine lv_if_eq (tgt := 66) hx hb dX8_oats_61 (by decide) (fun c9 => ?_) (fun c9 => ?_)
      · rw [if_pos c9] at hf
        obtain ⟨y10, hy10, hf⟩ := nm_ex hf
        refine lv_iinc (v := y10) (lv' := [(2, .int y10), (0, .ref (a_cc 0)), (1, .int x1)]) hx hb dX8_oats_66 hl (k := 2) rfl (by rw [hy10]; rfl) (by decide) rfl (fun ls hl => ?_)
        refine lv_goto (tgt := 26) hx hb dX8_oats_69 (by decide) ?_
        obtain rfl := so_eq hf
        exact HB _ rfl _ _ _ hP hD hS (lv_sub hl [1, 2, 0] rfl)
      · rw [if_neg c9] at hf
        refine lv_iload_n hx hb dX8_oats_64 rfl (lv_at hl 2 rfl) ?_
        obtain rfl := so_eq hf
        obtain ⟨rfl, rfl⟩ := HR _ rfl
        exact g_iret C hP hD hS dX8_oats_65
set_option maxHeartbeats 4000000 in
set_option maxRecDepth 100000 in
theorem cX8_oats_ok {l : Launch} {D : va_G} {t : Nat → ClassId} {κ : Nat → Nat} {a_cc : Nat → Nat} {y_cc_tape : Nat} {y_cc_teller : Nat} {y_cc_seeker : Nat} {y_cc_seen : Nat} {y_cc_images : Nat} {y_cc_sheets : Nat} {a_rd : Nat → Nat} {a_tr : Nat → Nat} {a_dr : Nat → Nat} {s_cc : S2} {s_rd : S2} {s_tr : S2} {s_dr : S2} {p1 : Int32} {out : Int32 × S2 × S2} (hf : fX8_oats s_cc s_rd s_tr s_dr p1 = some out) : Ct l D t κ yX8_oats wsX8_oats (rmL 4) [.ref (a_cc 0), .int p1] ((wCC t a_cc y_cc_tape y_cc_teller (a_rd 0) (a_tr 0) (a_dr 0) y_cc_seeker y_cc_seen y_cc_images y_cc_sheets s_cc) ++ (wRoad t a_rd s_rd) ++ (wRoad t a_tr s_tr) ++ (wDrive t a_dr s_dr)) (some (.int out.1)) ((wCC t a_cc y_cc_tape y_cc_teller (a_rd 0) (a_tr 0) (a_dr 0) y_cc_seeker y_cc_seen y_cc_images y_cc_sheets s_cc) ++ (wRoad t a_rd s_rd) ++ (wRoad t a_tr out.2.1) ++ (wDrive t a_dr out.2.2)) := by
  refine Ct.ofW (own := RX8) (cc := cX8_oats) (maxL := 3) (ret := (some .int)) (by decide) rfl rfl (Nat.le_of_ble_eq_true rfl) ?_
  intro p e s m below meth c A C hP hD ls hl
  have hS : va_S A s.heap s.heap [] := va_S.rf
  obtain ⟨hx, hb, hr, hml, hown, hts, hC0, hlk, hA⟩ := id C
  have hK := hC0.1
  have hl : lv_has ls 3 [(0, .ref (a_cc 0)), (1, .int p1)] := hl
  unfold fX8_oats at hf
  refine lv_aload_n hx hb dX8_oats_0 rfl (lv_at hl 0 rfl) ?_
  refine va_get (D := D) (ci := 8) (v := .ref (a_rd 0)) (C := RX8) (T := TX8) (N := 11) hx hb hts iwX8_oats_X8 hown hK hP 0 rfl rfl 2 (by decide) (hts _ lkX8_oats_f28) (fun _ h9 => h9) rfl dX8_oats_1 ?_
  refine lv_iload_n hx hb dX8_oats_4 rfl (lv_at hl 1 rfl) ?_
  obtain ⟨v1, ev1, hf⟩ := bd_some hf
  refine gk_V C (As := [.int p1]) (rest := []) (ci := 2) (q := (RX2, TX2, 12)) (q0 := 0) (wr := ((wCC t a_cc y_cc_tape y_cc_teller (a_rd 0) (a_tr 0) (a_dr 0) y_cc_seeker y_cc_seen y_cc_images y_cc_sheets s_cc) ++ (wRoad t a_tr s_tr) ++ (wDrive t a_dr s_dr))) (wf := ((wCC t a_cc y_cc_tape y_cc_teller (a_rd 0) (a_tr 0) (a_dr 0) y_cc_seeker y_cc_seen y_cc_images y_cc_sheets s_cc) ++ (wRoad t a_rd s_rd) ++ (wRoad t a_tr s_tr) ++ (wDrive t a_dr s_dr))) (cX2_hasParty_ok (l := l) (D := D) (t := t) (κ := κ) (a_rd := a_rd) ev1) gX8_oats_X2_hasParty rfl ⟨rfl, rfl⟩ hdX2_hasParty ⟨Nat.le_of_ble_eq_true rfl, Nat.le_of_ble_eq_true rfl⟩ rfl rfl hP hD hS [2, 3, 4, 5, 6, 7, 8, 9, 10] [0, 1, 11, 12, 13, 14, 15, 16, 17, 18, 19, 20, 21, 22, 23, 24, 25] [0, 1, 17, 18, 19, 20, 21, 22, 23, 24, 25, 2, 3, 4, 5, 6, 7, 8, 9, 10, 11, 12, 13, 14, 15, 16] rfl rfl rfl rfl (by decide) rfl rfl rfl hl.1 (Nat.le_of_ble_eq_true rfl) dX8_oats_5 (Nat.zero_le _) (Nat.zero_le _) (fun H locs hP hD hS => ?_)
  refine W.eq (g2 := F0 m 8 ls [.int v1]) rfl ?_
  refine lv_if_ne (tgt := 13) hx hb dX8_oats_8 (by decide) (fun c2 => ?_) (fun c2 => ?_)
  · rw [if_neg c2] at hf
    refine lv_aload_n hx hb dX8_oats_13 rfl (lv_at hl 0 rfl) ?_
    refine va_get (D := D) (ci := 8) (v := .ref (a_tr 0)) (C := RX8) (T := TX8) (N := 11) hx hb hts iwX8_oats_X8 hown hK hP 0 rfl rfl 3 (by decide) (hts _ lkX8_oats_f32) (fun _ h9 => h9) rfl dX8_oats_14 ?_
    refine lv_aload_n hx hb dX8_oats_17 rfl (lv_at hl 0 rfl) ?_
    refine va_get (D := D) (ci := 8) (v := .ref (a_rd 0)) (C := RX8) (T := TX8) (N := 11) hx hb hts iwX8_oats_X8 hown hK hP 0 rfl rfl 2 (by decide) (hts _ lkX8_oats_f28) (fun _ h9 => h9) rfl dX8_oats_18 ?_
    obtain ⟨v3, ev3, hf⟩ := bd_some hf
    refine gk_V C (As := [.ref (a_rd 0)]) (rest := []) (ci := 2) (q := (RX2, TX2, 12)) (q0 := 0) (wr := ((wCC t a_cc y_cc_tape y_cc_teller (a_rd 0) (a_tr 0) (a_dr 0) y_cc_seeker y_cc_seen y_cc_images y_cc_sheets s_cc) ++ (wDrive t a_dr s_dr))) (wf := ((wCC t a_cc y_cc_tape y_cc_teller (a_rd 0) (a_tr 0) (a_dr 0) y_cc_seeker y_cc_seen y_cc_images y_cc_sheets s_cc) ++ (wRoad t a_rd s_rd) ++ (wRoad t a_tr v3) ++ (wDrive t a_dr s_dr))) (cX2_copyFrom_ok (l := l) (D := D) (t := t) (κ := κ) (a_rd := a_tr) (a_ro := a_rd) ev3) gX8_oats_X2_copyFrom rfl ⟨rfl, rfl⟩ hdX2_copyFrom ⟨Nat.le_of_ble_eq_true rfl, Nat.le_of_ble_eq_true rfl⟩ rfl rfl hP hD hS [11, 12, 13, 14, 15, 16, 17, 18, 19, 2, 3, 4, 5, 6, 7, 8, 9, 10] [0, 1, 20, 21, 22, 23, 24, 25] [0, 1, 17, 18, 19, 20, 21, 22, 23, 24, 25, 8, 9, 10, 11, 12, 13, 14, 15, 16, 2, 3, 4, 5, 6, 7] rfl rfl rfl rfl (by decide) rfl rfl rfl hl.1 (Nat.le_of_ble_eq_true rfl) dX8_oats_21 (Nat.zero_le _) (Nat.zero_le _) (fun H locs hP hD hS => ?_)
    refine W.eq (g2 := F0 m 24 ls []) rfl ?_
    refine lv_iconst (v := 0) hx hb dX8_oats_24 (by decide) ?_
    refine lv_istore_n (lv' := [(2, .int (0 : Int32)), (0, .ref (a_cc 0)), (1, .int p1)]) hx hb dX8_oats_25 rfl hl (by decide) rfl (fun ls hl => ?_)
    obtain ⟨x11, ex11, hf⟩ := bd_some hf
    refine wX8_oats_l26 C 5000 (0 : Int32) v3 s_dr x11 ex11 (fun q12 h9 H locs ls hP hD hS hl => ?_) (fun r13 h9 => ?_) _ _ _ hP hD hS (lv_sub hl [1, 2, 0] rfl)
    · rw [h9, Sum.elim_inl] at hf
      refine lv_bipush (v := -4) hx hb dX8_oats_72 (by decide) ?_
      obtain rfl := so_eq hf
      exact g_iret C hP hD hS dX8_oats_74
    · rw [h9, Sum.elim_inr] at hf
      obtain rfl := so_eq hf
      exact ⟨rfl, rfl⟩
  · rw [if_pos c2] at hf
    refine lv_iconst (v := -1) hx hb dX8_oats_11 (by decide) ?_
    obtain rfl := so_eq hf
    exact g_iret C hP hD hS dX8_oats_12
/-! CoachCourt.room -/
def fX8_room_b15 (s_cc : S2) (s_rd : S2) (s_tr : S2) (s_dr : S2) (x1 : Int32) (x2 : Int32) : Option ((Int32 × S2 × S2) ⊕ (Int32 × S2 × S2)) :=
  if (4 : Int32) ≤ x2 then
    (some (.inr (x2, s_tr, s_dr)))
  else
    ((fX8_verdictsUnder s_cc s_rd s_tr s_dr x2 (s_rd 0 3)).bind fun v4 =>
    if v4.1 = x1 then
      (some (.inr (x2, v4.2.1, v4.2.2)))
    else
      (nm (x2 + (1 : Int32)) fun y6 =>
      some (.inl (y6, v4.2.1, v4.2.2))))
def fX8_room (s_cc : S2) (s_rd : S2) (s_tr : S2) (s_dr : S2) : Option (Int32 × S2 × S2) :=
  (fX8_verdictsUnder s_cc s_rd s_tr s_dr (4 : Int32) (s_rd 0 3)).bind fun v1 =>
  nm v1.1 fun y2 =>
  (wh (fun (c : Int32 × S2 × S2) => fX8_room_b15 s_cc s_rd c.2.1 c.2.2 y2 c.1) 5000 ((1 : Int32), v1.2.1, v1.2.2)).bind fun x7 =>
  some (x7.1, x7.2.1, x7.2.2)
theorem hdX8_room : yX8_room.cls = RX8 ∧ yX8_room.cls ≠ "java/lang/invoke/MethodHandle" ∧ yX8_room.cls ≠ "java/lang/invoke/VarHandle" ∧ (parseMethodDescriptor yX8_room.desc).map (fun d => d.parameters.length) = some 0 := by decide +kernel
theorem iwX8_room_X8 : ∀ w ∈ wsX80, w ∈ wsX8_room := by decide +kernel
theorem lkX8_room_f28 : Cond.fieldLink RX8 28 "CoachCourt" "road" "LCoachCourt$Road;" ∈ wsX8_room := by decide +kernel
theorem iwX8_room_X2 : ∀ w ∈ wsX20, w ∈ wsX8_room := by decide +kernel
set_option maxHeartbeats 4000000 in
set_option maxRecDepth 100000 in
theorem wX8_room_l15 {p : Program} {l : Launch} {e : Env} {s : State} {m : MethodId} {args : Array Value} {below : List Frame} {meth : Method} {c : Code} {D : va_G} {t : Nat → ClassId} {κ : Nat → Nat} {A : Nat → Prop} {a_cc : Nat → Nat} {y_cc_tape : Nat} {y_cc_teller : Nat} {y_cc_seeker : Nat} {y_cc_seen : Nat} {y_cc_images : Nat} {y_cc_sheets : Nat} {a_rd : Nat → Nat} {a_tr : Nat → Nat} {a_dr : Nat → Nat} {s_cc : S2} {s_rd : S2} {x1 : Int32} {rv : Option Value} {w1 : va_W} (C : Cxt p s m args meth c cX8_room 3 RX8 wsX8_room (some .int) D t κ A) : ∀ (n : Nat) (x2 : Int32) (s_tr : S2) (s_dr : S2) (x : Int32 × S2 × S2), wh (fun (c : Int32 × S2 × S2) => fX8_room_b15 s_cc s_rd c.2.1 c.2.2 x1 c.1) n (x2, s_tr, s_dr) = some x → (∀ (z : Int32 × S2 × S2), x = z → ∀ (H : Heap) (locs : List Loc) (ls : Array Slot), va_P D vwCl ((wCC t a_cc y_cc_tape y_cc_teller (a_rd 0) (a_tr 0) (a_dr 0) y_cc_seeker y_cc_seen y_cc_images y_cc_sheets s_cc) ++ (wRoad t a_rd s_rd) ++ (wRoad t a_tr z.2.1) ++ (wDrive t a_dr z.2.2)) H → va_D A ((wCC t a_cc y_cc_tape y_cc_teller (a_rd 0) (a_tr 0) (a_dr 0) y_cc_seeker y_cc_seen y_cc_images y_cc_sheets s_cc) ++ (wRoad t a_rd s_rd) ++ (wRoad t a_tr z.2.1) ++ (wDrive t a_dr z.2.2)) → va_S A s.heap H locs → lv_has ls 3 [(2, .int z.1)] → W p l e (rmL 5) s m args below meth c H locs 0 0 (MQ below (gQ D rv w1 A) args s 0 0 A) (F0 m 42 ls [])) → ∀ (H : Heap) (locs : List Loc) (ls : Array Slot), va_P D vwCl ((wCC t a_cc y_cc_tape y_cc_teller (a_rd 0) (a_tr 0) (a_dr 0) y_cc_seeker y_cc_seen y_cc_images y_cc_sheets s_cc) ++ (wRoad t a_rd s_rd) ++ (wRoad t a_tr s_tr) ++ (wDrive t a_dr s_dr)) H → va_D A ((wCC t a_cc y_cc_tape y_cc_teller (a_rd 0) (a_tr 0) (a_dr 0) y_cc_seeker y_cc_seen y_cc_images y_cc_sheets s_cc) ++ (wRoad t a_rd s_rd) ++ (wRoad t a_tr s_tr) ++ (wDrive t a_dr s_dr)) → va_S A s.heap H locs → lv_has ls 3 [(0, .ref (a_cc 0)), (1, .int x1), (2, .int x2)] → W p l e (rmL 5) s m args below meth c H locs 0 0 (MQ below (gQ D rv w1 A) args s 0 0 A) (F0 m 15 ls []) := by
  obtain ⟨hx, hb, hr, hml, hown, hts, hC0, hlk, hA⟩ := id C
  have hK := hC0.1
  intro n
  induction n with
  | zero =>
    intro x2 s_tr s_dr x h
    exact (wh_0 h).elim
  | succ n ih =>
    intro x2 s_tr s_dr x h HX H locs ls hP hD hS hl
    obtain ⟨v, hf, hB, hX⟩ := wh_step h
    have hf : fX8_room_b15 s_cc s_rd s_tr s_dr x1 x2 = some v := hf
    have HB : ∀ (z : Int32 × S2 × S2), v = .inl z → ∀ (H : Heap) (locs : List Loc) (ls : Array Slot), va_P D vwCl ((wCC t a_cc y_cc_tape y_cc_teller (a_rd 0) (a_tr 0) (a_dr 0) y_cc_seeker y_cc_seen y_cc_images y_cc_sheets s_cc) ++ (wRoad t a_rd s_rd) ++ (wRoad t a_tr z.2.1) ++ (wDrive t a_dr z.2.2)) H → va_D A ((wCC t a_cc y_cc_tape y_cc_teller (a_rd 0) (a_tr 0) (a_dr 0) y_cc_seeker y_cc_seen y_cc_images y_cc_sheets s_cc) ++ (wRoad t a_rd s_rd) ++ (wRoad t a_tr z.2.1) ++ (wDrive t a_dr z.2.2)) → va_S A s.heap H locs → lv_has ls 3 [(0, .ref (a_cc 0)), (1, .int x1), (2, .int z.1)] → W p l e (rmL 5) s m args below meth c H locs 0 0 (MQ below (gQ D rv w1 A) args s 0 0 A) (F0 m 15 ls []) := fun z hz H locs ls hP hD hS hl => ih z.1 z.2.1 z.2.2 x (hB z hz) HX H locs ls hP hD hS hl
    have HX : ∀ (z : Int32 × S2 × S2), v = .inr z → ∀ (H : Heap) (locs : List Loc) (ls : Array Slot), va_P D vwCl ((wCC t a_cc y_cc_tape y_cc_teller (a_rd 0) (a_tr 0) (a_dr 0) y_cc_seeker y_cc_seen y_cc_images y_cc_sheets s_cc) ++ (wRoad t a_rd s_rd) ++ (wRoad t a_tr z.2.1) ++ (wDrive t a_dr z.2.2)) H → va_D A ((wCC t a_cc y_cc_tape y_cc_teller (a_rd 0) (a_tr 0) (a_dr 0) y_cc_seeker y_cc_seen y_cc_images y_cc_sheets s_cc) ++ (wRoad t a_rd s_rd) ++ (wRoad t a_tr z.2.1) ++ (wDrive t a_dr z.2.2)) → va_S A s.heap H locs → lv_has ls 3 [(2, .int z.1)] → W p l e (rmL 5) s m args below meth c H locs 0 0 (MQ below (gQ D rv w1 A) args s 0 0 A) (F0 m 42 ls []) := fun z hz => HX z (hX _ hz).symm
    unfold fX8_room_b15 at hf
    refine lv_iload_n hx hb dX8_room_15 rfl (lv_at hl 2 rfl) ?_
    refine lv_iconst (v := 4) hx hb dX8_room_16 (by decide) ?_
    refine lv_icmp_ge (tgt := 42) hx hb dX8_room_17 (by decide) (fun c3 => ?_) (fun c3 => ?_)
    · rw [if_pos c3] at hf
      obtain rfl := so_eq hf
      exact HX _ rfl _ _ _ hP hD hS (lv_sub hl [2] rfl)
    · rw [if_neg c3] at hf
      refine lv_aload_n hx hb dX8_room_20 rfl (lv_at hl 0 rfl) ?_
      refine lv_iload_n hx hb dX8_room_21 rfl (lv_at hl 2 rfl) ?_
      refine lv_aload_n hx hb dX8_room_22 rfl (lv_at hl 0 rfl) ?_
      refine va_get (D := D) (ci := 8) (v := .ref (a_rd 0)) (C := RX8) (T := TX8) (N := 11) hx hb hts iwX8_room_X8 hown hK hP 0 rfl rfl 2 (by decide) (hts _ lkX8_room_f28) (fun _ h9 => h9) rfl dX8_room_23 ?_
      refine va_getN (D := D) (ci := 2) (v := .int (s_rd 0 3)) (C := RX2) (T := TX2) (N := 12) hx hb hts iwX8_room_X2 hown hK hP 2 rfl rfl 11 (by decide) (hC0.2.1.f 32 rfl) (fun _ h9 => h9) rfl dX8_room_26 ?_
      obtain ⟨v4, ev4, hf⟩ := bd_some hf
      refine gk_V0 C (As := [.int x2, .int (s_rd 0 3)]) (rest := []) (ci := 8) (q := (RX8, TX8, 11)) (q0 := 0) (cX8_verdictsUnder_ok (l := l) (D := D) (t := t) (κ := κ) (a_cc := a_cc) (a_rd := a_rd) (a_tr := a_tr) (a_dr := a_dr) (y_cc_tape := y_cc_tape) (y_cc_teller := y_cc_teller) (y_cc_seeker := y_cc_seeker) (y_cc_seen := y_cc_seen) (y_cc_images := y_cc_images) (y_cc_sheets := y_cc_sheets) ev4) gX8_room_X8_verdictsUnder rfl ⟨rfl, rfl⟩ hdX8_verdictsUnder ⟨Nat.le_of_ble_eq_true rfl, Nat.le_of_ble_eq_true rfl⟩ rfl rfl hP hD hS rfl hl.1 (Nat.le_of_ble_eq_true rfl) dX8_room_29 (Nat.zero_le _) (Nat.zero_le _) (fun H locs hP hD hS => ?_)
      refine W.eq (g2 := F0 m 32 ls [.int v4.1]) rfl ?_
      refine lv_iload_n hx hb dX8_room_32 rfl (lv_at hl 1 rfl) ?_
      refine lv_icmp_eq (tgt := 42) hx hb dX8_room_33 (by decide) (fun c5 => ?_) (fun c5 => ?_)
      · rw [if_pos c5] at hf
        obtain rfl := so_eq hf
        exact HX _ rfl _ _ _ hP hD hS (lv_sub hl [2] rfl)
      · rw [if_neg c5] at hf
        obtain ⟨y6, hy6, hf⟩ := nm_ex hf
        refine lv_iinc (v := y6) (lv' := [(2, .int y6), (0, .ref (a_cc 0)), (1, .int x1)]) hx hb dX8_room_36 hl (k := 2) rfl (by rw [hy6]; rfl) (by decide) rfl (fun ls hl => ?_)
        refine lv_goto (tgt := 15) hx hb dX8_room_39 (by decide) ?_
        obtain rfl := so_eq hf
        exact HB _ rfl _ _ _ hP hD hS (lv_sub hl [1, 2, 0] rfl)
set_option maxHeartbeats 4000000 in
set_option maxRecDepth 100000 in
theorem cX8_room_ok {l : Launch} {D : va_G} {t : Nat → ClassId} {κ : Nat → Nat} {a_cc : Nat → Nat} {y_cc_tape : Nat} {y_cc_teller : Nat} {y_cc_seeker : Nat} {y_cc_seen : Nat} {y_cc_images : Nat} {y_cc_sheets : Nat} {a_rd : Nat → Nat} {a_tr : Nat → Nat} {a_dr : Nat → Nat} {s_cc : S2} {s_rd : S2} {s_tr : S2} {s_dr : S2} {out : Int32 × S2 × S2} (hf : fX8_room s_cc s_rd s_tr s_dr = some out) : Ct l D t κ yX8_room wsX8_room (rmL 5) [.ref (a_cc 0)] ((wCC t a_cc y_cc_tape y_cc_teller (a_rd 0) (a_tr 0) (a_dr 0) y_cc_seeker y_cc_seen y_cc_images y_cc_sheets s_cc) ++ (wRoad t a_rd s_rd) ++ (wRoad t a_tr s_tr) ++ (wDrive t a_dr s_dr)) (some (.int out.1)) ((wCC t a_cc y_cc_tape y_cc_teller (a_rd 0) (a_tr 0) (a_dr 0) y_cc_seeker y_cc_seen y_cc_images y_cc_sheets s_cc) ++ (wRoad t a_rd s_rd) ++ (wRoad t a_tr out.2.1) ++ (wDrive t a_dr out.2.2)) := by
  refine Ct.ofW (own := RX8) (cc := cX8_room) (maxL := 3) (ret := (some .int)) (by decide) rfl rfl (Nat.le_of_ble_eq_true rfl) ?_
  intro p e s m below meth c A C hP hD ls hl
  have hS : va_S A s.heap s.heap [] := va_S.rf
  obtain ⟨hx, hb, hr, hml, hown, hts, hC0, hlk, hA⟩ := id C
  have hK := hC0.1
  have hl : lv_has ls 3 [(0, .ref (a_cc 0))] := hl
  unfold fX8_room at hf
  refine lv_aload_n hx hb dX8_room_0 rfl (lv_at hl 0 rfl) ?_
  refine lv_iconst (v := 4) hx hb dX8_room_1 (by decide) ?_
  refine lv_aload_n hx hb dX8_room_2 rfl (lv_at hl 0 rfl) ?_
  refine va_get (D := D) (ci := 8) (v := .ref (a_rd 0)) (C := RX8) (T := TX8) (N := 11) hx hb hts iwX8_room_X8 hown hK hP 0 rfl rfl 2 (by decide) (hts _ lkX8_room_f28) (fun _ h9 => h9) rfl dX8_room_3 ?_
  refine va_getN (D := D) (ci := 2) (v := .int (s_rd 0 3)) (C := RX2) (T := TX2) (N := 12) hx hb hts iwX8_room_X2 hown hK hP 2 rfl rfl 11 (by decide) (hC0.2.1.f 32 rfl) (fun _ h9 => h9) rfl dX8_room_6 ?_
  obtain ⟨v1, ev1, hf⟩ := bd_some hf
  refine gk_V0 C (As := [.int (4 : Int32), .int (s_rd 0 3)]) (rest := []) (ci := 8) (q := (RX8, TX8, 11)) (q0 := 0) (cX8_verdictsUnder_ok (l := l) (D := D) (t := t) (κ := κ) (a_cc := a_cc) (a_rd := a_rd) (a_tr := a_tr) (a_dr := a_dr) (y_cc_tape := y_cc_tape) (y_cc_teller := y_cc_teller) (y_cc_seeker := y_cc_seeker) (y_cc_seen := y_cc_seen) (y_cc_images := y_cc_images) (y_cc_sheets := y_cc_sheets) ev1) gX8_room_X8_verdictsUnder rfl ⟨rfl, rfl⟩ hdX8_verdictsUnder ⟨Nat.le_of_ble_eq_true rfl, Nat.le_of_ble_eq_true rfl⟩ rfl rfl hP hD hS rfl hl.1 (Nat.le_of_ble_eq_true rfl) dX8_room_9 (Nat.zero_le _) (Nat.zero_le _) (fun H locs hP hD hS => ?_)
  refine W.eq (g2 := F0 m 12 ls [.int v1.1]) rfl ?_
  obtain ⟨y2, hy2, hf⟩ := nm_ex hf
  refine W.eq (g2 := F0 m 12 ls [.int y2]) (by rw [hy2]) ?_
  refine lv_istore_n (lv' := [(1, .int y2), (0, .ref (a_cc 0))]) hx hb dX8_room_12 rfl hl (by decide) rfl (fun ls hl => ?_)
  refine lv_iconst (v := 1) hx hb dX8_room_13 (by decide) ?_
  refine lv_istore_n (lv' := [(2, .int (1 : Int32)), (1, .int y2), (0, .ref (a_cc 0))]) hx hb dX8_room_14 rfl hl (by decide) rfl (fun ls hl => ?_)
  obtain ⟨x7, ex7, hf⟩ := bd_some hf
  refine wX8_room_l15 C 5000 (1 : Int32) v1.2.1 v1.2.2 x7 ex7 (fun c9 h9 H locs ls hP hD hS hl => ?_) _ _ _ hP hD hS (lv_sub hl [2, 1, 0] rfl)
  subst h9
  refine lv_iload_n hx hb dX8_room_42 rfl (lv_at hl 0 rfl) ?_
  obtain rfl := so_eq hf
  exact g_iret C hP hD hS dX8_room_43
/-! CoachCourt.snow -/
def fX8_snow_b16 (s_cc : S2) (s_rd : S2) (s_tr : S2) (s_dr : S2) (x1 : Int32) (x2 : Int32) : Option ((Int32 × S2 × S2) ⊕ (Int32 × S2 × S2)) :=
  if (99 : Int32) ≤ x2 then
    (some (.inr (x2, s_tr, s_dr)))
  else
    ((fX8_verdictsUnder s_cc s_rd s_tr s_dr (s_rd 0 2) x2).bind fun v4 =>
    if v4.1 = x1 then
      (some (.inr (x2, v4.2.1, v4.2.2)))
    else
      (nm (x2 + (1 : Int32)) fun y6 =>
      some (.inl (y6, v4.2.1, v4.2.2))))
def fX8_snow (s_cc : S2) (s_rd : S2) (s_tr : S2) (s_dr : S2) : Option (Int32 × S2 × S2) :=
  (fX8_verdictsUnder s_cc s_rd s_tr s_dr (s_rd 0 2) (99 : Int32)).bind fun v1 =>
  nm v1.1 fun y2 =>
  (wh (fun (c : Int32 × S2 × S2) => fX8_snow_b16 s_cc s_rd c.2.1 c.2.2 y2 c.1) 5000 ((0 : Int32), v1.2.1, v1.2.2)).bind fun x7 =>
  some (x7.1, x7.2.1, x7.2.2)
theorem hdX8_snow : yX8_snow.cls = RX8 ∧ yX8_snow.cls ≠ "java/lang/invoke/MethodHandle" ∧ yX8_snow.cls ≠ "java/lang/invoke/VarHandle" ∧ (parseMethodDescriptor yX8_snow.desc).map (fun d => d.parameters.length) = some 0 := by decide +kernel
theorem iwX8_snow_X8 : ∀ w ∈ wsX80, w ∈ wsX8_snow := by decide +kernel
theorem lkX8_snow_f28 : Cond.fieldLink RX8 28 "CoachCourt" "road" "LCoachCourt$Road;" ∈ wsX8_snow := by decide +kernel
theorem iwX8_snow_X2 : ∀ w ∈ wsX20, w ∈ wsX8_snow := by decide +kernel
set_option maxHeartbeats 4000000 in
set_option maxRecDepth 100000 in
theorem wX8_snow_l16 {p : Program} {l : Launch} {e : Env} {s : State} {m : MethodId} {args : Array Value} {below : List Frame} {meth : Method} {c : Code} {D : va_G} {t : Nat → ClassId} {κ : Nat → Nat} {A : Nat → Prop} {a_cc : Nat → Nat} {y_cc_tape : Nat} {y_cc_teller : Nat} {y_cc_seeker : Nat} {y_cc_seen : Nat} {y_cc_images : Nat} {y_cc_sheets : Nat} {a_rd : Nat → Nat} {a_tr : Nat → Nat} {a_dr : Nat → Nat} {s_cc : S2} {s_rd : S2} {x1 : Int32} {rv : Option Value} {w1 : va_W} (C : Cxt p s m args meth c cX8_snow 3 RX8 wsX8_snow (some .int) D t κ A) : ∀ (n : Nat) (x2 : Int32) (s_tr : S2) (s_dr : S2) (x : Int32 × S2 × S2), wh (fun (c : Int32 × S2 × S2) => fX8_snow_b16 s_cc s_rd c.2.1 c.2.2 x1 c.1) n (x2, s_tr, s_dr) = some x → (∀ (z : Int32 × S2 × S2), x = z → ∀ (H : Heap) (locs : List Loc) (ls : Array Slot), va_P D vwCl ((wCC t a_cc y_cc_tape y_cc_teller (a_rd 0) (a_tr 0) (a_dr 0) y_cc_seeker y_cc_seen y_cc_images y_cc_sheets s_cc) ++ (wRoad t a_rd s_rd) ++ (wRoad t a_tr z.2.1) ++ (wDrive t a_dr z.2.2)) H → va_D A ((wCC t a_cc y_cc_tape y_cc_teller (a_rd 0) (a_tr 0) (a_dr 0) y_cc_seeker y_cc_seen y_cc_images y_cc_sheets s_cc) ++ (wRoad t a_rd s_rd) ++ (wRoad t a_tr z.2.1) ++ (wDrive t a_dr z.2.2)) → va_S A s.heap H locs → lv_has ls 3 [(2, .int z.1)] → W p l e (rmL 5) s m args below meth c H locs 0 0 (MQ below (gQ D rv w1 A) args s 0 0 A) (F0 m 44 ls [])) → ∀ (H : Heap) (locs : List Loc) (ls : Array Slot), va_P D vwCl ((wCC t a_cc y_cc_tape y_cc_teller (a_rd 0) (a_tr 0) (a_dr 0) y_cc_seeker y_cc_seen y_cc_images y_cc_sheets s_cc) ++ (wRoad t a_rd s_rd) ++ (wRoad t a_tr s_tr) ++ (wDrive t a_dr s_dr)) H → va_D A ((wCC t a_cc y_cc_tape y_cc_teller (a_rd 0) (a_tr 0) (a_dr 0) y_cc_seeker y_cc_seen y_cc_images y_cc_sheets s_cc) ++ (wRoad t a_rd s_rd) ++ (wRoad t a_tr s_tr) ++ (wDrive t a_dr s_dr)) → va_S A s.heap H locs → lv_has ls 3 [(0, .ref (a_cc 0)), (1, .int x1), (2, .int x2)] → W p l e (rmL 5) s m args below meth c H locs 0 0 (MQ below (gQ D rv w1 A) args s 0 0 A) (F0 m 16 ls []) := by
  obtain ⟨hx, hb, hr, hml, hown, hts, hC0, hlk, hA⟩ := id C
  have hK := hC0.1
  intro n
  induction n with
  | zero =>
    intro x2 s_tr s_dr x h
    exact (wh_0 h).elim
  | succ n ih =>
    intro x2 s_tr s_dr x h HX H locs ls hP hD hS hl
    obtain ⟨v, hf, hB, hX⟩ := wh_step h
    have hf : fX8_snow_b16 s_cc s_rd s_tr s_dr x1 x2 = some v := hf
    have HB : ∀ (z : Int32 × S2 × S2), v = .inl z → ∀ (H : Heap) (locs : List Loc) (ls : Array Slot), va_P D vwCl ((wCC t a_cc y_cc_tape y_cc_teller (a_rd 0) (a_tr 0) (a_dr 0) y_cc_seeker y_cc_seen y_cc_images y_cc_sheets s_cc) ++ (wRoad t a_rd s_rd) ++ (wRoad t a_tr z.2.1) ++ (wDrive t a_dr z.2.2)) H → va_D A ((wCC t a_cc y_cc_tape y_cc_teller (a_rd 0) (a_tr 0) (a_dr 0) y_cc_seeker y_cc_seen y_cc_images y_cc_sheets s_cc) ++ (wRoad t a_rd s_rd) ++ (wRoad t a_tr z.2.1) ++ (wDrive t a_dr z.2.2)) → va_S A s.heap H locs → lv_has ls 3 [(0, .ref (a_cc 0)), (1, .int x1), (2, .int z.1)] → W p l e (rmL 5) s m args below meth c H locs 0 0 (MQ below (gQ D rv w1 A) args s 0 0 A) (F0 m 16 ls []) := fun z hz H locs ls hP hD hS hl => ih z.1 z.2.1 z.2.2 x (hB z hz) HX H locs ls hP hD hS hl
    have HX : ∀ (z : Int32 × S2 × S2), v = .inr z → ∀ (H : Heap) (locs : List Loc) (ls : Array Slot), va_P D vwCl ((wCC t a_cc y_cc_tape y_cc_teller (a_rd 0) (a_tr 0) (a_dr 0) y_cc_seeker y_cc_seen y_cc_images y_cc_sheets s_cc) ++ (wRoad t a_rd s_rd) ++ (wRoad t a_tr z.2.1) ++ (wDrive t a_dr z.2.2)) H → va_D A ((wCC t a_cc y_cc_tape y_cc_teller (a_rd 0) (a_tr 0) (a_dr 0) y_cc_seeker y_cc_seen y_cc_images y_cc_sheets s_cc) ++ (wRoad t a_rd s_rd) ++ (wRoad t a_tr z.2.1) ++ (wDrive t a_dr z.2.2)) → va_S A s.heap H locs → lv_has ls 3 [(2, .int z.1)] → W p l e (rmL 5) s m args below meth c H locs 0 0 (MQ below (gQ D rv w1 A) args s 0 0 A) (F0 m 44 ls []) := fun z hz => HX z (hX _ hz).symm
    unfold fX8_snow_b16 at hf
    refine lv_iload_n hx hb dX8_snow_16 rfl (lv_at hl 2 rfl) ?_
    refine lv_bipush (v := 99) hx hb dX8_snow_17 (by decide) ?_
    refine lv_icmp_ge (tgt := 44) hx hb dX8_snow_19 (by decide) (fun c3 => ?_) (fun c3 => ?_)
    · rw [if_pos c3] at hf
      obtain rfl := so_eq hf
      exact HX _ rfl _ _ _ hP hD hS (lv_sub hl [2] rfl)
    · rw [if_neg c3] at hf
      refine lv_aload_n hx hb dX8_snow_22 rfl (lv_at hl 0 rfl) ?_
      refine lv_aload_n hx hb dX8_snow_23 rfl (lv_at hl 0 rfl) ?_
      refine va_get (D := D) (ci := 8) (v := .ref (a_rd 0)) (C := RX8) (T := TX8) (N := 11) hx hb hts iwX8_snow_X8 hown hK hP 0 rfl rfl 2 (by decide) (hts _ lkX8_snow_f28) (fun _ h9 => h9) rfl dX8_snow_24 ?_
      refine va_getN (D := D) (ci := 2) (v := .int (s_rd 0 2)) (C := RX2) (T := TX2) (N := 12) hx hb hts iwX8_snow_X2 hown hK hP 2 rfl rfl 10 (by decide) (hC0.2.1.f 30 rfl) (fun _ h9 => h9) rfl dX8_snow_27 ?_
      refine lv_iload_n hx hb dX8_snow_30 rfl (lv_at hl 2 rfl) ?_
      obtain ⟨v4, ev4, hf⟩ := bd_some hf
      refine gk_V0 C (As := [.int (s_rd 0 2), .int x2]) (rest := []) (ci := 8) (q := (RX8, TX8, 11)) (q0 := 0) (cX8_verdictsUnder_ok (l := l) (D := D) (t := t) (κ := κ) (a_cc := a_cc) (a_rd := a_rd) (a_tr := a_tr) (a_dr := a_dr) (y_cc_tape := y_cc_tape) (y_cc_teller := y_cc_teller) (y_cc_seeker := y_cc_seeker) (y_cc_seen := y_cc_seen) (y_cc_images := y_cc_images) (y_cc_sheets := y_cc_sheets) ev4) gX8_snow_X8_verdictsUnder rfl ⟨rfl, rfl⟩ hdX8_verdictsUnder ⟨Nat.le_of_ble_eq_true rfl, Nat.le_of_ble_eq_true rfl⟩ rfl rfl hP hD hS rfl hl.1 (Nat.le_of_ble_eq_true rfl) dX8_snow_31 (Nat.zero_le _) (Nat.zero_le _) (fun H locs hP hD hS => ?_)
      refine W.eq (g2 := F0 m 34 ls [.int v4.1]) rfl ?_
      refine lv_iload_n hx hb dX8_snow_34 rfl (lv_at hl 1 rfl) ?_
      refine lv_icmp_eq (tgt := 44) hx hb dX8_snow_35 (by decide) (fun c5 => ?_) (fun c5 => ?_)
      · rw [if_pos c5] at hf
        obtain rfl := so_eq hf
        exact HX _ rfl _ _ _ hP hD hS (lv_sub hl [2] rfl)
      · rw [if_neg c5] at hf
        obtain ⟨y6, hy6, hf⟩ := nm_ex hf
        refine lv_iinc (v := y6) (lv' := [(2, .int y6), (0, .ref (a_cc 0)), (1, .int x1)]) hx hb dX8_snow_38 hl (k := 2) rfl (by rw [hy6]; rfl) (by decide) rfl (fun ls hl => ?_)
        refine lv_goto (tgt := 16) hx hb dX8_snow_41 (by decide) ?_
        obtain rfl := so_eq hf
        exact HB _ rfl _ _ _ hP hD hS (lv_sub hl [1, 2, 0] rfl)
set_option maxHeartbeats 4000000 in
set_option maxRecDepth 100000 in
theorem cX8_snow_ok {l : Launch} {D : va_G} {t : Nat → ClassId} {κ : Nat → Nat} {a_cc : Nat → Nat} {y_cc_tape : Nat} {y_cc_teller : Nat} {y_cc_seeker : Nat} {y_cc_seen : Nat} {y_cc_images : Nat} {y_cc_sheets : Nat} {a_rd : Nat → Nat} {a_tr : Nat → Nat} {a_dr : Nat → Nat} {s_cc : S2} {s_rd : S2} {s_tr : S2} {s_dr : S2} {out : Int32 × S2 × S2} (hf : fX8_snow s_cc s_rd s_tr s_dr = some out) : Ct l D t κ yX8_snow wsX8_snow (rmL 5) [.ref (a_cc 0)] ((wCC t a_cc y_cc_tape y_cc_teller (a_rd 0) (a_tr 0) (a_dr 0) y_cc_seeker y_cc_seen y_cc_images y_cc_sheets s_cc) ++ (wRoad t a_rd s_rd) ++ (wRoad t a_tr s_tr) ++ (wDrive t a_dr s_dr)) (some (.int out.1)) ((wCC t a_cc y_cc_tape y_cc_teller (a_rd 0) (a_tr 0) (a_dr 0) y_cc_seeker y_cc_seen y_cc_images y_cc_sheets s_cc) ++ (wRoad t a_rd s_rd) ++ (wRoad t a_tr out.2.1) ++ (wDrive t a_dr out.2.2)) := by
  refine Ct.ofW (own := RX8) (cc := cX8_snow) (maxL := 3) (ret := (some .int)) (by decide) rfl rfl (Nat.le_of_ble_eq_true rfl) ?_
  intro p e s m below meth c A C hP hD ls hl
  have hS : va_S A s.heap s.heap [] := va_S.rf
  obtain ⟨hx, hb, hr, hml, hown, hts, hC0, hlk, hA⟩ := id C
  have hK := hC0.1
  have hl : lv_has ls 3 [(0, .ref (a_cc 0))] := hl
  unfold fX8_snow at hf
  refine lv_aload_n hx hb dX8_snow_0 rfl (lv_at hl 0 rfl) ?_
  refine lv_aload_n hx hb dX8_snow_1 rfl (lv_at hl 0 rfl) ?_
  refine va_get (D := D) (ci := 8) (v := .ref (a_rd 0)) (C := RX8) (T := TX8) (N := 11) hx hb hts iwX8_snow_X8 hown hK hP 0 rfl rfl 2 (by decide) (hts _ lkX8_snow_f28) (fun _ h9 => h9) rfl dX8_snow_2 ?_
  refine va_getN (D := D) (ci := 2) (v := .int (s_rd 0 2)) (C := RX2) (T := TX2) (N := 12) hx hb hts iwX8_snow_X2 hown hK hP 2 rfl rfl 10 (by decide) (hC0.2.1.f 30 rfl) (fun _ h9 => h9) rfl dX8_snow_5 ?_
  refine lv_bipush (v := 99) hx hb dX8_snow_8 (by decide) ?_
  obtain ⟨v1, ev1, hf⟩ := bd_some hf
  refine gk_V0 C (As := [.int (s_rd 0 2), .int (99 : Int32)]) (rest := []) (ci := 8) (q := (RX8, TX8, 11)) (q0 := 0) (cX8_verdictsUnder_ok (l := l) (D := D) (t := t) (κ := κ) (a_cc := a_cc) (a_rd := a_rd) (a_tr := a_tr) (a_dr := a_dr) (y_cc_tape := y_cc_tape) (y_cc_teller := y_cc_teller) (y_cc_seeker := y_cc_seeker) (y_cc_seen := y_cc_seen) (y_cc_images := y_cc_images) (y_cc_sheets := y_cc_sheets) ev1) gX8_snow_X8_verdictsUnder rfl ⟨rfl, rfl⟩ hdX8_verdictsUnder ⟨Nat.le_of_ble_eq_true rfl, Nat.le_of_ble_eq_true rfl⟩ rfl rfl hP hD hS rfl hl.1 (Nat.le_of_ble_eq_true rfl) dX8_snow_10 (Nat.zero_le _) (Nat.zero_le _) (fun H locs hP hD hS => ?_)
  refine W.eq (g2 := F0 m 13 ls [.int v1.1]) rfl ?_
  obtain ⟨y2, hy2, hf⟩ := nm_ex hf
  refine W.eq (g2 := F0 m 13 ls [.int y2]) (by rw [hy2]) ?_
  refine lv_istore_n (lv' := [(1, .int y2), (0, .ref (a_cc 0))]) hx hb dX8_snow_13 rfl hl (by decide) rfl (fun ls hl => ?_)
  refine lv_iconst (v := 0) hx hb dX8_snow_14 (by decide) ?_
  refine lv_istore_n (lv' := [(2, .int (0 : Int32)), (1, .int y2), (0, .ref (a_cc 0))]) hx hb dX8_snow_15 rfl hl (by decide) rfl (fun ls hl => ?_)
  obtain ⟨x7, ex7, hf⟩ := bd_some hf
  refine wX8_snow_l16 C 5000 (0 : Int32) v1.2.1 v1.2.2 x7 ex7 (fun c9 h9 H locs ls hP hD hS hl => ?_) _ _ _ hP hD hS (lv_sub hl [2, 1, 0] rfl)
  subst h9
  refine lv_iload_n hx hb dX8_snow_44 rfl (lv_at hl 0 rfl) ?_
  obtain rfl := so_eq hf
  exact g_iret C hP hD hS dX8_snow_45
/-! CoachCourt.rain -/
def fX8_rain_b36 (s_cc : S2) (s_rd : S2) (s_tr : S2) (s_dr : S2) (x1 : Int32) (x2 : Int32) (x3 : Int32) (x4 : Int32) : Option ((Int32 × Int32 × Int32 × S2 × S2) ⊕ (Int32 × Int32 × Int32 × S2 × S2)) :=
  if (s_rd 0 0) ≤ x4 then
    (some (.inr (x2, x3, x4, s_tr, s_dr)))
  else
    ((fX8_verdictsWithOtherMud s_cc s_rd s_tr s_dr x4).bind fun v6 =>
    nm v6.1 fun y7 =>
    if y7 ≤ x2 then
      (nm (x4 + (1 : Int32)) fun y9 =>
      some (.inl (x2, x3, y9, v6.2.1, v6.2.2)))
    else
      (nm (x4 + (1 : Int32)) fun y10 =>
      some (.inl (y7, x4, y10, v6.2.1, v6.2.2))))
def fX8_rain (s_cc : S2) (s_rd : S2) (s_tr : S2) (s_dr : S2) (p1 : Int32) : Option (Int32 × S2 × S2) :=
  (fX8_within p1 (0 : Int32) (1 : Int32)).bind fun v1 =>
  if v1 = (0 : Int32) then
    (some ((-1 : Int32), s_tr, s_dr))
  else
    ((fX0_run s_dr s_rd).bind fun v3 =>
    (fX0_verdicts v3).bind fun v4 =>
    (wh (fun (c : Int32 × Int32 × Int32 × S2 × S2) => fX8_rain_b36 s_cc s_rd c.2.2.2.1 c.2.2.2.2 p1 c.1 c.2.1 c.2.2.1) 5000 (v4, (-4 : Int32), (0 : Int32), s_tr, v3)).bind fun x11 =>
    if p1 = (0 : Int32) then
      (some (x11.2.1, x11.2.2.2.1, x11.2.2.2.2))
    else
      (if x11.2.1 = (-4 : Int32) then
        (some (x11.2.1, x11.2.2.2.1, x11.2.2.2.2))
      else
        (some (x11.1, x11.2.2.2.1, x11.2.2.2.2))))
theorem hdX8_rain : yX8_rain.cls = RX8 ∧ yX8_rain.cls ≠ "java/lang/invoke/MethodHandle" ∧ yX8_rain.cls ≠ "java/lang/invoke/VarHandle" ∧ (parseMethodDescriptor yX8_rain.desc).map (fun d => d.parameters.length) = some 1 := by decide +kernel
theorem iwX8_rain_X8 : ∀ w ∈ wsX80, w ∈ wsX8_rain := by decide +kernel
theorem lkX8_rain_f38 : Cond.fieldLink RX8 38 "CoachCourt" "drive" "LCoachCourt$Drive;" ∈ wsX8_rain := by decide +kernel
theorem lkX8_rain_f28 : Cond.fieldLink RX8 28 "CoachCourt" "road" "LCoachCourt$Road;" ∈ wsX8_rain := by decide +kernel
theorem iwX8_rain_X2 : ∀ w ∈ wsX20, w ∈ wsX8_rain := by decide +kernel
set_option maxHeartbeats 4000000 in
set_option maxRecDepth 100000 in
theorem wX8_rain_l36 {p : Program} {l : Launch} {e : Env} {s : State} {m : MethodId} {args : Array Value} {below : List Frame} {meth : Method} {c : Code} {D : va_G} {t : Nat → ClassId} {κ : Nat → Nat} {A : Nat → Prop} {a_cc : Nat → Nat} {y_cc_tape : Nat} {y_cc_teller : Nat} {y_cc_seeker : Nat} {y_cc_seen : Nat} {y_cc_images : Nat} {y_cc_sheets : Nat} {a_rd : Nat → Nat} {a_tr : Nat → Nat} {a_dr : Nat → Nat} {s_cc : S2} {s_rd : S2} {x1 : Int32} {rv : Option Value} {w1 : va_W} (C : Cxt p s m args meth c cX8_rain 6 RX8 wsX8_rain (some .int) D t κ A) : ∀ (n : Nat) (x2 : Int32) (x3 : Int32) (x4 : Int32) (s_tr : S2) (s_dr : S2) (x : Int32 × Int32 × Int32 × S2 × S2), wh (fun (c : Int32 × Int32 × Int32 × S2 × S2) => fX8_rain_b36 s_cc s_rd c.2.2.2.1 c.2.2.2.2 x1 c.1 c.2.1 c.2.2.1) n (x2, x3, x4, s_tr, s_dr) = some x → (∀ (z : Int32 × Int32 × Int32 × S2 × S2), x = z → ∀ (H : Heap) (locs : List Loc) (ls : Array Slot), va_P D vwCl ((wCC t a_cc y_cc_tape y_cc_teller (a_rd 0) (a_tr 0) (a_dr 0) y_cc_seeker y_cc_seen y_cc_images y_cc_sheets s_cc) ++ (wRoad t a_rd s_rd) ++ (wRoad t a_tr z.2.2.2.1) ++ (wDrive t a_dr z.2.2.2.2)) H → va_D A ((wCC t a_cc y_cc_tape y_cc_teller (a_rd 0) (a_tr 0) (a_dr 0) y_cc_seeker y_cc_seen y_cc_images y_cc_sheets s_cc) ++ (wRoad t a_rd s_rd) ++ (wRoad t a_tr z.2.2.2.1) ++ (wDrive t a_dr z.2.2.2.2)) → va_S A s.heap H locs → lv_has ls 6 [(1, .int x1), (2, .int z.1), (3, .int z.2.1)] → W p l e (rmL 5) s m args below meth c H locs 0 0 (MQ below (gQ D rv w1 A) args s 0 0 A) (F0 m 74 ls [])) → ∀ (H : Heap) (locs : List Loc) (ls : Array Slot), va_P D vwCl ((wCC t a_cc y_cc_tape y_cc_teller (a_rd 0) (a_tr 0) (a_dr 0) y_cc_seeker y_cc_seen y_cc_images y_cc_sheets s_cc) ++ (wRoad t a_rd s_rd) ++ (wRoad t a_tr s_tr) ++ (wDrive t a_dr s_dr)) H → va_D A ((wCC t a_cc y_cc_tape y_cc_teller (a_rd 0) (a_tr 0) (a_dr 0) y_cc_seeker y_cc_seen y_cc_images y_cc_sheets s_cc) ++ (wRoad t a_rd s_rd) ++ (wRoad t a_tr s_tr) ++ (wDrive t a_dr s_dr)) → va_S A s.heap H locs → lv_has ls 6 [(0, .ref (a_cc 0)), (1, .int x1), (2, .int x2), (3, .int x3), (4, .int x4)] → W p l e (rmL 5) s m args below meth c H locs 0 0 (MQ below (gQ D rv w1 A) args s 0 0 A) (F0 m 36 ls []) := by
  obtain ⟨hx, hb, hr, hml, hown, hts, hC0, hlk, hA⟩ := id C
  have hK := hC0.1
  intro n
  induction n with
  | zero =>
    intro x2 x3 x4 s_tr s_dr x h
    exact (wh_0 h).elim
  | succ n ih =>
    intro x2 x3 x4 s_tr s_dr x h HX H locs ls hP hD hS hl
    obtain ⟨v, hf, hB, hX⟩ := wh_step h
    have hf : fX8_rain_b36 s_cc s_rd s_tr s_dr x1 x2 x3 x4 = some v := hf
    have HB : ∀ (z : Int32 × Int32 × Int32 × S2 × S2), v = .inl z → ∀ (H : Heap) (locs : List Loc) (ls : Array Slot), va_P D vwCl ((wCC t a_cc y_cc_tape y_cc_teller (a_rd 0) (a_tr 0) (a_dr 0) y_cc_seeker y_cc_seen y_cc_images y_cc_sheets s_cc) ++ (wRoad t a_rd s_rd) ++ (wRoad t a_tr z.2.2.2.1) ++ (wDrive t a_dr z.2.2.2.2)) H → va_D A ((wCC t a_cc y_cc_tape y_cc_teller (a_rd 0) (a_tr 0) (a_dr 0) y_cc_seeker y_cc_seen y_cc_images y_cc_sheets s_cc) ++ (wRoad t a_rd s_rd) ++ (wRoad t a_tr z.2.2.2.1) ++ (wDrive t a_dr z.2.2.2.2)) → va_S A s.heap H locs → lv_has ls 6 [(0, .ref (a_cc 0)), (1, .int x1), (2, .int z.1), (3, .int z.2.1), (4, .int z.2.2.1)] → W p l e (rmL 5) s m args below meth c H locs 0 0 (MQ below (gQ D rv w1 A) args s 0 0 A) (F0 m 36 ls []) := fun z hz H locs ls hP hD hS hl => ih z.1 z.2.1 z.2.2.1 z.2.2.2.1 z.2.2.2.2 x (hB z hz) HX H locs ls hP hD hS hl
    have HX : ∀ (z : Int32 × Int32 × Int32 × S2 × S2), v = .inr z → ∀ (H : Heap) (locs : List Loc) (ls : Array Slot), va_P D vwCl ((wCC t a_cc y_cc_tape y_cc_teller (a_rd 0) (a_tr 0) (a_dr 0) y_cc_seeker y_cc_seen y_cc_images y_cc_sheets s_cc) ++ (wRoad t a_rd s_rd) ++ (wRoad t a_tr z.2.2.2.1) ++ (wDrive t a_dr z.2.2.2.2)) H → va_D A ((wCC t a_cc y_cc_tape y_cc_teller (a_rd 0) (a_tr 0) (a_dr 0) y_cc_seeker y_cc_seen y_cc_images y_cc_sheets s_cc) ++ (wRoad t a_rd s_rd) ++ (wRoad t a_tr z.2.2.2.1) ++ (wDrive t a_dr z.2.2.2.2)) → va_S A s.heap H locs → lv_has ls 6 [(1, .int x1), (2, .int z.1), (3, .int z.2.1)] → W p l e (rmL 5) s m args below meth c H locs 0 0 (MQ below (gQ D rv w1 A) args s 0 0 A) (F0 m 74 ls []) := fun z hz => HX z (hX _ hz).symm
    unfold fX8_rain_b36 at hf
    refine lv_iload hx hb dX8_rain_36 (lv_at hl 4 rfl) ?_
    refine lv_aload_n hx hb dX8_rain_38 rfl (lv_at hl 0 rfl) ?_
    refine va_get (D := D) (ci := 8) (v := .ref (a_rd 0)) (C := RX8) (T := TX8) (N := 11) hx hb hts iwX8_rain_X8 hown hK hP 0 rfl rfl 2 (by decide) (hts _ lkX8_rain_f28) (fun _ h9 => h9) rfl dX8_rain_39 ?_
    refine va_getN (D := D) (ci := 2) (v := .int (s_rd 0 0)) (C := RX2) (T := TX2) (N := 12) hx hb hts iwX8_rain_X2 hown hK hP 2 rfl rfl 8 (by decide) (hC0.2.1.f 24 rfl) (fun _ h9 => h9) rfl dX8_rain_42 ?_
    refine lv_icmp_ge (tgt := 74) hx hb dX8_rain_45 (by decide) (fun c5 => ?_) (fun c5 => ?_)
    · rw [if_pos c5] at hf
      obtain rfl := so_eq hf
      exact HX _ rfl _ _ _ hP hD hS (lv_sub hl [1, 2, 3] rfl)
    · rw [if_neg c5] at hf
      refine lv_aload_n hx hb dX8_rain_48 rfl (lv_at hl 0 rfl) ?_
      refine lv_iload hx hb dX8_rain_49 (lv_at hl 4 rfl) ?_
      obtain ⟨v6, ev6, hf⟩ := bd_some hf
      refine gk_V0 C (As := [.int x4]) (rest := []) (ci := 8) (q := (RX8, TX8, 11)) (q0 := 0) (cX8_verdictsWithOtherMud_ok (l := l) (D := D) (t := t) (κ := κ) (a_cc := a_cc) (a_rd := a_rd) (a_tr := a_tr) (a_dr := a_dr) (y_cc_tape := y_cc_tape) (y_cc_teller := y_cc_teller) (y_cc_seeker := y_cc_seeker) (y_cc_seen := y_cc_seen) (y_cc_images := y_cc_images) (y_cc_sheets := y_cc_sheets) ev6) gX8_rain_X8_verdictsWithOtherMud rfl ⟨rfl, rfl⟩ hdX8_verdictsWithOtherMud ⟨Nat.le_of_ble_eq_true rfl, Nat.le_of_ble_eq_true rfl⟩ rfl rfl hP hD hS rfl hl.1 (Nat.le_of_ble_eq_true rfl) dX8_rain_51 (Nat.zero_le _) (Nat.zero_le _) (fun H locs hP hD hS => ?_)
      refine W.eq (g2 := F0 m 54 ls [.int v6.1]) rfl ?_
      obtain ⟨y7, hy7, hf⟩ := nm_ex hf
      refine W.eq (g2 := F0 m 54 ls [.int y7]) (by rw [hy7]) ?_
      refine lv_istore (lv' := [(5, .int y7), (0, .ref (a_cc 0)), (1, .int x1), (2, .int x2), (3, .int x3), (4, .int x4)]) hx hb dX8_rain_54 hl (by decide) rfl (fun ls hl => ?_)
      refine lv_iload hx hb dX8_rain_56 (lv_at hl 0 rfl) ?_
      refine lv_iload_n hx hb dX8_rain_58 rfl (lv_at hl 3 rfl) ?_
      refine lv_icmp_le (tgt := 68) hx hb dX8_rain_59 (by decide) (fun c8 => ?_) (fun c8 => ?_)
      · rw [if_pos c8] at hf
        obtain ⟨y9, hy9, hf⟩ := nm_ex hf
        refine lv_iinc (v := y9) (lv' := [(4, .int y9), (5, .int y7), (0, .ref (a_cc 0)), (1, .int x1), (2, .int x2), (3, .int x3)]) hx hb dX8_rain_68 hl (k := 5) rfl (by rw [hy9]; rfl) (by decide) rfl (fun ls hl => ?_)
        refine lv_goto (tgt := 36) hx hb dX8_rain_71 (by decide) ?_
        obtain rfl := so_eq hf
        exact HB _ rfl _ _ _ hP hD hS (lv_sub hl [2, 3, 4, 5, 0] rfl)
      · rw [if_neg c8] at hf
        refine lv_iload hx hb dX8_rain_62 (lv_at hl 0 rfl) ?_
        refine lv_istore_n (lv' := [(2, .int y7), (5, .int y7), (0, .ref (a_cc 0)), (1, .int x1), (3, .int x3), (4, .int x4)]) hx hb dX8_rain_64 rfl hl (by decide) rfl (fun ls hl => ?_)
        refine lv_iload hx hb dX8_rain_65 (lv_at hl 5 rfl) ?_
        refine lv_istore_n (lv' := [(3, .int x4), (2, .int y7), (5, .int y7), (0, .ref (a_cc 0)), (1, .int x1), (4, .int x4)]) hx hb dX8_rain_67 rfl hl (by decide) rfl (fun ls hl => ?_)
        obtain ⟨y10, hy10, hf⟩ := nm_ex hf
        refine lv_iinc (v := y10) (lv' := [(4, .int y10), (3, .int x4), (2, .int y7), (5, .int y7), (0, .ref (a_cc 0)), (1, .int x1)]) hx hb dX8_rain_68 hl (k := 5) rfl (by rw [hy10]; rfl) (by decide) rfl (fun ls hl => ?_)
        refine lv_goto (tgt := 36) hx hb dX8_rain_71 (by decide) ?_
        obtain rfl := so_eq hf
        exact HB _ rfl _ _ _ hP hD hS (lv_sub hl [4, 5, 2, 1, 0] rfl)
set_option maxHeartbeats 4000000 in
set_option maxRecDepth 100000 in
theorem cX8_rain_ok {l : Launch} {D : va_G} {t : Nat → ClassId} {κ : Nat → Nat} {a_cc : Nat → Nat} {y_cc_tape : Nat} {y_cc_teller : Nat} {y_cc_seeker : Nat} {y_cc_seen : Nat} {y_cc_images : Nat} {y_cc_sheets : Nat} {a_rd : Nat → Nat} {a_tr : Nat → Nat} {a_dr : Nat → Nat} {s_cc : S2} {s_rd : S2} {s_tr : S2} {s_dr : S2} {p1 : Int32} {out : Int32 × S2 × S2} (hf : fX8_rain s_cc s_rd s_tr s_dr p1 = some out) : Ct l D t κ yX8_rain wsX8_rain (rmL 5) [.ref (a_cc 0), .int p1] ((wCC t a_cc y_cc_tape y_cc_teller (a_rd 0) (a_tr 0) (a_dr 0) y_cc_seeker y_cc_seen y_cc_images y_cc_sheets s_cc) ++ (wRoad t a_rd s_rd) ++ (wRoad t a_tr s_tr) ++ (wDrive t a_dr s_dr)) (some (.int out.1)) ((wCC t a_cc y_cc_tape y_cc_teller (a_rd 0) (a_tr 0) (a_dr 0) y_cc_seeker y_cc_seen y_cc_images y_cc_sheets s_cc) ++ (wRoad t a_rd s_rd) ++ (wRoad t a_tr out.2.1) ++ (wDrive t a_dr out.2.2)) := by
  refine Ct.ofW (own := RX8) (cc := cX8_rain) (maxL := 6) (ret := (some .int)) (by decide) rfl rfl (Nat.le_of_ble_eq_true rfl) ?_
  intro p e s m below meth c A C hP hD ls hl
  have hS : va_S A s.heap s.heap [] := va_S.rf
  obtain ⟨hx, hb, hr, hml, hown, hts, hC0, hlk, hA⟩ := id C
  have hK := hC0.1
  have hl : lv_has ls 6 [(0, .ref (a_cc 0)), (1, .int p1)] := hl
  unfold fX8_rain at hf
  refine lv_iload_n hx hb dX8_rain_0 rfl (lv_at hl 1 rfl) ?_
  refine lv_iconst (v := 0) hx hb dX8_rain_1 (by decide) ?_
  refine lv_iconst (v := 1) hx hb dX8_rain_2 (by decide) ?_
  obtain ⟨v1, ev1, hf⟩ := bd_some hf
  refine gk_S C (As := [.int p1, .int (0 : Int32), .int (1 : Int32)]) (rest := []) (cX8_within_ok (l := l) (D := D) (t := t) (κ := κ) ev1) gX8_rain_X8_within rfl ⟨rfl, rfl⟩ hdX8_within ⟨Nat.le_of_ble_eq_true rfl, Nat.le_of_ble_eq_true rfl⟩ hP hD hS rfl hl.1 (Nat.le_of_ble_eq_true rfl) dX8_rain_3 (Nat.zero_le _) (Nat.zero_le _) (fun H locs hP hD hS => ?_)
  refine W.eq (g2 := F0 m 6 ls [.int v1]) rfl ?_
  refine lv_if_ne (tgt := 11) hx hb dX8_rain_6 (by decide) (fun c2 => ?_) (fun c2 => ?_)
  · rw [if_neg c2] at hf
    refine lv_aload_n hx hb dX8_rain_11 rfl (lv_at hl 0 rfl) ?_
    refine va_get (D := D) (ci := 8) (v := .ref (a_dr 0)) (C := RX8) (T := TX8) (N := 11) hx hb hts iwX8_rain_X8 hown hK hP 0 rfl rfl 4 (by decide) (hts _ lkX8_rain_f38) (fun _ h9 => h9) rfl dX8_rain_12 ?_
    refine lv_aload_n hx hb dX8_rain_15 rfl (lv_at hl 0 rfl) ?_
    refine va_get (D := D) (ci := 8) (v := .ref (a_rd 0)) (C := RX8) (T := TX8) (N := 11) hx hb hts iwX8_rain_X8 hown hK hP 0 rfl rfl 2 (by decide) (hts _ lkX8_rain_f28) (fun _ h9 => h9) rfl dX8_rain_16 ?_
    obtain ⟨v3, ev3, hf⟩ := bd_some hf
    refine gk_V C (As := [.ref (a_rd 0)]) (rest := []) (ci := 0) (q := (RX0, TX0, 7)) (q0 := 0) (wr := ((wCC t a_cc y_cc_tape y_cc_teller (a_rd 0) (a_tr 0) (a_dr 0) y_cc_seeker y_cc_seen y_cc_images y_cc_sheets s_cc) ++ (wRoad t a_tr s_tr))) (wf := ((wCC t a_cc y_cc_tape y_cc_teller (a_rd 0) (a_tr 0) (a_dr 0) y_cc_seeker y_cc_seen y_cc_images y_cc_sheets s_cc) ++ (wRoad t a_rd s_rd) ++ (wRoad t a_tr s_tr) ++ (wDrive t a_dr v3))) (cX0_run_ok (l := l) (D := D) (t := t) (κ := κ) (a_dr := a_dr) (a_rd := a_rd) ev3) gX8_rain_X0_run rfl ⟨rfl, rfl⟩ hdX0_run ⟨Nat.le_of_ble_eq_true rfl, Nat.le_of_ble_eq_true rfl⟩ rfl rfl hP hD hS [20, 21, 22, 23, 24, 25, 2, 3, 4, 5, 6, 7, 8, 9, 10] [0, 1, 11, 12, 13, 14, 15, 16, 17, 18, 19] [0, 1, 17, 18, 19, 20, 21, 22, 23, 24, 25, 2, 3, 4, 5, 6, 7, 8, 9, 10, 11, 12, 13, 14, 15, 16] rfl rfl rfl rfl (by decide) rfl rfl rfl hl.1 (Nat.le_of_ble_eq_true rfl) dX8_rain_19 (Nat.zero_le _) (Nat.zero_le _) (fun H locs hP hD hS => ?_)
    refine W.eq (g2 := F0 m 22 ls []) rfl ?_
    refine lv_aload_n hx hb dX8_rain_22 rfl (lv_at hl 0 rfl) ?_
    refine va_get (D := D) (ci := 8) (v := .ref (a_dr 0)) (C := RX8) (T := TX8) (N := 11) hx hb hts iwX8_rain_X8 hown hK hP 0 rfl rfl 4 (by decide) (hts _ lkX8_rain_f38) (fun _ h9 => h9) rfl dX8_rain_23 ?_
    obtain ⟨v4, ev4, hf⟩ := bd_some hf
    refine gk_V C (As := []) (rest := []) (ci := 0) (q := (RX0, TX0, 7)) (q0 := 0) (wr := ((wCC t a_cc y_cc_tape y_cc_teller (a_rd 0) (a_tr 0) (a_dr 0) y_cc_seeker y_cc_seen y_cc_images y_cc_sheets s_cc) ++ (wRoad t a_rd s_rd) ++ (wRoad t a_tr s_tr))) (wf := ((wCC t a_cc y_cc_tape y_cc_teller (a_rd 0) (a_tr 0) (a_dr 0) y_cc_seeker y_cc_seen y_cc_images y_cc_sheets s_cc) ++ (wRoad t a_rd s_rd) ++ (wRoad t a_tr s_tr) ++ (wDrive t a_dr v3))) (cX0_verdicts_ok (l := l) (D := D) (t := t) (κ := κ) (a_dr := a_dr) ev4) gX8_rain_X0_verdicts rfl ⟨rfl, rfl⟩ hdX0_verdicts ⟨Nat.le_of_ble_eq_true rfl, Nat.le_of_ble_eq_true rfl⟩ rfl rfl hP hD hS [20, 21, 22, 23, 24, 25] [0, 1, 2, 3, 4, 5, 6, 7, 8, 9, 10, 11, 12, 13, 14, 15, 16, 17, 18, 19] [0, 1, 2, 3, 4, 5, 6, 7, 8, 9, 10, 11, 12, 13, 14, 15, 16, 17, 18, 19, 20, 21, 22, 23, 24, 25] rfl rfl rfl rfl (by decide) rfl rfl rfl hl.1 (Nat.le_of_ble_eq_true rfl) dX8_rain_26 (Nat.zero_le _) (Nat.zero_le _) (fun H locs hP hD hS => ?_)
    refine W.eq (g2 := F0 m 29 ls [.int v4]) rfl ?_
    refine lv_istore_n (lv' := [(2, .int v4), (0, .ref (a_cc 0)), (1, .int p1)]) hx hb dX8_rain_29 rfl hl (by decide) rfl (fun ls hl => ?_)
    refine lv_bipush (v := -4) hx hb dX8_rain_30 (by decide) ?_
    refine lv_istore_n (lv' := [(3, .int (-4 : Int32)), (2, .int v4), (0, .ref (a_cc 0)), (1, .int p1)]) hx hb dX8_rain_32 rfl hl (by decide) rfl (fun ls hl => ?_)
    refine lv_iconst (v := 0) hx hb dX8_rain_33 (by decide) ?_
    refine lv_istore (lv' := [(4, .int (0 : Int32)), (3, .int (-4 : Int32)), (2, .int v4), (0, .ref (a_cc 0)), (1, .int p1)]) hx hb dX8_rain_34 hl (by decide) rfl (fun ls hl => ?_)
    obtain ⟨x11, ex11, hf⟩ := bd_some hf
    refine wX8_rain_l36 C 5000 v4 (-4 : Int32) (0 : Int32) s_tr v3 x11 ex11 (fun c9 h9 H locs ls hP hD hS hl => ?_) _ _ _ hP hD hS (lv_sub hl [3, 4, 2, 1, 0] rfl)
    subst h9
    refine lv_iload_n hx hb dX8_rain_74 rfl (lv_at hl 0 rfl) ?_
    refine lv_if_eq (tgt := 84) hx hb dX8_rain_75 (by decide) (fun c12 => ?_) (fun c12 => ?_)
    · rw [if_pos c12] at hf
      refine lv_iload_n hx hb dX8_rain_84 rfl (lv_at hl 2 rfl) ?_
      refine lv_goto (tgt := 89) hx hb dX8_rain_85 (by decide) ?_
      obtain rfl := so_eq hf
      exact g_iret C hP hD hS dX8_rain_89
    · rw [if_neg c12] at hf
      refine lv_iload_n hx hb dX8_rain_78 rfl (lv_at hl 2 rfl) ?_
      refine lv_bipush (v := -4) hx hb dX8_rain_79 (by decide) ?_
      refine lv_icmp_ne (tgt := 88) hx hb dX8_rain_81 (by decide) (fun c13 => ?_) (fun c13 => ?_)
      · rw [if_neg c13] at hf
        refine lv_iload_n hx hb dX8_rain_88 rfl (lv_at hl 1 rfl) ?_
        obtain rfl := so_eq hf
        exact g_iret C hP hD hS dX8_rain_89
      · rw [if_pos c13] at hf
        refine lv_iload_n hx hb dX8_rain_84 rfl (lv_at hl 2 rfl) ?_
        refine lv_goto (tgt := 89) hx hb dX8_rain_85 (by decide) ?_
        obtain rfl := so_eq hf
        exact g_iret C hP hD hS dX8_rain_89
  · rw [if_pos c2] at hf
    refine lv_iconst (v := -1) hx hb dX8_rain_9 (by decide) ?_
    obtain rfl := so_eq hf
    exact g_iret C hP hD hS dX8_rain_10
/-! CoachCourt.luck -/
def fX8_luck (s_cc : S2) (s_rd : S2) (s_tr : S2) (s_dr : S2) (p1 : Int32) (p2 : Int32) (p3 : Int32) : Option (Int64 × S2 × S2) :=
  (fX8_within p1 (0 : Int32) (10 : Int32)).bind fun v1 =>
  if v1 = (0 : Int32) then
    (some ((-1 : Int64), s_tr, s_dr))
  else
    ((fX2_hasParty s_rd p2).bind fun v3 =>
    if v3 = (0 : Int32) then
      (some ((-1 : Int64), s_tr, s_dr))
    else
      ((fX8_within p3 (0 : Int32) (1 : Int32)).bind fun v5 =>
      if v5 = (0 : Int32) then
        (some ((-1 : Int64), s_tr, s_dr))
      else
        ((fX8_weighVerdicts s_cc s_rd s_tr s_dr p1 p2).bind fun v7 =>
        (fX8_power (10 : Int32) (s_rd 0 0)).bind fun v8 =>
        (fX8_partOfFraction v7.1 v8 p3).bind fun v9 =>
        some (v9, v7.2.1, v7.2.2))))
theorem hdX8_luck : yX8_luck.cls = RX8 ∧ yX8_luck.cls ≠ "java/lang/invoke/MethodHandle" ∧ yX8_luck.cls ≠ "java/lang/invoke/VarHandle" ∧ (parseMethodDescriptor yX8_luck.desc).map (fun d => d.parameters.length) = some 3 := by decide +kernel
theorem lkX8_luck_l219 : Cond.constantLong RX8 219 (-1) ∈ wsX8_luck := by decide +kernel
theorem iwX8_luck_X8 : ∀ w ∈ wsX80, w ∈ wsX8_luck := by decide +kernel
theorem lkX8_luck_f28 : Cond.fieldLink RX8 28 "CoachCourt" "road" "LCoachCourt$Road;" ∈ wsX8_luck := by decide +kernel
theorem iwX8_luck_X2 : ∀ w ∈ wsX20, w ∈ wsX8_luck := by decide +kernel
set_option maxHeartbeats 4000000 in
set_option maxRecDepth 100000 in
theorem cX8_luck_ok {l : Launch} {D : va_G} {t : Nat → ClassId} {κ : Nat → Nat} {a_cc : Nat → Nat} {y_cc_tape : Nat} {y_cc_teller : Nat} {y_cc_seeker : Nat} {y_cc_seen : Nat} {y_cc_images : Nat} {y_cc_sheets : Nat} {a_rd : Nat → Nat} {a_tr : Nat → Nat} {a_dr : Nat → Nat} {s_cc : S2} {s_rd : S2} {s_tr : S2} {s_dr : S2} {p1 : Int32} {p2 : Int32} {p3 : Int32} {out : Int64 × S2 × S2} (hf : fX8_luck s_cc s_rd s_tr s_dr p1 p2 p3 = some out) : Ct l D t κ yX8_luck wsX8_luck (rmL 5) [.ref (a_cc 0), .int p1, .int p2, .int p3] ((wCC t a_cc y_cc_tape y_cc_teller (a_rd 0) (a_tr 0) (a_dr 0) y_cc_seeker y_cc_seen y_cc_images y_cc_sheets s_cc) ++ (wRoad t a_rd s_rd) ++ (wRoad t a_tr s_tr) ++ (wDrive t a_dr s_dr)) (some (.long out.1)) ((wCC t a_cc y_cc_tape y_cc_teller (a_rd 0) (a_tr 0) (a_dr 0) y_cc_seeker y_cc_seen y_cc_images y_cc_sheets s_cc) ++ (wRoad t a_rd s_rd) ++ (wRoad t a_tr out.2.1) ++ (wDrive t a_dr out.2.2)) := by
  refine Ct.ofW (own := RX8) (cc := cX8_luck) (maxL := 4) (ret := (some .long)) (by decide) rfl rfl (Nat.le_of_ble_eq_true rfl) ?_
  intro p e s m below meth c A C hP hD ls hl
  have hS : va_S A s.heap s.heap [] := va_S.rf
  obtain ⟨hx, hb, hr, hml, hown, hts, hC0, hlk, hA⟩ := id C
  have hK := hC0.1
  have hl : lv_has ls 4 [(0, .ref (a_cc 0)), (1, .int p1), (2, .int p2), (3, .int p3)] := hl
  unfold fX8_luck at hf
  refine lv_iload_n hx hb dX8_luck_0 rfl (lv_at hl 1 rfl) ?_
  refine lv_iconst (v := 0) hx hb dX8_luck_1 (by decide) ?_
  refine lv_bipush (v := 10) hx hb dX8_luck_2 (by decide) ?_
  obtain ⟨v1, ev1, hf⟩ := bd_some hf
  refine gk_S C (As := [.int p1, .int (0 : Int32), .int (10 : Int32)]) (rest := []) (cX8_within_ok (l := l) (D := D) (t := t) (κ := κ) ev1) gX8_luck_X8_within rfl ⟨rfl, rfl⟩ hdX8_within ⟨Nat.le_of_ble_eq_true rfl, Nat.le_of_ble_eq_true rfl⟩ hP hD hS rfl hl.1 (Nat.le_of_ble_eq_true rfl) dX8_luck_4 (Nat.zero_le _) (Nat.zero_le _) (fun H locs hP hD hS => ?_)
  refine W.eq (g2 := F0 m 7 ls [.int v1]) rfl ?_
  refine lv_if_eq (tgt := 30) hx hb dX8_luck_7 (by decide) (fun c2 => ?_) (fun c2 => ?_)
  · rw [if_pos c2] at hf
    refine lv_ldc2 hx hb hown (hts _ lkX8_luck_l219) dX8_luck_30 ?_
    obtain rfl := so_eq hf
    exact g_lret C hP hD hS dX8_luck_33
  · rw [if_neg c2] at hf
    refine lv_aload_n hx hb dX8_luck_10 rfl (lv_at hl 0 rfl) ?_
    refine va_get (D := D) (ci := 8) (v := .ref (a_rd 0)) (C := RX8) (T := TX8) (N := 11) hx hb hts iwX8_luck_X8 hown hK hP 0 rfl rfl 2 (by decide) (hts _ lkX8_luck_f28) (fun _ h9 => h9) rfl dX8_luck_11 ?_
    refine lv_iload_n hx hb dX8_luck_14 rfl (lv_at hl 2 rfl) ?_
    obtain ⟨v3, ev3, hf⟩ := bd_some hf
    refine gk_V C (As := [.int p2]) (rest := []) (ci := 2) (q := (RX2, TX2, 12)) (q0 := 0) (wr := ((wCC t a_cc y_cc_tape y_cc_teller (a_rd 0) (a_tr 0) (a_dr 0) y_cc_seeker y_cc_seen y_cc_images y_cc_sheets s_cc) ++ (wRoad t a_tr s_tr) ++ (wDrive t a_dr s_dr))) (wf := ((wCC t a_cc y_cc_tape y_cc_teller (a_rd 0) (a_tr 0) (a_dr 0) y_cc_seeker y_cc_seen y_cc_images y_cc_sheets s_cc) ++ (wRoad t a_rd s_rd) ++ (wRoad t a_tr s_tr) ++ (wDrive t a_dr s_dr))) (cX2_hasParty_ok (l := l) (D := D) (t := t) (κ := κ) (a_rd := a_rd) ev3) gX8_luck_X2_hasParty rfl ⟨rfl, rfl⟩ hdX2_hasParty ⟨Nat.le_of_ble_eq_true rfl, Nat.le_of_ble_eq_true rfl⟩ rfl rfl hP hD hS [2, 3, 4, 5, 6, 7, 8, 9, 10] [0, 1, 11, 12, 13, 14, 15, 16, 17, 18, 19, 20, 21, 22, 23, 24, 25] [0, 1, 17, 18, 19, 20, 21, 22, 23, 24, 25, 2, 3, 4, 5, 6, 7, 8, 9, 10, 11, 12, 13, 14, 15, 16] rfl rfl rfl rfl (by decide) rfl rfl rfl hl.1 (Nat.le_of_ble_eq_true rfl) dX8_luck_15 (Nat.zero_le _) (Nat.zero_le _) (fun H locs hP hD hS => ?_)
    refine W.eq (g2 := F0 m 18 ls [.int v3]) rfl ?_
    refine lv_if_eq (tgt := 30) hx hb dX8_luck_18 (by decide) (fun c4 => ?_) (fun c4 => ?_)
    · rw [if_pos c4] at hf
      refine lv_ldc2 hx hb hown (hts _ lkX8_luck_l219) dX8_luck_30 ?_
      obtain rfl := so_eq hf
      exact g_lret C hP hD hS dX8_luck_33
    · rw [if_neg c4] at hf
      refine lv_iload_n hx hb dX8_luck_21 rfl (lv_at hl 3 rfl) ?_
      refine lv_iconst (v := 0) hx hb dX8_luck_22 (by decide) ?_
      refine lv_iconst (v := 1) hx hb dX8_luck_23 (by decide) ?_
      obtain ⟨v5, ev5, hf⟩ := bd_some hf
      refine gk_S C (As := [.int p3, .int (0 : Int32), .int (1 : Int32)]) (rest := []) (cX8_within_ok (l := l) (D := D) (t := t) (κ := κ) ev5) gX8_luck_X8_within rfl ⟨rfl, rfl⟩ hdX8_within ⟨Nat.le_of_ble_eq_true rfl, Nat.le_of_ble_eq_true rfl⟩ hP hD hS rfl hl.1 (Nat.le_of_ble_eq_true rfl) dX8_luck_24 (Nat.zero_le _) (Nat.zero_le _) (fun H locs hP hD hS => ?_)
      refine W.eq (g2 := F0 m 27 ls [.int v5]) rfl ?_
      refine lv_if_ne (tgt := 34) hx hb dX8_luck_27 (by decide) (fun c6 => ?_) (fun c6 => ?_)
      · rw [if_neg c6] at hf
        refine lv_aload_n hx hb dX8_luck_34 rfl (lv_at hl 0 rfl) ?_
        refine lv_iload_n hx hb dX8_luck_35 rfl (lv_at hl 1 rfl) ?_
        refine lv_iload_n hx hb dX8_luck_36 rfl (lv_at hl 2 rfl) ?_
        obtain ⟨v7, ev7, hf⟩ := bd_some hf
        refine gk_V0 C (As := [.int p1, .int p2]) (rest := []) (ci := 8) (q := (RX8, TX8, 11)) (q0 := 0) (cX8_weighVerdicts_ok (l := l) (D := D) (t := t) (κ := κ) (a_cc := a_cc) (a_rd := a_rd) (a_tr := a_tr) (a_dr := a_dr) (y_cc_tape := y_cc_tape) (y_cc_teller := y_cc_teller) (y_cc_seeker := y_cc_seeker) (y_cc_seen := y_cc_seen) (y_cc_images := y_cc_images) (y_cc_sheets := y_cc_sheets) ev7) gX8_luck_X8_weighVerdicts rfl ⟨rfl, rfl⟩ hdX8_weighVerdicts ⟨Nat.le_of_ble_eq_true rfl, Nat.le_of_ble_eq_true rfl⟩ rfl rfl hP hD hS rfl hl.1 (Nat.le_of_ble_eq_true rfl) dX8_luck_37 (Nat.zero_le _) (Nat.zero_le _) (fun H locs hP hD hS => ?_)
        refine W.eq (g2 := F0 m 40 ls [.long v7.1]) rfl ?_
        refine lv_bipush (v := 10) hx hb dX8_luck_40 (by decide) ?_
        refine lv_aload_n hx hb dX8_luck_42 rfl (lv_at hl 0 rfl) ?_
        refine va_get (D := D) (ci := 8) (v := .ref (a_rd 0)) (C := RX8) (T := TX8) (N := 11) hx hb hts iwX8_luck_X8 hown hK hP 0 rfl rfl 2 (by decide) (hts _ lkX8_luck_f28) (fun _ h9 => h9) rfl dX8_luck_43 ?_
        refine va_getN (D := D) (ci := 2) (v := .int (s_rd 0 0)) (C := RX2) (T := TX2) (N := 12) hx hb hts iwX8_luck_X2 hown hK hP 2 rfl rfl 8 (by decide) (hC0.2.1.f 24 rfl) (fun _ h9 => h9) rfl dX8_luck_46 ?_
        obtain ⟨v8, ev8, hf⟩ := bd_some hf
        refine gk_S C (As := [.int (10 : Int32), .int (s_rd 0 0)]) (rest := [.long v7.1]) (cX8_power_ok (l := l) (D := D) (t := t) (κ := κ) ev8) gX8_luck_X8_power rfl ⟨rfl, rfl⟩ hdX8_power ⟨Nat.le_of_ble_eq_true rfl, Nat.le_of_ble_eq_true rfl⟩ hP hD hS rfl hl.1 (Nat.le_of_ble_eq_true rfl) dX8_luck_49 (Nat.zero_le _) (Nat.zero_le _) (fun H locs hP hD hS => ?_)
        refine W.eq (g2 := F0 m 52 ls [.long v8, .long v7.1]) rfl ?_
        refine lv_iload_n hx hb dX8_luck_52 rfl (lv_at hl 3 rfl) ?_
        obtain ⟨v9, ev9, hf⟩ := bd_some hf
        refine gk_S C (As := [.long v7.1, .long v8, .int p3]) (rest := []) (cX8_partOfFraction_ok (l := l) (D := D) (t := t) (κ := κ) ev9) gX8_luck_X8_partOfFraction rfl ⟨rfl, rfl⟩ hdX8_partOfFraction ⟨Nat.le_of_ble_eq_true rfl, Nat.le_of_ble_eq_true rfl⟩ hP hD hS rfl hl.1 (Nat.le_of_ble_eq_true rfl) dX8_luck_53 (Nat.zero_le _) (Nat.zero_le _) (fun H locs hP hD hS => ?_)
        refine W.eq (g2 := F0 m 56 ls [.long v9]) rfl ?_
        obtain rfl := so_eq hf
        exact g_lret C hP hD hS dX8_luck_56
      · rw [if_pos c6] at hf
        refine lv_ldc2 hx hb hown (hts _ lkX8_luck_l219) dX8_luck_30 ?_
        obtain rfl := so_eq hf
        exact g_lret C hP hD hS dX8_luck_33
/-! CoachCourt.mean -/
def fX8_mean (s_cc : S2) (s_rd : S2) (s_tr : S2) (s_dr : S2) (p1 : Int32) (p2 : Int32) : Option (Int64 × S2 × S2) :=
  (fX8_within p1 (0 : Int32) (10 : Int32)).bind fun v1 =>
  if v1 = (0 : Int32) then
    (some ((-1 : Int64), s_tr, s_dr))
  else
    ((fX8_within p2 (0 : Int32) (1 : Int32)).bind fun v3 =>
    if v3 = (0 : Int32) then
      (some ((-1 : Int64), s_tr, s_dr))
    else
      ((fX8_weighVerdicts s_cc s_rd s_tr s_dr p1 (-1 : Int32)).bind fun v5 =>
      (fX8_power (10 : Int32) (s_rd 0 0)).bind fun v6 =>
      (fX8_partOfFraction v5.1 v6 p2).bind fun v7 =>
      some (v7, v5.2.1, v5.2.2)))
theorem hdX8_mean : yX8_mean.cls = RX8 ∧ yX8_mean.cls ≠ "java/lang/invoke/MethodHandle" ∧ yX8_mean.cls ≠ "java/lang/invoke/VarHandle" ∧ (parseMethodDescriptor yX8_mean.desc).map (fun d => d.parameters.length) = some 2 := by decide +kernel
theorem lkX8_mean_l219 : Cond.constantLong RX8 219 (-1) ∈ wsX8_mean := by decide +kernel
theorem iwX8_mean_X8 : ∀ w ∈ wsX80, w ∈ wsX8_mean := by decide +kernel
theorem lkX8_mean_f28 : Cond.fieldLink RX8 28 "CoachCourt" "road" "LCoachCourt$Road;" ∈ wsX8_mean := by decide +kernel
theorem iwX8_mean_X2 : ∀ w ∈ wsX20, w ∈ wsX8_mean := by decide +kernel
set_option maxHeartbeats 4000000 in
set_option maxRecDepth 100000 in
theorem cX8_mean_ok {l : Launch} {D : va_G} {t : Nat → ClassId} {κ : Nat → Nat} {a_cc : Nat → Nat} {y_cc_tape : Nat} {y_cc_teller : Nat} {y_cc_seeker : Nat} {y_cc_seen : Nat} {y_cc_images : Nat} {y_cc_sheets : Nat} {a_rd : Nat → Nat} {a_tr : Nat → Nat} {a_dr : Nat → Nat} {s_cc : S2} {s_rd : S2} {s_tr : S2} {s_dr : S2} {p1 : Int32} {p2 : Int32} {out : Int64 × S2 × S2} (hf : fX8_mean s_cc s_rd s_tr s_dr p1 p2 = some out) : Ct l D t κ yX8_mean wsX8_mean (rmL 5) [.ref (a_cc 0), .int p1, .int p2] ((wCC t a_cc y_cc_tape y_cc_teller (a_rd 0) (a_tr 0) (a_dr 0) y_cc_seeker y_cc_seen y_cc_images y_cc_sheets s_cc) ++ (wRoad t a_rd s_rd) ++ (wRoad t a_tr s_tr) ++ (wDrive t a_dr s_dr)) (some (.long out.1)) ((wCC t a_cc y_cc_tape y_cc_teller (a_rd 0) (a_tr 0) (a_dr 0) y_cc_seeker y_cc_seen y_cc_images y_cc_sheets s_cc) ++ (wRoad t a_rd s_rd) ++ (wRoad t a_tr out.2.1) ++ (wDrive t a_dr out.2.2)) := by
  refine Ct.ofW (own := RX8) (cc := cX8_mean) (maxL := 3) (ret := (some .long)) (by decide) rfl rfl (Nat.le_of_ble_eq_true rfl) ?_
  intro p e s m below meth c A C hP hD ls hl
  have hS : va_S A s.heap s.heap [] := va_S.rf
  obtain ⟨hx, hb, hr, hml, hown, hts, hC0, hlk, hA⟩ := id C
  have hK := hC0.1
  have hl : lv_has ls 3 [(0, .ref (a_cc 0)), (1, .int p1), (2, .int p2)] := hl
  unfold fX8_mean at hf
  refine lv_iload_n hx hb dX8_mean_0 rfl (lv_at hl 1 rfl) ?_
  refine lv_iconst (v := 0) hx hb dX8_mean_1 (by decide) ?_
  refine lv_bipush (v := 10) hx hb dX8_mean_2 (by decide) ?_
  obtain ⟨v1, ev1, hf⟩ := bd_some hf
  refine gk_S C (As := [.int p1, .int (0 : Int32), .int (10 : Int32)]) (rest := []) (cX8_within_ok (l := l) (D := D) (t := t) (κ := κ) ev1) gX8_mean_X8_within rfl ⟨rfl, rfl⟩ hdX8_within ⟨Nat.le_of_ble_eq_true rfl, Nat.le_of_ble_eq_true rfl⟩ hP hD hS rfl hl.1 (Nat.le_of_ble_eq_true rfl) dX8_mean_4 (Nat.zero_le _) (Nat.zero_le _) (fun H locs hP hD hS => ?_)
  refine W.eq (g2 := F0 m 7 ls [.int v1]) rfl ?_
  refine lv_if_eq (tgt := 19) hx hb dX8_mean_7 (by decide) (fun c2 => ?_) (fun c2 => ?_)
  · rw [if_pos c2] at hf
    refine lv_ldc2 hx hb hown (hts _ lkX8_mean_l219) dX8_mean_19 ?_
    obtain rfl := so_eq hf
    exact g_lret C hP hD hS dX8_mean_22
  · rw [if_neg c2] at hf
    refine lv_iload_n hx hb dX8_mean_10 rfl (lv_at hl 2 rfl) ?_
    refine lv_iconst (v := 0) hx hb dX8_mean_11 (by decide) ?_
    refine lv_iconst (v := 1) hx hb dX8_mean_12 (by decide) ?_
    obtain ⟨v3, ev3, hf⟩ := bd_some hf
    refine gk_S C (As := [.int p2, .int (0 : Int32), .int (1 : Int32)]) (rest := []) (cX8_within_ok (l := l) (D := D) (t := t) (κ := κ) ev3) gX8_mean_X8_within rfl ⟨rfl, rfl⟩ hdX8_within ⟨Nat.le_of_ble_eq_true rfl, Nat.le_of_ble_eq_true rfl⟩ hP hD hS rfl hl.1 (Nat.le_of_ble_eq_true rfl) dX8_mean_13 (Nat.zero_le _) (Nat.zero_le _) (fun H locs hP hD hS => ?_)
    refine W.eq (g2 := F0 m 16 ls [.int v3]) rfl ?_
    refine lv_if_ne (tgt := 23) hx hb dX8_mean_16 (by decide) (fun c4 => ?_) (fun c4 => ?_)
    · rw [if_neg c4] at hf
      refine lv_aload_n hx hb dX8_mean_23 rfl (lv_at hl 0 rfl) ?_
      refine lv_iload_n hx hb dX8_mean_24 rfl (lv_at hl 1 rfl) ?_
      refine lv_iconst (v := -1) hx hb dX8_mean_25 (by decide) ?_
      obtain ⟨v5, ev5, hf⟩ := bd_some hf
      refine gk_V0 C (As := [.int p1, .int (-1 : Int32)]) (rest := []) (ci := 8) (q := (RX8, TX8, 11)) (q0 := 0) (cX8_weighVerdicts_ok (l := l) (D := D) (t := t) (κ := κ) (a_cc := a_cc) (a_rd := a_rd) (a_tr := a_tr) (a_dr := a_dr) (y_cc_tape := y_cc_tape) (y_cc_teller := y_cc_teller) (y_cc_seeker := y_cc_seeker) (y_cc_seen := y_cc_seen) (y_cc_images := y_cc_images) (y_cc_sheets := y_cc_sheets) ev5) gX8_mean_X8_weighVerdicts rfl ⟨rfl, rfl⟩ hdX8_weighVerdicts ⟨Nat.le_of_ble_eq_true rfl, Nat.le_of_ble_eq_true rfl⟩ rfl rfl hP hD hS rfl hl.1 (Nat.le_of_ble_eq_true rfl) dX8_mean_26 (Nat.zero_le _) (Nat.zero_le _) (fun H locs hP hD hS => ?_)
      refine W.eq (g2 := F0 m 29 ls [.long v5.1]) rfl ?_
      refine lv_bipush (v := 10) hx hb dX8_mean_29 (by decide) ?_
      refine lv_aload_n hx hb dX8_mean_31 rfl (lv_at hl 0 rfl) ?_
      refine va_get (D := D) (ci := 8) (v := .ref (a_rd 0)) (C := RX8) (T := TX8) (N := 11) hx hb hts iwX8_mean_X8 hown hK hP 0 rfl rfl 2 (by decide) (hts _ lkX8_mean_f28) (fun _ h9 => h9) rfl dX8_mean_32 ?_
      refine va_getN (D := D) (ci := 2) (v := .int (s_rd 0 0)) (C := RX2) (T := TX2) (N := 12) hx hb hts iwX8_mean_X2 hown hK hP 2 rfl rfl 8 (by decide) (hC0.2.1.f 24 rfl) (fun _ h9 => h9) rfl dX8_mean_35 ?_
      obtain ⟨v6, ev6, hf⟩ := bd_some hf
      refine gk_S C (As := [.int (10 : Int32), .int (s_rd 0 0)]) (rest := [.long v5.1]) (cX8_power_ok (l := l) (D := D) (t := t) (κ := κ) ev6) gX8_mean_X8_power rfl ⟨rfl, rfl⟩ hdX8_power ⟨Nat.le_of_ble_eq_true rfl, Nat.le_of_ble_eq_true rfl⟩ hP hD hS rfl hl.1 (Nat.le_of_ble_eq_true rfl) dX8_mean_38 (Nat.zero_le _) (Nat.zero_le _) (fun H locs hP hD hS => ?_)
      refine W.eq (g2 := F0 m 41 ls [.long v6, .long v5.1]) rfl ?_
      refine lv_iload_n hx hb dX8_mean_41 rfl (lv_at hl 2 rfl) ?_
      obtain ⟨v7, ev7, hf⟩ := bd_some hf
      refine gk_S C (As := [.long v5.1, .long v6, .int p2]) (rest := []) (cX8_partOfFraction_ok (l := l) (D := D) (t := t) (κ := κ) ev7) gX8_mean_X8_partOfFraction rfl ⟨rfl, rfl⟩ hdX8_partOfFraction ⟨Nat.le_of_ble_eq_true rfl, Nat.le_of_ble_eq_true rfl⟩ hP hD hS rfl hl.1 (Nat.le_of_ble_eq_true rfl) dX8_mean_42 (Nat.zero_le _) (Nat.zero_le _) (fun H locs hP hD hS => ?_)
      refine W.eq (g2 := F0 m 45 ls [.long v7]) rfl ?_
      obtain rfl := so_eq hf
      exact g_lret C hP hD hS dX8_mean_45
    · rw [if_pos c4] at hf
      refine lv_ldc2 hx hb hown (hts _ lkX8_mean_l219) dX8_mean_19 ?_
      obtain rfl := so_eq hf
      exact g_lret C hP hD hS dX8_mean_22
/-! CoachCourt.turned -/
def fX8_turned_b30 (s_cc : S2) (s_rd : S2) (s_tr : S2) (s_dr : S2) (s_sn : S2) (x1 : Int32) (x2 : Int32) : Option ((Int32 × Int32 × S2 × S2) ⊕ (Int32 × Int32 × S2 × S2)) :=
  if ((s_rd 0 0) - (1 : Int32)) ≤ x2 then
    (some (.inr (x1, x2, s_tr, s_dr)))
  else
    ((fX8_driveIfTurned s_cc s_rd s_tr s_dr x2).bind fun v5 =>
    (fX5_agreeWith s_sn v5.2).bind fun v6 =>
    if v6 = (0 : Int32) then
      (nm (x2 + (1 : Int32)) fun y8 =>
      some (.inl (x1, y8, v5.1, v5.2)))
    else
      (nm (x1 ||| ((1 : Int32) <<< (x2 &&& 31))) fun y9 =>
      nm (x2 + (1 : Int32)) fun y10 =>
      some (.inl (y9, y10, v5.1, v5.2))))
def fX8_turned (s_cc : S2) (s_rd : S2) (s_tr : S2) (s_dr : S2) (s_sn : S2) : Option (Int32 × S2 × S2) :=
  (fX8_driveIfTurned s_cc s_rd s_tr s_dr (-4 : Int32)).bind fun v1 =>
  (fX5_agreeWith s_sn v1.2).bind fun v2 =>
  if v2 = (0 : Int32) then
    ((wh (fun (c : Int32 × Int32 × S2 × S2) => fX8_turned_b30 s_cc s_rd c.2.2.1 c.2.2.2 s_sn c.1 c.2.1) 5000 ((0 : Int32), (0 : Int32), v1.1, v1.2)).bind fun x11 =>
    some (x11.1, x11.2.2.1, x11.2.2.2))
  else
    ((wh (fun (c : Int32 × Int32 × S2 × S2) => fX8_turned_b30 s_cc s_rd c.2.2.1 c.2.2.2 s_sn c.1 c.2.1) 5000 ((256 : Int32), (0 : Int32), v1.1, v1.2)).bind fun x12 =>
    some (x12.1, x12.2.2.1, x12.2.2.2))
theorem hdX8_turned : yX8_turned.cls = RX8 ∧ yX8_turned.cls ≠ "java/lang/invoke/MethodHandle" ∧ yX8_turned.cls ≠ "java/lang/invoke/VarHandle" ∧ (parseMethodDescriptor yX8_turned.desc).map (fun d => d.parameters.length) = some 0 := by decide +kernel
theorem iwX8_turned_X8 : ∀ w ∈ wsX80, w ∈ wsX8_turned := by decide +kernel
theorem lkX8_turned_f54 : Cond.fieldLink RX8 54 "CoachCourt" "seen" "LCoachCourt$Sightings;" ∈ wsX8_turned := by decide +kernel
theorem lkX8_turned_f38 : Cond.fieldLink RX8 38 "CoachCourt" "drive" "LCoachCourt$Drive;" ∈ wsX8_turned := by decide +kernel
theorem lkX8_turned_f28 : Cond.fieldLink RX8 28 "CoachCourt" "road" "LCoachCourt$Road;" ∈ wsX8_turned := by decide +kernel
theorem iwX8_turned_X2 : ∀ w ∈ wsX20, w ∈ wsX8_turned := by decide +kernel
set_option maxHeartbeats 4000000 in
set_option maxRecDepth 100000 in
theorem wX8_turned_l30 {p : Program} {l : Launch} {e : Env} {s : State} {m : MethodId} {args : Array Value} {below : List Frame} {meth : Method} {c : Code} {D : va_G} {t : Nat → ClassId} {κ : Nat → Nat} {A : Nat → Prop} {a_cc : Nat → Nat} {y_cc_tape : Nat} {y_cc_teller : Nat} {y_cc_seeker : Nat} {y_cc_images : Nat} {y_cc_sheets : Nat} {a_rd : Nat → Nat} {a_tr : Nat → Nat} {a_dr : Nat → Nat} {a_sn : Nat → Nat} {s_cc : S2} {s_rd : S2} {s_sn : S2} {rv : Option Value} {w1 : va_W} (C : Cxt p s m args meth c cX8_turned 3 RX8 wsX8_turned (some .int) D t κ A) : ∀ (n : Nat) (x1 : Int32) (x2 : Int32) (s_tr : S2) (s_dr : S2) (x : Int32 × Int32 × S2 × S2), wh (fun (c : Int32 × Int32 × S2 × S2) => fX8_turned_b30 s_cc s_rd c.2.2.1 c.2.2.2 s_sn c.1 c.2.1) n (x1, x2, s_tr, s_dr) = some x → (∀ (z : Int32 × Int32 × S2 × S2), x = z → ∀ (H : Heap) (locs : List Loc) (ls : Array Slot), va_P D vwCl ((wCC t a_cc y_cc_tape y_cc_teller (a_rd 0) (a_tr 0) (a_dr 0) y_cc_seeker (a_sn 0) y_cc_images y_cc_sheets s_cc) ++ (wRoad t a_rd s_rd) ++ (wRoad t a_tr z.2.2.1) ++ (wDrive t a_dr z.2.2.2) ++ (wSight t a_sn s_sn)) H → va_D A ((wCC t a_cc y_cc_tape y_cc_teller (a_rd 0) (a_tr 0) (a_dr 0) y_cc_seeker (a_sn 0) y_cc_images y_cc_sheets s_cc) ++ (wRoad t a_rd s_rd) ++ (wRoad t a_tr z.2.2.1) ++ (wDrive t a_dr z.2.2.2) ++ (wSight t a_sn s_sn)) → va_S A s.heap H locs → lv_has ls 3 [(1, .int z.1)] → W p l e (rmL 5) s m args below meth c H locs 0 0 (MQ below (gQ D rv w1 A) args s 0 0 A) (F0 m 74 ls [])) → ∀ (H : Heap) (locs : List Loc) (ls : Array Slot), va_P D vwCl ((wCC t a_cc y_cc_tape y_cc_teller (a_rd 0) (a_tr 0) (a_dr 0) y_cc_seeker (a_sn 0) y_cc_images y_cc_sheets s_cc) ++ (wRoad t a_rd s_rd) ++ (wRoad t a_tr s_tr) ++ (wDrive t a_dr s_dr) ++ (wSight t a_sn s_sn)) H → va_D A ((wCC t a_cc y_cc_tape y_cc_teller (a_rd 0) (a_tr 0) (a_dr 0) y_cc_seeker (a_sn 0) y_cc_images y_cc_sheets s_cc) ++ (wRoad t a_rd s_rd) ++ (wRoad t a_tr s_tr) ++ (wDrive t a_dr s_dr) ++ (wSight t a_sn s_sn)) → va_S A s.heap H locs → lv_has ls 3 [(0, .ref (a_cc 0)), (1, .int x1), (2, .int x2)] → W p l e (rmL 5) s m args below meth c H locs 0 0 (MQ below (gQ D rv w1 A) args s 0 0 A) (F0 m 30 ls []) := by
  obtain ⟨hx, hb, hr, hml, hown, hts, hC0, hlk, hA⟩ := id C
  have hK := hC0.1
  intro n
  induction n with
  | zero =>
    intro x1 x2 s_tr s_dr x h
    exact (wh_0 h).elim
  | succ n ih =>
    intro x1 x2 s_tr s_dr x h HX H locs ls hP hD hS hl
    obtain ⟨v, hf, hB, hX⟩ := wh_step h
    have hf : fX8_turned_b30 s_cc s_rd s_tr s_dr s_sn x1 x2 = some v := hf
    have HB : ∀ (z : Int32 × Int32 × S2 × S2), v = .inl z → ∀ (H : Heap) (locs : List Loc) (ls : Array Slot), va_P D vwCl ((wCC t a_cc y_cc_tape y_cc_teller (a_rd 0) (a_tr 0) (a_dr 0) y_cc_seeker (a_sn 0) y_cc_images y_cc_sheets s_cc) ++ (wRoad t a_rd s_rd) ++ (wRoad t a_tr z.2.2.1) ++ (wDrive t a_dr z.2.2.2) ++ (wSight t a_sn s_sn)) H → va_D A ((wCC t a_cc y_cc_tape y_cc_teller (a_rd 0) (a_tr 0) (a_dr 0) y_cc_seeker (a_sn 0) y_cc_images y_cc_sheets s_cc) ++ (wRoad t a_rd s_rd) ++ (wRoad t a_tr z.2.2.1) ++ (wDrive t a_dr z.2.2.2) ++ (wSight t a_sn s_sn)) → va_S A s.heap H locs → lv_has ls 3 [(0, .ref (a_cc 0)), (1, .int z.1), (2, .int z.2.1)] → W p l e (rmL 5) s m args below meth c H locs 0 0 (MQ below (gQ D rv w1 A) args s 0 0 A) (F0 m 30 ls []) := fun z hz H locs ls hP hD hS hl => ih z.1 z.2.1 z.2.2.1 z.2.2.2 x (hB z hz) HX H locs ls hP hD hS hl
    have HX : ∀ (z : Int32 × Int32 × S2 × S2), v = .inr z → ∀ (H : Heap) (locs : List Loc) (ls : Array Slot), va_P D vwCl ((wCC t a_cc y_cc_tape y_cc_teller (a_rd 0) (a_tr 0) (a_dr 0) y_cc_seeker (a_sn 0) y_cc_images y_cc_sheets s_cc) ++ (wRoad t a_rd s_rd) ++ (wRoad t a_tr z.2.2.1) ++ (wDrive t a_dr z.2.2.2) ++ (wSight t a_sn s_sn)) H → va_D A ((wCC t a_cc y_cc_tape y_cc_teller (a_rd 0) (a_tr 0) (a_dr 0) y_cc_seeker (a_sn 0) y_cc_images y_cc_sheets s_cc) ++ (wRoad t a_rd s_rd) ++ (wRoad t a_tr z.2.2.1) ++ (wDrive t a_dr z.2.2.2) ++ (wSight t a_sn s_sn)) → va_S A s.heap H locs → lv_has ls 3 [(1, .int z.1)] → W p l e (rmL 5) s m args below meth c H locs 0 0 (MQ below (gQ D rv w1 A) args s 0 0 A) (F0 m 74 ls []) := fun z hz => HX z (hX _ hz).symm
    unfold fX8_turned_b30 at hf
    refine lv_iload_n hx hb dX8_turned_30 rfl (lv_at hl 2 rfl) ?_
    refine lv_aload_n hx hb dX8_turned_31 rfl (lv_at hl 0 rfl) ?_
    refine va_get (D := D) (ci := 8) (v := .ref (a_rd 0)) (C := RX8) (T := TX8) (N := 11) hx hb hts iwX8_turned_X8 hown hK hP 0 rfl rfl 2 (by decide) (hts _ lkX8_turned_f28) (fun _ h9 => h9) rfl dX8_turned_32 ?_
    refine va_getN (D := D) (ci := 2) (v := .int (s_rd 0 0)) (C := RX2) (T := TX2) (N := 12) hx hb hts iwX8_turned_X2 hown hK hP 2 rfl rfl 8 (by decide) (hC0.2.1.f 24 rfl) (fun _ h9 => h9) rfl dX8_turned_35 ?_
    refine lv_iconst (v := 1) hx hb dX8_turned_38 (by decide) ?_
    refine lv_isub hx hb dX8_turned_39 ?_
    refine lv_icmp_ge (tgt := 74) hx hb dX8_turned_40 (by decide) (fun c4 => ?_) (fun c4 => ?_)
    · rw [if_pos c4] at hf
      obtain rfl := so_eq hf
      exact HX _ rfl _ _ _ hP hD hS (lv_sub hl [1] rfl)
    · rw [if_neg c4] at hf
      refine lv_aload_n hx hb dX8_turned_43 rfl (lv_at hl 0 rfl) ?_
      refine lv_iload_n hx hb dX8_turned_44 rfl (lv_at hl 2 rfl) ?_
      obtain ⟨v5, ev5, hf⟩ := bd_some hf
      refine gk_V C (As := [.int x2]) (rest := []) (ci := 8) (q := (RX8, TX8, 11)) (q0 := 0) (wr := (wSight t a_sn s_sn)) (wf := ((wCC t a_cc y_cc_tape y_cc_teller (a_rd 0) (a_tr 0) (a_dr 0) y_cc_seeker (a_sn 0) y_cc_images y_cc_sheets s_cc) ++ (wRoad t a_rd s_rd) ++ (wRoad t a_tr v5.1) ++ (wDrive t a_dr v5.2) ++ (wSight t a_sn s_sn))) (cX8_driveIfTurned_ok (l := l) (D := D) (t := t) (κ := κ) (a_cc := a_cc) (a_rd := a_rd) (a_tr := a_tr) (a_dr := a_dr) (y_cc_tape := y_cc_tape) (y_cc_teller := y_cc_teller) (y_cc_seeker := y_cc_seeker) (y_cc_seen := a_sn 0) (y_cc_images := y_cc_images) (y_cc_sheets := y_cc_sheets) ev5) gX8_turned_X8_driveIfTurned rfl ⟨rfl, rfl⟩ hdX8_driveIfTurned ⟨Nat.le_of_ble_eq_true rfl, Nat.le_of_ble_eq_true rfl⟩ rfl rfl hP hD hS [0, 1, 2, 3, 4, 5, 6, 7, 8, 9, 10, 11, 12, 13, 14, 15, 16, 17, 18, 19, 20, 21, 22, 23, 24, 25] [26, 27, 28] [3, 4, 5, 6, 7, 8, 9, 10, 11, 12, 13, 14, 15, 16, 17, 18, 19, 20, 21, 22, 23, 24, 25, 26, 27, 28, 0, 1, 2] rfl rfl rfl rfl (by decide) rfl rfl rfl hl.1 (Nat.le_of_ble_eq_true rfl) dX8_turned_45 (Nat.zero_le _) (Nat.zero_le _) (fun H locs hP hD hS => ?_)
      refine W.eq (g2 := F0 m 48 ls []) rfl ?_
      refine lv_aload_n hx hb dX8_turned_48 rfl (lv_at hl 0 rfl) ?_
      refine va_get (D := D) (ci := 8) (v := .ref (a_sn 0)) (C := RX8) (T := TX8) (N := 11) hx hb hts iwX8_turned_X8 hown hK hP 0 rfl rfl 6 (by decide) (hts _ lkX8_turned_f54) (fun _ h9 => h9) rfl dX8_turned_49 ?_
      refine lv_aload_n hx hb dX8_turned_52 rfl (lv_at hl 0 rfl) ?_
      refine va_get (D := D) (ci := 8) (v := .ref (a_dr 0)) (C := RX8) (T := TX8) (N := 11) hx hb hts iwX8_turned_X8 hown hK hP 0 rfl rfl 4 (by decide) (hts _ lkX8_turned_f38) (fun _ h9 => h9) rfl dX8_turned_53 ?_
      obtain ⟨v6, ev6, hf⟩ := bd_some hf
      refine gk_V C (As := [.ref (a_dr 0)]) (rest := []) (ci := 5) (q := (RX5, TX5, 3)) (q0 := 0) (wr := ((wCC t a_cc y_cc_tape y_cc_teller (a_rd 0) (a_tr 0) (a_dr 0) y_cc_seeker (a_sn 0) y_cc_images y_cc_sheets s_cc) ++ (wRoad t a_rd s_rd) ++ (wRoad t a_tr v5.1))) (wf := ((wCC t a_cc y_cc_tape y_cc_teller (a_rd 0) (a_tr 0) (a_dr 0) y_cc_seeker (a_sn 0) y_cc_images y_cc_sheets s_cc) ++ (wRoad t a_rd s_rd) ++ (wRoad t a_tr v5.1) ++ (wDrive t a_dr v5.2) ++ (wSight t a_sn s_sn))) (cX5_agreeWith_ok (l := l) (D := D) (t := t) (κ := κ) (a_sn := a_sn) (a_dr := a_dr) ev6) gX8_turned_X5_agreeWith rfl ⟨rfl, rfl⟩ hdX5_agreeWith ⟨Nat.le_of_ble_eq_true rfl, Nat.le_of_ble_eq_true rfl⟩ rfl rfl hP hD hS [26, 27, 28, 20, 21, 22, 23, 24, 25] [0, 1, 2, 3, 4, 5, 6, 7, 8, 9, 10, 11, 12, 13, 14, 15, 16, 17, 18, 19] [0, 1, 2, 3, 4, 5, 6, 7, 8, 9, 10, 11, 12, 13, 14, 15, 16, 17, 18, 19, 23, 24, 25, 26, 27, 28, 20, 21, 22] rfl rfl rfl rfl (by decide) rfl rfl rfl hl.1 (Nat.le_of_ble_eq_true rfl) dX8_turned_56 (Nat.zero_le _) (Nat.zero_le _) (fun H locs hP hD hS => ?_)
      refine W.eq (g2 := F0 m 59 ls [.int v6]) rfl ?_
      refine lv_if_eq (tgt := 68) hx hb dX8_turned_59 (by decide) (fun c7 => ?_) (fun c7 => ?_)
      · rw [if_pos c7] at hf
        obtain ⟨y8, hy8, hf⟩ := nm_ex hf
        refine lv_iinc (v := y8) (lv' := [(2, .int y8), (0, .ref (a_cc 0)), (1, .int x1)]) hx hb dX8_turned_68 hl (k := 2) rfl (by rw [hy8]; rfl) (by decide) rfl (fun ls hl => ?_)
        refine lv_goto (tgt := 30) hx hb dX8_turned_71 (by decide) ?_
        obtain rfl := so_eq hf
        exact HB _ rfl _ _ _ hP hD hS (lv_sub hl [1, 2, 0] rfl)
      · rw [if_neg c7] at hf
        refine lv_iload_n hx hb dX8_turned_62 rfl (lv_at hl 1 rfl) ?_
        refine lv_iconst (v := 1) hx hb dX8_turned_63 (by decide) ?_
        refine lv_iload_n hx hb dX8_turned_64 rfl (lv_at hl 2 rfl) ?_
        refine lv_ishl hx hb dX8_turned_65 ?_
        refine lv_ior hx hb dX8_turned_66 ?_
        obtain ⟨y9, hy9, hf⟩ := nm_ex hf
        refine W.eq (g2 := F0 m 67 ls [.int y9]) (by rw [hy9]) ?_
        refine lv_istore_n (lv' := [(1, .int y9), (0, .ref (a_cc 0)), (2, .int x2)]) hx hb dX8_turned_67 rfl hl (by decide) rfl (fun ls hl => ?_)
        obtain ⟨y10, hy10, hf⟩ := nm_ex hf
        refine lv_iinc (v := y10) (lv' := [(2, .int y10), (1, .int y9), (0, .ref (a_cc 0))]) hx hb dX8_turned_68 hl (k := 2) rfl (by rw [hy10]; rfl) (by decide) rfl (fun ls hl => ?_)
        refine lv_goto (tgt := 30) hx hb dX8_turned_71 (by decide) ?_
        obtain rfl := so_eq hf
        exact HB _ rfl _ _ _ hP hD hS (lv_sub hl [2, 1, 0] rfl)
set_option maxHeartbeats 4000000 in
set_option maxRecDepth 100000 in
theorem cX8_turned_ok {l : Launch} {D : va_G} {t : Nat → ClassId} {κ : Nat → Nat} {a_cc : Nat → Nat} {y_cc_tape : Nat} {y_cc_teller : Nat} {y_cc_seeker : Nat} {y_cc_images : Nat} {y_cc_sheets : Nat} {a_rd : Nat → Nat} {a_tr : Nat → Nat} {a_dr : Nat → Nat} {a_sn : Nat → Nat} {s_cc : S2} {s_rd : S2} {s_tr : S2} {s_dr : S2} {s_sn : S2} {out : Int32 × S2 × S2} (hf : fX8_turned s_cc s_rd s_tr s_dr s_sn = some out) : Ct l D t κ yX8_turned wsX8_turned (rmL 5) [.ref (a_cc 0)] ((wCC t a_cc y_cc_tape y_cc_teller (a_rd 0) (a_tr 0) (a_dr 0) y_cc_seeker (a_sn 0) y_cc_images y_cc_sheets s_cc) ++ (wRoad t a_rd s_rd) ++ (wRoad t a_tr s_tr) ++ (wDrive t a_dr s_dr) ++ (wSight t a_sn s_sn)) (some (.int out.1)) ((wCC t a_cc y_cc_tape y_cc_teller (a_rd 0) (a_tr 0) (a_dr 0) y_cc_seeker (a_sn 0) y_cc_images y_cc_sheets s_cc) ++ (wRoad t a_rd s_rd) ++ (wRoad t a_tr out.2.1) ++ (wDrive t a_dr out.2.2) ++ (wSight t a_sn s_sn)) := by
  refine Ct.ofW (own := RX8) (cc := cX8_turned) (maxL := 3) (ret := (some .int)) (by decide) rfl rfl (Nat.le_of_ble_eq_true rfl) ?_
  intro p e s m below meth c A C hP hD ls hl
  have hS : va_S A s.heap s.heap [] := va_S.rf
  obtain ⟨hx, hb, hr, hml, hown, hts, hC0, hlk, hA⟩ := id C
  have hK := hC0.1
  have hl : lv_has ls 3 [(0, .ref (a_cc 0))] := hl
  unfold fX8_turned at hf
  refine lv_aload_n hx hb dX8_turned_0 rfl (lv_at hl 0 rfl) ?_
  refine lv_bipush (v := -4) hx hb dX8_turned_1 (by decide) ?_
  obtain ⟨v1, ev1, hf⟩ := bd_some hf
  refine gk_V C (As := [.int (-4 : Int32)]) (rest := []) (ci := 8) (q := (RX8, TX8, 11)) (q0 := 0) (wr := (wSight t a_sn s_sn)) (wf := ((wCC t a_cc y_cc_tape y_cc_teller (a_rd 0) (a_tr 0) (a_dr 0) y_cc_seeker (a_sn 0) y_cc_images y_cc_sheets s_cc) ++ (wRoad t a_rd s_rd) ++ (wRoad t a_tr v1.1) ++ (wDrive t a_dr v1.2) ++ (wSight t a_sn s_sn))) (cX8_driveIfTurned_ok (l := l) (D := D) (t := t) (κ := κ) (a_cc := a_cc) (a_rd := a_rd) (a_tr := a_tr) (a_dr := a_dr) (y_cc_tape := y_cc_tape) (y_cc_teller := y_cc_teller) (y_cc_seeker := y_cc_seeker) (y_cc_seen := a_sn 0) (y_cc_images := y_cc_images) (y_cc_sheets := y_cc_sheets) ev1) gX8_turned_X8_driveIfTurned rfl ⟨rfl, rfl⟩ hdX8_driveIfTurned ⟨Nat.le_of_ble_eq_true rfl, Nat.le_of_ble_eq_true rfl⟩ rfl rfl hP hD hS [0, 1, 2, 3, 4, 5, 6, 7, 8, 9, 10, 11, 12, 13, 14, 15, 16, 17, 18, 19, 20, 21, 22, 23, 24, 25] [26, 27, 28] [3, 4, 5, 6, 7, 8, 9, 10, 11, 12, 13, 14, 15, 16, 17, 18, 19, 20, 21, 22, 23, 24, 25, 26, 27, 28, 0, 1, 2] rfl rfl rfl rfl (by decide) rfl rfl rfl hl.1 (Nat.le_of_ble_eq_true rfl) dX8_turned_3 (Nat.zero_le _) (Nat.zero_le _) (fun H locs hP hD hS => ?_)
  refine W.eq (g2 := F0 m 6 ls []) rfl ?_
  refine lv_aload_n hx hb dX8_turned_6 rfl (lv_at hl 0 rfl) ?_
  refine va_get (D := D) (ci := 8) (v := .ref (a_sn 0)) (C := RX8) (T := TX8) (N := 11) hx hb hts iwX8_turned_X8 hown hK hP 0 rfl rfl 6 (by decide) (hts _ lkX8_turned_f54) (fun _ h9 => h9) rfl dX8_turned_7 ?_
  refine lv_aload_n hx hb dX8_turned_10 rfl (lv_at hl 0 rfl) ?_
  refine va_get (D := D) (ci := 8) (v := .ref (a_dr 0)) (C := RX8) (T := TX8) (N := 11) hx hb hts iwX8_turned_X8 hown hK hP 0 rfl rfl 4 (by decide) (hts _ lkX8_turned_f38) (fun _ h9 => h9) rfl dX8_turned_11 ?_
  obtain ⟨v2, ev2, hf⟩ := bd_some hf
  refine gk_V C (As := [.ref (a_dr 0)]) (rest := []) (ci := 5) (q := (RX5, TX5, 3)) (q0 := 0) (wr := ((wCC t a_cc y_cc_tape y_cc_teller (a_rd 0) (a_tr 0) (a_dr 0) y_cc_seeker (a_sn 0) y_cc_images y_cc_sheets s_cc) ++ (wRoad t a_rd s_rd) ++ (wRoad t a_tr v1.1))) (wf := ((wCC t a_cc y_cc_tape y_cc_teller (a_rd 0) (a_tr 0) (a_dr 0) y_cc_seeker (a_sn 0) y_cc_images y_cc_sheets s_cc) ++ (wRoad t a_rd s_rd) ++ (wRoad t a_tr v1.1) ++ (wDrive t a_dr v1.2) ++ (wSight t a_sn s_sn))) (cX5_agreeWith_ok (l := l) (D := D) (t := t) (κ := κ) (a_sn := a_sn) (a_dr := a_dr) ev2) gX8_turned_X5_agreeWith rfl ⟨rfl, rfl⟩ hdX5_agreeWith ⟨Nat.le_of_ble_eq_true rfl, Nat.le_of_ble_eq_true rfl⟩ rfl rfl hP hD hS [26, 27, 28, 20, 21, 22, 23, 24, 25] [0, 1, 2, 3, 4, 5, 6, 7, 8, 9, 10, 11, 12, 13, 14, 15, 16, 17, 18, 19] [0, 1, 2, 3, 4, 5, 6, 7, 8, 9, 10, 11, 12, 13, 14, 15, 16, 17, 18, 19, 23, 24, 25, 26, 27, 28, 20, 21, 22] rfl rfl rfl rfl (by decide) rfl rfl rfl hl.1 (Nat.le_of_ble_eq_true rfl) dX8_turned_14 (Nat.zero_le _) (Nat.zero_le _) (fun H locs hP hD hS => ?_)
  refine W.eq (g2 := F0 m 17 ls [.int v2]) rfl ?_
  refine lv_if_eq (tgt := 26) hx hb dX8_turned_17 (by decide) (fun c3 => ?_) (fun c3 => ?_)
  · rw [if_pos c3] at hf
    refine lv_iconst (v := 0) hx hb dX8_turned_26 (by decide) ?_
    refine lv_istore_n (lv' := [(1, .int (0 : Int32)), (0, .ref (a_cc 0))]) hx hb dX8_turned_27 rfl hl (by decide) rfl (fun ls hl => ?_)
    refine lv_iconst (v := 0) hx hb dX8_turned_28 (by decide) ?_
    refine lv_istore_n (lv' := [(2, .int (0 : Int32)), (1, .int (0 : Int32)), (0, .ref (a_cc 0))]) hx hb dX8_turned_29 rfl hl (by decide) rfl (fun ls hl => ?_)
    obtain ⟨x11, ex11, hf⟩ := bd_some hf
    refine wX8_turned_l30 C 5000 (0 : Int32) (0 : Int32) v1.1 v1.2 x11 ex11 (fun c9 h9 H locs ls hP hD hS hl => ?_) _ _ _ hP hD hS (lv_sub hl [2, 1, 0] rfl)
    subst h9
    refine lv_iload_n hx hb dX8_turned_74 rfl (lv_at hl 0 rfl) ?_
    obtain rfl := so_eq hf
    exact g_iret C hP hD hS dX8_turned_75
  · rw [if_neg c3] at hf
    refine lv_sipush (v := 256) hx hb dX8_turned_20 (by decide) ?_
    refine lv_goto (tgt := 27) hx hb dX8_turned_23 (by decide) ?_
    refine lv_istore_n (lv' := [(1, .int (256 : Int32)), (0, .ref (a_cc 0))]) hx hb dX8_turned_27 rfl hl (by decide) rfl (fun ls hl => ?_)
    refine lv_iconst (v := 0) hx hb dX8_turned_28 (by decide) ?_
    refine lv_istore_n (lv' := [(2, .int (0 : Int32)), (1, .int (256 : Int32)), (0, .ref (a_cc 0))]) hx hb dX8_turned_29 rfl hl (by decide) rfl (fun ls hl => ?_)
    obtain ⟨x12, ex12, hf⟩ := bd_some hf
    refine wX8_turned_l30 C 5000 (256 : Int32) (0 : Int32) v1.1 v1.2 x12 ex12 (fun c9 h9 H locs ls hP hD hS hl => ?_) _ _ _ hP hD hS (lv_sub hl [2, 1, 0] rfl)
    subst h9
    refine lv_iload_n hx hb dX8_turned_74 rfl (lv_at hl 0 rfl) ?_
    obtain rfl := so_eq hf
    exact g_iret C hP hD hS dX8_turned_75
/-! CoachCourt.laws -/
def fX8_laws_b28 (s_cc : S2) (s_rd : S2) (s_tr : S2) (s_dr : S2) (s_sn : S2) (x1 : Int32) (x2 : Int32) (x3 : Int32) : Option ((Int32 × Int32 × S2 × S2) ⊕ (Int32 × Int32 × S2 × S2)) :=
  if (3 : Int32) < x3 then
    (some (.inr (x2, x3, s_tr, s_dr)))
  else
    (gd (ixb x1 4) <|
    nm (sE s_tr 7 (Int32.toNatClampNeg x1) x3) fun s6 =>
    (fX0_run s_dr s6).bind fun v7 =>
    (fX5_agreeWith s_sn v7).bind fun v8 =>
    if v8 = (0 : Int32) then
      (nm (x3 + (1 : Int32)) fun y10 =>
      some (.inl (x2, y10, s6, v7)))
    else
      (nm (x2 ||| ((1 : Int32) <<< (x3 &&& 31))) fun y11 =>
      nm (x3 + (1 : Int32)) fun y12 =>
      some (.inl (y11, y12, s6, v7))))
def fX8_laws (s_cc : S2) (s_rd : S2) (s_tr : S2) (s_dr : S2) (s_sn : S2) (p1 : Int32) : Option (Int32 × S2 × S2) :=
  (fX2_hasParty s_rd p1).bind fun v1 =>
  if v1 = (0 : Int32) then
    (some ((-1 : Int32), s_tr, s_dr))
  else
    ((fX2_copyFrom s_tr s_rd).bind fun v3 =>
    (wh (fun (c : Int32 × Int32 × S2 × S2) => fX8_laws_b28 s_cc s_rd c.2.2.1 c.2.2.2 s_sn p1 c.1 c.2.1) 5000 ((0 : Int32), (0 : Int32), v3, s_dr)).bind fun x13 =>
    some (x13.1, x13.2.2.1, x13.2.2.2))
theorem hdX8_laws : yX8_laws.cls = RX8 ∧ yX8_laws.cls ≠ "java/lang/invoke/MethodHandle" ∧ yX8_laws.cls ≠ "java/lang/invoke/VarHandle" ∧ (parseMethodDescriptor yX8_laws.desc).map (fun d => d.parameters.length) = some 1 := by decide +kernel
theorem iwX8_laws_X8 : ∀ w ∈ wsX80, w ∈ wsX8_laws := by decide +kernel
theorem lkX8_laws_f28 : Cond.fieldLink RX8 28 "CoachCourt" "road" "LCoachCourt$Road;" ∈ wsX8_laws := by decide +kernel
theorem lkX8_laws_f32 : Cond.fieldLink RX8 32 "CoachCourt" "trial" "LCoachCourt$Road;" ∈ wsX8_laws := by decide +kernel
theorem iwX8_laws_X2 : ∀ w ∈ wsX20, w ∈ wsX8_laws := by decide +kernel
theorem lkX8_laws_f38 : Cond.fieldLink RX8 38 "CoachCourt" "drive" "LCoachCourt$Drive;" ∈ wsX8_laws := by decide +kernel
theorem lkX8_laws_f54 : Cond.fieldLink RX8 54 "CoachCourt" "seen" "LCoachCourt$Sightings;" ∈ wsX8_laws := by decide +kernel
set_option maxHeartbeats 4000000 in
set_option maxRecDepth 100000 in
theorem wX8_laws_l28 {p : Program} {l : Launch} {e : Env} {s : State} {m : MethodId} {args : Array Value} {below : List Frame} {meth : Method} {c : Code} {D : va_G} {t : Nat → ClassId} {κ : Nat → Nat} {A : Nat → Prop} {a_cc : Nat → Nat} {y_cc_tape : Nat} {y_cc_teller : Nat} {y_cc_seeker : Nat} {y_cc_images : Nat} {y_cc_sheets : Nat} {a_rd : Nat → Nat} {a_tr : Nat → Nat} {a_dr : Nat → Nat} {a_sn : Nat → Nat} {s_cc : S2} {s_rd : S2} {s_sn : S2} {x1 : Int32} {rv : Option Value} {w1 : va_W} (C : Cxt p s m args meth c cX8_laws 4 RX8 wsX8_laws (some .int) D t κ A) : ∀ (n : Nat) (x2 : Int32) (x3 : Int32) (s_tr : S2) (s_dr : S2) (x : Int32 × Int32 × S2 × S2), wh (fun (c : Int32 × Int32 × S2 × S2) => fX8_laws_b28 s_cc s_rd c.2.2.1 c.2.2.2 s_sn x1 c.1 c.2.1) n (x2, x3, s_tr, s_dr) = some x → (∀ (z : Int32 × Int32 × S2 × S2), x = z → ∀ (H : Heap) (locs : List Loc) (ls : Array Slot), va_P D vwCl ((wCC t a_cc y_cc_tape y_cc_teller (a_rd 0) (a_tr 0) (a_dr 0) y_cc_seeker (a_sn 0) y_cc_images y_cc_sheets s_cc) ++ (wRoad t a_rd s_rd) ++ (wRoad t a_tr z.2.2.1) ++ (wDrive t a_dr z.2.2.2) ++ (wSight t a_sn s_sn)) H → va_D A ((wCC t a_cc y_cc_tape y_cc_teller (a_rd 0) (a_tr 0) (a_dr 0) y_cc_seeker (a_sn 0) y_cc_images y_cc_sheets s_cc) ++ (wRoad t a_rd s_rd) ++ (wRoad t a_tr z.2.2.1) ++ (wDrive t a_dr z.2.2.2) ++ (wSight t a_sn s_sn)) → va_S A s.heap H locs → lv_has ls 4 [(2, .int z.1)] → W p l e (rmL 4) s m args below meth c H locs 0 0 (MQ below (gQ D rv w1 A) args s 0 0 A) (F0 m 80 ls [])) → ∀ (H : Heap) (locs : List Loc) (ls : Array Slot), va_P D vwCl ((wCC t a_cc y_cc_tape y_cc_teller (a_rd 0) (a_tr 0) (a_dr 0) y_cc_seeker (a_sn 0) y_cc_images y_cc_sheets s_cc) ++ (wRoad t a_rd s_rd) ++ (wRoad t a_tr s_tr) ++ (wDrive t a_dr s_dr) ++ (wSight t a_sn s_sn)) H → va_D A ((wCC t a_cc y_cc_tape y_cc_teller (a_rd 0) (a_tr 0) (a_dr 0) y_cc_seeker (a_sn 0) y_cc_images y_cc_sheets s_cc) ++ (wRoad t a_rd s_rd) ++ (wRoad t a_tr s_tr) ++ (wDrive t a_dr s_dr) ++ (wSight t a_sn s_sn)) → va_S A s.heap H locs → lv_has ls 4 [(0, .ref (a_cc 0)), (1, .int x1), (2, .int x2), (3, .int x3)] → W p l e (rmL 4) s m args below meth c H locs 0 0 (MQ below (gQ D rv w1 A) args s 0 0 A) (F0 m 28 ls []) := by
  obtain ⟨hx, hb, hr, hml, hown, hts, hC0, hlk, hA⟩ := id C
  have hK := hC0.1
  intro n
  induction n with
  | zero =>
    intro x2 x3 s_tr s_dr x h
    exact (wh_0 h).elim
  | succ n ih =>
    intro x2 x3 s_tr s_dr x h HX H locs ls hP hD hS hl
    obtain ⟨v, hf, hB, hX⟩ := wh_step h
    have hf : fX8_laws_b28 s_cc s_rd s_tr s_dr s_sn x1 x2 x3 = some v := hf
    have HB : ∀ (z : Int32 × Int32 × S2 × S2), v = .inl z → ∀ (H : Heap) (locs : List Loc) (ls : Array Slot), va_P D vwCl ((wCC t a_cc y_cc_tape y_cc_teller (a_rd 0) (a_tr 0) (a_dr 0) y_cc_seeker (a_sn 0) y_cc_images y_cc_sheets s_cc) ++ (wRoad t a_rd s_rd) ++ (wRoad t a_tr z.2.2.1) ++ (wDrive t a_dr z.2.2.2) ++ (wSight t a_sn s_sn)) H → va_D A ((wCC t a_cc y_cc_tape y_cc_teller (a_rd 0) (a_tr 0) (a_dr 0) y_cc_seeker (a_sn 0) y_cc_images y_cc_sheets s_cc) ++ (wRoad t a_rd s_rd) ++ (wRoad t a_tr z.2.2.1) ++ (wDrive t a_dr z.2.2.2) ++ (wSight t a_sn s_sn)) → va_S A s.heap H locs → lv_has ls 4 [(0, .ref (a_cc 0)), (1, .int x1), (2, .int z.1), (3, .int z.2.1)] → W p l e (rmL 4) s m args below meth c H locs 0 0 (MQ below (gQ D rv w1 A) args s 0 0 A) (F0 m 28 ls []) := fun z hz H locs ls hP hD hS hl => ih z.1 z.2.1 z.2.2.1 z.2.2.2 x (hB z hz) HX H locs ls hP hD hS hl
    have HX : ∀ (z : Int32 × Int32 × S2 × S2), v = .inr z → ∀ (H : Heap) (locs : List Loc) (ls : Array Slot), va_P D vwCl ((wCC t a_cc y_cc_tape y_cc_teller (a_rd 0) (a_tr 0) (a_dr 0) y_cc_seeker (a_sn 0) y_cc_images y_cc_sheets s_cc) ++ (wRoad t a_rd s_rd) ++ (wRoad t a_tr z.2.2.1) ++ (wDrive t a_dr z.2.2.2) ++ (wSight t a_sn s_sn)) H → va_D A ((wCC t a_cc y_cc_tape y_cc_teller (a_rd 0) (a_tr 0) (a_dr 0) y_cc_seeker (a_sn 0) y_cc_images y_cc_sheets s_cc) ++ (wRoad t a_rd s_rd) ++ (wRoad t a_tr z.2.2.1) ++ (wDrive t a_dr z.2.2.2) ++ (wSight t a_sn s_sn)) → va_S A s.heap H locs → lv_has ls 4 [(2, .int z.1)] → W p l e (rmL 4) s m args below meth c H locs 0 0 (MQ below (gQ D rv w1 A) args s 0 0 A) (F0 m 80 ls []) := fun z hz => HX z (hX _ hz).symm
    unfold fX8_laws_b28 at hf
    refine lv_iload_n hx hb dX8_laws_28 rfl (lv_at hl 3 rfl) ?_
    refine lv_iconst (v := 3) hx hb dX8_laws_29 (by decide) ?_
    refine lv_icmp_gt (tgt := 80) hx hb dX8_laws_30 (by decide) (fun c4 => ?_) (fun c4 => ?_)
    · rw [if_pos c4] at hf
      obtain rfl := so_eq hf
      exact HX _ rfl _ _ _ hP hD hS (lv_sub hl [2] rfl)
    · rw [if_neg c4] at hf
      refine lv_aload_n hx hb dX8_laws_33 rfl (lv_at hl 0 rfl) ?_
      refine va_get (D := D) (ci := 8) (v := .ref (a_tr 0)) (C := RX8) (T := TX8) (N := 11) hx hb hts iwX8_laws_X8 hown hK hP 0 rfl rfl 3 (by decide) (hts _ lkX8_laws_f32) (fun _ h9 => h9) rfl dX8_laws_34 ?_
      refine va_getN (D := D) (ci := 2) (v := .ref (a_tr 7)) (C := RX2) (T := TX2) (N := 12) hx hb hts iwX8_laws_X2 hown hK hP 11 rfl rfl 6 (by decide) (hC0.2.1.f 19 rfl) (fun _ h9 => h9) rfl dX8_laws_37 ?_
      refine lv_iload_n hx hb dX8_laws_40 rfl (lv_at hl 1 rfl) ?_
      refine lv_iload_n hx hb dX8_laws_41 rfl (lv_at hl 3 rfl) ?_
      obtain ⟨b5, hf⟩ := gd_some hf
      obtain ⟨s6, hs6, hf⟩ := nm_ex hf
      refine va_iast hx hb hK hP hD hS 18 0 rfl rfl (ixb_in b5) dX8_laws_42 (fun H locs hP hD hS => ?_)
      have hP : va_P D vwCl ((wCC t a_cc y_cc_tape y_cc_teller (a_rd 0) (a_tr 0) (a_dr 0) y_cc_seeker (a_sn 0) y_cc_images y_cc_sheets s_cc) ++ (wRoad t a_rd s_rd) ++ (wRoad t a_tr s6) ++ (wDrive t a_dr s_dr) ++ (wSight t a_sn s_sn)) H := by rw [hs6]; exact hP
      have hD : va_D A ((wCC t a_cc y_cc_tape y_cc_teller (a_rd 0) (a_tr 0) (a_dr 0) y_cc_seeker (a_sn 0) y_cc_images y_cc_sheets s_cc) ++ (wRoad t a_rd s_rd) ++ (wRoad t a_tr s6) ++ (wDrive t a_dr s_dr) ++ (wSight t a_sn s_sn)) := by rw [hs6]; exact hD
      refine lv_aload_n hx hb dX8_laws_43 rfl (lv_at hl 0 rfl) ?_
      refine va_get (D := D) (ci := 8) (v := .ref (a_dr 0)) (C := RX8) (T := TX8) (N := 11) hx hb hts iwX8_laws_X8 hown hK hP 0 rfl rfl 4 (by decide) (hts _ lkX8_laws_f38) (fun _ h9 => h9) rfl dX8_laws_44 ?_
      refine lv_aload_n hx hb dX8_laws_47 rfl (lv_at hl 0 rfl) ?_
      refine va_get (D := D) (ci := 8) (v := .ref (a_tr 0)) (C := RX8) (T := TX8) (N := 11) hx hb hts iwX8_laws_X8 hown hK hP 0 rfl rfl 3 (by decide) (hts _ lkX8_laws_f32) (fun _ h9 => h9) rfl dX8_laws_48 ?_
      obtain ⟨v7, ev7, hf⟩ := bd_some hf
      refine gk_V C (As := [.ref (a_tr 0)]) (rest := []) (ci := 0) (q := (RX0, TX0, 7)) (q0 := 0) (wr := ((wCC t a_cc y_cc_tape y_cc_teller (a_rd 0) (a_tr 0) (a_dr 0) y_cc_seeker (a_sn 0) y_cc_images y_cc_sheets s_cc) ++ (wRoad t a_rd s_rd) ++ (wSight t a_sn s_sn))) (wf := ((wCC t a_cc y_cc_tape y_cc_teller (a_rd 0) (a_tr 0) (a_dr 0) y_cc_seeker (a_sn 0) y_cc_images y_cc_sheets s_cc) ++ (wRoad t a_rd s_rd) ++ (wRoad t a_tr s6) ++ (wDrive t a_dr v7) ++ (wSight t a_sn s_sn))) (cX0_run_ok (l := l) (D := D) (t := t) (κ := κ) (a_dr := a_dr) (a_rd := a_tr) ev7) gX8_laws_X0_run rfl ⟨rfl, rfl⟩ hdX0_run ⟨Nat.le_of_ble_eq_true rfl, Nat.le_of_ble_eq_true rfl⟩ rfl rfl hP hD hS [20, 21, 22, 23, 24, 25, 11, 12, 13, 14, 15, 16, 17, 18, 19] [0, 1, 2, 3, 4, 5, 6, 7, 8, 9, 10, 26, 27, 28] [0, 1, 2, 3, 4, 5, 6, 7, 8, 9, 10, 20, 21, 22, 23, 24, 25, 26, 27, 28, 14, 15, 16, 17, 18, 19, 11, 12, 13] rfl rfl rfl rfl (by decide) rfl rfl rfl hl.1 (Nat.le_of_ble_eq_true rfl) dX8_laws_51 (Nat.zero_le _) (Nat.zero_le _) (fun H locs hP hD hS => ?_)
      refine W.eq (g2 := F0 m 54 ls []) rfl ?_
      refine lv_aload_n hx hb dX8_laws_54 rfl (lv_at hl 0 rfl) ?_
      refine va_get (D := D) (ci := 8) (v := .ref (a_sn 0)) (C := RX8) (T := TX8) (N := 11) hx hb hts iwX8_laws_X8 hown hK hP 0 rfl rfl 6 (by decide) (hts _ lkX8_laws_f54) (fun _ h9 => h9) rfl dX8_laws_55 ?_
      refine lv_aload_n hx hb dX8_laws_58 rfl (lv_at hl 0 rfl) ?_
      refine va_get (D := D) (ci := 8) (v := .ref (a_dr 0)) (C := RX8) (T := TX8) (N := 11) hx hb hts iwX8_laws_X8 hown hK hP 0 rfl rfl 4 (by decide) (hts _ lkX8_laws_f38) (fun _ h9 => h9) rfl dX8_laws_59 ?_
      obtain ⟨v8, ev8, hf⟩ := bd_some hf
      refine gk_V C (As := [.ref (a_dr 0)]) (rest := []) (ci := 5) (q := (RX5, TX5, 3)) (q0 := 0) (wr := ((wCC t a_cc y_cc_tape y_cc_teller (a_rd 0) (a_tr 0) (a_dr 0) y_cc_seeker (a_sn 0) y_cc_images y_cc_sheets s_cc) ++ (wRoad t a_rd s_rd) ++ (wRoad t a_tr s6))) (wf := ((wCC t a_cc y_cc_tape y_cc_teller (a_rd 0) (a_tr 0) (a_dr 0) y_cc_seeker (a_sn 0) y_cc_images y_cc_sheets s_cc) ++ (wRoad t a_rd s_rd) ++ (wRoad t a_tr s6) ++ (wDrive t a_dr v7) ++ (wSight t a_sn s_sn))) (cX5_agreeWith_ok (l := l) (D := D) (t := t) (κ := κ) (a_sn := a_sn) (a_dr := a_dr) ev8) gX8_laws_X5_agreeWith rfl ⟨rfl, rfl⟩ hdX5_agreeWith ⟨Nat.le_of_ble_eq_true rfl, Nat.le_of_ble_eq_true rfl⟩ rfl rfl hP hD hS [26, 27, 28, 20, 21, 22, 23, 24, 25] [0, 1, 2, 3, 4, 5, 6, 7, 8, 9, 10, 11, 12, 13, 14, 15, 16, 17, 18, 19] [0, 1, 2, 3, 4, 5, 6, 7, 8, 9, 10, 11, 12, 13, 14, 15, 16, 17, 18, 19, 23, 24, 25, 26, 27, 28, 20, 21, 22] rfl rfl rfl rfl (by decide) rfl rfl rfl hl.1 (Nat.le_of_ble_eq_true rfl) dX8_laws_62 (Nat.zero_le _) (Nat.zero_le _) (fun H locs hP hD hS => ?_)
      refine W.eq (g2 := F0 m 65 ls [.int v8]) rfl ?_
      refine lv_if_eq (tgt := 74) hx hb dX8_laws_65 (by decide) (fun c9 => ?_) (fun c9 => ?_)
      · rw [if_pos c9] at hf
        obtain ⟨y10, hy10, hf⟩ := nm_ex hf
        refine lv_iinc (v := y10) (lv' := [(3, .int y10), (0, .ref (a_cc 0)), (1, .int x1), (2, .int x2)]) hx hb dX8_laws_74 hl (k := 3) rfl (by rw [hy10]; rfl) (by decide) rfl (fun ls hl => ?_)
        refine lv_goto (tgt := 28) hx hb dX8_laws_77 (by decide) ?_
        obtain rfl := so_eq hf
        exact HB _ rfl _ _ _ hP hD hS (lv_sub hl [1, 2, 3, 0] rfl)
      · rw [if_neg c9] at hf
        refine lv_iload_n hx hb dX8_laws_68 rfl (lv_at hl 2 rfl) ?_
        refine lv_iconst (v := 1) hx hb dX8_laws_69 (by decide) ?_
        refine lv_iload_n hx hb dX8_laws_70 rfl (lv_at hl 3 rfl) ?_
        refine lv_ishl hx hb dX8_laws_71 ?_
        refine lv_ior hx hb dX8_laws_72 ?_
        obtain ⟨y11, hy11, hf⟩ := nm_ex hf
        refine W.eq (g2 := F0 m 73 ls [.int y11]) (by rw [hy11]) ?_
        refine lv_istore_n (lv' := [(2, .int y11), (0, .ref (a_cc 0)), (1, .int x1), (3, .int x3)]) hx hb dX8_laws_73 rfl hl (by decide) rfl (fun ls hl => ?_)
        obtain ⟨y12, hy12, hf⟩ := nm_ex hf
        refine lv_iinc (v := y12) (lv' := [(3, .int y12), (2, .int y11), (0, .ref (a_cc 0)), (1, .int x1)]) hx hb dX8_laws_74 hl (k := 3) rfl (by rw [hy12]; rfl) (by decide) rfl (fun ls hl => ?_)
        refine lv_goto (tgt := 28) hx hb dX8_laws_77 (by decide) ?_
        obtain rfl := so_eq hf
        exact HB _ rfl _ _ _ hP hD hS (lv_sub hl [2, 3, 1, 0] rfl)
set_option maxHeartbeats 4000000 in
set_option maxRecDepth 100000 in
theorem cX8_laws_ok {l : Launch} {D : va_G} {t : Nat → ClassId} {κ : Nat → Nat} {a_cc : Nat → Nat} {y_cc_tape : Nat} {y_cc_teller : Nat} {y_cc_seeker : Nat} {y_cc_images : Nat} {y_cc_sheets : Nat} {a_rd : Nat → Nat} {a_tr : Nat → Nat} {a_dr : Nat → Nat} {a_sn : Nat → Nat} {s_cc : S2} {s_rd : S2} {s_tr : S2} {s_dr : S2} {s_sn : S2} {p1 : Int32} {out : Int32 × S2 × S2} (hf : fX8_laws s_cc s_rd s_tr s_dr s_sn p1 = some out) : Ct l D t κ yX8_laws wsX8_laws (rmL 4) [.ref (a_cc 0), .int p1] ((wCC t a_cc y_cc_tape y_cc_teller (a_rd 0) (a_tr 0) (a_dr 0) y_cc_seeker (a_sn 0) y_cc_images y_cc_sheets s_cc) ++ (wRoad t a_rd s_rd) ++ (wRoad t a_tr s_tr) ++ (wDrive t a_dr s_dr) ++ (wSight t a_sn s_sn)) (some (.int out.1)) ((wCC t a_cc y_cc_tape y_cc_teller (a_rd 0) (a_tr 0) (a_dr 0) y_cc_seeker (a_sn 0) y_cc_images y_cc_sheets s_cc) ++ (wRoad t a_rd s_rd) ++ (wRoad t a_tr out.2.1) ++ (wDrive t a_dr out.2.2) ++ (wSight t a_sn s_sn)) := by
  refine Ct.ofW (own := RX8) (cc := cX8_laws) (maxL := 4) (ret := (some .int)) (by decide) rfl rfl (Nat.le_of_ble_eq_true rfl) ?_
  intro p e s m below meth c A C hP hD ls hl
  have hS : va_S A s.heap s.heap [] := va_S.rf
  obtain ⟨hx, hb, hr, hml, hown, hts, hC0, hlk, hA⟩ := id C
  have hK := hC0.1
  have hl : lv_has ls 4 [(0, .ref (a_cc 0)), (1, .int p1)] := hl
  unfold fX8_laws at hf
  refine lv_aload_n hx hb dX8_laws_0 rfl (lv_at hl 0 rfl) ?_
  refine va_get (D := D) (ci := 8) (v := .ref (a_rd 0)) (C := RX8) (T := TX8) (N := 11) hx hb hts iwX8_laws_X8 hown hK hP 0 rfl rfl 2 (by decide) (hts _ lkX8_laws_f28) (fun _ h9 => h9) rfl dX8_laws_1 ?_
  refine lv_iload_n hx hb dX8_laws_4 rfl (lv_at hl 1 rfl) ?_
  obtain ⟨v1, ev1, hf⟩ := bd_some hf
  refine gk_V C (As := [.int p1]) (rest := []) (ci := 2) (q := (RX2, TX2, 12)) (q0 := 0) (wr := ((wCC t a_cc y_cc_tape y_cc_teller (a_rd 0) (a_tr 0) (a_dr 0) y_cc_seeker (a_sn 0) y_cc_images y_cc_sheets s_cc) ++ (wRoad t a_tr s_tr) ++ (wDrive t a_dr s_dr) ++ (wSight t a_sn s_sn))) (wf := ((wCC t a_cc y_cc_tape y_cc_teller (a_rd 0) (a_tr 0) (a_dr 0) y_cc_seeker (a_sn 0) y_cc_images y_cc_sheets s_cc) ++ (wRoad t a_rd s_rd) ++ (wRoad t a_tr s_tr) ++ (wDrive t a_dr s_dr) ++ (wSight t a_sn s_sn))) (cX2_hasParty_ok (l := l) (D := D) (t := t) (κ := κ) (a_rd := a_rd) ev1) gX8_laws_X2_hasParty rfl ⟨rfl, rfl⟩ hdX2_hasParty ⟨Nat.le_of_ble_eq_true rfl, Nat.le_of_ble_eq_true rfl⟩ rfl rfl hP hD hS [2, 3, 4, 5, 6, 7, 8, 9, 10] [0, 1, 11, 12, 13, 14, 15, 16, 17, 18, 19, 20, 21, 22, 23, 24, 25, 26, 27, 28] [0, 1, 20, 21, 22, 23, 24, 25, 26, 27, 28, 2, 3, 4, 5, 6, 7, 8, 9, 10, 11, 12, 13, 14, 15, 16, 17, 18, 19] rfl rfl rfl rfl (by decide) rfl rfl rfl hl.1 (Nat.le_of_ble_eq_true rfl) dX8_laws_5 (Nat.zero_le _) (Nat.zero_le _) (fun H locs hP hD hS => ?_)
  refine W.eq (g2 := F0 m 8 ls [.int v1]) rfl ?_
  refine lv_if_ne (tgt := 13) hx hb dX8_laws_8 (by decide) (fun c2 => ?_) (fun c2 => ?_)
  · rw [if_neg c2] at hf
    refine lv_iconst (v := 0) hx hb dX8_laws_13 (by decide) ?_
    refine lv_istore_n (lv' := [(2, .int (0 : Int32)), (0, .ref (a_cc 0)), (1, .int p1)]) hx hb dX8_laws_14 rfl hl (by decide) rfl (fun ls hl => ?_)
    refine lv_aload_n hx hb dX8_laws_15 rfl (lv_at hl 1 rfl) ?_
    refine va_get (D := D) (ci := 8) (v := .ref (a_tr 0)) (C := RX8) (T := TX8) (N := 11) hx hb hts iwX8_laws_X8 hown hK hP 0 rfl rfl 3 (by decide) (hts _ lkX8_laws_f32) (fun _ h9 => h9) rfl dX8_laws_16 ?_
    refine lv_aload_n hx hb dX8_laws_19 rfl (lv_at hl 1 rfl) ?_
    refine va_get (D := D) (ci := 8) (v := .ref (a_rd 0)) (C := RX8) (T := TX8) (N := 11) hx hb hts iwX8_laws_X8 hown hK hP 0 rfl rfl 2 (by decide) (hts _ lkX8_laws_f28) (fun _ h9 => h9) rfl dX8_laws_20 ?_
    obtain ⟨v3, ev3, hf⟩ := bd_some hf
    refine gk_V C (As := [.ref (a_rd 0)]) (rest := []) (ci := 2) (q := (RX2, TX2, 12)) (q0 := 0) (wr := ((wCC t a_cc y_cc_tape y_cc_teller (a_rd 0) (a_tr 0) (a_dr 0) y_cc_seeker (a_sn 0) y_cc_images y_cc_sheets s_cc) ++ (wDrive t a_dr s_dr) ++ (wSight t a_sn s_sn))) (wf := ((wCC t a_cc y_cc_tape y_cc_teller (a_rd 0) (a_tr 0) (a_dr 0) y_cc_seeker (a_sn 0) y_cc_images y_cc_sheets s_cc) ++ (wRoad t a_rd s_rd) ++ (wRoad t a_tr v3) ++ (wDrive t a_dr s_dr) ++ (wSight t a_sn s_sn))) (cX2_copyFrom_ok (l := l) (D := D) (t := t) (κ := κ) (a_rd := a_tr) (a_ro := a_rd) ev3) gX8_laws_X2_copyFrom rfl ⟨rfl, rfl⟩ hdX2_copyFrom ⟨Nat.le_of_ble_eq_true rfl, Nat.le_of_ble_eq_true rfl⟩ rfl rfl hP hD hS [11, 12, 13, 14, 15, 16, 17, 18, 19, 2, 3, 4, 5, 6, 7, 8, 9, 10] [0, 1, 20, 21, 22, 23, 24, 25, 26, 27, 28] [0, 1, 20, 21, 22, 23, 24, 25, 26, 27, 28, 11, 12, 13, 14, 15, 16, 17, 18, 19, 2, 3, 4, 5, 6, 7, 8, 9, 10] rfl rfl rfl rfl (by decide) rfl rfl rfl hl.1 (Nat.le_of_ble_eq_true rfl) dX8_laws_23 (Nat.zero_le _) (Nat.zero_le _) (fun H locs hP hD hS => ?_)
    refine W.eq (g2 := F0 m 26 ls []) rfl ?_
    refine lv_iconst (v := 0) hx hb dX8_laws_26 (by decide) ?_
    refine lv_istore_n (lv' := [(3, .int (0 : Int32)), (2, .int (0 : Int32)), (0, .ref (a_cc 0)), (1, .int p1)]) hx hb dX8_laws_27 rfl hl (by decide) rfl (fun ls hl => ?_)
    obtain ⟨x13, ex13, hf⟩ := bd_some hf
    refine wX8_laws_l28 C 5000 (0 : Int32) (0 : Int32) v3 s_dr x13 ex13 (fun c9 h9 H locs ls hP hD hS hl => ?_) _ _ _ hP hD hS (lv_sub hl [2, 3, 1, 0] rfl)
    subst h9
    refine lv_iload_n hx hb dX8_laws_80 rfl (lv_at hl 0 rfl) ?_
    obtain rfl := so_eq hf
    exact g_iret C hP hD hS dX8_laws_81
  · rw [if_pos c2] at hf
    refine lv_iconst (v := -1) hx hb dX8_laws_11 (by decide) ?_
    obtain rfl := so_eq hf
    exact g_iret C hP hD hS dX8_laws_12
/-! CoachCourt.look -/
def fX8_look_b28 (s_cc : S2) (s_rd : S2) (s_tr : S2) (s_dr : S2) (s_sn : S2) (x1 : Int32) (x2 : Int32) (x3 : Int32) (x4 : Int32) (x5 : Int32) : Option ((Int32 × Int32 × Int32 × S2 × S2 × S2) ⊕ (Int32 × Int32 × Int32 × S2 × S2 × S2)) :=
  if (s_rd 0 1) ≤ x5 then
    (some (.inr (x3, x4, x5, s_cc, s_tr, s_dr)))
  else
    ((fX8_mostLeftBy s_cc s_rd s_tr s_dr x5 x2).bind fun v7 =>
    nm v7.1 fun y8 =>
    if x3 ≤ y8 then
      (nm (x5 + (1 : Int32)) fun y10 =>
      some (.inl (x3, x4, y10, v7.2.1, v7.2.2.1, v7.2.2.2)))
    else
      (nm (x5 + (1 : Int32)) fun y11 =>
      some (.inl (y8, x5, y11, v7.2.1, v7.2.2.1, v7.2.2.2))))
def fX8_look (s_cc : S2) (s_rd : S2) (s_tr : S2) (s_dr : S2) (s_sn : S2) (p1 : Int32) : Option (Int32 × S2 × S2 × S2) :=
  (fX8_within p1 (0 : Int32) (1 : Int32)).bind fun v1 =>
  if v1 = (0 : Int32) then
    (some ((-1 : Int32), s_cc, s_tr, s_dr))
  else
    ((fX8_turned s_cc s_rd s_tr s_dr s_sn).bind fun v3 =>
    nm v3.1 fun y4 =>
    (fJ6_bitCount_0f7a4 y4).bind fun v5 =>
    (wh (fun (c : Int32 × Int32 × Int32 × S2 × S2 × S2) => fX8_look_b28 c.2.2.2.1 s_rd c.2.2.2.2.1 c.2.2.2.2.2 s_sn p1 y4 c.1 c.2.1 c.2.2.1) 5000 (v5, (-4 : Int32), (0 : Int32), s_cc, v3.2.1, v3.2.2)).bind fun x12 =>
    if p1 = (0 : Int32) then
      (some (x12.2.1, x12.2.2.2.1, x12.2.2.2.2.1, x12.2.2.2.2.2))
    else
      (if x12.2.1 = (-4 : Int32) then
        (some (x12.2.1, x12.2.2.2.1, x12.2.2.2.2.1, x12.2.2.2.2.2))
      else
        (some (x12.1, x12.2.2.2.1, x12.2.2.2.2.1, x12.2.2.2.2.2))))
theorem hdX8_look : yX8_look.cls = RX8 ∧ yX8_look.cls ≠ "java/lang/invoke/MethodHandle" ∧ yX8_look.cls ≠ "java/lang/invoke/VarHandle" ∧ (parseMethodDescriptor yX8_look.desc).map (fun d => d.parameters.length) = some 1 := by decide +kernel
theorem iwX8_look_X8 : ∀ w ∈ wsX80, w ∈ wsX8_look := by decide +kernel
theorem lkX8_look_f28 : Cond.fieldLink RX8 28 "CoachCourt" "road" "LCoachCourt$Road;" ∈ wsX8_look := by decide +kernel
theorem iwX8_look_X2 : ∀ w ∈ wsX20, w ∈ wsX8_look := by decide +kernel
set_option maxHeartbeats 4000000 in
set_option maxRecDepth 100000 in
theorem wX8_look_l28 {p : Program} {l : Launch} {e : Env} {s : State} {m : MethodId} {args : Array Value} {below : List Frame} {meth : Method} {c : Code} {D : va_G} {t : Nat → ClassId} {κ : Nat → Nat} {A : Nat → Prop} {a_cc : Nat → Nat} {y_cc_tape : Nat} {y_cc_teller : Nat} {y_cc_seeker : Nat} {y_cc_images : Nat} {y_cc_sheets : Nat} {a_rd : Nat → Nat} {a_tr : Nat → Nat} {a_dr : Nat → Nat} {a_sn : Nat → Nat} {s_rd : S2} {s_sn : S2} {x1 : Int32} {x2 : Int32} {rv : Option Value} {w1 : va_W} (C : Cxt p s m args meth c cX8_look 7 RX8 wsX8_look (some .int) D t κ A) : ∀ (n : Nat) (x3 : Int32) (x4 : Int32) (x5 : Int32) (s_cc : S2) (s_tr : S2) (s_dr : S2) (x : Int32 × Int32 × Int32 × S2 × S2 × S2), wh (fun (c : Int32 × Int32 × Int32 × S2 × S2 × S2) => fX8_look_b28 c.2.2.2.1 s_rd c.2.2.2.2.1 c.2.2.2.2.2 s_sn x1 x2 c.1 c.2.1 c.2.2.1) n (x3, x4, x5, s_cc, s_tr, s_dr) = some x → (∀ (z : Int32 × Int32 × Int32 × S2 × S2 × S2), x = z → ∀ (H : Heap) (locs : List Loc) (ls : Array Slot), va_P D vwCl ((wCC t a_cc y_cc_tape y_cc_teller (a_rd 0) (a_tr 0) (a_dr 0) y_cc_seeker (a_sn 0) y_cc_images y_cc_sheets z.2.2.2.1) ++ (wRoad t a_rd s_rd) ++ (wRoad t a_tr z.2.2.2.2.1) ++ (wDrive t a_dr z.2.2.2.2.2) ++ (wSight t a_sn s_sn)) H → va_D A ((wCC t a_cc y_cc_tape y_cc_teller (a_rd 0) (a_tr 0) (a_dr 0) y_cc_seeker (a_sn 0) y_cc_images y_cc_sheets z.2.2.2.1) ++ (wRoad t a_rd s_rd) ++ (wRoad t a_tr z.2.2.2.2.1) ++ (wDrive t a_dr z.2.2.2.2.2) ++ (wSight t a_sn s_sn)) → va_S A s.heap H locs → lv_has ls 7 [(1, .int x1), (3, .int z.1), (4, .int z.2.1)] → W p l e (rmL 6) s m args below meth c H locs 0 0 (MQ below (gQ D rv w1 A) args s 0 0 A) (F0 m 68 ls [])) → ∀ (H : Heap) (locs : List Loc) (ls : Array Slot), va_P D vwCl ((wCC t a_cc y_cc_tape y_cc_teller (a_rd 0) (a_tr 0) (a_dr 0) y_cc_seeker (a_sn 0) y_cc_images y_cc_sheets s_cc) ++ (wRoad t a_rd s_rd) ++ (wRoad t a_tr s_tr) ++ (wDrive t a_dr s_dr) ++ (wSight t a_sn s_sn)) H → va_D A ((wCC t a_cc y_cc_tape y_cc_teller (a_rd 0) (a_tr 0) (a_dr 0) y_cc_seeker (a_sn 0) y_cc_images y_cc_sheets s_cc) ++ (wRoad t a_rd s_rd) ++ (wRoad t a_tr s_tr) ++ (wDrive t a_dr s_dr) ++ (wSight t a_sn s_sn)) → va_S A s.heap H locs → lv_has ls 7 [(0, .ref (a_cc 0)), (1, .int x1), (2, .int x2), (3, .int x3), (4, .int x4), (5, .int x5)] → W p l e (rmL 6) s m args below meth c H locs 0 0 (MQ below (gQ D rv w1 A) args s 0 0 A) (F0 m 28 ls []) := by
  obtain ⟨hx, hb, hr, hml, hown, hts, hC0, hlk, hA⟩ := id C
  have hK := hC0.1
  intro n
  induction n with
  | zero =>
    intro x3 x4 x5 s_cc s_tr s_dr x h
    exact (wh_0 h).elim
  | succ n ih =>
    intro x3 x4 x5 s_cc s_tr s_dr x h HX H locs ls hP hD hS hl
    obtain ⟨v, hf, hB, hX⟩ := wh_step h
    have hf : fX8_look_b28 s_cc s_rd s_tr s_dr s_sn x1 x2 x3 x4 x5 = some v := hf
    have HB : ∀ (z : Int32 × Int32 × Int32 × S2 × S2 × S2), v = .inl z → ∀ (H : Heap) (locs : List Loc) (ls : Array Slot), va_P D vwCl ((wCC t a_cc y_cc_tape y_cc_teller (a_rd 0) (a_tr 0) (a_dr 0) y_cc_seeker (a_sn 0) y_cc_images y_cc_sheets z.2.2.2.1) ++ (wRoad t a_rd s_rd) ++ (wRoad t a_tr z.2.2.2.2.1) ++ (wDrive t a_dr z.2.2.2.2.2) ++ (wSight t a_sn s_sn)) H → va_D A ((wCC t a_cc y_cc_tape y_cc_teller (a_rd 0) (a_tr 0) (a_dr 0) y_cc_seeker (a_sn 0) y_cc_images y_cc_sheets z.2.2.2.1) ++ (wRoad t a_rd s_rd) ++ (wRoad t a_tr z.2.2.2.2.1) ++ (wDrive t a_dr z.2.2.2.2.2) ++ (wSight t a_sn s_sn)) → va_S A s.heap H locs → lv_has ls 7 [(0, .ref (a_cc 0)), (1, .int x1), (2, .int x2), (3, .int z.1), (4, .int z.2.1), (5, .int z.2.2.1)] → W p l e (rmL 6) s m args below meth c H locs 0 0 (MQ below (gQ D rv w1 A) args s 0 0 A) (F0 m 28 ls []) := fun z hz H locs ls hP hD hS hl => ih z.1 z.2.1 z.2.2.1 z.2.2.2.1 z.2.2.2.2.1 z.2.2.2.2.2 x (hB z hz) HX H locs ls hP hD hS hl
    have HX : ∀ (z : Int32 × Int32 × Int32 × S2 × S2 × S2), v = .inr z → ∀ (H : Heap) (locs : List Loc) (ls : Array Slot), va_P D vwCl ((wCC t a_cc y_cc_tape y_cc_teller (a_rd 0) (a_tr 0) (a_dr 0) y_cc_seeker (a_sn 0) y_cc_images y_cc_sheets z.2.2.2.1) ++ (wRoad t a_rd s_rd) ++ (wRoad t a_tr z.2.2.2.2.1) ++ (wDrive t a_dr z.2.2.2.2.2) ++ (wSight t a_sn s_sn)) H → va_D A ((wCC t a_cc y_cc_tape y_cc_teller (a_rd 0) (a_tr 0) (a_dr 0) y_cc_seeker (a_sn 0) y_cc_images y_cc_sheets z.2.2.2.1) ++ (wRoad t a_rd s_rd) ++ (wRoad t a_tr z.2.2.2.2.1) ++ (wDrive t a_dr z.2.2.2.2.2) ++ (wSight t a_sn s_sn)) → va_S A s.heap H locs → lv_has ls 7 [(1, .int x1), (3, .int z.1), (4, .int z.2.1)] → W p l e (rmL 6) s m args below meth c H locs 0 0 (MQ below (gQ D rv w1 A) args s 0 0 A) (F0 m 68 ls []) := fun z hz => HX z (hX _ hz).symm
    unfold fX8_look_b28 at hf
    refine lv_iload hx hb dX8_look_28 (lv_at hl 5 rfl) ?_
    refine lv_aload_n hx hb dX8_look_30 rfl (lv_at hl 0 rfl) ?_
    refine va_get (D := D) (ci := 8) (v := .ref (a_rd 0)) (C := RX8) (T := TX8) (N := 11) hx hb hts iwX8_look_X8 hown hK hP 0 rfl rfl 2 (by decide) (hts _ lkX8_look_f28) (fun _ h9 => h9) rfl dX8_look_31 ?_
    refine va_getN (D := D) (ci := 2) (v := .int (s_rd 0 1)) (C := RX2) (T := TX2) (N := 12) hx hb hts iwX8_look_X2 hown hK hP 2 rfl rfl 9 (by decide) (hC0.2.1.f 27 rfl) (fun _ h9 => h9) rfl dX8_look_34 ?_
    refine lv_icmp_ge (tgt := 68) hx hb dX8_look_37 (by decide) (fun c6 => ?_) (fun c6 => ?_)
    · rw [if_pos c6] at hf
      obtain rfl := so_eq hf
      exact HX _ rfl _ _ _ hP hD hS (lv_sub hl [1, 3, 4] rfl)
    · rw [if_neg c6] at hf
      refine lv_aload_n hx hb dX8_look_40 rfl (lv_at hl 0 rfl) ?_
      refine lv_iload hx hb dX8_look_41 (lv_at hl 5 rfl) ?_
      refine lv_iload_n hx hb dX8_look_43 rfl (lv_at hl 2 rfl) ?_
      obtain ⟨v7, ev7, hf⟩ := bd_some hf
      refine gk_V C (As := [.int x5, .int x2]) (rest := []) (ci := 8) (q := (RX8, TX8, 11)) (q0 := 0) (wr := (wSight t a_sn s_sn)) (wf := ((wCC t a_cc y_cc_tape y_cc_teller (a_rd 0) (a_tr 0) (a_dr 0) y_cc_seeker (a_sn 0) y_cc_images y_cc_sheets v7.2.1) ++ (wRoad t a_rd s_rd) ++ (wRoad t a_tr v7.2.2.1) ++ (wDrive t a_dr v7.2.2.2) ++ (wSight t a_sn s_sn))) (cX8_mostLeftBy_ok (l := l) (D := D) (t := t) (κ := κ) (a_cc := a_cc) (a_rd := a_rd) (a_tr := a_tr) (a_dr := a_dr) (y_cc_tape := y_cc_tape) (y_cc_teller := y_cc_teller) (y_cc_seeker := y_cc_seeker) (y_cc_seen := a_sn 0) (y_cc_images := y_cc_images) (y_cc_sheets := y_cc_sheets) ev7) gX8_look_X8_mostLeftBy rfl ⟨rfl, rfl⟩ hdX8_mostLeftBy ⟨Nat.le_of_ble_eq_true rfl, Nat.le_of_ble_eq_true rfl⟩ rfl rfl hP hD hS [0, 1, 2, 3, 4, 5, 6, 7, 8, 9, 10, 11, 12, 13, 14, 15, 16, 17, 18, 19, 20, 21, 22, 23, 24, 25] [26, 27, 28] [3, 4, 5, 6, 7, 8, 9, 10, 11, 12, 13, 14, 15, 16, 17, 18, 19, 20, 21, 22, 23, 24, 25, 26, 27, 28, 0, 1, 2] rfl rfl rfl rfl (by decide) rfl rfl rfl hl.1 (Nat.le_of_ble_eq_true rfl) dX8_look_44 (Nat.zero_le _) (Nat.zero_le _) (fun H locs hP hD hS => ?_)
      refine W.eq (g2 := F0 m 47 ls [.int v7.1]) rfl ?_
      obtain ⟨y8, hy8, hf⟩ := nm_ex hf
      refine W.eq (g2 := F0 m 47 ls [.int y8]) (by rw [hy8]) ?_
      refine lv_istore (lv' := [(6, .int y8), (0, .ref (a_cc 0)), (1, .int x1), (2, .int x2), (3, .int x3), (4, .int x4), (5, .int x5)]) hx hb dX8_look_47 hl (by decide) rfl (fun ls hl => ?_)
      refine lv_iload hx hb dX8_look_49 (lv_at hl 0 rfl) ?_
      refine lv_iload_n hx hb dX8_look_51 rfl (lv_at hl 4 rfl) ?_
      refine lv_icmp_ge (tgt := 62) hx hb dX8_look_52 (by decide) (fun c9 => ?_) (fun c9 => ?_)
      · rw [if_pos c9] at hf
        obtain ⟨y10, hy10, hf⟩ := nm_ex hf
        refine lv_iinc (v := y10) (lv' := [(5, .int y10), (6, .int y8), (0, .ref (a_cc 0)), (1, .int x1), (2, .int x2), (3, .int x3), (4, .int x4)]) hx hb dX8_look_62 hl (k := 6) rfl (by rw [hy10]; rfl) (by decide) rfl (fun ls hl => ?_)
        refine lv_goto (tgt := 28) hx hb dX8_look_65 (by decide) ?_
        obtain rfl := so_eq hf
        exact HB _ rfl _ _ _ hP hD hS (lv_sub hl [2, 3, 4, 5, 6, 0] rfl)
      · rw [if_neg c9] at hf
        refine lv_iload hx hb dX8_look_55 (lv_at hl 0 rfl) ?_
        refine lv_istore_n (lv' := [(3, .int y8), (6, .int y8), (0, .ref (a_cc 0)), (1, .int x1), (2, .int x2), (4, .int x4), (5, .int x5)]) hx hb dX8_look_57 rfl hl (by decide) rfl (fun ls hl => ?_)
        refine lv_iload hx hb dX8_look_58 (lv_at hl 6 rfl) ?_
        refine lv_istore (lv' := [(4, .int x5), (3, .int y8), (6, .int y8), (0, .ref (a_cc 0)), (1, .int x1), (2, .int x2), (5, .int x5)]) hx hb dX8_look_60 hl (by decide) rfl (fun ls hl => ?_)
        obtain ⟨y11, hy11, hf⟩ := nm_ex hf
        refine lv_iinc (v := y11) (lv' := [(5, .int y11), (4, .int x5), (3, .int y8), (6, .int y8), (0, .ref (a_cc 0)), (1, .int x1), (2, .int x2)]) hx hb dX8_look_62 hl (k := 6) rfl (by rw [hy11]; rfl) (by decide) rfl (fun ls hl => ?_)
        refine lv_goto (tgt := 28) hx hb dX8_look_65 (by decide) ?_
        obtain rfl := so_eq hf
        exact HB _ rfl _ _ _ hP hD hS (lv_sub hl [4, 5, 6, 2, 1, 0] rfl)
set_option maxHeartbeats 4000000 in
set_option maxRecDepth 100000 in
theorem cX8_look_ok {l : Launch} {D : va_G} {t : Nat → ClassId} {κ : Nat → Nat} {a_cc : Nat → Nat} {y_cc_tape : Nat} {y_cc_teller : Nat} {y_cc_seeker : Nat} {y_cc_images : Nat} {y_cc_sheets : Nat} {a_rd : Nat → Nat} {a_tr : Nat → Nat} {a_dr : Nat → Nat} {a_sn : Nat → Nat} {s_cc : S2} {s_rd : S2} {s_tr : S2} {s_dr : S2} {s_sn : S2} {p1 : Int32} {out : Int32 × S2 × S2 × S2} (hf : fX8_look s_cc s_rd s_tr s_dr s_sn p1 = some out) : Ct l D t κ yX8_look wsX8_look (rmL 6) [.ref (a_cc 0), .int p1] ((wCC t a_cc y_cc_tape y_cc_teller (a_rd 0) (a_tr 0) (a_dr 0) y_cc_seeker (a_sn 0) y_cc_images y_cc_sheets s_cc) ++ (wRoad t a_rd s_rd) ++ (wRoad t a_tr s_tr) ++ (wDrive t a_dr s_dr) ++ (wSight t a_sn s_sn)) (some (.int out.1)) ((wCC t a_cc y_cc_tape y_cc_teller (a_rd 0) (a_tr 0) (a_dr 0) y_cc_seeker (a_sn 0) y_cc_images y_cc_sheets out.2.1) ++ (wRoad t a_rd s_rd) ++ (wRoad t a_tr out.2.2.1) ++ (wDrive t a_dr out.2.2.2) ++ (wSight t a_sn s_sn)) := by
  refine Ct.ofW (own := RX8) (cc := cX8_look) (maxL := 7) (ret := (some .int)) (by decide) rfl rfl (Nat.le_of_ble_eq_true rfl) ?_
  intro p e s m below meth c A C hP hD ls hl
  have hS : va_S A s.heap s.heap [] := va_S.rf
  obtain ⟨hx, hb, hr, hml, hown, hts, hC0, hlk, hA⟩ := id C
  have hK := hC0.1
  have hl : lv_has ls 7 [(0, .ref (a_cc 0)), (1, .int p1)] := hl
  unfold fX8_look at hf
  refine lv_iload_n hx hb dX8_look_0 rfl (lv_at hl 1 rfl) ?_
  refine lv_iconst (v := 0) hx hb dX8_look_1 (by decide) ?_
  refine lv_iconst (v := 1) hx hb dX8_look_2 (by decide) ?_
  obtain ⟨v1, ev1, hf⟩ := bd_some hf
  refine gk_S C (As := [.int p1, .int (0 : Int32), .int (1 : Int32)]) (rest := []) (cX8_within_ok (l := l) (D := D) (t := t) (κ := κ) ev1) gX8_look_X8_within rfl ⟨rfl, rfl⟩ hdX8_within ⟨Nat.le_of_ble_eq_true rfl, Nat.le_of_ble_eq_true rfl⟩ hP hD hS rfl hl.1 (Nat.le_of_ble_eq_true rfl) dX8_look_3 (Nat.zero_le _) (Nat.zero_le _) (fun H locs hP hD hS => ?_)
  refine W.eq (g2 := F0 m 6 ls [.int v1]) rfl ?_
  refine lv_if_ne (tgt := 11) hx hb dX8_look_6 (by decide) (fun c2 => ?_) (fun c2 => ?_)
  · rw [if_neg c2] at hf
    refine lv_aload_n hx hb dX8_look_11 rfl (lv_at hl 0 rfl) ?_
    obtain ⟨v3, ev3, hf⟩ := bd_some hf
    refine gk_V0 C (As := []) (rest := []) (ci := 8) (q := (RX8, TX8, 11)) (q0 := 0) (cX8_turned_ok (l := l) (D := D) (t := t) (κ := κ) (a_cc := a_cc) (a_rd := a_rd) (a_tr := a_tr) (a_dr := a_dr) (a_sn := a_sn) (y_cc_tape := y_cc_tape) (y_cc_teller := y_cc_teller) (y_cc_seeker := y_cc_seeker) (y_cc_images := y_cc_images) (y_cc_sheets := y_cc_sheets) ev3) gX8_look_X8_turned rfl ⟨rfl, rfl⟩ hdX8_turned ⟨Nat.le_of_ble_eq_true rfl, Nat.le_of_ble_eq_true rfl⟩ rfl rfl hP hD hS rfl hl.1 (Nat.le_of_ble_eq_true rfl) dX8_look_12 (Nat.zero_le _) (Nat.zero_le _) (fun H locs hP hD hS => ?_)
    refine W.eq (g2 := F0 m 15 ls [.int v3.1]) rfl ?_
    obtain ⟨y4, hy4, hf⟩ := nm_ex hf
    refine W.eq (g2 := F0 m 15 ls [.int y4]) (by rw [hy4]) ?_
    refine lv_istore_n (lv' := [(2, .int y4), (0, .ref (a_cc 0)), (1, .int p1)]) hx hb dX8_look_15 rfl hl (by decide) rfl (fun ls hl => ?_)
    refine lv_iload_n hx hb dX8_look_16 rfl (lv_at hl 0 rfl) ?_
    obtain ⟨v5, ev5, hf⟩ := bd_some hf
    refine gk_S C (As := [.int y4]) (rest := []) (cJ6_bitCount_0f7a4_ok (l := l) (D := D) (t := t) (κ := κ) ev5) gX8_look_J6_bitCount_0f7a4 rfl ⟨rfl, rfl⟩ hdJ6_bitCount_0f7a4 ⟨Nat.le_of_ble_eq_true rfl, Nat.le_of_ble_eq_true rfl⟩ hP hD hS rfl hl.1 (Nat.le_of_ble_eq_true rfl) dX8_look_17 (Nat.zero_le _) (Nat.zero_le _) (fun H locs hP hD hS => ?_)
    refine W.eq (g2 := F0 m 20 ls [.int v5]) rfl ?_
    refine lv_istore_n (lv' := [(3, .int v5), (2, .int y4), (0, .ref (a_cc 0)), (1, .int p1)]) hx hb dX8_look_20 rfl hl (by decide) rfl (fun ls hl => ?_)
    refine lv_bipush (v := -4) hx hb dX8_look_21 (by decide) ?_
    refine lv_istore (lv' := [(4, .int (-4 : Int32)), (3, .int v5), (2, .int y4), (0, .ref (a_cc 0)), (1, .int p1)]) hx hb dX8_look_23 hl (by decide) rfl (fun ls hl => ?_)
    refine lv_iconst (v := 0) hx hb dX8_look_25 (by decide) ?_
    refine lv_istore (lv' := [(5, .int (0 : Int32)), (4, .int (-4 : Int32)), (3, .int v5), (2, .int y4), (0, .ref (a_cc 0)), (1, .int p1)]) hx hb dX8_look_26 hl (by decide) rfl (fun ls hl => ?_)
    obtain ⟨x12, ex12, hf⟩ := bd_some hf
    refine wX8_look_l28 C 5000 v5 (-4 : Int32) (0 : Int32) s_cc v3.2.1 v3.2.2 x12 ex12 (fun c9 h9 H locs ls hP hD hS hl => ?_) _ _ _ hP hD hS (lv_sub hl [4, 5, 3, 2, 1, 0] rfl)
    subst h9
    refine lv_iload_n hx hb dX8_look_68 rfl (lv_at hl 0 rfl) ?_
    refine lv_if_eq (tgt := 79) hx hb dX8_look_69 (by decide) (fun c13 => ?_) (fun c13 => ?_)
    · rw [if_pos c13] at hf
      refine lv_iload hx hb dX8_look_79 (lv_at hl 2 rfl) ?_
      refine lv_goto (tgt := 85) hx hb dX8_look_81 (by decide) ?_
      obtain rfl := so_eq hf
      exact g_iret C hP hD hS dX8_look_85
    · rw [if_neg c13] at hf
      refine lv_iload hx hb dX8_look_72 (lv_at hl 2 rfl) ?_
      refine lv_bipush (v := -4) hx hb dX8_look_74 (by decide) ?_
      refine lv_icmp_ne (tgt := 84) hx hb dX8_look_76 (by decide) (fun c14 => ?_) (fun c14 => ?_)
      · rw [if_neg c14] at hf
        refine lv_iload_n hx hb dX8_look_84 rfl (lv_at hl 1 rfl) ?_
        obtain rfl := so_eq hf
        exact g_iret C hP hD hS dX8_look_85
      · rw [if_pos c14] at hf
        refine lv_iload hx hb dX8_look_79 (lv_at hl 2 rfl) ?_
        refine lv_goto (tgt := 85) hx hb dX8_look_81 (by decide) ?_
        obtain rfl := so_eq hf
        exact g_iret C hP hD hS dX8_look_85
  · rw [if_pos c2] at hf
    refine lv_iconst (v := -1) hx hb dX8_look_9 (by decide) ?_
    obtain rfl := so_eq hf
    exact g_iret C hP hD hS dX8_look_10
/-! CoachCourt.drift -/
def fX8_drift_b64 (s_cc : S2) (s_rd : S2) (s_tr : S2) (s_dr : S2) (x2 : Int32) (x3 : Int32) (x4 : Int32) (x5 : Int32) (x6 : Int32) : Option ((Int32 × Int32 × Int32 × S2 × S2) ⊕ (Int32 × Int32 × Int32 × S2 × S2)) :=
  if x2 ≤ x6 then
    (some (.inr (x4, x5, x6, s_tr, s_dr)))
  else
    ((fX8_nextSeed x4).bind fun v9 =>
    (fX8_drawnOf v9).bind fun v10 =>
    gd (nzb (s_rd 0 1)) <|
    nm (v10 - v10 / (s_rd 0 1) * (s_rd 0 1)) fun y12 =>
    (fX8_nextSeed v9).bind fun v13 =>
    (fX8_drawnOf v13).bind fun v14 =>
    gd (nzb (s_rd 0 0)) <|
    gd (ixb y12 4) <|
    nm (sE s_tr 8 (Int32.toNatClampNeg y12) (v14 - v14 / (s_rd 0 0) * (s_rd 0 0))) fun s17 =>
    (fX0_run s_dr s17).bind fun v18 =>
    (fX0_verdicts v18).bind fun v19 =>
    nm (x5 + v19) fun y20 =>
    nm (x6 + (1 : Int32)) fun y21 =>
    some (.inl (v13, y20, y21, s17, v18)))
def fX8_drift (s_cc : S2) (s_rd : S2) (s_tr : S2) (s_dr : S2) (p1 : Int32) (p2 : Int32) (p3 : Int32) : Option (Int32 × S2 × S2) :=
  (fX8_within p2 (1 : Int32) (60 : Int32)).bind fun v1 =>
  if v1 = (0 : Int32) then
    (some ((-1 : Int32), s_tr, s_dr))
  else
    ((fX8_within p3 (0 : Int32) (1 : Int32)).bind fun v3 =>
    if v3 = (0 : Int32) then
      (some ((-1 : Int32), s_tr, s_dr))
    else
      (if (s_rd 0 1) = (0 : Int32) then
        (some ((-2 : Int32), s_tr, s_dr))
      else
        (if (s_rd 0 0) = (0 : Int32) then
          (some ((-2 : Int32), s_tr, s_dr))
        else
          ((fX2_copyFrom s_tr s_rd).bind fun v7 =>
          (wh (fun (c : Int32 × Int32 × Int32 × S2 × S2) => fX8_drift_b64 s_cc s_rd c.2.2.2.1 c.2.2.2.2 p2 p3 c.1 c.2.1 c.2.2.1) 5000 (p1, (0 : Int32), (0 : Int32), v7, s_dr)).bind fun x22 =>
          if p3 = (0 : Int32) then
            (some (x22.2.1, x22.2.2.2.1, x22.2.2.2.2))
          else
            ((fX0_whoHas x22.2.2.2.2 (0 : Int32)).bind fun v24 =>
            some (v24, x22.2.2.2.1, x22.2.2.2.2))))))
theorem hdX8_drift : yX8_drift.cls = RX8 ∧ yX8_drift.cls ≠ "java/lang/invoke/MethodHandle" ∧ yX8_drift.cls ≠ "java/lang/invoke/VarHandle" ∧ (parseMethodDescriptor yX8_drift.desc).map (fun d => d.parameters.length) = some 3 := by decide +kernel
theorem iwX8_drift_X8 : ∀ w ∈ wsX80, w ∈ wsX8_drift := by decide +kernel
theorem lkX8_drift_f28 : Cond.fieldLink RX8 28 "CoachCourt" "road" "LCoachCourt$Road;" ∈ wsX8_drift := by decide +kernel
theorem iwX8_drift_X2 : ∀ w ∈ wsX20, w ∈ wsX8_drift := by decide +kernel
theorem lkX8_drift_f32 : Cond.fieldLink RX8 32 "CoachCourt" "trial" "LCoachCourt$Road;" ∈ wsX8_drift := by decide +kernel
theorem lkX8_drift_f38 : Cond.fieldLink RX8 38 "CoachCourt" "drive" "LCoachCourt$Drive;" ∈ wsX8_drift := by decide +kernel
set_option maxHeartbeats 4000000 in
set_option maxRecDepth 100000 in
theorem wX8_drift_l64 {p : Program} {l : Launch} {e : Env} {s : State} {m : MethodId} {args : Array Value} {below : List Frame} {meth : Method} {c : Code} {D : va_G} {t : Nat → ClassId} {κ : Nat → Nat} {A : Nat → Prop} {a_cc : Nat → Nat} {y_cc_tape : Nat} {y_cc_teller : Nat} {y_cc_seeker : Nat} {y_cc_seen : Nat} {y_cc_images : Nat} {y_cc_sheets : Nat} {a_rd : Nat → Nat} {a_tr : Nat → Nat} {a_dr : Nat → Nat} {s_cc : S2} {s_rd : S2} {x2 : Int32} {x3 : Int32} {rv : Option Value} {w1 : va_W} (C : Cxt p s m args meth c cX8_drift 8 RX8 wsX8_drift (some .int) D t κ A) : ∀ (n : Nat) (x4 : Int32) (x5 : Int32) (x6 : Int32) (s_tr : S2) (s_dr : S2) (x : Int32 × Int32 × Int32 × S2 × S2), wh (fun (c : Int32 × Int32 × Int32 × S2 × S2) => fX8_drift_b64 s_cc s_rd c.2.2.2.1 c.2.2.2.2 x2 x3 c.1 c.2.1 c.2.2.1) n (x4, x5, x6, s_tr, s_dr) = some x → (∀ (z : Int32 × Int32 × Int32 × S2 × S2), x = z → ∀ (H : Heap) (locs : List Loc) (ls : Array Slot), va_P D vwCl ((wCC t a_cc y_cc_tape y_cc_teller (a_rd 0) (a_tr 0) (a_dr 0) y_cc_seeker y_cc_seen y_cc_images y_cc_sheets s_cc) ++ (wRoad t a_rd s_rd) ++ (wRoad t a_tr z.2.2.2.1) ++ (wDrive t a_dr z.2.2.2.2)) H → va_D A ((wCC t a_cc y_cc_tape y_cc_teller (a_rd 0) (a_tr 0) (a_dr 0) y_cc_seeker y_cc_seen y_cc_images y_cc_sheets s_cc) ++ (wRoad t a_rd s_rd) ++ (wRoad t a_tr z.2.2.2.1) ++ (wDrive t a_dr z.2.2.2.2)) → va_S A s.heap H locs → lv_has ls 8 [(0, .ref (a_cc 0)), (3, .int x3), (5, .int z.2.1)] → W p l e (rmL 4) s m args below meth c H locs 0 0 (MQ below (gQ D rv w1 A) args s 0 0 A) (F0 m 151 ls [])) → ∀ (H : Heap) (locs : List Loc) (ls : Array Slot), va_P D vwCl ((wCC t a_cc y_cc_tape y_cc_teller (a_rd 0) (a_tr 0) (a_dr 0) y_cc_seeker y_cc_seen y_cc_images y_cc_sheets s_cc) ++ (wRoad t a_rd s_rd) ++ (wRoad t a_tr s_tr) ++ (wDrive t a_dr s_dr)) H → va_D A ((wCC t a_cc y_cc_tape y_cc_teller (a_rd 0) (a_tr 0) (a_dr 0) y_cc_seeker y_cc_seen y_cc_images y_cc_sheets s_cc) ++ (wRoad t a_rd s_rd) ++ (wRoad t a_tr s_tr) ++ (wDrive t a_dr s_dr)) → va_S A s.heap H locs → lv_has ls 8 [(0, .ref (a_cc 0)), (2, .int x2), (3, .int x3), (4, .int x4), (5, .int x5), (6, .int x6)] → W p l e (rmL 4) s m args below meth c H locs 0 0 (MQ below (gQ D rv w1 A) args s 0 0 A) (F0 m 64 ls []) := by
  obtain ⟨hx, hb, hr, hml, hown, hts, hC0, hlk, hA⟩ := id C
  have hK := hC0.1
  intro n
  induction n with
  | zero =>
    intro x4 x5 x6 s_tr s_dr x h
    exact (wh_0 h).elim
  | succ n ih =>
    intro x4 x5 x6 s_tr s_dr x h HX H locs ls hP hD hS hl
    obtain ⟨v, hf, hB, hX⟩ := wh_step h
    have hf : fX8_drift_b64 s_cc s_rd s_tr s_dr x2 x3 x4 x5 x6 = some v := hf
    have HB : ∀ (z : Int32 × Int32 × Int32 × S2 × S2), v = .inl z → ∀ (H : Heap) (locs : List Loc) (ls : Array Slot), va_P D vwCl ((wCC t a_cc y_cc_tape y_cc_teller (a_rd 0) (a_tr 0) (a_dr 0) y_cc_seeker y_cc_seen y_cc_images y_cc_sheets s_cc) ++ (wRoad t a_rd s_rd) ++ (wRoad t a_tr z.2.2.2.1) ++ (wDrive t a_dr z.2.2.2.2)) H → va_D A ((wCC t a_cc y_cc_tape y_cc_teller (a_rd 0) (a_tr 0) (a_dr 0) y_cc_seeker y_cc_seen y_cc_images y_cc_sheets s_cc) ++ (wRoad t a_rd s_rd) ++ (wRoad t a_tr z.2.2.2.1) ++ (wDrive t a_dr z.2.2.2.2)) → va_S A s.heap H locs → lv_has ls 8 [(0, .ref (a_cc 0)), (2, .int x2), (3, .int x3), (4, .int z.1), (5, .int z.2.1), (6, .int z.2.2.1)] → W p l e (rmL 4) s m args below meth c H locs 0 0 (MQ below (gQ D rv w1 A) args s 0 0 A) (F0 m 64 ls []) := fun z hz H locs ls hP hD hS hl => ih z.1 z.2.1 z.2.2.1 z.2.2.2.1 z.2.2.2.2 x (hB z hz) HX H locs ls hP hD hS hl
    have HX : ∀ (z : Int32 × Int32 × Int32 × S2 × S2), v = .inr z → ∀ (H : Heap) (locs : List Loc) (ls : Array Slot), va_P D vwCl ((wCC t a_cc y_cc_tape y_cc_teller (a_rd 0) (a_tr 0) (a_dr 0) y_cc_seeker y_cc_seen y_cc_images y_cc_sheets s_cc) ++ (wRoad t a_rd s_rd) ++ (wRoad t a_tr z.2.2.2.1) ++ (wDrive t a_dr z.2.2.2.2)) H → va_D A ((wCC t a_cc y_cc_tape y_cc_teller (a_rd 0) (a_tr 0) (a_dr 0) y_cc_seeker y_cc_seen y_cc_images y_cc_sheets s_cc) ++ (wRoad t a_rd s_rd) ++ (wRoad t a_tr z.2.2.2.1) ++ (wDrive t a_dr z.2.2.2.2)) → va_S A s.heap H locs → lv_has ls 8 [(0, .ref (a_cc 0)), (3, .int x3), (5, .int z.2.1)] → W p l e (rmL 4) s m args below meth c H locs 0 0 (MQ below (gQ D rv w1 A) args s 0 0 A) (F0 m 151 ls []) := fun z hz => HX z (hX _ hz).symm
    unfold fX8_drift_b64 at hf
    refine lv_iload hx hb dX8_drift_64 (lv_at hl 5 rfl) ?_
    refine lv_iload_n hx hb dX8_drift_66 rfl (lv_at hl 1 rfl) ?_
    refine lv_icmp_ge (tgt := 151) hx hb dX8_drift_67 (by decide) (fun c8 => ?_) (fun c8 => ?_)
    · rw [if_pos c8] at hf
      obtain rfl := so_eq hf
      exact HX _ rfl _ _ _ hP hD hS (lv_sub hl [0, 2, 4] rfl)
    · rw [if_neg c8] at hf
      refine lv_iload hx hb dX8_drift_70 (lv_at hl 3 rfl) ?_
      obtain ⟨v9, ev9, hf⟩ := bd_some hf
      refine gk_S C (As := [.int x4]) (rest := []) (cX8_nextSeed_ok (l := l) (D := D) (t := t) (κ := κ) ev9) gX8_drift_X8_nextSeed rfl ⟨rfl, rfl⟩ hdX8_nextSeed ⟨Nat.le_of_ble_eq_true rfl, Nat.le_of_ble_eq_true rfl⟩ hP hD hS rfl hl.1 (Nat.le_of_ble_eq_true rfl) dX8_drift_72 (Nat.zero_le _) (Nat.zero_le _) (fun H locs hP hD hS => ?_)
      refine W.eq (g2 := F0 m 75 ls [.int v9]) rfl ?_
      refine lv_istore (lv' := [(4, .int v9), (0, .ref (a_cc 0)), (2, .int x2), (3, .int x3), (5, .int x5), (6, .int x6)]) hx hb dX8_drift_75 hl (by decide) rfl (fun ls hl => ?_)
      refine lv_iload hx hb dX8_drift_77 (lv_at hl 0 rfl) ?_
      obtain ⟨v10, ev10, hf⟩ := bd_some hf
      refine gk_S C (As := [.int v9]) (rest := []) (cX8_drawnOf_ok (l := l) (D := D) (t := t) (κ := κ) ev10) gX8_drift_X8_drawnOf rfl ⟨rfl, rfl⟩ hdX8_drawnOf ⟨Nat.le_of_ble_eq_true rfl, Nat.le_of_ble_eq_true rfl⟩ hP hD hS rfl hl.1 (Nat.le_of_ble_eq_true rfl) dX8_drift_79 (Nat.zero_le _) (Nat.zero_le _) (fun H locs hP hD hS => ?_)
      refine W.eq (g2 := F0 m 82 ls [.int v10]) rfl ?_
      refine lv_aload_n hx hb dX8_drift_82 rfl (lv_at hl 1 rfl) ?_
      refine va_get (D := D) (ci := 8) (v := .ref (a_rd 0)) (C := RX8) (T := TX8) (N := 11) hx hb hts iwX8_drift_X8 hown hK hP 0 rfl rfl 2 (by decide) (hts _ lkX8_drift_f28) (fun _ h9 => h9) rfl dX8_drift_83 ?_
      refine va_getN (D := D) (ci := 2) (v := .int (s_rd 0 1)) (C := RX2) (T := TX2) (N := 12) hx hb hts iwX8_drift_X2 hown hK hP 2 rfl rfl 9 (by decide) (hC0.2.1.f 27 rfl) (fun _ h9 => h9) rfl dX8_drift_86 ?_
      obtain ⟨b11, hf⟩ := gd_some hf
      refine lv_irem hx hb dX8_drift_89 (nzb_ne b11) ?_
      obtain ⟨y12, hy12, hf⟩ := nm_ex hf
      refine W.eq (g2 := F0 m 90 ls [.int y12]) (by rw [hy12]) ?_
      refine lv_istore (lv' := [(7, .int y12), (4, .int v9), (0, .ref (a_cc 0)), (2, .int x2), (3, .int x3), (5, .int x5), (6, .int x6)]) hx hb dX8_drift_90 hl (by decide) rfl (fun ls hl => ?_)
      refine lv_iload hx hb dX8_drift_92 (lv_at hl 1 rfl) ?_
      obtain ⟨v13, ev13, hf⟩ := bd_some hf
      refine gk_S C (As := [.int v9]) (rest := []) (cX8_nextSeed_ok (l := l) (D := D) (t := t) (κ := κ) ev13) gX8_drift_X8_nextSeed rfl ⟨rfl, rfl⟩ hdX8_nextSeed ⟨Nat.le_of_ble_eq_true rfl, Nat.le_of_ble_eq_true rfl⟩ hP hD hS rfl hl.1 (Nat.le_of_ble_eq_true rfl) dX8_drift_94 (Nat.zero_le _) (Nat.zero_le _) (fun H locs hP hD hS => ?_)
      refine W.eq (g2 := F0 m 97 ls [.int v13]) rfl ?_
      refine lv_istore (lv' := [(4, .int v13), (7, .int y12), (0, .ref (a_cc 0)), (2, .int x2), (3, .int x3), (5, .int x5), (6, .int x6)]) hx hb dX8_drift_97 hl (by decide) rfl (fun ls hl => ?_)
      refine lv_aload_n hx hb dX8_drift_99 rfl (lv_at hl 2 rfl) ?_
      refine va_get (D := D) (ci := 8) (v := .ref (a_tr 0)) (C := RX8) (T := TX8) (N := 11) hx hb hts iwX8_drift_X8 hown hK hP 0 rfl rfl 3 (by decide) (hts _ lkX8_drift_f32) (fun _ h9 => h9) rfl dX8_drift_100 ?_
      refine va_getN (D := D) (ci := 2) (v := .ref (a_tr 8)) (C := RX2) (T := TX2) (N := 12) hx hb hts iwX8_drift_X2 hown hK hP 11 rfl rfl 7 (by decide) (hC0.2.1.f 22 rfl) (fun _ h9 => h9) rfl dX8_drift_103 ?_
      refine lv_iload hx hb dX8_drift_106 (lv_at hl 1 rfl) ?_
      refine lv_iload hx hb dX8_drift_108 (lv_at hl 0 rfl) ?_
      obtain ⟨v14, ev14, hf⟩ := bd_some hf
      refine gk_S C (As := [.int v13]) (rest := [.int y12, .ref (a_tr 8)]) (cX8_drawnOf_ok (l := l) (D := D) (t := t) (κ := κ) ev14) gX8_drift_X8_drawnOf rfl ⟨rfl, rfl⟩ hdX8_drawnOf ⟨Nat.le_of_ble_eq_true rfl, Nat.le_of_ble_eq_true rfl⟩ hP hD hS rfl hl.1 (Nat.le_of_ble_eq_true rfl) dX8_drift_110 (Nat.zero_le _) (Nat.zero_le _) (fun H locs hP hD hS => ?_)
      refine W.eq (g2 := F0 m 113 ls [.int v14, .int y12, .ref (a_tr 8)]) rfl ?_
      refine lv_aload_n hx hb dX8_drift_113 rfl (lv_at hl 2 rfl) ?_
      refine va_get (D := D) (ci := 8) (v := .ref (a_rd 0)) (C := RX8) (T := TX8) (N := 11) hx hb hts iwX8_drift_X8 hown hK hP 0 rfl rfl 2 (by decide) (hts _ lkX8_drift_f28) (fun _ h9 => h9) rfl dX8_drift_114 ?_
      refine va_getN (D := D) (ci := 2) (v := .int (s_rd 0 0)) (C := RX2) (T := TX2) (N := 12) hx hb hts iwX8_drift_X2 hown hK hP 2 rfl rfl 8 (by decide) (hC0.2.1.f 24 rfl) (fun _ h9 => h9) rfl dX8_drift_117 ?_
      obtain ⟨b15, hf⟩ := gd_some hf
      refine lv_irem hx hb dX8_drift_120 (nzb_ne b15) ?_
      obtain ⟨b16, hf⟩ := gd_some hf
      obtain ⟨s17, hs17, hf⟩ := nm_ex hf
      refine va_iast hx hb hK hP hD hS 19 0 rfl rfl (ixb_in b16) dX8_drift_121 (fun H locs hP hD hS => ?_)
      have hP : va_P D vwCl ((wCC t a_cc y_cc_tape y_cc_teller (a_rd 0) (a_tr 0) (a_dr 0) y_cc_seeker y_cc_seen y_cc_images y_cc_sheets s_cc) ++ (wRoad t a_rd s_rd) ++ (wRoad t a_tr s17) ++ (wDrive t a_dr s_dr)) H := by rw [hs17]; exact hP
      have hD : va_D A ((wCC t a_cc y_cc_tape y_cc_teller (a_rd 0) (a_tr 0) (a_dr 0) y_cc_seeker y_cc_seen y_cc_images y_cc_sheets s_cc) ++ (wRoad t a_rd s_rd) ++ (wRoad t a_tr s17) ++ (wDrive t a_dr s_dr)) := by rw [hs17]; exact hD
      refine lv_aload_n hx hb dX8_drift_122 rfl (lv_at hl 2 rfl) ?_
      refine va_get (D := D) (ci := 8) (v := .ref (a_dr 0)) (C := RX8) (T := TX8) (N := 11) hx hb hts iwX8_drift_X8 hown hK hP 0 rfl rfl 4 (by decide) (hts _ lkX8_drift_f38) (fun _ h9 => h9) rfl dX8_drift_123 ?_
      refine lv_aload_n hx hb dX8_drift_126 rfl (lv_at hl 2 rfl) ?_
      refine va_get (D := D) (ci := 8) (v := .ref (a_tr 0)) (C := RX8) (T := TX8) (N := 11) hx hb hts iwX8_drift_X8 hown hK hP 0 rfl rfl 3 (by decide) (hts _ lkX8_drift_f32) (fun _ h9 => h9) rfl dX8_drift_127 ?_
      obtain ⟨v18, ev18, hf⟩ := bd_some hf
      refine gk_V C (As := [.ref (a_tr 0)]) (rest := []) (ci := 0) (q := (RX0, TX0, 7)) (q0 := 0) (wr := ((wCC t a_cc y_cc_tape y_cc_teller (a_rd 0) (a_tr 0) (a_dr 0) y_cc_seeker y_cc_seen y_cc_images y_cc_sheets s_cc) ++ (wRoad t a_rd s_rd))) (wf := ((wCC t a_cc y_cc_tape y_cc_teller (a_rd 0) (a_tr 0) (a_dr 0) y_cc_seeker y_cc_seen y_cc_images y_cc_sheets s_cc) ++ (wRoad t a_rd s_rd) ++ (wRoad t a_tr s17) ++ (wDrive t a_dr v18))) (cX0_run_ok (l := l) (D := D) (t := t) (κ := κ) (a_dr := a_dr) (a_rd := a_tr) ev18) gX8_drift_X0_run rfl ⟨rfl, rfl⟩ hdX0_run ⟨Nat.le_of_ble_eq_true rfl, Nat.le_of_ble_eq_true rfl⟩ rfl rfl hP hD hS [20, 21, 22, 23, 24, 25, 11, 12, 13, 14, 15, 16, 17, 18, 19] [0, 1, 2, 3, 4, 5, 6, 7, 8, 9, 10] [0, 1, 2, 3, 4, 5, 6, 7, 8, 9, 10, 17, 18, 19, 20, 21, 22, 23, 24, 25, 11, 12, 13, 14, 15, 16] rfl rfl rfl rfl (by decide) rfl rfl rfl hl.1 (Nat.le_of_ble_eq_true rfl) dX8_drift_130 (Nat.zero_le _) (Nat.zero_le _) (fun H locs hP hD hS => ?_)
      refine W.eq (g2 := F0 m 133 ls []) rfl ?_
      refine lv_iload hx hb dX8_drift_133 (lv_at hl 5 rfl) ?_
      refine lv_aload_n hx hb dX8_drift_135 rfl (lv_at hl 2 rfl) ?_
      refine va_get (D := D) (ci := 8) (v := .ref (a_dr 0)) (C := RX8) (T := TX8) (N := 11) hx hb hts iwX8_drift_X8 hown hK hP 0 rfl rfl 4 (by decide) (hts _ lkX8_drift_f38) (fun _ h9 => h9) rfl dX8_drift_136 ?_
      obtain ⟨v19, ev19, hf⟩ := bd_some hf
      refine gk_V C (As := []) (rest := [.int x5]) (ci := 0) (q := (RX0, TX0, 7)) (q0 := 0) (wr := ((wCC t a_cc y_cc_tape y_cc_teller (a_rd 0) (a_tr 0) (a_dr 0) y_cc_seeker y_cc_seen y_cc_images y_cc_sheets s_cc) ++ (wRoad t a_rd s_rd) ++ (wRoad t a_tr s17))) (wf := ((wCC t a_cc y_cc_tape y_cc_teller (a_rd 0) (a_tr 0) (a_dr 0) y_cc_seeker y_cc_seen y_cc_images y_cc_sheets s_cc) ++ (wRoad t a_rd s_rd) ++ (wRoad t a_tr s17) ++ (wDrive t a_dr v18))) (cX0_verdicts_ok (l := l) (D := D) (t := t) (κ := κ) (a_dr := a_dr) ev19) gX8_drift_X0_verdicts rfl ⟨rfl, rfl⟩ hdX0_verdicts ⟨Nat.le_of_ble_eq_true rfl, Nat.le_of_ble_eq_true rfl⟩ rfl rfl hP hD hS [20, 21, 22, 23, 24, 25] [0, 1, 2, 3, 4, 5, 6, 7, 8, 9, 10, 11, 12, 13, 14, 15, 16, 17, 18, 19] [0, 1, 2, 3, 4, 5, 6, 7, 8, 9, 10, 11, 12, 13, 14, 15, 16, 17, 18, 19, 20, 21, 22, 23, 24, 25] rfl rfl rfl rfl (by decide) rfl rfl rfl hl.1 (Nat.le_of_ble_eq_true rfl) dX8_drift_139 (Nat.zero_le _) (Nat.zero_le _) (fun H locs hP hD hS => ?_)
      refine W.eq (g2 := F0 m 142 ls [.int v19, .int x5]) rfl ?_
      refine lv_iadd hx hb dX8_drift_142 ?_
      obtain ⟨y20, hy20, hf⟩ := nm_ex hf
      refine W.eq (g2 := F0 m 143 ls [.int y20]) (by rw [hy20]) ?_
      refine lv_istore (lv' := [(5, .int y20), (4, .int v13), (7, .int y12), (0, .ref (a_cc 0)), (2, .int x2), (3, .int x3), (6, .int x6)]) hx hb dX8_drift_143 hl (by decide) rfl (fun ls hl => ?_)
      obtain ⟨y21, hy21, hf⟩ := nm_ex hf
      refine lv_iinc (v := y21) (lv' := [(6, .int y21), (5, .int y20), (4, .int v13), (7, .int y12), (0, .ref (a_cc 0)), (2, .int x2), (3, .int x3)]) hx hb dX8_drift_145 hl (k := 6) rfl (by rw [hy21]; rfl) (by decide) rfl (fun ls hl => ?_)
      refine lv_goto (tgt := 64) hx hb dX8_drift_148 (by decide) ?_
      obtain rfl := so_eq hf
      exact HB _ rfl _ _ _ hP hD hS (lv_sub hl [4, 5, 6, 2, 1, 0] rfl)
set_option maxHeartbeats 4000000 in
set_option maxRecDepth 100000 in
theorem cX8_drift_ok {l : Launch} {D : va_G} {t : Nat → ClassId} {κ : Nat → Nat} {a_cc : Nat → Nat} {y_cc_tape : Nat} {y_cc_teller : Nat} {y_cc_seeker : Nat} {y_cc_seen : Nat} {y_cc_images : Nat} {y_cc_sheets : Nat} {a_rd : Nat → Nat} {a_tr : Nat → Nat} {a_dr : Nat → Nat} {s_cc : S2} {s_rd : S2} {s_tr : S2} {s_dr : S2} {p1 : Int32} {p2 : Int32} {p3 : Int32} {out : Int32 × S2 × S2} (hf : fX8_drift s_cc s_rd s_tr s_dr p1 p2 p3 = some out) : Ct l D t κ yX8_drift wsX8_drift (rmL 4) [.ref (a_cc 0), .int p1, .int p2, .int p3] ((wCC t a_cc y_cc_tape y_cc_teller (a_rd 0) (a_tr 0) (a_dr 0) y_cc_seeker y_cc_seen y_cc_images y_cc_sheets s_cc) ++ (wRoad t a_rd s_rd) ++ (wRoad t a_tr s_tr) ++ (wDrive t a_dr s_dr)) (some (.int out.1)) ((wCC t a_cc y_cc_tape y_cc_teller (a_rd 0) (a_tr 0) (a_dr 0) y_cc_seeker y_cc_seen y_cc_images y_cc_sheets s_cc) ++ (wRoad t a_rd s_rd) ++ (wRoad t a_tr out.2.1) ++ (wDrive t a_dr out.2.2)) := by
  refine Ct.ofW (own := RX8) (cc := cX8_drift) (maxL := 8) (ret := (some .int)) (by decide) rfl rfl (Nat.le_of_ble_eq_true rfl) ?_
  intro p e s m below meth c A C hP hD ls hl
  have hS : va_S A s.heap s.heap [] := va_S.rf
  obtain ⟨hx, hb, hr, hml, hown, hts, hC0, hlk, hA⟩ := id C
  have hK := hC0.1
  have hl : lv_has ls 8 [(0, .ref (a_cc 0)), (1, .int p1), (2, .int p2), (3, .int p3)] := hl
  unfold fX8_drift at hf
  refine lv_iload_n hx hb dX8_drift_0 rfl (lv_at hl 2 rfl) ?_
  refine lv_iconst (v := 1) hx hb dX8_drift_1 (by decide) ?_
  refine lv_bipush (v := 60) hx hb dX8_drift_2 (by decide) ?_
  obtain ⟨v1, ev1, hf⟩ := bd_some hf
  refine gk_S C (As := [.int p2, .int (1 : Int32), .int (60 : Int32)]) (rest := []) (cX8_within_ok (l := l) (D := D) (t := t) (κ := κ) ev1) gX8_drift_X8_within rfl ⟨rfl, rfl⟩ hdX8_within ⟨Nat.le_of_ble_eq_true rfl, Nat.le_of_ble_eq_true rfl⟩ hP hD hS rfl hl.1 (Nat.le_of_ble_eq_true rfl) dX8_drift_4 (Nat.zero_le _) (Nat.zero_le _) (fun H locs hP hD hS => ?_)
  refine W.eq (g2 := F0 m 7 ls [.int v1]) rfl ?_
  refine lv_if_eq (tgt := 19) hx hb dX8_drift_7 (by decide) (fun c2 => ?_) (fun c2 => ?_)
  · rw [if_pos c2] at hf
    refine lv_iconst (v := -1) hx hb dX8_drift_19 (by decide) ?_
    obtain rfl := so_eq hf
    exact g_iret C hP hD hS dX8_drift_20
  · rw [if_neg c2] at hf
    refine lv_iload_n hx hb dX8_drift_10 rfl (lv_at hl 3 rfl) ?_
    refine lv_iconst (v := 0) hx hb dX8_drift_11 (by decide) ?_
    refine lv_iconst (v := 1) hx hb dX8_drift_12 (by decide) ?_
    obtain ⟨v3, ev3, hf⟩ := bd_some hf
    refine gk_S C (As := [.int p3, .int (0 : Int32), .int (1 : Int32)]) (rest := []) (cX8_within_ok (l := l) (D := D) (t := t) (κ := κ) ev3) gX8_drift_X8_within rfl ⟨rfl, rfl⟩ hdX8_within ⟨Nat.le_of_ble_eq_true rfl, Nat.le_of_ble_eq_true rfl⟩ hP hD hS rfl hl.1 (Nat.le_of_ble_eq_true rfl) dX8_drift_13 (Nat.zero_le _) (Nat.zero_le _) (fun H locs hP hD hS => ?_)
    refine W.eq (g2 := F0 m 16 ls [.int v3]) rfl ?_
    refine lv_if_ne (tgt := 21) hx hb dX8_drift_16 (by decide) (fun c4 => ?_) (fun c4 => ?_)
    · rw [if_neg c4] at hf
      refine lv_aload_n hx hb dX8_drift_21 rfl (lv_at hl 0 rfl) ?_
      refine va_get (D := D) (ci := 8) (v := .ref (a_rd 0)) (C := RX8) (T := TX8) (N := 11) hx hb hts iwX8_drift_X8 hown hK hP 0 rfl rfl 2 (by decide) (hts _ lkX8_drift_f28) (fun _ h9 => h9) rfl dX8_drift_22 ?_
      refine va_getN (D := D) (ci := 2) (v := .int (s_rd 0 1)) (C := RX2) (T := TX2) (N := 12) hx hb hts iwX8_drift_X2 hown hK hP 2 rfl rfl 9 (by decide) (hC0.2.1.f 27 rfl) (fun _ h9 => h9) rfl dX8_drift_25 ?_
      refine lv_if_eq (tgt := 41) hx hb dX8_drift_28 (by decide) (fun c5 => ?_) (fun c5 => ?_)
      · rw [if_pos c5] at hf
        refine lv_bipush (v := -2) hx hb dX8_drift_41 (by decide) ?_
        obtain rfl := so_eq hf
        exact g_iret C hP hD hS dX8_drift_43
      · rw [if_neg c5] at hf
        refine lv_aload_n hx hb dX8_drift_31 rfl (lv_at hl 0 rfl) ?_
        refine va_get (D := D) (ci := 8) (v := .ref (a_rd 0)) (C := RX8) (T := TX8) (N := 11) hx hb hts iwX8_drift_X8 hown hK hP 0 rfl rfl 2 (by decide) (hts _ lkX8_drift_f28) (fun _ h9 => h9) rfl dX8_drift_32 ?_
        refine va_getN (D := D) (ci := 2) (v := .int (s_rd 0 0)) (C := RX2) (T := TX2) (N := 12) hx hb hts iwX8_drift_X2 hown hK hP 2 rfl rfl 8 (by decide) (hC0.2.1.f 24 rfl) (fun _ h9 => h9) rfl dX8_drift_35 ?_
        refine lv_if_ne (tgt := 44) hx hb dX8_drift_38 (by decide) (fun c6 => ?_) (fun c6 => ?_)
        · rw [if_neg c6] at hf
          refine lv_aload_n hx hb dX8_drift_44 rfl (lv_at hl 0 rfl) ?_
          refine va_get (D := D) (ci := 8) (v := .ref (a_tr 0)) (C := RX8) (T := TX8) (N := 11) hx hb hts iwX8_drift_X8 hown hK hP 0 rfl rfl 3 (by decide) (hts _ lkX8_drift_f32) (fun _ h9 => h9) rfl dX8_drift_45 ?_
          refine lv_aload_n hx hb dX8_drift_48 rfl (lv_at hl 0 rfl) ?_
          refine va_get (D := D) (ci := 8) (v := .ref (a_rd 0)) (C := RX8) (T := TX8) (N := 11) hx hb hts iwX8_drift_X8 hown hK hP 0 rfl rfl 2 (by decide) (hts _ lkX8_drift_f28) (fun _ h9 => h9) rfl dX8_drift_49 ?_
          obtain ⟨v7, ev7, hf⟩ := bd_some hf
          refine gk_V C (As := [.ref (a_rd 0)]) (rest := []) (ci := 2) (q := (RX2, TX2, 12)) (q0 := 0) (wr := ((wCC t a_cc y_cc_tape y_cc_teller (a_rd 0) (a_tr 0) (a_dr 0) y_cc_seeker y_cc_seen y_cc_images y_cc_sheets s_cc) ++ (wDrive t a_dr s_dr))) (wf := ((wCC t a_cc y_cc_tape y_cc_teller (a_rd 0) (a_tr 0) (a_dr 0) y_cc_seeker y_cc_seen y_cc_images y_cc_sheets s_cc) ++ (wRoad t a_rd s_rd) ++ (wRoad t a_tr v7) ++ (wDrive t a_dr s_dr))) (cX2_copyFrom_ok (l := l) (D := D) (t := t) (κ := κ) (a_rd := a_tr) (a_ro := a_rd) ev7) gX8_drift_X2_copyFrom rfl ⟨rfl, rfl⟩ hdX2_copyFrom ⟨Nat.le_of_ble_eq_true rfl, Nat.le_of_ble_eq_true rfl⟩ rfl rfl hP hD hS [11, 12, 13, 14, 15, 16, 17, 18, 19, 2, 3, 4, 5, 6, 7, 8, 9, 10] [0, 1, 20, 21, 22, 23, 24, 25] [0, 1, 17, 18, 19, 20, 21, 22, 23, 24, 25, 8, 9, 10, 11, 12, 13, 14, 15, 16, 2, 3, 4, 5, 6, 7] rfl rfl rfl rfl (by decide) rfl rfl rfl hl.1 (Nat.le_of_ble_eq_true rfl) dX8_drift_52 (Nat.zero_le _) (Nat.zero_le _) (fun H locs hP hD hS => ?_)
          refine W.eq (g2 := F0 m 55 ls []) rfl ?_
          refine lv_iload_n hx hb dX8_drift_55 rfl (lv_at hl 1 rfl) ?_
          refine lv_istore (lv' := [(4, .int p1), (0, .ref (a_cc 0)), (1, .int p1), (2, .int p2), (3, .int p3)]) hx hb dX8_drift_56 hl (by decide) rfl (fun ls hl => ?_)
          refine lv_iconst (v := 0) hx hb dX8_drift_58 (by decide) ?_
          refine lv_istore (lv' := [(5, .int (0 : Int32)), (4, .int p1), (0, .ref (a_cc 0)), (1, .int p1), (2, .int p2), (3, .int p3)]) hx hb dX8_drift_59 hl (by decide) rfl (fun ls hl => ?_)
          refine lv_iconst (v := 0) hx hb dX8_drift_61 (by decide) ?_
          refine lv_istore (lv' := [(6, .int (0 : Int32)), (5, .int (0 : Int32)), (4, .int p1), (0, .ref (a_cc 0)), (1, .int p1), (2, .int p2), (3, .int p3)]) hx hb dX8_drift_62 hl (by decide) rfl (fun ls hl => ?_)
          obtain ⟨x22, ex22, hf⟩ := bd_some hf
          refine wX8_drift_l64 C 5000 p1 (0 : Int32) (0 : Int32) v7 s_dr x22 ex22 (fun c9 h9 H locs ls hP hD hS hl => ?_) _ _ _ hP hD hS (lv_sub hl [3, 5, 6, 2, 1, 0] rfl)
          subst h9
          refine lv_iload_n hx hb dX8_drift_151 rfl (lv_at hl 1 rfl) ?_
          refine lv_if_ne (tgt := 160) hx hb dX8_drift_152 (by decide) (fun c23 => ?_) (fun c23 => ?_)
          · rw [if_neg c23] at hf
            refine lv_aload_n hx hb dX8_drift_160 rfl (lv_at hl 0 rfl) ?_
            refine va_get (D := D) (ci := 8) (v := .ref (a_dr 0)) (C := RX8) (T := TX8) (N := 11) hx hb hts iwX8_drift_X8 hown hK hP 0 rfl rfl 4 (by decide) (hts _ lkX8_drift_f38) (fun _ h9 => h9) rfl dX8_drift_161 ?_
            refine lv_iconst (v := 0) hx hb dX8_drift_164 (by decide) ?_
            obtain ⟨v24, ev24, hf⟩ := bd_some hf
            refine gk_V C (As := [.int (0 : Int32)]) (rest := []) (ci := 0) (q := (RX0, TX0, 7)) (q0 := 0) (wr := ((wCC t a_cc y_cc_tape y_cc_teller (a_rd 0) (a_tr 0) (a_dr 0) y_cc_seeker y_cc_seen y_cc_images y_cc_sheets s_cc) ++ (wRoad t a_rd s_rd) ++ (wRoad t a_tr x22.2.2.2.1))) (wf := ((wCC t a_cc y_cc_tape y_cc_teller (a_rd 0) (a_tr 0) (a_dr 0) y_cc_seeker y_cc_seen y_cc_images y_cc_sheets s_cc) ++ (wRoad t a_rd s_rd) ++ (wRoad t a_tr x22.2.2.2.1) ++ (wDrive t a_dr x22.2.2.2.2))) (cX0_whoHas_ok (l := l) (D := D) (t := t) (κ := κ) (a_dr := a_dr) ev24) gX8_drift_X0_whoHas rfl ⟨rfl, rfl⟩ hdX0_whoHas ⟨Nat.le_of_ble_eq_true rfl, Nat.le_of_ble_eq_true rfl⟩ rfl rfl hP hD hS [20, 21, 22, 23, 24, 25] [0, 1, 2, 3, 4, 5, 6, 7, 8, 9, 10, 11, 12, 13, 14, 15, 16, 17, 18, 19] [0, 1, 2, 3, 4, 5, 6, 7, 8, 9, 10, 11, 12, 13, 14, 15, 16, 17, 18, 19, 20, 21, 22, 23, 24, 25] rfl rfl rfl rfl (by decide) rfl rfl rfl hl.1 (Nat.le_of_ble_eq_true rfl) dX8_drift_165 (Nat.zero_le _) (Nat.zero_le _) (fun H locs hP hD hS => ?_)
            refine W.eq (g2 := F0 m 168 ls [.int v24]) rfl ?_
            obtain rfl := so_eq hf
            exact g_iret C hP hD hS dX8_drift_168
          · rw [if_pos c23] at hf
            refine lv_iload hx hb dX8_drift_155 (lv_at hl 2 rfl) ?_
            refine lv_goto (tgt := 168) hx hb dX8_drift_157 (by decide) ?_
            obtain rfl := so_eq hf
            exact g_iret C hP hD hS dX8_drift_168
        · rw [if_pos c6] at hf
          refine lv_bipush (v := -2) hx hb dX8_drift_41 (by decide) ?_
          obtain rfl := so_eq hf
          exact g_iret C hP hD hS dX8_drift_43
    · rw [if_pos c4] at hf
      refine lv_iconst (v := -1) hx hb dX8_drift_19 (by decide) ?_
      obtain rfl := so_eq hf
      exact g_iret C hP hD hS dX8_drift_20
