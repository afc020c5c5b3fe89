/-! String's own methods over the eight words of the text; a word is its number si -/
section GKS
variable {p : Program} {l : Launch} {e : Env} {R : Room} {s : State} {m : MethodId} {args : Array Value} {below : List Frame} {meth : Method} {c : Code} {H : Heap} {locs : List Loc} {cells slots : Nat} {Q : State → Prop}
variable {cc : ByteArray} {nL : Nat} {own : String} {Ts : List Cond} {ret : Option FieldType} {D : va_G} {t : Nat → ClassId} {κ : Nat → Nat} {A : Nat → Prop} {pc : Nat} {ls : Array Slot} {rest : List Value} {rv : Option Value}
variable {y : MethodName} {bytes : ByteArray} {maxL n index : Nat} {ret' : Option FieldType} {ws' ws'' : List Cond} {rm : Room} {As : List Value} {ws : va_W} {si : Nat}
theorem gk_Str (C : Cxt p s m args meth c cc nL own Ts ret D t κ A) (hsi : si < 8) (hM : Ct l D t κ y ws' rm (.ref (κ (3 + si)) :: As) [] rv []) (hg : GoodIn Ts (wsV own index RJ0 y ws')) (hw : ws' = Cond.code y bytes maxL ret' :: ws'') (hrm : rm.cells = 0 ∧ rm.slots = 0)
    (hd : y.cls = RJ0 ∧ y.cls ≠ "java/lang/invoke/MethodHandle" ∧ y.cls ≠ "java/lang/invoke/VarHandle" ∧ (parseMethodDescriptor y.desc).map (fun d => d.parameters.length) = some n) (hR : rm.frames + 1 ≤ R.frames ∧ 8 + (maxL + 11) + rm.locals ≤ R.locals)
    (hP : va_P D vwCl ws H) (hD : va_D A ws) (hS : va_S A s.heap H locs)
    (hn : As.length = n) (hl : ls.size = nL) (hroom : (rest.map fun v => v.category).sum ≤ 8) (hdg : decode cc pc = .ok (.invokevirtual index, 3)) (hcl : cells ≤ R.cells) (hsl : slots ≤ R.slots)
    (kk : ∀ (H1 : Heap) (locs1 : List Loc), va_P D vwCl ws H1 → va_D A ws → va_S A s.heap H1 locs1 → W p l e R s m args below meth c H1 locs1 cells slots Q (F0 m (pc + 3) ls (rv.toList ++ rest))) : W p l e R s m args below meth c H locs cells slots Q (F0 m pc ls (As.reverse ++ .ref (κ (3 + si)) :: rest)) := by
  obtain ⟨hx, hb, hr, hml, hown, hts, hC0, hlk, hA⟩ := C
  have hpre := gk_pre (As := .ref (κ (3 + si)) :: As) (wc := []) hC0 hD hP hS hA [] rfl rfl
  have hFc := va_free (wc := []) hD hS hA [] rfl
  have hrec : ∃ cell : Cell, H[κ (3 + si)]? = some cell ∧ cell.vm.isStatics = false ∧ s.vm.findClass RJ0 = some cell.cls := vk_recv (adK := fun i => κ (3 + i)) hC0.2.2.2.2.2.2.2.2 hsi hS
  refine gk_go (va_runV (As := As) (rest := rest) ⟨hx, hb, hml, hown, hts⟩ (hM H.size) (cwV n hts hg hw hrm.1 hrm.2 hd hR) ⟨hpre.1, hrec, hpre.2⟩ rfl hn hl rfl (lv_room hroom) hdg ⟨hcl, hsl⟩) hS (fun q _ h => hFc q h) hFc (fun H1 locs1 p1 d1 k1 s1 => ?_)
  refine kk H1 locs1 (hP.kept (fun k q hk => k1 q.1 (hP k q hk).lt ?_)) hD s1
  intro h
  rcases h with ⟨j, e, hj⟩ | h
  · simp at hj
  · exact absurd (hP k q hk).lt (by omega)
theorem g_tret {v : Int32} {ty : FieldType} {w1 : va_W} (C : Cxt p s m args meth c cc nL own Ts (some ty) D t κ A) (hn : narrow ty (.int v) = .int v) (hP : va_P D vwCl w1 H) (hD : va_D A w1) (hS : va_S A s.heap H locs) (hdg : decode cc pc = .ok (.ireturn, 1)) : W p l e R s m args below meth c H locs 0 0 (MQ below (gQ D (some (.int v)) w1 A) args s 0 0 A) (F0 m pc ls [.int v]) := by
  obtain ⟨hx, hb, hr, hml, hown, hts, hC0, hlk, hA⟩ := C
  exact W.zret (v := v) (ty := ty) hx hb hr hn (fun u hu hW => ⟨⟨rfl, by rw [hu]; exact hP, hD⟩, hS.F hu⟩) hS.2.2 hdg
end GKS
theorem hdJ0_coder_7d493 : yJ0_coder_7d493.cls = RJ0 ∧ yJ0_coder_7d493.cls ≠ "java/lang/invoke/MethodHandle" ∧ yJ0_coder_7d493.cls ≠ "java/lang/invoke/VarHandle" ∧ (parseMethodDescriptor yJ0_coder_7d493.desc).map (fun d => d.parameters.length) = some 0 := by decide +kernel
theorem hdJ0_isLatin1_aae02 : yJ0_isLatin1_aae02.cls = RJ0 ∧ yJ0_isLatin1_aae02.cls ≠ "java/lang/invoke/MethodHandle" ∧ yJ0_isLatin1_aae02.cls ≠ "java/lang/invoke/VarHandle" ∧ (parseMethodDescriptor yJ0_isLatin1_aae02.desc).map (fun d => d.parameters.length) = some 0 := by decide +kernel
theorem hdJ0_length_8abf5 : yJ0_length_8abf5.cls = RJ0 ∧ yJ0_length_8abf5.cls ≠ "java/lang/invoke/MethodHandle" ∧ yJ0_length_8abf5.cls ≠ "java/lang/invoke/VarHandle" ∧ (parseMethodDescriptor yJ0_length_8abf5.desc).map (fun d => d.parameters.length) = some 0 := by decide +kernel
theorem hdJ0_charAt_5068e : yJ0_charAt_5068e.cls = RJ0 ∧ yJ0_charAt_5068e.cls ≠ "java/lang/invoke/MethodHandle" ∧ yJ0_charAt_5068e.cls ≠ "java/lang/invoke/VarHandle" ∧ (parseMethodDescriptor yJ0_charAt_5068e.desc).map (fun d => d.parameters.length) = some 1 := by decide +kernel
theorem hdJ3_checkIndex_8e157 : yJ3_checkIndex_8e157.cls ≠ "java/lang/invoke/MethodHandle" ∧ yJ3_checkIndex_8e157.cls ≠ "java/lang/invoke/VarHandle" ∧ (parseMethodDescriptor yJ3_checkIndex_8e157.desc).map (fun d => d.parameters.length) = some 3 := by decide +kernel
theorem hdJ0_checkIndex_df160 : yJ0_checkIndex_df160.cls ≠ "java/lang/invoke/MethodHandle" ∧ yJ0_checkIndex_df160.cls ≠ "java/lang/invoke/VarHandle" ∧ (parseMethodDescriptor yJ0_checkIndex_df160.desc).map (fun d => d.parameters.length) = some 2 := by decide +kernel
theorem hdJ1_charAt_3b067 : yJ1_charAt_3b067.cls ≠ "java/lang/invoke/MethodHandle" ∧ yJ1_charAt_3b067.cls ≠ "java/lang/invoke/VarHandle" ∧ (parseMethodDescriptor yJ1_charAt_3b067.desc).map (fun d => d.parameters.length) = some 2 := by decide +kernel
theorem lkJ0_coder_38 : Cond.fieldLink RJ0 38 "java/lang/String" "COMPACT_STRINGS" "Z" ∈ wsJ0_coder_7d493 := by decide +kernel
theorem lkJ0_coder_15 : Cond.fieldLink RJ0 15 "java/lang/String" "coder" "B" ∈ wsJ0_coder_7d493 := by decide +kernel
theorem lkJ0_isLatin1_38 : Cond.fieldLink RJ0 38 "java/lang/String" "COMPACT_STRINGS" "Z" ∈ wsJ0_isLatin1_aae02 := by decide +kernel
theorem lkJ0_isLatin1_15 : Cond.fieldLink RJ0 15 "java/lang/String" "coder" "B" ∈ wsJ0_isLatin1_aae02 := by decide +kernel
theorem lkJ0_length_9 : Cond.fieldLink RJ0 9 "java/lang/String" "value" "[B" ∈ wsJ0_length_8abf5 := by decide +kernel
theorem lkJ0_charAt_9 : Cond.fieldLink RJ0 9 "java/lang/String" "value" "[B" ∈ wsJ0_charAt_5068e := by decide +kernel
theorem lkJ0_checkIndex_1053 : Cond.fieldLink RJ0 1053 "jdk/internal/util/Preconditions" "SIOOBE_FORMATTER" "Ljava/util/function/BiFunction;" ∈ wsJ0_checkIndex_df160 := by decide +kernel
set_option maxHeartbeats 4000000 in
set_option maxRecDepth 100000 in
theorem cJ0_coder_ok {l : Launch} {D : va_G} {t : Nat → ClassId} {κ : Nat → Nat} {si : Nat} (hsi : si < 8) : Ct l D t κ yJ0_coder_7d493 wsJ0_coder_7d493 (rmL 0) [.ref (κ (3 + si))] [] (some (.int 0)) [] := by
  refine Ct.ofW (own := RJ0) (cc := cJ0_coder_7d493) (maxL := 1) (ret := (some .byte)) (by decide) rfl rfl (Nat.le_of_ble_eq_true rfl) ?_
  intro p e s m below meth c A C hP hD ls hl
  have hS : va_S A s.heap s.heap [] := va_S.rf
  obtain ⟨hx, hb, hr, hml, hown, hts, hC0, hlk, hA⟩ := id C
  have hl : lv_has ls 1 [(0, .ref (κ (3 + si)))] := hl
  have hE := hC0.2.2.2.2.2.2.2.2.1 si hsi
  refine va_gets hx hb hC0.2.2.2.2.2.2.1 hS hown (hts _ lkJ0_coder_38) (fun _ h9 => h9) dJ0_coder_7d493_0 ?_
  refine lv_if_eq (tgt := 13) hx hb dJ0_coder_7d493_3 (by decide) (fun c1 => absurd c1 (by decide)) (fun c1 => ?_)
  refine lv_aload_n hx hb dJ0_coder_7d493_6 rfl (lv_at hl 0 rfl) ?_
  refine vk_getf hx hb hE.2.1 hS hown (hts _ lkJ0_coder_15) (fun _ h9 => h9) dJ0_coder_7d493_7 ?_
  refine lv_goto (tgt := 14) hx hb dJ0_coder_7d493_10 (by decide) ?_
  exact g_tret C rfl hP hD hS dJ0_coder_7d493_14
set_option maxHeartbeats 4000000 in
set_option maxRecDepth 100000 in
theorem cJ0_isLatin1_ok {l : Launch} {D : va_G} {t : Nat → ClassId} {κ : Nat → Nat} {si : Nat} (hsi : si < 8) : Ct l D t κ yJ0_isLatin1_aae02 wsJ0_isLatin1_aae02 (rmL 0) [.ref (κ (3 + si))] [] (some (.int 1)) [] := by
  refine Ct.ofW (own := RJ0) (cc := cJ0_isLatin1_aae02) (maxL := 1) (ret := (some .boolean)) (by decide) rfl rfl (Nat.le_of_ble_eq_true rfl) ?_
  intro p e s m below meth c A C hP hD ls hl
  have hS : va_S A s.heap s.heap [] := va_S.rf
  obtain ⟨hx, hb, hr, hml, hown, hts, hC0, hlk, hA⟩ := id C
  have hl : lv_has ls 1 [(0, .ref (κ (3 + si)))] := hl
  have hE := hC0.2.2.2.2.2.2.2.2.1 si hsi
  refine va_gets hx hb hC0.2.2.2.2.2.2.1 hS hown (hts _ lkJ0_isLatin1_38) (fun _ h9 => h9) dJ0_isLatin1_aae02_0 ?_
  refine lv_if_eq (tgt := 17) hx hb dJ0_isLatin1_aae02_3 (by decide) (fun c1 => absurd c1 (by decide)) (fun c1 => ?_)
  refine lv_aload_n hx hb dJ0_isLatin1_aae02_6 rfl (lv_at hl 0 rfl) ?_
  refine vk_getf hx hb hE.2.1 hS hown (hts _ lkJ0_isLatin1_15) (fun _ h9 => h9) dJ0_isLatin1_aae02_7 ?_
  refine lv_if_ne (tgt := 17) hx hb dJ0_isLatin1_aae02_10 (by decide) (fun c1 => absurd rfl c1) (fun c1 => ?_)
  refine lv_iconst (v := 1) hx hb dJ0_isLatin1_aae02_13 (by decide) ?_
  refine lv_goto (tgt := 18) hx hb dJ0_isLatin1_aae02_14 (by decide) ?_
  exact g_tret C rfl hP hD hS dJ0_isLatin1_aae02_18
def fJ0_length (si : Nat) : Option Int32 := some (nI (strL.getD si 0))
set_option maxHeartbeats 4000000 in
set_option maxRecDepth 100000 in
theorem cJ0_length_ok {l : Launch} {D : va_G} {t : Nat → ClassId} {κ : Nat → Nat} {si : Nat} {out : Int32} (hsi : si < 8) (hf : fJ0_length si = some out) : Ct l D t κ yJ0_length_8abf5 wsJ0_length_8abf5 (rmL 1) [.ref (κ (3 + si))] [] (some (.int out)) [] := by
  refine Ct.ofW (own := RJ0) (cc := cJ0_length_8abf5) (maxL := 1) (ret := (some .int)) (by decide) rfl rfl (Nat.le_of_ble_eq_true rfl) ?_
  intro p e s m below meth c A C hP hD ls hl
  have hS : va_S A s.heap s.heap [] := va_S.rf
  obtain ⟨hx, hb, hr, hml, hown, hts, hC0, hlk, hA⟩ := id C
  have hl : lv_has ls 1 [(0, .ref (κ (3 + si)))] := hl
  have hE := hC0.2.2.2.2.2.2.2.2.1 si hsi
  refine lv_aload_n hx hb dJ0_length_8abf5_0 rfl (lv_at hl 0 rfl) ?_
  refine vk_getf hx hb hE.2.2.1 hS hown (hts _ lkJ0_length_9) (fun _ h9 => h9) dJ0_length_8abf5_1 ?_
  refine va_tlen hx hb hE.2.2.2 hS rfl dJ0_length_8abf5_4 ?_
  refine lv_aload_n hx hb dJ0_length_8abf5_5 rfl (lv_at hl 0 rfl) ?_
  refine gk_Str C (As := []) (rest := [.int (Int32.ofNat (strL.getD si 0))]) hsi (cJ0_coder_ok hsi) gJ0_length_8abf5_J0_coder_7d493 rfl ⟨rfl, rfl⟩ hdJ0_coder_7d493 ⟨Nat.le_of_ble_eq_true rfl, Nat.le_of_ble_eq_true rfl⟩ hP hD hS rfl hl.1 (Nat.le_of_ble_eq_true rfl) dJ0_length_8abf5_6 (Nat.zero_le _) (Nat.zero_le _) (fun H locs hP hD hS => ?_)
  refine W.eq (g2 := F0 m 9 ls [.int 0, .int (Int32.ofNat (strL.getD si 0))]) rfl ?_
  refine lv_ishr hx hb dJ0_length_8abf5_9 ?_
  refine W.eq (g2 := F0 m 10 ls [.int (nI (strL.getD si 0))]) (by rw [sb_shr0]; rfl) ?_
  unfold fJ0_length at hf
  cases hf
  exact g_iret C hP hD hS dJ0_length_8abf5_10
set_option maxHeartbeats 4000000 in
set_option maxRecDepth 100000 in
theorem cJ3_checkIndex_ok {l : Launch} {D : va_G} {t : Nat → ClassId} {κ : Nat → Nat} {i n : Int32} {v : Value} (hv : v.category = 1) (h0 : ¬ i < 0) (h1 : i < n) : Ct l D t κ yJ3_checkIndex_8e157 wsJ3_checkIndex_8e157 (rmL 0) [.int i, .int n, v] [] (some (.int i)) [] := by
  refine Ct.ofW (own := RJ3) (cc := cJ3_checkIndex_8e157) (maxL := 3) (ret := (some .int)) (by decide) rfl rfl (by cases v <;> first | exact Nat.le_of_ble_eq_true rfl | cases hv) ?_
  intro p e s m below meth c A C hP hD ls hl
  have hS : va_S A s.heap s.heap [] := va_S.rf
  obtain ⟨hx, hb, hr, hml, hown, hts, hC0, hlk, hA⟩ := id C
  have hl : lv_has ls 3 [(0, .int i), (1, .int n), (2, v)] := hl
  refine lv_iload_n hx hb dJ3_checkIndex_8e157_0 rfl (lv_at hl 0 rfl) ?_
  refine lv_if_lt (tgt := 9) hx hb dJ3_checkIndex_8e157_1 (by decide) (fun c1 => absurd c1 h0) (fun c1 => ?_)
  refine lv_iload_n hx hb dJ3_checkIndex_8e157_4 rfl (lv_at hl 0 rfl) ?_
  refine lv_iload_n hx hb dJ3_checkIndex_8e157_5 rfl (lv_at hl 1 rfl) ?_
  refine lv_icmp_lt (tgt := 16) hx hb dJ3_checkIndex_8e157_6 (by decide) (fun c2 => ?_) (fun c2 => absurd h1 c2)
  refine lv_iload_n hx hb dJ3_checkIndex_8e157_16 rfl (lv_at hl 0 rfl) ?_
  exact g_iret C hP hD hS dJ3_checkIndex_8e157_17
set_option maxHeartbeats 4000000 in
set_option maxRecDepth 100000 in
theorem cJ0_checkIndex_ok {l : Launch} {D : va_G} {t : Nat → ClassId} {κ : Nat → Nat} {i n : Int32} (h0 : ¬ i < 0) (h1 : i < n) : Ct l D t κ yJ0_checkIndex_df160 wsJ0_checkIndex_df160 (rmL 1) [.int i, .int n] [] none [] := by
  refine Ct.ofW (own := RJ0) (cc := cJ0_checkIndex_df160) (maxL := 2) (ret := none) (by decide) rfl rfl (Nat.le_of_ble_eq_true rfl) ?_
  intro p e s m below meth c A C hP hD ls hl
  have hS : va_S A s.heap s.heap [] := va_S.rf
  obtain ⟨hx, hb, hr, hml, hown, hts, hC0, hlk, hA⟩ := id C
  have hl : lv_has ls 2 [(0, .int i), (1, .int n)] := hl
  have key : ∀ v : Value, v.category = 1 → W p l e (rmL 1) s m ([.int i, .int n] : List Value).toArray below meth c s.heap [] 0 0 (MQ below (gQ D none [] A) ([.int i, .int n] : List Value).toArray s 0 0 A) (F0 m 5 ls [v, .int n, .int i]) := by
    intro v hv
    refine gk_S C (As := [.int i, .int n, v]) (rest := []) (cJ3_checkIndex_ok hv h0 h1) gJ0_checkIndex_df160_J3_checkIndex_8e157 rfl ⟨rfl, rfl⟩ hdJ3_checkIndex_8e157 ⟨Nat.le_of_ble_eq_true rfl, Nat.le_of_ble_eq_true rfl⟩ hP hD hS rfl hl.1 (Nat.le_of_ble_eq_true rfl) dJ0_checkIndex_df160_5 (Nat.zero_le _) (Nat.zero_le _) (fun H locs hP hD hS => ?_)
    refine W.eq (g2 := F0 m 8 ls [.int i]) rfl ?_
    refine lv_pop hx hb dJ0_checkIndex_df160_8 rfl ?_
    exact g_vret C hP hD hS dJ0_checkIndex_df160_9
  refine lv_iload_n hx hb dJ0_checkIndex_df160_0 rfl (lv_at hl 0 rfl) ?_
  refine lv_iload_n hx hb dJ0_checkIndex_df160_1 rfl (lv_at hl 1 rfl) ?_
  rcases hC0.2.2.2.2.2.2.2.1 with hZ | ⟨q, hZ⟩
  · refine va_gets hx hb hZ hS hown (hts _ lkJ0_checkIndex_1053) (fun _ h9 => h9) dJ0_checkIndex_df160_2 ?_
    exact key .null rfl
  · refine va_gets hx hb hZ hS hown (hts _ lkJ0_checkIndex_1053) (fun _ h9 => h9) dJ0_checkIndex_df160_2 ?_
    exact key (.ref q) rfl
def sch (si : Nat) (i : Int32) : Int32 := (strB.getD si []).getD i.toNatClampNeg 0 &&& 255
set_option maxHeartbeats 4000000 in
set_option maxRecDepth 100000 in
theorem cJ1_charAt_ok {l : Launch} {D : va_G} {t : Nat → ClassId} {κ : Nat → Nat} {si : Nat} {i : Int32} (hsi : si < 8) (hi : ixb i (strL.getD si 0) = true) : Ct l D t κ yJ1_charAt_3b067 wsJ1_charAt_3b067 (rmL 2) [.ref (κ (11 + si)), .int i] [] (some (.int (sch si i))) [] := by
  refine Ct.ofW (own := RJ1) (cc := cJ1_charAt_3b067) (maxL := 2) (ret := (some .char)) (by decide) rfl rfl (Nat.le_of_ble_eq_true rfl) ?_
  intro p e s m below meth c A C hP hD ls hl
  have hS : va_S A s.heap s.heap [] := va_S.rf
  obtain ⟨hx, hb, hr, hml, hown, hts, hC0, hlk, hA⟩ := id C
  have hl : lv_has ls 2 [(0, .ref (κ (11 + si))), (1, .int i)] := hl
  have hE := hC0.2.2.2.2.2.2.2.2.1 si hsi
  have hin := ixb_in hi
  have hL : ∀ j, j < 8 → strL.getD j 0 < 2 ^ 31 := by decide
  have h0 : ¬ i < 0 := fun z => hin (Or.inl z)
  have h1 : i < Int32.ofNat (strL.getD si 0) := by
    obtain ⟨j, hj, rfl⟩ := vp_in_of hin (hL si hsi)
    exact nI_lt hj (hL si hsi)
  refine lv_iload_n hx hb dJ1_charAt_3b067_0 rfl (lv_at hl 1 rfl) ?_
  refine lv_aload_n hx hb dJ1_charAt_3b067_1 rfl (lv_at hl 0 rfl) ?_
  refine va_tlen hx hb hE.2.2.2 hS rfl dJ1_charAt_3b067_2 ?_
  refine gk_S C (As := [.int i, .int (Int32.ofNat (strL.getD si 0))]) (rest := []) (cJ0_checkIndex_ok h0 h1) gJ1_charAt_3b067_J0_checkIndex_df160 rfl ⟨rfl, rfl⟩ hdJ0_checkIndex_df160 ⟨Nat.le_of_ble_eq_true rfl, Nat.le_of_ble_eq_true rfl⟩ hP hD hS rfl hl.1 (Nat.le_of_ble_eq_true rfl) dJ1_charAt_3b067_3 (Nat.zero_le _) (Nat.zero_le _) (fun H locs hP hD hS => ?_)
  refine W.eq (g2 := F0 m 6 ls []) rfl ?_
  refine lv_aload_n hx hb dJ1_charAt_3b067_6 rfl (lv_at hl 0 rfl) ?_
  refine lv_iload_n hx hb dJ1_charAt_3b067_7 rfl (lv_at hl 1 rfl) ?_
  refine va_tb hx hb hE.2.2.2 hS hin rfl dJ1_charAt_3b067_8 ?_
  refine lv_sipush (v := 255) hx hb dJ1_charAt_3b067_9 (by decide) ?_
  refine lv_iand hx hb dJ1_charAt_3b067_12 ?_
  refine lv_i2c (v := sch si i) hx hb dJ1_charAt_3b067_13 (sc_c2 _) ?_
  exact g_tret C (sc_nar _) hP hD hS dJ1_charAt_3b067_14
def fJ0_charAt (si : Nat) (i : Int32) : Option Int32 := gd (ixb i (strL.getD si 0)) <| some (sch si i)
set_option maxHeartbeats 4000000 in
set_option maxRecDepth 100000 in
theorem cJ0_charAt_ok {l : Launch} {D : va_G} {t : Nat → ClassId} {κ : Nat → Nat} {si : Nat} {i out : Int32} (hsi : si < 8) (hf : fJ0_charAt si i = some out) : Ct l D t κ yJ0_charAt_5068e wsJ0_charAt_5068e (rmL 3) [.ref (κ (3 + si)), .int i] [] (some (.int out)) [] := by
  refine Ct.ofW (own := RJ0) (cc := cJ0_charAt_5068e) (maxL := 2) (ret := (some .char)) (by decide) rfl rfl (Nat.le_of_ble_eq_true rfl) ?_
  intro p e s m below meth c A C hP hD ls hl
  have hS : va_S A s.heap s.heap [] := va_S.rf
  obtain ⟨hx, hb, hr, hml, hown, hts, hC0, hlk, hA⟩ := id C
  have hl : lv_has ls 2 [(0, .ref (κ (3 + si))), (1, .int i)] := hl
  have hE := hC0.2.2.2.2.2.2.2.2.1 si hsi
  unfold fJ0_charAt at hf
  obtain ⟨hi, hf⟩ := gd_some hf
  cases hf
  refine lv_aload_n hx hb dJ0_charAt_5068e_0 rfl (lv_at hl 0 rfl) ?_
  refine gk_Str C (As := []) (rest := []) hsi (cJ0_isLatin1_ok hsi) gJ0_charAt_5068e_J0_isLatin1_aae02 rfl ⟨rfl, rfl⟩ hdJ0_isLatin1_aae02 ⟨Nat.le_of_ble_eq_true rfl, Nat.le_of_ble_eq_true rfl⟩ hP hD hS rfl hl.1 (Nat.le_of_ble_eq_true rfl) dJ0_charAt_5068e_1 (Nat.zero_le _) (Nat.zero_le _) (fun H locs hP hD hS => ?_)
  refine W.eq (g2 := F0 m 4 ls [.int 1]) rfl ?_
  refine lv_if_eq (tgt := 16) hx hb dJ0_charAt_5068e_4 (by decide) (fun c1 => absurd c1 (by decide)) (fun c1 => ?_)
  refine lv_aload_n hx hb dJ0_charAt_5068e_7 rfl (lv_at hl 0 rfl) ?_
  refine vk_getf hx hb hE.2.2.1 hS hown (hts _ lkJ0_charAt_9) (fun _ h9 => h9) dJ0_charAt_5068e_8 ?_
  refine lv_iload_n hx hb dJ0_charAt_5068e_11 rfl (lv_at hl 1 rfl) ?_
  refine gk_S C (As := [.ref (κ (11 + si)), .int i]) (rest := []) (cJ1_charAt_ok hsi hi) gJ0_charAt_5068e_J1_charAt_3b067 rfl ⟨rfl, rfl⟩ hdJ1_charAt_3b067 ⟨Nat.le_of_ble_eq_true rfl, Nat.le_of_ble_eq_true rfl⟩ hP hD hS rfl hl.1 (Nat.le_of_ble_eq_true rfl) dJ0_charAt_5068e_12 (Nat.zero_le _) (Nat.zero_le _) (fun H locs hP hD hS => ?_)
  refine W.eq (g2 := F0 m 15 ls [.int (sch si i)]) rfl ?_
  exact g_tret C (sc_nar _) hP hD hS dJ0_charAt_5068e_15
