/-! the law's cases -/
section
variable {p : Program} {l : Launch} {e : Env} {s : State} {m : MethodId} {below : List Frame} {meth : Method} {c : Code} {H : Heap} {locs : List Loc} {Q : State → Prop} {b L : Nat} {xs : Nat → Int32} {pc : Nat} {ls : Array Slot} {rest : List Value} {x3 : Int32} {i : Nat} {A : Nat → Prop} {R : Room} {args : Array Value} {cells slots : Nat} {cc : ByteArray}
theorem ld (k : Nat) {n : Int} {y : Nat → Value} (hx : p.tables.exec = Jvm.exec) (hb : c.code = cc) (hX : va_X b L xs s s.heap) (hbl : b < s.heap.size) (hbA : ¬ A b) (hL : L ≤ 320) (ex : x3 = nI i) (hk : i + k < L) (hS : va_S A s.heap H locs) (hn : Int32.ofInt n = nI k) (hl : lv_has ls 4 [(0, .ref b), (1, y 1), (2, y 2), (3, .int x3)])
    (d0 : decode cc pc = .ok (.aload_n 0, 1)) (d1 : decode cc (pc + 1) = .ok (.iload_n 3, 1)) (d2 : decode cc (pc + 2) = .ok (.iconst n, 1)) (d3 : decode cc (pc + 3) = .ok (.iadd, 1)) (d4 : decode cc (pc + 4) = .ok (.iaload, 1))
    (kk : W p l e R s m args below meth c H locs cells slots Q (F0 m (pc + 5) ls (.int (xs (i + k)) :: rest))) : W p l e R s m args below meth c H locs cells slots Q (F0 m pc ls rest) := by
  refine lv_aload_n hx hb d0 rfl (lv_at hl 0 rfl) ?_
  refine lv_iload_n hx hb d1 rfl (lv_at hl 3 rfl) ?_
  refine lv_iconst (v := nI k) hx hb d2 hn ?_
  refine lv_iadd hx hb d3 ?_
  rw [ex, nI_add]
  refine va_sld hx hb hX hbl hbA hS (vp_in_nI hk (by omega)) d4 ?_
  rw [nI_clamp (by omega)]
  exact kk
end

def CaseAt (pc : Nat) : Prop := ∀ (p : Program) (l : Launch) (e : Env) (s : State) (m : MethodId) (below : List Frame) (meth : Method) (c : Code) (H : Heap) (locs : List Loc) (Q : State → Prop) (b L : Nat) (xs : Nat → Int32) (ls : Array Slot) (x3 : Int32) (i : Nat) (D : va_G) (t : Nat → ClassId) (κ : Nat → Nat) (a : Nat → Nat → Nat) (fi fh : Nat → Option Nat) (G : Nat → S2) (lam : S6),
  Cxt p s m #[Value.ref b] meth c cL_law 4 RL wsL_law ret D t κ (fun q : Nat => s.heap.size ≤ q) → va_X b L xs s s.heap → b < s.heap.size → L ≤ 320 → i + 5 ≤ L → x3 = nI i → FIH a fi fh → Inv G → va_P D vwCl (WL t a fi fh G lam) H → va_D (fun q : Nat => s.heap.size ≤ q) (WL t a fi fh G lam) → va_S (fun q : Nat => s.heap.size ≤ q) s.heap H locs → lv_has ls 4 [(0, .ref b), (1, .ref (a 0 0)), (2, .ref (a 20 0)), (3, .int x3)] →
  (∀ (G' : Nat → S2) (lam' : S6) (H' : Heap) (locs' : List Loc), Inv G' → va_P D vwCl (WL t a fi fh G' lam') H' → va_D (fun q : Nat => s.heap.size ≤ q) (WL t a fi fh G' lam') → va_S (fun q : Nat => s.heap.size ≤ q) s.heap H' locs' → W p l e room_1 s m #[Value.ref b] below meth c H' locs' 600000 7302250 Q (F0 m 1246 ls [])) →
  W p l e room_1 s m #[Value.ref b] below meth c H locs 600000 7302250 Q (F0 m pc ls [])
theorem lc_0 (v : Int64) : lg_cmp v v = 0 := by
  simp [lg_cmp]

set_option maxHeartbeats 4000000 in
set_option maxRecDepth 20000 in
theorem cs_0 : CaseAt 200 := by
  intro p l e s m below meth c H locs Q b L xs ls x3 i D t κ a fi fh G lam C hX hbl hL hi ex hfi hInv hP hD hS hl kk
  obtain ⟨hx, hb, hr, hml, hown, hts, hC0, hlk, hA⟩ := id C
  have hbA : ¬ (fun q : Nat => s.heap.size ≤ q) b := Nat.not_le.mpr hbl
  obtain ⟨yy, hy⟩ : ∃ y : Nat → Value, y 1 = .ref (a 0 0) ∧ y 2 = .ref (a 20 0) := ⟨fun n => if n = 1 then .ref (a 0 0) else .ref (a 20 0), rfl, rfl⟩
  have hl0 := hl
  rw [← hy.1, ← hy.2] at hl
  obtain ⟨v, I, R0, G1, G', lam', hIR, K8, K9, h8, h9, hI⟩ := st_feed (l := l) (D := D) (t := t) (κ := κ) (lam := lam) (p1 := xs (i + 1)) hfi hInv
  refine lv_aload_n hx hb dL_law_200 rfl (lv_at hl0 1 rfl) ?_
  refine ld 1 hx hb hX hbl hbA hL ex (by omega) hS (by decide) (y := yy) hl dL_law_201 dL_law_202 dL_law_203 dL_law_204 dL_law_205 ?_
  refine law8 (As := [.int (xs (i + 1))]) (rest := []) C hIR K8 h8 gL_law_X8_feed rfl ⟨rfl, rfl⟩ hdX8_feed ⟨Nat.le_of_ble_eq_true rfl, Nat.le_of_ble_eq_true rfl⟩ hP hD hS rfl hl.1 (Nat.le_of_ble_eq_true rfl) dL_law_206 (Nat.le_refl _) (Nat.le_refl _) (fun H locs hP hD hS => ?_)
  refine W.eq (g2 := F0 m 209 ls [.int v]) rfl ?_
  refine lv_aload_n hx hb dL_law_209 rfl (lv_at hl0 2 rfl) ?_
  refine ld 1 hx hb hX hbl hbA hL ex (by omega) hS (by decide) (y := yy) hl dL_law_210 dL_law_211 dL_law_212 dL_law_213 dL_law_214 ?_
  refine law9 (As := [.int (xs (i + 1))]) (rest := [.int v]) C K9 h9 gL_law_X9_feed rfl ⟨rfl, rfl⟩ hdX9_feed ⟨Nat.le_of_ble_eq_true rfl, Nat.le_of_ble_eq_true rfl⟩ hP hD hS rfl hl.1 (Nat.le_of_ble_eq_true rfl) dL_law_215 (Nat.le_refl _) (Nat.le_refl _) (fun H locs hP hD hS => ?_)
  refine W.eq (g2 := F0 m 218 ls [.int v, .int v]) rfl ?_
  refine lv_icmp_eq (tgt := 1246) hx hb dL_law_218 (by decide) (fun _ => ?_) (fun c2 => ?_)
  · exact kk G' lam' H locs hI hP hD hS
  · exact absurd rfl c2

set_option maxHeartbeats 4000000 in
set_option maxRecDepth 20000 in
theorem cs_1 : CaseAt 223 := by
  intro p l e s m below meth c H locs Q b L xs ls x3 i D t κ a fi fh G lam C hX hbl hL hi ex hfi hInv hP hD hS hl kk
  obtain ⟨hx, hb, hr, hml, hown, hts, hC0, hlk, hA⟩ := id C
  have hbA : ¬ (fun q : Nat => s.heap.size ≤ q) b := Nat.not_le.mpr hbl
  obtain ⟨yy, hy⟩ : ∃ y : Nat → Value, y 1 = .ref (a 0 0) ∧ y 2 = .ref (a 20 0) := ⟨fun n => if n = 1 then .ref (a 0 0) else .ref (a 20 0), rfl, rfl⟩
  have hl0 := hl
  rw [← hy.1, ← hy.2] at hl
  obtain ⟨v, I, R0, G1, G', lam', hIR, K8, K9, h8, h9, hI⟩ := st_end (l := l) (D := D) (t := t) (κ := κ) (lam := lam) (p1 := xs (i + 1)) hfi hInv
  refine lv_aload_n hx hb dL_law_223 rfl (lv_at hl0 1 rfl) ?_
  refine ld 1 hx hb hX hbl hbA hL ex (by omega) hS (by decide) (y := yy) hl dL_law_224 dL_law_225 dL_law_226 dL_law_227 dL_law_228 ?_
  refine law8 (As := [.int (xs (i + 1))]) (rest := []) C hIR K8 h8 gL_law_X8_end rfl ⟨rfl, rfl⟩ hdX8_end ⟨Nat.le_of_ble_eq_true rfl, Nat.le_of_ble_eq_true rfl⟩ hP hD hS rfl hl.1 (Nat.le_of_ble_eq_true rfl) dL_law_229 (Nat.le_refl _) (Nat.le_refl _) (fun H locs hP hD hS => ?_)
  refine W.eq (g2 := F0 m 232 ls [.int v]) rfl ?_
  refine lv_aload_n hx hb dL_law_232 rfl (lv_at hl0 2 rfl) ?_
  refine ld 1 hx hb hX hbl hbA hL ex (by omega) hS (by decide) (y := yy) hl dL_law_233 dL_law_234 dL_law_235 dL_law_236 dL_law_237 ?_
  refine law9 (As := [.int (xs (i + 1))]) (rest := [.int v]) C K9 h9 gL_law_X9_end rfl ⟨rfl, rfl⟩ hdX9_end ⟨Nat.le_of_ble_eq_true rfl, Nat.le_of_ble_eq_true rfl⟩ hP hD hS rfl hl.1 (Nat.le_of_ble_eq_true rfl) dL_law_238 (Nat.le_refl _) (Nat.le_refl _) (fun H locs hP hD hS => ?_)
  refine W.eq (g2 := F0 m 241 ls [.int v, .int v]) rfl ?_
  refine lv_icmp_eq (tgt := 1246) hx hb dL_law_241 (by decide) (fun _ => ?_) (fun c2 => ?_)
  · exact kk G' lam' H locs hI hP hD hS
  · exact absurd rfl c2

set_option maxHeartbeats 4000000 in
set_option maxRecDepth 20000 in
theorem cs_2 : CaseAt 246 := by
  intro p l e s m below meth c H locs Q b L xs ls x3 i D t κ a fi fh G lam C hX hbl hL hi ex hfi hInv hP hD hS hl kk
  obtain ⟨hx, hb, hr, hml, hown, hts, hC0, hlk, hA⟩ := id C
  have hbA : ¬ (fun q : Nat => s.heap.size ≤ q) b := Nat.not_le.mpr hbl
  obtain ⟨yy, hy⟩ : ∃ y : Nat → Value, y 1 = .ref (a 0 0) ∧ y 2 = .ref (a 20 0) := ⟨fun n => if n = 1 then .ref (a 0 0) else .ref (a 20 0), rfl, rfl⟩
  have hl0 := hl
  rw [← hy.1, ← hy.2] at hl
  obtain ⟨v, I, R0, G1, G', lam', hIR, K8, K9, h8, h9, hI⟩ := st_text (l := l) (D := D) (t := t) (κ := κ) (lam := lam) hfi hInv
  refine lv_aload_n hx hb dL_law_246 rfl (lv_at hl0 1 rfl) ?_
  refine law8 (As := []) (rest := []) C hIR K8 h8 gL_law_X8_text rfl ⟨rfl, rfl⟩ hdX8_text ⟨Nat.le_of_ble_eq_true rfl, Nat.le_of_ble_eq_true rfl⟩ hP hD hS rfl hl.1 (Nat.le_of_ble_eq_true rfl) dL_law_247 (Nat.le_refl _) (Nat.le_refl _) (fun H locs hP hD hS => ?_)
  refine W.eq (g2 := F0 m 250 ls [.int v]) rfl ?_
  refine lv_aload_n hx hb dL_law_250 rfl (lv_at hl0 2 rfl) ?_
  refine law9 (As := []) (rest := [.int v]) C K9 h9 gL_law_X9_text rfl ⟨rfl, rfl⟩ hdX9_text ⟨Nat.le_of_ble_eq_true rfl, Nat.le_of_ble_eq_true rfl⟩ hP hD hS rfl hl.1 (Nat.le_of_ble_eq_true rfl) dL_law_251 (Nat.le_refl _) (Nat.le_refl _) (fun H locs hP hD hS => ?_)
  refine W.eq (g2 := F0 m 254 ls [.int v, .int v]) rfl ?_
  refine lv_icmp_eq (tgt := 1246) hx hb dL_law_254 (by decide) (fun _ => ?_) (fun c2 => ?_)
  · exact kk G' lam' H locs hI hP hD hS
  · exact absurd rfl c2

set_option maxHeartbeats 4000000 in
set_option maxRecDepth 20000 in
theorem cs_3 : CaseAt 259 := by
  intro p l e s m below meth c H locs Q b L xs ls x3 i D t κ a fi fh G lam C hX hbl hL hi ex hfi hInv hP hD hS hl kk
  obtain ⟨hx, hb, hr, hml, hown, hts, hC0, hlk, hA⟩ := id C
  have hbA : ¬ (fun q : Nat => s.heap.size ≤ q) b := Nat.not_le.mpr hbl
  obtain ⟨yy, hy⟩ : ∃ y : Nat → Value, y 1 = .ref (a 0 0) ∧ y 2 = .ref (a 20 0) := ⟨fun n => if n = 1 then .ref (a 0 0) else .ref (a 20 0), rfl, rfl⟩
  have hl0 := hl
  rw [← hy.1, ← hy.2] at hl
  obtain ⟨v, I, R0, G1, G', lam', hIR, K8, K9, h8, h9, hI⟩ := st_fault (l := l) (D := D) (t := t) (κ := κ) (lam := lam) hfi hInv
  refine lv_aload_n hx hb dL_law_259 rfl (lv_at hl0 1 rfl) ?_
  refine law8 (As := []) (rest := []) C hIR K8 h8 gL_law_X8_fault rfl ⟨rfl, rfl⟩ hdX8_fault ⟨Nat.le_of_ble_eq_true rfl, Nat.le_of_ble_eq_true rfl⟩ hP hD hS rfl hl.1 (Nat.le_of_ble_eq_true rfl) dL_law_260 (Nat.le_refl _) (Nat.le_refl _) (fun H locs hP hD hS => ?_)
  refine W.eq (g2 := F0 m 263 ls [.int v]) rfl ?_
  refine lv_aload_n hx hb dL_law_263 rfl (lv_at hl0 2 rfl) ?_
  refine law9 (As := []) (rest := [.int v]) C K9 h9 gL_law_X9_fault rfl ⟨rfl, rfl⟩ hdX9_fault ⟨Nat.le_of_ble_eq_true rfl, Nat.le_of_ble_eq_true rfl⟩ hP hD hS rfl hl.1 (Nat.le_of_ble_eq_true rfl) dL_law_264 (Nat.le_refl _) (Nat.le_refl _) (fun H locs hP hD hS => ?_)
  refine W.eq (g2 := F0 m 267 ls [.int v, .int v]) rfl ?_
  refine lv_icmp_eq (tgt := 1246) hx hb dL_law_267 (by decide) (fun _ => ?_) (fun c2 => ?_)
  · exact kk G' lam' H locs hI hP hD hS
  · exact absurd rfl c2

set_option maxHeartbeats 4000000 in
set_option maxRecDepth 20000 in
theorem cs_4 : CaseAt 272 := by
  intro p l e s m below meth c H locs Q b L xs ls x3 i D t κ a fi fh G lam C hX hbl hL hi ex hfi hInv hP hD hS hl kk
  obtain ⟨hx, hb, hr, hml, hown, hts, hC0, hlk, hA⟩ := id C
  have hbA : ¬ (fun q : Nat => s.heap.size ≤ q) b := Nat.not_le.mpr hbl
  obtain ⟨yy, hy⟩ : ∃ y : Nat → Value, y 1 = .ref (a 0 0) ∧ y 2 = .ref (a 20 0) := ⟨fun n => if n = 1 then .ref (a 0 0) else .ref (a 20 0), rfl, rfl⟩
  have hl0 := hl
  rw [← hy.1, ← hy.2] at hl
  obtain ⟨v, I, R0, G1, G', lam', hIR, K8, K9, h8, h9, hI⟩ := st_rule (l := l) (D := D) (t := t) (κ := κ) (lam := lam) (p1 := xs (i + 1)) hfi hInv
  refine lv_aload_n hx hb dL_law_272 rfl (lv_at hl0 1 rfl) ?_
  refine ld 1 hx hb hX hbl hbA hL ex (by omega) hS (by decide) (y := yy) hl dL_law_273 dL_law_274 dL_law_275 dL_law_276 dL_law_277 ?_
  refine law8 (As := [.int (xs (i + 1))]) (rest := []) C hIR K8 h8 gL_law_X8_rule rfl ⟨rfl, rfl⟩ hdX8_rule ⟨Nat.le_of_ble_eq_true rfl, Nat.le_of_ble_eq_true rfl⟩ hP hD hS rfl hl.1 (Nat.le_of_ble_eq_true rfl) dL_law_278 (Nat.le_refl _) (Nat.le_refl _) (fun H locs hP hD hS => ?_)
  refine W.eq (g2 := F0 m 281 ls [.int v]) rfl ?_
  refine lv_aload_n hx hb dL_law_281 rfl (lv_at hl0 2 rfl) ?_
  refine ld 1 hx hb hX hbl hbA hL ex (by omega) hS (by decide) (y := yy) hl dL_law_282 dL_law_283 dL_law_284 dL_law_285 dL_law_286 ?_
  refine law9 (As := [.int (xs (i + 1))]) (rest := [.int v]) C K9 h9 gL_law_X9_rule rfl ⟨rfl, rfl⟩ hdX9_rule ⟨Nat.le_of_ble_eq_true rfl, Nat.le_of_ble_eq_true rfl⟩ hP hD hS rfl hl.1 (Nat.le_of_ble_eq_true rfl) dL_law_287 (Nat.le_refl _) (Nat.le_refl _) (fun H locs hP hD hS => ?_)
  refine W.eq (g2 := F0 m 290 ls [.int v, .int v]) rfl ?_
  refine lv_icmp_eq (tgt := 1246) hx hb dL_law_290 (by decide) (fun _ => ?_) (fun c2 => ?_)
  · exact kk G' lam' H locs hI hP hD hS
  · exact absurd rfl c2

set_option maxHeartbeats 4000000 in
set_option maxRecDepth 20000 in
theorem cs_5 : CaseAt 295 := by
  intro p l e s m below meth c H locs Q b L xs ls x3 i D t κ a fi fh G lam C hX hbl hL hi ex hfi hInv hP hD hS hl kk
  obtain ⟨hx, hb, hr, hml, hown, hts, hC0, hlk, hA⟩ := id C
  have hbA : ¬ (fun q : Nat => s.heap.size ≤ q) b := Nat.not_le.mpr hbl
  obtain ⟨yy, hy⟩ : ∃ y : Nat → Value, y 1 = .ref (a 0 0) ∧ y 2 = .ref (a 20 0) := ⟨fun n => if n = 1 then .ref (a 0 0) else .ref (a 20 0), rfl, rfl⟩
  have hl0 := hl
  rw [← hy.1, ← hy.2] at hl
  obtain ⟨v, I, R0, G1, G', lam', hIR, K8, K9, h8, h9, hI⟩ := st_mile (l := l) (D := D) (t := t) (κ := κ) (lam := lam) (p1 := xs (i + 1)) (p2 := xs (i + 2)) hfi hInv
  refine lv_aload_n hx hb dL_law_295 rfl (lv_at hl0 1 rfl) ?_
  refine ld 1 hx hb hX hbl hbA hL ex (by omega) hS (by decide) (y := yy) hl dL_law_296 dL_law_297 dL_law_298 dL_law_299 dL_law_300 ?_
  refine ld 2 hx hb hX hbl hbA hL ex (by omega) hS (by decide) (y := yy) hl dL_law_301 dL_law_302 dL_law_303 dL_law_304 dL_law_305 ?_
  refine law8 (As := [.int (xs (i + 1)), .int (xs (i + 2))]) (rest := []) C hIR K8 h8 gL_law_X8_mile rfl ⟨rfl, rfl⟩ hdX8_mile ⟨Nat.le_of_ble_eq_true rfl, Nat.le_of_ble_eq_true rfl⟩ hP hD hS rfl hl.1 (Nat.le_of_ble_eq_true rfl) dL_law_306 (Nat.le_refl _) (Nat.le_refl _) (fun H locs hP hD hS => ?_)
  refine W.eq (g2 := F0 m 309 ls [.int v]) rfl ?_
  refine lv_aload_n hx hb dL_law_309 rfl (lv_at hl0 2 rfl) ?_
  refine ld 1 hx hb hX hbl hbA hL ex (by omega) hS (by decide) (y := yy) hl dL_law_310 dL_law_311 dL_law_312 dL_law_313 dL_law_314 ?_
  refine ld 2 hx hb hX hbl hbA hL ex (by omega) hS (by decide) (y := yy) hl dL_law_315 dL_law_316 dL_law_317 dL_law_318 dL_law_319 ?_
  refine law9 (As := [.int (xs (i + 1)), .int (xs (i + 2))]) (rest := [.int v]) C K9 h9 gL_law_X9_mile rfl ⟨rfl, rfl⟩ hdX9_mile ⟨Nat.le_of_ble_eq_true rfl, Nat.le_of_ble_eq_true rfl⟩ hP hD hS rfl hl.1 (Nat.le_of_ble_eq_true rfl) dL_law_320 (Nat.le_refl _) (Nat.le_refl _) (fun H locs hP hD hS => ?_)
  refine W.eq (g2 := F0 m 323 ls [.int v, .int v]) rfl ?_
  refine lv_icmp_eq (tgt := 1246) hx hb dL_law_323 (by decide) (fun _ => ?_) (fun c2 => ?_)
  · exact kk G' lam' H locs hI hP hD hS
  · exact absurd rfl c2

set_option maxHeartbeats 4000000 in
set_option maxRecDepth 20000 in
theorem cs_6 : CaseAt 328 := by
  intro p l e s m below meth c H locs Q b L xs ls x3 i D t κ a fi fh G lam C hX hbl hL hi ex hfi hInv hP hD hS hl kk
  obtain ⟨hx, hb, hr, hml, hown, hts, hC0, hlk, hA⟩ := id C
  have hbA : ¬ (fun q : Nat => s.heap.size ≤ q) b := Nat.not_le.mpr hbl
  obtain ⟨yy, hy⟩ : ∃ y : Nat → Value, y 1 = .ref (a 0 0) ∧ y 2 = .ref (a 20 0) := ⟨fun n => if n = 1 then .ref (a 0 0) else .ref (a 20 0), rfl, rfl⟩
  have hl0 := hl
  rw [← hy.1, ← hy.2] at hl
  obtain ⟨v, I, R0, G1, G', lam', hIR, K8, K9, h8, h9, hI⟩ := st_party (l := l) (D := D) (t := t) (κ := κ) (lam := lam) (p1 := xs (i + 1)) (p2 := xs (i + 2)) hfi hInv
  refine lv_aload_n hx hb dL_law_328 rfl (lv_at hl0 1 rfl) ?_
  refine ld 1 hx hb hX hbl hbA hL ex (by omega) hS (by decide) (y := yy) hl dL_law_329 dL_law_330 dL_law_331 dL_law_332 dL_law_333 ?_
  refine ld 2 hx hb hX hbl hbA hL ex (by omega) hS (by decide) (y := yy) hl dL_law_334 dL_law_335 dL_law_336 dL_law_337 dL_law_338 ?_
  refine law8 (As := [.int (xs (i + 1)), .int (xs (i + 2))]) (rest := []) C hIR K8 h8 gL_law_X8_party rfl ⟨rfl, rfl⟩ hdX8_party ⟨Nat.le_of_ble_eq_true rfl, Nat.le_of_ble_eq_true rfl⟩ hP hD hS rfl hl.1 (Nat.le_of_ble_eq_true rfl) dL_law_339 (Nat.le_refl _) (Nat.le_refl _) (fun H locs hP hD hS => ?_)
  refine W.eq (g2 := F0 m 342 ls [.int v]) rfl ?_
  refine lv_aload_n hx hb dL_law_342 rfl (lv_at hl0 2 rfl) ?_
  refine ld 1 hx hb hX hbl hbA hL ex (by omega) hS (by decide) (y := yy) hl dL_law_343 dL_law_344 dL_law_345 dL_law_346 dL_law_347 ?_
  refine ld 2 hx hb hX hbl hbA hL ex (by omega) hS (by decide) (y := yy) hl dL_law_348 dL_law_349 dL_law_350 dL_law_351 dL_law_352 ?_
  refine law9 (As := [.int (xs (i + 1)), .int (xs (i + 2))]) (rest := [.int v]) C K9 h9 gL_law_X9_party rfl ⟨rfl, rfl⟩ hdX9_party ⟨Nat.le_of_ble_eq_true rfl, Nat.le_of_ble_eq_true rfl⟩ hP hD hS rfl hl.1 (Nat.le_of_ble_eq_true rfl) dL_law_353 (Nat.le_refl _) (Nat.le_refl _) (fun H locs hP hD hS => ?_)
  refine W.eq (g2 := F0 m 356 ls [.int v, .int v]) rfl ?_
  refine lv_icmp_eq (tgt := 1246) hx hb dL_law_356 (by decide) (fun _ => ?_) (fun c2 => ?_)
  · exact kk G' lam' H locs hI hP hD hS
  · exact absurd rfl c2

set_option maxHeartbeats 4000000 in
set_option maxRecDepth 20000 in
theorem cs_7 : CaseAt 361 := by
  intro p l e s m below meth c H locs Q b L xs ls x3 i D t κ a fi fh G lam C hX hbl hL hi ex hfi hInv hP hD hS hl kk
  obtain ⟨hx, hb, hr, hml, hown, hts, hC0, hlk, hA⟩ := id C
  have hbA : ¬ (fun q : Nat => s.heap.size ≤ q) b := Nat.not_le.mpr hbl
  obtain ⟨yy, hy⟩ : ∃ y : Nat → Value, y 1 = .ref (a 0 0) ∧ y 2 = .ref (a 20 0) := ⟨fun n => if n = 1 then .ref (a 0 0) else .ref (a 20 0), rfl, rfl⟩
  have hl0 := hl
  rw [← hy.1, ← hy.2] at hl
  obtain ⟨v, I, R0, G1, G', lam', hIR, K8, K9, h8, h9, hI⟩ := st_strain (l := l) (D := D) (t := t) (κ := κ) (lam := lam) (p1 := xs (i + 1)) (p2 := xs (i + 2)) hfi hInv
  refine lv_aload_n hx hb dL_law_361 rfl (lv_at hl0 1 rfl) ?_
  refine ld 1 hx hb hX hbl hbA hL ex (by omega) hS (by decide) (y := yy) hl dL_law_362 dL_law_363 dL_law_364 dL_law_365 dL_law_366 ?_
  refine ld 2 hx hb hX hbl hbA hL ex (by omega) hS (by decide) (y := yy) hl dL_law_367 dL_law_368 dL_law_369 dL_law_370 dL_law_371 ?_
  refine law8 (As := [.int (xs (i + 1)), .int (xs (i + 2))]) (rest := []) C hIR K8 h8 gL_law_X8_strain rfl ⟨rfl, rfl⟩ hdX8_strain ⟨Nat.le_of_ble_eq_true rfl, Nat.le_of_ble_eq_true rfl⟩ hP hD hS rfl hl.1 (Nat.le_of_ble_eq_true rfl) dL_law_372 (Nat.le_refl _) (Nat.le_refl _) (fun H locs hP hD hS => ?_)
  refine W.eq (g2 := F0 m 375 ls [.int v]) rfl ?_
  refine lv_aload_n hx hb dL_law_375 rfl (lv_at hl0 2 rfl) ?_
  refine ld 1 hx hb hX hbl hbA hL ex (by omega) hS (by decide) (y := yy) hl dL_law_376 dL_law_377 dL_law_378 dL_law_379 dL_law_380 ?_
  refine ld 2 hx hb hX hbl hbA hL ex (by omega) hS (by decide) (y := yy) hl dL_law_381 dL_law_382 dL_law_383 dL_law_384 dL_law_385 ?_
  refine law9 (As := [.int (xs (i + 1)), .int (xs (i + 2))]) (rest := [.int v]) C K9 h9 gL_law_X9_strain rfl ⟨rfl, rfl⟩ hdX9_strain ⟨Nat.le_of_ble_eq_true rfl, Nat.le_of_ble_eq_true rfl⟩ hP hD hS rfl hl.1 (Nat.le_of_ble_eq_true rfl) dL_law_386 (Nat.le_refl _) (Nat.le_refl _) (fun H locs hP hD hS => ?_)
  refine W.eq (g2 := F0 m 389 ls [.int v, .int v]) rfl ?_
  refine lv_icmp_eq (tgt := 1246) hx hb dL_law_389 (by decide) (fun _ => ?_) (fun c2 => ?_)
  · exact kk G' lam' H locs hI hP hD hS
  · exact absurd rfl c2

set_option maxHeartbeats 4000000 in
set_option maxRecDepth 20000 in
theorem cs_8 : CaseAt 394 := by
  intro p l e s m below meth c H locs Q b L xs ls x3 i D t κ a fi fh G lam C hX hbl hL hi ex hfi hInv hP hD hS hl kk
  obtain ⟨hx, hb, hr, hml, hown, hts, hC0, hlk, hA⟩ := id C
  have hbA : ¬ (fun q : Nat => s.heap.size ≤ q) b := Nat.not_le.mpr hbl
  obtain ⟨yy, hy⟩ : ∃ y : Nat → Value, y 1 = .ref (a 0 0) ∧ y 2 = .ref (a 20 0) := ⟨fun n => if n = 1 then .ref (a 0 0) else .ref (a 20 0), rfl, rfl⟩
  have hl0 := hl
  rw [← hy.1, ← hy.2] at hl
  obtain ⟨v, I, R0, G1, G', lam', hIR, K8, K9, h8, h9, hI⟩ := st_pave (l := l) (D := D) (t := t) (κ := κ) (lam := lam) (p1 := xs (i + 1)) (p2 := xs (i + 2)) (p3 := xs (i + 3)) hfi hInv
  refine lv_aload_n hx hb dL_law_394 rfl (lv_at hl0 1 rfl) ?_
  refine ld 1 hx hb hX hbl hbA hL ex (by omega) hS (by decide) (y := yy) hl dL_law_395 dL_law_396 dL_law_397 dL_law_398 dL_law_399 ?_
  refine ld 2 hx hb hX hbl hbA hL ex (by omega) hS (by decide) (y := yy) hl dL_law_400 dL_law_401 dL_law_402 dL_law_403 dL_law_404 ?_
  refine ld 3 hx hb hX hbl hbA hL ex (by omega) hS (by decide) (y := yy) hl dL_law_405 dL_law_406 dL_law_407 dL_law_408 dL_law_409 ?_
  refine law8 (As := [.int (xs (i + 1)), .int (xs (i + 2)), .int (xs (i + 3))]) (rest := []) C hIR K8 h8 gL_law_X8_pave rfl ⟨rfl, rfl⟩ hdX8_pave ⟨Nat.le_of_ble_eq_true rfl, Nat.le_of_ble_eq_true rfl⟩ hP hD hS rfl hl.1 (Nat.le_of_ble_eq_true rfl) dL_law_410 (Nat.le_refl _) (Nat.le_refl _) (fun H locs hP hD hS => ?_)
  refine W.eq (g2 := F0 m 413 ls [.int v]) rfl ?_
  refine lv_aload_n hx hb dL_law_413 rfl (lv_at hl0 2 rfl) ?_
  refine ld 1 hx hb hX hbl hbA hL ex (by omega) hS (by decide) (y := yy) hl dL_law_414 dL_law_415 dL_law_416 dL_law_417 dL_law_418 ?_
  refine ld 2 hx hb hX hbl hbA hL ex (by omega) hS (by decide) (y := yy) hl dL_law_419 dL_law_420 dL_law_421 dL_law_422 dL_law_423 ?_
  refine ld 3 hx hb hX hbl hbA hL ex (by omega) hS (by decide) (y := yy) hl dL_law_424 dL_law_425 dL_law_426 dL_law_427 dL_law_428 ?_
  refine law9 (As := [.int (xs (i + 1)), .int (xs (i + 2)), .int (xs (i + 3))]) (rest := [.int v]) C K9 h9 gL_law_X9_pave rfl ⟨rfl, rfl⟩ hdX9_pave ⟨Nat.le_of_ble_eq_true rfl, Nat.le_of_ble_eq_true rfl⟩ hP hD hS rfl hl.1 (Nat.le_of_ble_eq_true rfl) dL_law_429 (Nat.le_refl _) (Nat.le_refl _) (fun H locs hP hD hS => ?_)
  refine W.eq (g2 := F0 m 432 ls [.int v, .int v]) rfl ?_
  refine lv_icmp_eq (tgt := 1246) hx hb dL_law_432 (by decide) (fun _ => ?_) (fun c2 => ?_)
  · exact kk G' lam' H locs hI hP hD hS
  · exact absurd rfl c2

set_option maxHeartbeats 4000000 in
set_option maxRecDepth 20000 in
theorem cs_9 : CaseAt 437 := by
  intro p l e s m below meth c H locs Q b L xs ls x3 i D t κ a fi fh G lam C hX hbl hL hi ex hfi hInv hP hD hS hl kk
  obtain ⟨hx, hb, hr, hml, hown, hts, hC0, hlk, hA⟩ := id C
  have hbA : ¬ (fun q : Nat => s.heap.size ≤ q) b := Nat.not_le.mpr hbl
  obtain ⟨yy, hy⟩ : ∃ y : Nat → Value, y 1 = .ref (a 0 0) ∧ y 2 = .ref (a 20 0) := ⟨fun n => if n = 1 then .ref (a 0 0) else .ref (a 20 0), rfl, rfl⟩
  have hl0 := hl
  rw [← hy.1, ← hy.2] at hl
  obtain ⟨v, I, R0, G1, G', lam', hIR, K8, K9, h8, h9, hI⟩ := st_alter (l := l) (D := D) (t := t) (κ := κ) (lam := lam) (p1 := xs (i + 1)) (p2 := xs (i + 2)) (p3 := xs (i + 3)) hfi hInv
  refine lv_aload_n hx hb dL_law_437 rfl (lv_at hl0 1 rfl) ?_
  refine ld 1 hx hb hX hbl hbA hL ex (by omega) hS (by decide) (y := yy) hl dL_law_438 dL_law_439 dL_law_440 dL_law_441 dL_law_442 ?_
  refine ld 2 hx hb hX hbl hbA hL ex (by omega) hS (by decide) (y := yy) hl dL_law_443 dL_law_444 dL_law_445 dL_law_446 dL_law_447 ?_
  refine ld 3 hx hb hX hbl hbA hL ex (by omega) hS (by decide) (y := yy) hl dL_law_448 dL_law_449 dL_law_450 dL_law_451 dL_law_452 ?_
  refine law8 (As := [.int (xs (i + 1)), .int (xs (i + 2)), .int (xs (i + 3))]) (rest := []) C hIR K8 h8 gL_law_X8_alter rfl ⟨rfl, rfl⟩ hdX8_alter ⟨Nat.le_of_ble_eq_true rfl, Nat.le_of_ble_eq_true rfl⟩ hP hD hS rfl hl.1 (Nat.le_of_ble_eq_true rfl) dL_law_453 (Nat.le_refl _) (Nat.le_refl _) (fun H locs hP hD hS => ?_)
  refine W.eq (g2 := F0 m 456 ls [.int v]) rfl ?_
  refine lv_aload_n hx hb dL_law_456 rfl (lv_at hl0 2 rfl) ?_
  refine ld 1 hx hb hX hbl hbA hL ex (by omega) hS (by decide) (y := yy) hl dL_law_457 dL_law_458 dL_law_459 dL_law_460 dL_law_461 ?_
  refine ld 2 hx hb hX hbl hbA hL ex (by omega) hS (by decide) (y := yy) hl dL_law_462 dL_law_463 dL_law_464 dL_law_465 dL_law_466 ?_
  refine ld 3 hx hb hX hbl hbA hL ex (by omega) hS (by decide) (y := yy) hl dL_law_467 dL_law_468 dL_law_469 dL_law_470 dL_law_471 ?_
  refine law9 (As := [.int (xs (i + 1)), .int (xs (i + 2)), .int (xs (i + 3))]) (rest := [.int v]) C K9 h9 gL_law_X9_alter rfl ⟨rfl, rfl⟩ hdX9_alter ⟨Nat.le_of_ble_eq_true rfl, Nat.le_of_ble_eq_true rfl⟩ hP hD hS rfl hl.1 (Nat.le_of_ble_eq_true rfl) dL_law_472 (Nat.le_refl _) (Nat.le_refl _) (fun H locs hP hD hS => ?_)
  refine W.eq (g2 := F0 m 475 ls [.int v, .int v]) rfl ?_
  refine lv_icmp_eq (tgt := 1246) hx hb dL_law_475 (by decide) (fun _ => ?_) (fun c2 => ?_)
  · exact kk G' lam' H locs hI hP hD hS
  · exact absurd rfl c2

set_option maxHeartbeats 4000000 in
set_option maxRecDepth 20000 in
theorem cs_10 : CaseAt 480 := by
  intro p l e s m below meth c H locs Q b L xs ls x3 i D t κ a fi fh G lam C hX hbl hL hi ex hfi hInv hP hD hS hl kk
  obtain ⟨hx, hb, hr, hml, hown, hts, hC0, hlk, hA⟩ := id C
  have hbA : ¬ (fun q : Nat => s.heap.size ≤ q) b := Nat.not_le.mpr hbl
  obtain ⟨yy, hy⟩ : ∃ y : Nat → Value, y 1 = .ref (a 0 0) ∧ y 2 = .ref (a 20 0) := ⟨fun n => if n = 1 then .ref (a 0 0) else .ref (a 20 0), rfl, rfl⟩
  have hl0 := hl
  rw [← hy.1, ← hy.2] at hl
  obtain ⟨v, I, R0, G1, G', lam', hIR, K8, K9, h8, h9, hI⟩ := st_stand (l := l) (D := D) (t := t) (κ := κ) (lam := lam) (p1 := xs (i + 1)) (p2 := xs (i + 2)) hfi hInv
  refine lv_aload_n hx hb dL_law_480 rfl (lv_at hl0 1 rfl) ?_
  refine ld 1 hx hb hX hbl hbA hL ex (by omega) hS (by decide) (y := yy) hl dL_law_481 dL_law_482 dL_law_483 dL_law_484 dL_law_485 ?_
  refine ld 2 hx hb hX hbl hbA hL ex (by omega) hS (by decide) (y := yy) hl dL_law_486 dL_law_487 dL_law_488 dL_law_489 dL_law_490 ?_
  refine law8 (As := [.int (xs (i + 1)), .int (xs (i + 2))]) (rest := []) C hIR K8 h8 gL_law_X8_stand rfl ⟨rfl, rfl⟩ hdX8_stand ⟨Nat.le_of_ble_eq_true rfl, Nat.le_of_ble_eq_true rfl⟩ hP hD hS rfl hl.1 (Nat.le_of_ble_eq_true rfl) dL_law_491 (Nat.le_refl _) (Nat.le_refl _) (fun H locs hP hD hS => ?_)
  refine W.eq (g2 := F0 m 494 ls [.int v]) rfl ?_
  refine lv_aload_n hx hb dL_law_494 rfl (lv_at hl0 2 rfl) ?_
  refine ld 1 hx hb hX hbl hbA hL ex (by omega) hS (by decide) (y := yy) hl dL_law_495 dL_law_496 dL_law_497 dL_law_498 dL_law_499 ?_
  refine ld 2 hx hb hX hbl hbA hL ex (by omega) hS (by decide) (y := yy) hl dL_law_500 dL_law_501 dL_law_502 dL_law_503 dL_law_504 ?_
  refine law9 (As := [.int (xs (i + 1)), .int (xs (i + 2))]) (rest := [.int v]) C K9 h9 gL_law_X9_stand rfl ⟨rfl, rfl⟩ hdX9_stand ⟨Nat.le_of_ble_eq_true rfl, Nat.le_of_ble_eq_true rfl⟩ hP hD hS rfl hl.1 (Nat.le_of_ble_eq_true rfl) dL_law_505 (Nat.le_refl _) (Nat.le_refl _) (fun H locs hP hD hS => ?_)
  refine W.eq (g2 := F0 m 508 ls [.int v, .int v]) rfl ?_
  refine lv_icmp_eq (tgt := 1246) hx hb dL_law_508 (by decide) (fun _ => ?_) (fun c2 => ?_)
  · exact kk G' lam' H locs hI hP hD hS
  · exact absurd rfl c2

set_option maxHeartbeats 4000000 in
set_option maxRecDepth 20000 in
theorem cs_11 : CaseAt 513 := by
  intro p l e s m below meth c H locs Q b L xs ls x3 i D t κ a fi fh G lam C hX hbl hL hi ex hfi hInv hP hD hS hl kk
  obtain ⟨hx, hb, hr, hml, hown, hts, hC0, hlk, hA⟩ := id C
  have hbA : ¬ (fun q : Nat => s.heap.size ≤ q) b := Nat.not_le.mpr hbl
  obtain ⟨yy, hy⟩ : ∃ y : Nat → Value, y 1 = .ref (a 0 0) ∧ y 2 = .ref (a 20 0) := ⟨fun n => if n = 1 then .ref (a 0 0) else .ref (a 20 0), rfl, rfl⟩
  have hl0 := hl
  rw [← hy.1, ← hy.2] at hl
  obtain ⟨v, I, R0, G1, G', lam', hIR, K8, K9, h8, h9, hI⟩ := st_set (l := l) (D := D) (t := t) (κ := κ) (lam := lam) (p1 := xs (i + 1)) (p2 := xs (i + 2)) hfi hInv
  refine lv_aload_n hx hb dL_law_513 rfl (lv_at hl0 1 rfl) ?_
  refine ld 1 hx hb hX hbl hbA hL ex (by omega) hS (by decide) (y := yy) hl dL_law_514 dL_law_515 dL_law_516 dL_law_517 dL_law_518 ?_
  refine ld 2 hx hb hX hbl hbA hL ex (by omega) hS (by decide) (y := yy) hl dL_law_519 dL_law_520 dL_law_521 dL_law_522 dL_law_523 ?_
  refine law8 (As := [.int (xs (i + 1)), .int (xs (i + 2))]) (rest := []) C hIR K8 h8 gL_law_X8_set rfl ⟨rfl, rfl⟩ hdX8_set ⟨Nat.le_of_ble_eq_true rfl, Nat.le_of_ble_eq_true rfl⟩ hP hD hS rfl hl.1 (Nat.le_of_ble_eq_true rfl) dL_law_524 (Nat.le_refl _) (Nat.le_refl _) (fun H locs hP hD hS => ?_)
  refine W.eq (g2 := F0 m 527 ls [.int v]) rfl ?_
  refine lv_aload_n hx hb dL_law_527 rfl (lv_at hl0 2 rfl) ?_
  refine ld 1 hx hb hX hbl hbA hL ex (by omega) hS (by decide) (y := yy) hl dL_law_528 dL_law_529 dL_law_530 dL_law_531 dL_law_532 ?_
  refine ld 2 hx hb hX hbl hbA hL ex (by omega) hS (by decide) (y := yy) hl dL_law_533 dL_law_534 dL_law_535 dL_law_536 dL_law_537 ?_
  refine law9 (As := [.int (xs (i + 1)), .int (xs (i + 2))]) (rest := [.int v]) C K9 h9 gL_law_X9_set rfl ⟨rfl, rfl⟩ hdX9_set ⟨Nat.le_of_ble_eq_true rfl, Nat.le_of_ble_eq_true rfl⟩ hP hD hS rfl hl.1 (Nat.le_of_ble_eq_true rfl) dL_law_538 (Nat.le_refl _) (Nat.le_refl _) (fun H locs hP hD hS => ?_)
  refine W.eq (g2 := F0 m 541 ls [.int v, .int v]) rfl ?_
  refine lv_icmp_eq (tgt := 1246) hx hb dL_law_541 (by decide) (fun _ => ?_) (fun c2 => ?_)
  · exact kk G' lam' H locs hI hP hD hS
  · exact absurd rfl c2

set_option maxHeartbeats 4000000 in
set_option maxRecDepth 20000 in
theorem cs_12 : CaseAt 546 := by
  intro p l e s m below meth c H locs Q b L xs ls x3 i D t κ a fi fh G lam C hX hbl hL hi ex hfi hInv hP hD hS hl kk
  obtain ⟨hx, hb, hr, hml, hown, hts, hC0, hlk, hA⟩ := id C
  have hbA : ¬ (fun q : Nat => s.heap.size ≤ q) b := Nat.not_le.mpr hbl
  obtain ⟨yy, hy⟩ : ∃ y : Nat → Value, y 1 = .ref (a 0 0) ∧ y 2 = .ref (a 20 0) := ⟨fun n => if n = 1 then .ref (a 0 0) else .ref (a 20 0), rfl, rfl⟩
  have hl0 := hl
  rw [← hy.1, ← hy.2] at hl
  obtain ⟨v, I, R0, G1, G', lam', hIR, K8, K9, h8, h9, hI⟩ := st_turn (l := l) (D := D) (t := t) (κ := κ) (lam := lam) (p1 := xs (i + 1)) hfi hInv
  refine lv_aload_n hx hb dL_law_546 rfl (lv_at hl0 1 rfl) ?_
  refine ld 1 hx hb hX hbl hbA hL ex (by omega) hS (by decide) (y := yy) hl dL_law_547 dL_law_548 dL_law_549 dL_law_550 dL_law_551 ?_
  refine law8 (As := [.int (xs (i + 1))]) (rest := []) C hIR K8 h8 gL_law_X8_turn rfl ⟨rfl, rfl⟩ hdX8_turn ⟨Nat.le_of_ble_eq_true rfl, Nat.le_of_ble_eq_true rfl⟩ hP hD hS rfl hl.1 (Nat.le_of_ble_eq_true rfl) dL_law_552 (Nat.le_refl _) (Nat.le_refl _) (fun H locs hP hD hS => ?_)
  refine W.eq (g2 := F0 m 555 ls [.int v]) rfl ?_
  refine lv_aload_n hx hb dL_law_555 rfl (lv_at hl0 2 rfl) ?_
  refine ld 1 hx hb hX hbl hbA hL ex (by omega) hS (by decide) (y := yy) hl dL_law_556 dL_law_557 dL_law_558 dL_law_559 dL_law_560 ?_
  refine law9 (As := [.int (xs (i + 1))]) (rest := [.int v]) C K9 h9 gL_law_X9_turn rfl ⟨rfl, rfl⟩ hdX9_turn ⟨Nat.le_of_ble_eq_true rfl, Nat.le_of_ble_eq_true rfl⟩ hP hD hS rfl hl.1 (Nat.le_of_ble_eq_true rfl) dL_law_561 (Nat.le_refl _) (Nat.le_refl _) (fun H locs hP hD hS => ?_)
  refine W.eq (g2 := F0 m 564 ls [.int v, .int v]) rfl ?_
  refine lv_icmp_eq (tgt := 1246) hx hb dL_law_564 (by decide) (fun _ => ?_) (fun c2 => ?_)
  · exact kk G' lam' H locs hI hP hD hS
  · exact absurd rfl c2

set_option maxHeartbeats 4000000 in
set_option maxRecDepth 20000 in
theorem cs_13 : CaseAt 569 := by
  intro p l e s m below meth c H locs Q b L xs ls x3 i D t κ a fi fh G lam C hX hbl hL hi ex hfi hInv hP hD hS hl kk
  obtain ⟨hx, hb, hr, hml, hown, hts, hC0, hlk, hA⟩ := id C
  have hbA : ¬ (fun q : Nat => s.heap.size ≤ q) b := Nat.not_le.mpr hbl
  obtain ⟨yy, hy⟩ : ∃ y : Nat → Value, y 1 = .ref (a 0 0) ∧ y 2 = .ref (a 20 0) := ⟨fun n => if n = 1 then .ref (a 0 0) else .ref (a 20 0), rfl, rfl⟩
  have hl0 := hl
  rw [← hy.1, ← hy.2] at hl
  obtain ⟨v, I, R0, G1, G', lam', hIR, K8, K9, h8, h9, hI⟩ := st_fate (l := l) (D := D) (t := t) (κ := κ) (lam := lam) (p1 := xs (i + 1)) (p2 := xs (i + 2)) hfi hInv
  refine lv_aload_n hx hb dL_law_569 rfl (lv_at hl0 1 rfl) ?_
  refine ld 1 hx hb hX hbl hbA hL ex (by omega) hS (by decide) (y := yy) hl dL_law_570 dL_law_571 dL_law_572 dL_law_573 dL_law_574 ?_
  refine ld 2 hx hb hX hbl hbA hL ex (by omega) hS (by decide) (y := yy) hl dL_law_575 dL_law_576 dL_law_577 dL_law_578 dL_law_579 ?_
  refine law8 (As := [.int (xs (i + 1)), .int (xs (i + 2))]) (rest := []) C hIR K8 h8 gL_law_X8_fate rfl ⟨rfl, rfl⟩ hdX8_fate ⟨Nat.le_of_ble_eq_true rfl, Nat.le_of_ble_eq_true rfl⟩ hP hD hS rfl hl.1 (Nat.le_of_ble_eq_true rfl) dL_law_580 (Nat.le_refl _) (Nat.le_refl _) (fun H locs hP hD hS => ?_)
  refine W.eq (g2 := F0 m 583 ls [.int v]) rfl ?_
  refine lv_aload_n hx hb dL_law_583 rfl (lv_at hl0 2 rfl) ?_
  refine ld 1 hx hb hX hbl hbA hL ex (by omega) hS (by decide) (y := yy) hl dL_law_584 dL_law_585 dL_law_586 dL_law_587 dL_law_588 ?_
  refine ld 2 hx hb hX hbl hbA hL ex (by omega) hS (by decide) (y := yy) hl dL_law_589 dL_law_590 dL_law_591 dL_law_592 dL_law_593 ?_
  refine law9 (As := [.int (xs (i + 1)), .int (xs (i + 2))]) (rest := [.int v]) C K9 h9 gL_law_X9_fate rfl ⟨rfl, rfl⟩ hdX9_fate ⟨Nat.le_of_ble_eq_true rfl, Nat.le_of_ble_eq_true rfl⟩ hP hD hS rfl hl.1 (Nat.le_of_ble_eq_true rfl) dL_law_594 (Nat.le_refl _) (Nat.le_refl _) (fun H locs hP hD hS => ?_)
  refine W.eq (g2 := F0 m 597 ls [.int v, .int v]) rfl ?_
  refine lv_icmp_eq (tgt := 1246) hx hb dL_law_597 (by decide) (fun _ => ?_) (fun c2 => ?_)
  · exact kk G' lam' H locs hI hP hD hS
  · exact absurd rfl c2

set_option maxHeartbeats 4000000 in
set_option maxRecDepth 20000 in
theorem cs_14 : CaseAt 602 := by
  intro p l e s m below meth c H locs Q b L xs ls x3 i D t κ a fi fh G lam C hX hbl hL hi ex hfi hInv hP hD hS hl kk
  obtain ⟨hx, hb, hr, hml, hown, hts, hC0, hlk, hA⟩ := id C
  have hbA : ¬ (fun q : Nat => s.heap.size ≤ q) b := Nat.not_le.mpr hbl
  obtain ⟨yy, hy⟩ : ∃ y : Nat → Value, y 1 = .ref (a 0 0) ∧ y 2 = .ref (a 20 0) := ⟨fun n => if n = 1 then .ref (a 0 0) else .ref (a 20 0), rfl, rfl⟩
  have hl0 := hl
  rw [← hy.1, ← hy.2] at hl
  obtain ⟨v, I, R0, G1, G', lam', hIR, K8, K9, h8, h9, hI⟩ := st_beside (l := l) (D := D) (t := t) (κ := κ) (lam := lam) (p1 := xs (i + 1)) hfi hInv
  refine lv_aload_n hx hb dL_law_602 rfl (lv_at hl0 1 rfl) ?_
  refine ld 1 hx hb hX hbl hbA hL ex (by omega) hS (by decide) (y := yy) hl dL_law_603 dL_law_604 dL_law_605 dL_law_606 dL_law_607 ?_
  refine law8 (As := [.int (xs (i + 1))]) (rest := []) C hIR K8 h8 gL_law_X8_beside rfl ⟨rfl, rfl⟩ hdX8_beside ⟨Nat.le_of_ble_eq_true rfl, Nat.le_of_ble_eq_true rfl⟩ hP hD hS rfl hl.1 (Nat.le_of_ble_eq_true rfl) dL_law_608 (Nat.le_refl _) (Nat.le_refl _) (fun H locs hP hD hS => ?_)
  refine W.eq (g2 := F0 m 611 ls [.int v]) rfl ?_
  refine lv_aload_n hx hb dL_law_611 rfl (lv_at hl0 2 rfl) ?_
  refine ld 1 hx hb hX hbl hbA hL ex (by omega) hS (by decide) (y := yy) hl dL_law_612 dL_law_613 dL_law_614 dL_law_615 dL_law_616 ?_
  refine law9 (As := [.int (xs (i + 1))]) (rest := [.int v]) C K9 h9 gL_law_X9_beside rfl ⟨rfl, rfl⟩ hdX9_beside ⟨Nat.le_of_ble_eq_true rfl, Nat.le_of_ble_eq_true rfl⟩ hP hD hS rfl hl.1 (Nat.le_of_ble_eq_true rfl) dL_law_617 (Nat.le_refl _) (Nat.le_refl _) (fun H locs hP hD hS => ?_)
  refine W.eq (g2 := F0 m 620 ls [.int v, .int v]) rfl ?_
  refine lv_icmp_eq (tgt := 1246) hx hb dL_law_620 (by decide) (fun _ => ?_) (fun c2 => ?_)
  · exact kk G' lam' H locs hI hP hD hS
  · exact absurd rfl c2

set_option maxHeartbeats 4000000 in
set_option maxRecDepth 20000 in
theorem cs_15 : CaseAt 625 := by
  intro p l e s m below meth c H locs Q b L xs ls x3 i D t κ a fi fh G lam C hX hbl hL hi ex hfi hInv hP hD hS hl kk
  obtain ⟨hx, hb, hr, hml, hown, hts, hC0, hlk, hA⟩ := id C
  have hbA : ¬ (fun q : Nat => s.heap.size ≤ q) b := Nat.not_le.mpr hbl
  obtain ⟨yy, hy⟩ : ∃ y : Nat → Value, y 1 = .ref (a 0 0) ∧ y 2 = .ref (a 20 0) := ⟨fun n => if n = 1 then .ref (a 0 0) else .ref (a 20 0), rfl, rfl⟩
  have hl0 := hl
  rw [← hy.1, ← hy.2] at hl
  obtain ⟨v, I, R0, G1, G', lam', hIR, K8, K9, h8, h9, hI⟩ := st_sum (l := l) (D := D) (t := t) (κ := κ) (lam := lam) (p1 := xs (i + 1)) hfi hInv
  refine lv_aload_n hx hb dL_law_625 rfl (lv_at hl0 1 rfl) ?_
  refine ld 1 hx hb hX hbl hbA hL ex (by omega) hS (by decide) (y := yy) hl dL_law_626 dL_law_627 dL_law_628 dL_law_629 dL_law_630 ?_
  refine law8 (As := [.int (xs (i + 1))]) (rest := []) C hIR K8 h8 gL_law_X8_sum rfl ⟨rfl, rfl⟩ hdX8_sum ⟨Nat.le_of_ble_eq_true rfl, Nat.le_of_ble_eq_true rfl⟩ hP hD hS rfl hl.1 (Nat.le_of_ble_eq_true rfl) dL_law_631 (Nat.le_refl _) (Nat.le_refl _) (fun H locs hP hD hS => ?_)
  refine W.eq (g2 := F0 m 634 ls [.int v]) rfl ?_
  refine lv_aload_n hx hb dL_law_634 rfl (lv_at hl0 2 rfl) ?_
  refine ld 1 hx hb hX hbl hbA hL ex (by omega) hS (by decide) (y := yy) hl dL_law_635 dL_law_636 dL_law_637 dL_law_638 dL_law_639 ?_
  refine law9 (As := [.int (xs (i + 1))]) (rest := [.int v]) C K9 h9 gL_law_X9_sum rfl ⟨rfl, rfl⟩ hdX9_sum ⟨Nat.le_of_ble_eq_true rfl, Nat.le_of_ble_eq_true rfl⟩ hP hD hS rfl hl.1 (Nat.le_of_ble_eq_true rfl) dL_law_640 (Nat.le_refl _) (Nat.le_refl _) (fun H locs hP hD hS => ?_)
  refine W.eq (g2 := F0 m 643 ls [.int v, .int v]) rfl ?_
  refine lv_icmp_eq (tgt := 1246) hx hb dL_law_643 (by decide) (fun _ => ?_) (fun c2 => ?_)
  · exact kk G' lam' H locs hI hP hD hS
  · exact absurd rfl c2

set_option maxHeartbeats 4000000 in
set_option maxRecDepth 20000 in
theorem cs_16 : CaseAt 648 := by
  intro p l e s m below meth c H locs Q b L xs ls x3 i D t κ a fi fh G lam C hX hbl hL hi ex hfi hInv hP hD hS hl kk
  obtain ⟨hx, hb, hr, hml, hown, hts, hC0, hlk, hA⟩ := id C
  have hbA : ¬ (fun q : Nat => s.heap.size ≤ q) b := Nat.not_le.mpr hbl
  obtain ⟨yy, hy⟩ : ∃ y : Nat → Value, y 1 = .ref (a 0 0) ∧ y 2 = .ref (a 20 0) := ⟨fun n => if n = 1 then .ref (a 0 0) else .ref (a 20 0), rfl, rfl⟩
  have hl0 := hl
  rw [← hy.1, ← hy.2] at hl
  obtain ⟨v, I, R0, G1, G', lam', hIR, K8, K9, h8, h9, hI⟩ := st_best (l := l) (D := D) (t := t) (κ := κ) (lam := lam) (p1 := xs (i + 1)) hfi hInv
  refine lv_aload_n hx hb dL_law_648 rfl (lv_at hl0 1 rfl) ?_
  refine ld 1 hx hb hX hbl hbA hL ex (by omega) hS (by decide) (y := yy) hl dL_law_649 dL_law_650 dL_law_651 dL_law_652 dL_law_653 ?_
  refine law8 (As := [.int (xs (i + 1))]) (rest := []) C hIR K8 h8 gL_law_X8_best rfl ⟨rfl, rfl⟩ hdX8_best ⟨Nat.le_of_ble_eq_true rfl, Nat.le_of_ble_eq_true rfl⟩ hP hD hS rfl hl.1 (Nat.le_of_ble_eq_true rfl) dL_law_654 (Nat.le_refl _) (Nat.le_refl _) (fun H locs hP hD hS => ?_)
  refine W.eq (g2 := F0 m 657 ls [.int v]) rfl ?_
  refine lv_aload_n hx hb dL_law_657 rfl (lv_at hl0 2 rfl) ?_
  refine ld 1 hx hb hX hbl hbA hL ex (by omega) hS (by decide) (y := yy) hl dL_law_658 dL_law_659 dL_law_660 dL_law_661 dL_law_662 ?_
  refine law9 (As := [.int (xs (i + 1))]) (rest := [.int v]) C K9 h9 gL_law_X9_best rfl ⟨rfl, rfl⟩ hdX9_best ⟨Nat.le_of_ble_eq_true rfl, Nat.le_of_ble_eq_true rfl⟩ hP hD hS rfl hl.1 (Nat.le_of_ble_eq_true rfl) dL_law_663 (Nat.le_refl _) (Nat.le_refl _) (fun H locs hP hD hS => ?_)
  refine W.eq (g2 := F0 m 666 ls [.int v, .int v]) rfl ?_
  refine lv_icmp_eq (tgt := 1246) hx hb dL_law_666 (by decide) (fun _ => ?_) (fun c2 => ?_)
  · exact kk G' lam' H locs hI hP hD hS
  · exact absurd rfl c2

set_option maxHeartbeats 4000000 in
set_option maxRecDepth 20000 in
theorem cs_17 : CaseAt 671 := by
  intro p l e s m below meth c H locs Q b L xs ls x3 i D t κ a fi fh G lam C hX hbl hL hi ex hfi hInv hP hD hS hl kk
  obtain ⟨hx, hb, hr, hml, hown, hts, hC0, hlk, hA⟩ := id C
  have hbA : ¬ (fun q : Nat => s.heap.size ≤ q) b := Nat.not_le.mpr hbl
  obtain ⟨yy, hy⟩ : ∃ y : Nat → Value, y 1 = .ref (a 0 0) ∧ y 2 = .ref (a 20 0) := ⟨fun n => if n = 1 then .ref (a 0 0) else .ref (a 20 0), rfl, rfl⟩
  have hl0 := hl
  rw [← hy.1, ← hy.2] at hl
  obtain ⟨v, I, R0, G1, G', lam', hIR, K8, K9, h8, h9, hI⟩ := st_place (l := l) (D := D) (t := t) (κ := κ) (lam := lam) (p1 := xs (i + 1)) (p2 := xs (i + 2)) hfi hInv
  refine lv_aload_n hx hb dL_law_671 rfl (lv_at hl0 1 rfl) ?_
  refine ld 1 hx hb hX hbl hbA hL ex (by omega) hS (by decide) (y := yy) hl dL_law_672 dL_law_673 dL_law_674 dL_law_675 dL_law_676 ?_
  refine ld 2 hx hb hX hbl hbA hL ex (by omega) hS (by decide) (y := yy) hl dL_law_677 dL_law_678 dL_law_679 dL_law_680 dL_law_681 ?_
  refine law8 (As := [.int (xs (i + 1)), .int (xs (i + 2))]) (rest := []) C hIR K8 h8 gL_law_X8_place rfl ⟨rfl, rfl⟩ hdX8_place ⟨Nat.le_of_ble_eq_true rfl, Nat.le_of_ble_eq_true rfl⟩ hP hD hS rfl hl.1 (Nat.le_of_ble_eq_true rfl) dL_law_682 (Nat.le_refl _) (Nat.le_refl _) (fun H locs hP hD hS => ?_)
  refine W.eq (g2 := F0 m 685 ls [.int v]) rfl ?_
  refine lv_aload_n hx hb dL_law_685 rfl (lv_at hl0 2 rfl) ?_
  refine ld 1 hx hb hX hbl hbA hL ex (by omega) hS (by decide) (y := yy) hl dL_law_686 dL_law_687 dL_law_688 dL_law_689 dL_law_690 ?_
  refine ld 2 hx hb hX hbl hbA hL ex (by omega) hS (by decide) (y := yy) hl dL_law_691 dL_law_692 dL_law_693 dL_law_694 dL_law_695 ?_
  refine law9 (As := [.int (xs (i + 1)), .int (xs (i + 2))]) (rest := [.int v]) C K9 h9 gL_law_X9_place rfl ⟨rfl, rfl⟩ hdX9_place ⟨Nat.le_of_ble_eq_true rfl, Nat.le_of_ble_eq_true rfl⟩ hP hD hS rfl hl.1 (Nat.le_of_ble_eq_true rfl) dL_law_696 (Nat.le_refl _) (Nat.le_refl _) (fun H locs hP hD hS => ?_)
  refine W.eq (g2 := F0 m 699 ls [.int v, .int v]) rfl ?_
  refine lv_icmp_eq (tgt := 1246) hx hb dL_law_699 (by decide) (fun _ => ?_) (fun c2 => ?_)
  · exact kk G' lam' H locs hI hP hD hS
  · exact absurd rfl c2

set_option maxHeartbeats 4000000 in
set_option maxRecDepth 20000 in
theorem cs_18 : CaseAt 704 := by
  intro p l e s m below meth c H locs Q b L xs ls x3 i D t κ a fi fh G lam C hX hbl hL hi ex hfi hInv hP hD hS hl kk
  obtain ⟨hx, hb, hr, hml, hown, hts, hC0, hlk, hA⟩ := id C
  have hbA : ¬ (fun q : Nat => s.heap.size ≤ q) b := Nat.not_le.mpr hbl
  obtain ⟨yy, hy⟩ : ∃ y : Nat → Value, y 1 = .ref (a 0 0) ∧ y 2 = .ref (a 20 0) := ⟨fun n => if n = 1 then .ref (a 0 0) else .ref (a 20 0), rfl, rfl⟩
  have hl0 := hl
  rw [← hy.1, ← hy.2] at hl
  obtain ⟨v, I, R0, G1, G', lam', hIR, K8, K9, h8, h9, hI⟩ := st_never (l := l) (D := D) (t := t) (κ := κ) (lam := lam) hfi hInv
  refine lv_aload_n hx hb dL_law_704 rfl (lv_at hl0 1 rfl) ?_
  refine law8 (As := []) (rest := []) C hIR K8 h8 gL_law_X8_never rfl ⟨rfl, rfl⟩ hdX8_never ⟨Nat.le_of_ble_eq_true rfl, Nat.le_of_ble_eq_true rfl⟩ hP hD hS rfl hl.1 (Nat.le_of_ble_eq_true rfl) dL_law_705 (Nat.le_refl _) (Nat.le_refl _) (fun H locs hP hD hS => ?_)
  refine W.eq (g2 := F0 m 708 ls [.int v]) rfl ?_
  refine lv_aload_n hx hb dL_law_708 rfl (lv_at hl0 2 rfl) ?_
  refine law9 (As := []) (rest := [.int v]) C K9 h9 gL_law_X9_never rfl ⟨rfl, rfl⟩ hdX9_never ⟨Nat.le_of_ble_eq_true rfl, Nat.le_of_ble_eq_true rfl⟩ hP hD hS rfl hl.1 (Nat.le_of_ble_eq_true rfl) dL_law_709 (Nat.le_refl _) (Nat.le_refl _) (fun H locs hP hD hS => ?_)
  refine W.eq (g2 := F0 m 712 ls [.int v, .int v]) rfl ?_
  refine lv_icmp_eq (tgt := 1246) hx hb dL_law_712 (by decide) (fun _ => ?_) (fun c2 => ?_)
  · exact kk G' lam' H locs hI hP hD hS
  · exact absurd rfl c2

set_option maxHeartbeats 4000000 in
set_option maxRecDepth 20000 in
theorem cs_19 : CaseAt 717 := by
  intro p l e s m below meth c H locs Q b L xs ls x3 i D t κ a fi fh G lam C hX hbl hL hi ex hfi hInv hP hD hS hl kk
  obtain ⟨hx, hb, hr, hml, hown, hts, hC0, hlk, hA⟩ := id C
  have hbA : ¬ (fun q : Nat => s.heap.size ≤ q) b := Nat.not_le.mpr hbl
  obtain ⟨yy, hy⟩ : ∃ y : Nat → Value, y 1 = .ref (a 0 0) ∧ y 2 = .ref (a 20 0) := ⟨fun n => if n = 1 then .ref (a 0 0) else .ref (a 20 0), rfl, rfl⟩
  have hl0 := hl
  rw [← hy.1, ← hy.2] at hl
  obtain ⟨v, I, R0, G1, G', lam', hIR, K8, K9, h8, h9, hI⟩ := st_oats (l := l) (D := D) (t := t) (κ := κ) (lam := lam) (p1 := xs (i + 1)) hfi hInv
  refine lv_aload_n hx hb dL_law_717 rfl (lv_at hl0 1 rfl) ?_
  refine ld 1 hx hb hX hbl hbA hL ex (by omega) hS (by decide) (y := yy) hl dL_law_718 dL_law_719 dL_law_720 dL_law_721 dL_law_722 ?_
  refine law8 (As := [.int (xs (i + 1))]) (rest := []) C hIR K8 h8 gL_law_X8_oats rfl ⟨rfl, rfl⟩ hdX8_oats ⟨Nat.le_of_ble_eq_true rfl, Nat.le_of_ble_eq_true rfl⟩ hP hD hS rfl hl.1 (Nat.le_of_ble_eq_true rfl) dL_law_723 (Nat.le_refl _) (Nat.le_refl _) (fun H locs hP hD hS => ?_)
  refine W.eq (g2 := F0 m 726 ls [.int v]) rfl ?_
  refine lv_aload_n hx hb dL_law_726 rfl (lv_at hl0 2 rfl) ?_
  refine ld 1 hx hb hX hbl hbA hL ex (by omega) hS (by decide) (y := yy) hl dL_law_727 dL_law_728 dL_law_729 dL_law_730 dL_law_731 ?_
  refine law9 (As := [.int (xs (i + 1))]) (rest := [.int v]) C K9 h9 gL_law_X9_oats rfl ⟨rfl, rfl⟩ hdX9_oats ⟨Nat.le_of_ble_eq_true rfl, Nat.le_of_ble_eq_true rfl⟩ hP hD hS rfl hl.1 (Nat.le_of_ble_eq_true rfl) dL_law_732 (Nat.le_refl _) (Nat.le_refl _) (fun H locs hP hD hS => ?_)
  refine W.eq (g2 := F0 m 735 ls [.int v, .int v]) rfl ?_
  refine lv_icmp_eq (tgt := 1246) hx hb dL_law_735 (by decide) (fun _ => ?_) (fun c2 => ?_)
  · exact kk G' lam' H locs hI hP hD hS
  · exact absurd rfl c2

set_option maxHeartbeats 4000000 in
set_option maxRecDepth 20000 in
theorem cs_20 : CaseAt 740 := by
  intro p l e s m below meth c H locs Q b L xs ls x3 i D t κ a fi fh G lam C hX hbl hL hi ex hfi hInv hP hD hS hl kk
  obtain ⟨hx, hb, hr, hml, hown, hts, hC0, hlk, hA⟩ := id C
  have hbA : ¬ (fun q : Nat => s.heap.size ≤ q) b := Nat.not_le.mpr hbl
  obtain ⟨yy, hy⟩ : ∃ y : Nat → Value, y 1 = .ref (a 0 0) ∧ y 2 = .ref (a 20 0) := ⟨fun n => if n = 1 then .ref (a 0 0) else .ref (a 20 0), rfl, rfl⟩
  have hl0 := hl
  rw [← hy.1, ← hy.2] at hl
  obtain ⟨v, I, R0, G1, G', lam', hIR, K8, K9, h8, h9, hI⟩ := st_room (l := l) (D := D) (t := t) (κ := κ) (lam := lam) hfi hInv
  refine lv_aload_n hx hb dL_law_740 rfl (lv_at hl0 1 rfl) ?_
  refine law8 (As := []) (rest := []) C hIR K8 h8 gL_law_X8_room rfl ⟨rfl, rfl⟩ hdX8_room ⟨Nat.le_of_ble_eq_true rfl, Nat.le_of_ble_eq_true rfl⟩ hP hD hS rfl hl.1 (Nat.le_of_ble_eq_true rfl) dL_law_741 (Nat.le_refl _) (Nat.le_refl _) (fun H locs hP hD hS => ?_)
  refine W.eq (g2 := F0 m 744 ls [.int v]) rfl ?_
  refine lv_aload_n hx hb dL_law_744 rfl (lv_at hl0 2 rfl) ?_
  refine law9 (As := []) (rest := [.int v]) C K9 h9 gL_law_X9_room rfl ⟨rfl, rfl⟩ hdX9_room ⟨Nat.le_of_ble_eq_true rfl, Nat.le_of_ble_eq_true rfl⟩ hP hD hS rfl hl.1 (Nat.le_of_ble_eq_true rfl) dL_law_745 (Nat.le_refl _) (Nat.le_refl _) (fun H locs hP hD hS => ?_)
  refine W.eq (g2 := F0 m 748 ls [.int v, .int v]) rfl ?_
  refine lv_icmp_eq (tgt := 1246) hx hb dL_law_748 (by decide) (fun _ => ?_) (fun c2 => ?_)
  · exact kk G' lam' H locs hI hP hD hS
  · exact absurd rfl c2

set_option maxHeartbeats 4000000 in
set_option maxRecDepth 20000 in
theorem cs_21 : CaseAt 753 := by
  intro p l e s m below meth c H locs Q b L xs ls x3 i D t κ a fi fh G lam C hX hbl hL hi ex hfi hInv hP hD hS hl kk
  obtain ⟨hx, hb, hr, hml, hown, hts, hC0, hlk, hA⟩ := id C
  have hbA : ¬ (fun q : Nat => s.heap.size ≤ q) b := Nat.not_le.mpr hbl
  obtain ⟨yy, hy⟩ : ∃ y : Nat → Value, y 1 = .ref (a 0 0) ∧ y 2 = .ref (a 20 0) := ⟨fun n => if n = 1 then .ref (a 0 0) else .ref (a 20 0), rfl, rfl⟩
  have hl0 := hl
  rw [← hy.1, ← hy.2] at hl
  obtain ⟨v, I, R0, G1, G', lam', hIR, K8, K9, h8, h9, hI⟩ := st_snow (l := l) (D := D) (t := t) (κ := κ) (lam := lam) hfi hInv
  refine lv_aload_n hx hb dL_law_753 rfl (lv_at hl0 1 rfl) ?_
  refine law8 (As := []) (rest := []) C hIR K8 h8 gL_law_X8_snow rfl ⟨rfl, rfl⟩ hdX8_snow ⟨Nat.le_of_ble_eq_true rfl, Nat.le_of_ble_eq_true rfl⟩ hP hD hS rfl hl.1 (Nat.le_of_ble_eq_true rfl) dL_law_754 (Nat.le_refl _) (Nat.le_refl _) (fun H locs hP hD hS => ?_)
  refine W.eq (g2 := F0 m 757 ls [.int v]) rfl ?_
  refine lv_aload_n hx hb dL_law_757 rfl (lv_at hl0 2 rfl) ?_
  refine law9 (As := []) (rest := [.int v]) C K9 h9 gL_law_X9_snow rfl ⟨rfl, rfl⟩ hdX9_snow ⟨Nat.le_of_ble_eq_true rfl, Nat.le_of_ble_eq_true rfl⟩ hP hD hS rfl hl.1 (Nat.le_of_ble_eq_true rfl) dL_law_758 (Nat.le_refl _) (Nat.le_refl _) (fun H locs hP hD hS => ?_)
  refine W.eq (g2 := F0 m 761 ls [.int v, .int v]) rfl ?_
  refine lv_icmp_eq (tgt := 1246) hx hb dL_law_761 (by decide) (fun _ => ?_) (fun c2 => ?_)
  · exact kk G' lam' H locs hI hP hD hS
  · exact absurd rfl c2

set_option maxHeartbeats 4000000 in
set_option maxRecDepth 20000 in
theorem cs_22 : CaseAt 766 := by
  intro p l e s m below meth c H locs Q b L xs ls x3 i D t κ a fi fh G lam C hX hbl hL hi ex hfi hInv hP hD hS hl kk
  obtain ⟨hx, hb, hr, hml, hown, hts, hC0, hlk, hA⟩ := id C
  have hbA : ¬ (fun q : Nat => s.heap.size ≤ q) b := Nat.not_le.mpr hbl
  obtain ⟨yy, hy⟩ : ∃ y : Nat → Value, y 1 = .ref (a 0 0) ∧ y 2 = .ref (a 20 0) := ⟨fun n => if n = 1 then .ref (a 0 0) else .ref (a 20 0), rfl, rfl⟩
  have hl0 := hl
  rw [← hy.1, ← hy.2] at hl
  obtain ⟨v, I, R0, G1, G', lam', hIR, K8, K9, h8, h9, hI⟩ := st_rain (l := l) (D := D) (t := t) (κ := κ) (lam := lam) (p1 := xs (i + 1)) hfi hInv
  refine lv_aload_n hx hb dL_law_766 rfl (lv_at hl0 1 rfl) ?_
  refine ld 1 hx hb hX hbl hbA hL ex (by omega) hS (by decide) (y := yy) hl dL_law_767 dL_law_768 dL_law_769 dL_law_770 dL_law_771 ?_
  refine law8 (As := [.int (xs (i + 1))]) (rest := []) C hIR K8 h8 gL_law_X8_rain rfl ⟨rfl, rfl⟩ hdX8_rain ⟨Nat.le_of_ble_eq_true rfl, Nat.le_of_ble_eq_true rfl⟩ hP hD hS rfl hl.1 (Nat.le_of_ble_eq_true rfl) dL_law_772 (Nat.le_refl _) (Nat.le_refl _) (fun H locs hP hD hS => ?_)
  refine W.eq (g2 := F0 m 775 ls [.int v]) rfl ?_
  refine lv_aload_n hx hb dL_law_775 rfl (lv_at hl0 2 rfl) ?_
  refine ld 1 hx hb hX hbl hbA hL ex (by omega) hS (by decide) (y := yy) hl dL_law_776 dL_law_777 dL_law_778 dL_law_779 dL_law_780 ?_
  refine law9 (As := [.int (xs (i + 1))]) (rest := [.int v]) C K9 h9 gL_law_X9_rain rfl ⟨rfl, rfl⟩ hdX9_rain ⟨Nat.le_of_ble_eq_true rfl, Nat.le_of_ble_eq_true rfl⟩ hP hD hS rfl hl.1 (Nat.le_of_ble_eq_true rfl) dL_law_781 (Nat.le_refl _) (Nat.le_refl _) (fun H locs hP hD hS => ?_)
  refine W.eq (g2 := F0 m 784 ls [.int v, .int v]) rfl ?_
  refine lv_icmp_eq (tgt := 1246) hx hb dL_law_784 (by decide) (fun _ => ?_) (fun c2 => ?_)
  · exact kk G' lam' H locs hI hP hD hS
  · exact absurd rfl c2

set_option maxHeartbeats 4000000 in
set_option maxRecDepth 20000 in
theorem cs_23 : CaseAt 789 := by
  intro p l e s m below meth c H locs Q b L xs ls x3 i D t κ a fi fh G lam C hX hbl hL hi ex hfi hInv hP hD hS hl kk
  obtain ⟨hx, hb, hr, hml, hown, hts, hC0, hlk, hA⟩ := id C
  have hbA : ¬ (fun q : Nat => s.heap.size ≤ q) b := Nat.not_le.mpr hbl
  obtain ⟨yy, hy⟩ : ∃ y : Nat → Value, y 1 = .ref (a 0 0) ∧ y 2 = .ref (a 20 0) := ⟨fun n => if n = 1 then .ref (a 0 0) else .ref (a 20 0), rfl, rfl⟩
  have hl0 := hl
  rw [← hy.1, ← hy.2] at hl
  obtain ⟨v, I, R0, G1, G', lam', hIR, K8, K9, h8, h9, hI⟩ := st_luck (l := l) (D := D) (t := t) (κ := κ) (lam := lam) (p1 := xs (i + 1)) (p2 := xs (i + 2)) (p3 := xs (i + 3)) hfi hInv
  refine lv_aload_n hx hb dL_law_789 rfl (lv_at hl0 1 rfl) ?_
  refine ld 1 hx hb hX hbl hbA hL ex (by omega) hS (by decide) (y := yy) hl dL_law_790 dL_law_791 dL_law_792 dL_law_793 dL_law_794 ?_
  refine ld 2 hx hb hX hbl hbA hL ex (by omega) hS (by decide) (y := yy) hl dL_law_795 dL_law_796 dL_law_797 dL_law_798 dL_law_799 ?_
  refine ld 3 hx hb hX hbl hbA hL ex (by omega) hS (by decide) (y := yy) hl dL_law_800 dL_law_801 dL_law_802 dL_law_803 dL_law_804 ?_
  refine law8 (As := [.int (xs (i + 1)), .int (xs (i + 2)), .int (xs (i + 3))]) (rest := []) C hIR K8 h8 gL_law_X8_luck rfl ⟨rfl, rfl⟩ hdX8_luck ⟨Nat.le_of_ble_eq_true rfl, Nat.le_of_ble_eq_true rfl⟩ hP hD hS rfl hl.1 (Nat.le_of_ble_eq_true rfl) dL_law_805 (Nat.le_refl _) (Nat.le_refl _) (fun H locs hP hD hS => ?_)
  refine W.eq (g2 := F0 m 808 ls [.long v]) rfl ?_
  refine lv_aload_n hx hb dL_law_808 rfl (lv_at hl0 2 rfl) ?_
  refine ld 1 hx hb hX hbl hbA hL ex (by omega) hS (by decide) (y := yy) hl dL_law_809 dL_law_810 dL_law_811 dL_law_812 dL_law_813 ?_
  refine ld 2 hx hb hX hbl hbA hL ex (by omega) hS (by decide) (y := yy) hl dL_law_814 dL_law_815 dL_law_816 dL_law_817 dL_law_818 ?_
  refine ld 3 hx hb hX hbl hbA hL ex (by omega) hS (by decide) (y := yy) hl dL_law_819 dL_law_820 dL_law_821 dL_law_822 dL_law_823 ?_
  refine law9 (As := [.int (xs (i + 1)), .int (xs (i + 2)), .int (xs (i + 3))]) (rest := [.long v]) C K9 h9 gL_law_X9_luck rfl ⟨rfl, rfl⟩ hdX9_luck ⟨Nat.le_of_ble_eq_true rfl, Nat.le_of_ble_eq_true rfl⟩ hP hD hS rfl hl.1 (Nat.le_of_ble_eq_true rfl) dL_law_824 (Nat.le_refl _) (Nat.le_refl _) (fun H locs hP hD hS => ?_)
  refine W.eq (g2 := F0 m 827 ls [.long v, .long v]) rfl ?_
  refine W.lcmp hx hb dL_law_827 ?_
  refine lv_if_eq (tgt := 1246) hx hb dL_law_828 (by decide) (fun _ => ?_) (fun c2 => ?_)
  · exact kk G' lam' H locs hI hP hD hS
  · exact absurd (lc_0 v) c2

set_option maxHeartbeats 4000000 in
set_option maxRecDepth 20000 in
theorem cs_24 : CaseAt 833 := by
  intro p l e s m below meth c H locs Q b L xs ls x3 i D t κ a fi fh G lam C hX hbl hL hi ex hfi hInv hP hD hS hl kk
  obtain ⟨hx, hb, hr, hml, hown, hts, hC0, hlk, hA⟩ := id C
  have hbA : ¬ (fun q : Nat => s.heap.size ≤ q) b := Nat.not_le.mpr hbl
  obtain ⟨yy, hy⟩ : ∃ y : Nat → Value, y 1 = .ref (a 0 0) ∧ y 2 = .ref (a 20 0) := ⟨fun n => if n = 1 then .ref (a 0 0) else .ref (a 20 0), rfl, rfl⟩
  have hl0 := hl
  rw [← hy.1, ← hy.2] at hl
  obtain ⟨v, I, R0, G1, G', lam', hIR, K8, K9, h8, h9, hI⟩ := st_mean (l := l) (D := D) (t := t) (κ := κ) (lam := lam) (p1 := xs (i + 1)) (p2 := xs (i + 2)) hfi hInv
  refine lv_aload_n hx hb dL_law_833 rfl (lv_at hl0 1 rfl) ?_
  refine ld 1 hx hb hX hbl hbA hL ex (by omega) hS (by decide) (y := yy) hl dL_law_834 dL_law_835 dL_law_836 dL_law_837 dL_law_838 ?_
  refine ld 2 hx hb hX hbl hbA hL ex (by omega) hS (by decide) (y := yy) hl dL_law_839 dL_law_840 dL_law_841 dL_law_842 dL_law_843 ?_
  refine law8 (As := [.int (xs (i + 1)), .int (xs (i + 2))]) (rest := []) C hIR K8 h8 gL_law_X8_mean rfl ⟨rfl, rfl⟩ hdX8_mean ⟨Nat.le_of_ble_eq_true rfl, Nat.le_of_ble_eq_true rfl⟩ hP hD hS rfl hl.1 (Nat.le_of_ble_eq_true rfl) dL_law_844 (Nat.le_refl _) (Nat.le_refl _) (fun H locs hP hD hS => ?_)
  refine W.eq (g2 := F0 m 847 ls [.long v]) rfl ?_
  refine lv_aload_n hx hb dL_law_847 rfl (lv_at hl0 2 rfl) ?_
  refine ld 1 hx hb hX hbl hbA hL ex (by omega) hS (by decide) (y := yy) hl dL_law_848 dL_law_849 dL_law_850 dL_law_851 dL_law_852 ?_
  refine ld 2 hx hb hX hbl hbA hL ex (by omega) hS (by decide) (y := yy) hl dL_law_853 dL_law_854 dL_law_855 dL_law_856 dL_law_857 ?_
  refine law9 (As := [.int (xs (i + 1)), .int (xs (i + 2))]) (rest := [.long v]) C K9 h9 gL_law_X9_mean rfl ⟨rfl, rfl⟩ hdX9_mean ⟨Nat.le_of_ble_eq_true rfl, Nat.le_of_ble_eq_true rfl⟩ hP hD hS rfl hl.1 (Nat.le_of_ble_eq_true rfl) dL_law_858 (Nat.le_refl _) (Nat.le_refl _) (fun H locs hP hD hS => ?_)
  refine W.eq (g2 := F0 m 861 ls [.long v, .long v]) rfl ?_
  refine W.lcmp hx hb dL_law_861 ?_
  refine lv_if_eq (tgt := 1246) hx hb dL_law_862 (by decide) (fun _ => ?_) (fun c2 => ?_)
  · exact kk G' lam' H locs hI hP hD hS
  · exact absurd (lc_0 v) c2

set_option maxHeartbeats 4000000 in
set_option maxRecDepth 20000 in
theorem cs_25 : CaseAt 867 := by
  intro p l e s m below meth c H locs Q b L xs ls x3 i D t κ a fi fh G lam C hX hbl hL hi ex hfi hInv hP hD hS hl kk
  obtain ⟨hx, hb, hr, hml, hown, hts, hC0, hlk, hA⟩ := id C
  have hbA : ¬ (fun q : Nat => s.heap.size ≤ q) b := Nat.not_le.mpr hbl
  obtain ⟨yy, hy⟩ : ∃ y : Nat → Value, y 1 = .ref (a 0 0) ∧ y 2 = .ref (a 20 0) := ⟨fun n => if n = 1 then .ref (a 0 0) else .ref (a 20 0), rfl, rfl⟩
  have hl0 := hl
  rw [← hy.1, ← hy.2] at hl
  obtain ⟨v, I, R0, G1, G', lam', hIR, K8, K9, h8, h9, hI⟩ := st_see (l := l) (D := D) (t := t) (κ := κ) (lam := lam) (p1 := xs (i + 1)) (p2 := xs (i + 2)) hfi hInv
  refine lv_aload_n hx hb dL_law_867 rfl (lv_at hl0 1 rfl) ?_
  refine ld 1 hx hb hX hbl hbA hL ex (by omega) hS (by decide) (y := yy) hl dL_law_868 dL_law_869 dL_law_870 dL_law_871 dL_law_872 ?_
  refine ld 2 hx hb hX hbl hbA hL ex (by omega) hS (by decide) (y := yy) hl dL_law_873 dL_law_874 dL_law_875 dL_law_876 dL_law_877 ?_
  refine law8 (As := [.int (xs (i + 1)), .int (xs (i + 2))]) (rest := []) C hIR K8 h8 gL_law_X8_see rfl ⟨rfl, rfl⟩ hdX8_see ⟨Nat.le_of_ble_eq_true rfl, Nat.le_of_ble_eq_true rfl⟩ hP hD hS rfl hl.1 (Nat.le_of_ble_eq_true rfl) dL_law_878 (Nat.le_refl _) (Nat.le_refl _) (fun H locs hP hD hS => ?_)
  refine W.eq (g2 := F0 m 881 ls [.int v]) rfl ?_
  refine lv_aload_n hx hb dL_law_881 rfl (lv_at hl0 2 rfl) ?_
  refine ld 1 hx hb hX hbl hbA hL ex (by omega) hS (by decide) (y := yy) hl dL_law_882 dL_law_883 dL_law_884 dL_law_885 dL_law_886 ?_
  refine ld 2 hx hb hX hbl hbA hL ex (by omega) hS (by decide) (y := yy) hl dL_law_887 dL_law_888 dL_law_889 dL_law_890 dL_law_891 ?_
  refine law9 (As := [.int (xs (i + 1)), .int (xs (i + 2))]) (rest := [.int v]) C K9 h9 gL_law_X9_see rfl ⟨rfl, rfl⟩ hdX9_see ⟨Nat.le_of_ble_eq_true rfl, Nat.le_of_ble_eq_true rfl⟩ hP hD hS rfl hl.1 (Nat.le_of_ble_eq_true rfl) dL_law_892 (Nat.le_refl _) (Nat.le_refl _) (fun H locs hP hD hS => ?_)
  refine W.eq (g2 := F0 m 895 ls [.int v, .int v]) rfl ?_
  refine lv_icmp_eq (tgt := 1246) hx hb dL_law_895 (by decide) (fun _ => ?_) (fun c2 => ?_)
  · exact kk G' lam' H locs hI hP hD hS
  · exact absurd rfl c2

set_option maxHeartbeats 4000000 in
set_option maxRecDepth 20000 in
theorem cs_26 : CaseAt 900 := by
  intro p l e s m below meth c H locs Q b L xs ls x3 i D t κ a fi fh G lam C hX hbl hL hi ex hfi hInv hP hD hS hl kk
  obtain ⟨hx, hb, hr, hml, hown, hts, hC0, hlk, hA⟩ := id C
  have hbA : ¬ (fun q : Nat => s.heap.size ≤ q) b := Nat.not_le.mpr hbl
  obtain ⟨yy, hy⟩ : ∃ y : Nat → Value, y 1 = .ref (a 0 0) ∧ y 2 = .ref (a 20 0) := ⟨fun n => if n = 1 then .ref (a 0 0) else .ref (a 20 0), rfl, rfl⟩
  have hl0 := hl
  rw [← hy.1, ← hy.2] at hl
  obtain ⟨v, I, R0, G1, G', lam', hIR, K8, K9, h8, h9, hI⟩ := st_forget (l := l) (D := D) (t := t) (κ := κ) (lam := lam) (p1 := xs (i + 1)) hfi hInv
  refine lv_aload_n hx hb dL_law_900 rfl (lv_at hl0 1 rfl) ?_
  refine ld 1 hx hb hX hbl hbA hL ex (by omega) hS (by decide) (y := yy) hl dL_law_901 dL_law_902 dL_law_903 dL_law_904 dL_law_905 ?_
  refine law8 (As := [.int (xs (i + 1))]) (rest := []) C hIR K8 h8 gL_law_X8_forget rfl ⟨rfl, rfl⟩ hdX8_forget ⟨Nat.le_of_ble_eq_true rfl, Nat.le_of_ble_eq_true rfl⟩ hP hD hS rfl hl.1 (Nat.le_of_ble_eq_true rfl) dL_law_906 (Nat.le_refl _) (Nat.le_refl _) (fun H locs hP hD hS => ?_)
  refine W.eq (g2 := F0 m 909 ls [.int v]) rfl ?_
  refine lv_aload_n hx hb dL_law_909 rfl (lv_at hl0 2 rfl) ?_
  refine ld 1 hx hb hX hbl hbA hL ex (by omega) hS (by decide) (y := yy) hl dL_law_910 dL_law_911 dL_law_912 dL_law_913 dL_law_914 ?_
  refine law9 (As := [.int (xs (i + 1))]) (rest := [.int v]) C K9 h9 gL_law_X9_forget rfl ⟨rfl, rfl⟩ hdX9_forget ⟨Nat.le_of_ble_eq_true rfl, Nat.le_of_ble_eq_true rfl⟩ hP hD hS rfl hl.1 (Nat.le_of_ble_eq_true rfl) dL_law_915 (Nat.le_refl _) (Nat.le_refl _) (fun H locs hP hD hS => ?_)
  refine W.eq (g2 := F0 m 918 ls [.int v, .int v]) rfl ?_
  refine lv_icmp_eq (tgt := 1246) hx hb dL_law_918 (by decide) (fun _ => ?_) (fun c2 => ?_)
  · exact kk G' lam' H locs hI hP hD hS
  · exact absurd rfl c2

set_option maxHeartbeats 4000000 in
set_option maxRecDepth 20000 in
theorem cs_27 : CaseAt 923 := by
  intro p l e s m below meth c H locs Q b L xs ls x3 i D t κ a fi fh G lam C hX hbl hL hi ex hfi hInv hP hD hS hl kk
  obtain ⟨hx, hb, hr, hml, hown, hts, hC0, hlk, hA⟩ := id C
  have hbA : ¬ (fun q : Nat => s.heap.size ≤ q) b := Nat.not_le.mpr hbl
  obtain ⟨yy, hy⟩ : ∃ y : Nat → Value, y 1 = .ref (a 0 0) ∧ y 2 = .ref (a 20 0) := ⟨fun n => if n = 1 then .ref (a 0 0) else .ref (a 20 0), rfl, rfl⟩
  have hl0 := hl
  rw [← hy.1, ← hy.2] at hl
  obtain ⟨v, I, R0, G1, G', lam', hIR, K8, K9, h8, h9, hI⟩ := st_turned (l := l) (D := D) (t := t) (κ := κ) (lam := lam) hfi hInv
  refine lv_aload_n hx hb dL_law_923 rfl (lv_at hl0 1 rfl) ?_
  refine law8 (As := []) (rest := []) C hIR K8 h8 gL_law_X8_turned rfl ⟨rfl, rfl⟩ hdX8_turned ⟨Nat.le_of_ble_eq_true rfl, Nat.le_of_ble_eq_true rfl⟩ hP hD hS rfl hl.1 (Nat.le_of_ble_eq_true rfl) dL_law_924 (Nat.le_refl _) (Nat.le_refl _) (fun H locs hP hD hS => ?_)
  refine W.eq (g2 := F0 m 927 ls [.int v]) rfl ?_
  refine lv_aload_n hx hb dL_law_927 rfl (lv_at hl0 2 rfl) ?_
  refine law9 (As := []) (rest := [.int v]) C K9 h9 gL_law_X9_turned rfl ⟨rfl, rfl⟩ hdX9_turned ⟨Nat.le_of_ble_eq_true rfl, Nat.le_of_ble_eq_true rfl⟩ hP hD hS rfl hl.1 (Nat.le_of_ble_eq_true rfl) dL_law_928 (Nat.le_refl _) (Nat.le_refl _) (fun H locs hP hD hS => ?_)
  refine W.eq (g2 := F0 m 931 ls [.int v, .int v]) rfl ?_
  refine lv_icmp_eq (tgt := 1246) hx hb dL_law_931 (by decide) (fun _ => ?_) (fun c2 => ?_)
  · exact kk G' lam' H locs hI hP hD hS
  · exact absurd rfl c2

set_option maxHeartbeats 4000000 in
set_option maxRecDepth 20000 in
theorem cs_28 : CaseAt 936 := by
  intro p l e s m below meth c H locs Q b L xs ls x3 i D t κ a fi fh G lam C hX hbl hL hi ex hfi hInv hP hD hS hl kk
  obtain ⟨hx, hb, hr, hml, hown, hts, hC0, hlk, hA⟩ := id C
  have hbA : ¬ (fun q : Nat => s.heap.size ≤ q) b := Nat.not_le.mpr hbl
  obtain ⟨yy, hy⟩ : ∃ y : Nat → Value, y 1 = .ref (a 0 0) ∧ y 2 = .ref (a 20 0) := ⟨fun n => if n = 1 then .ref (a 0 0) else .ref (a 20 0), rfl, rfl⟩
  have hl0 := hl
  rw [← hy.1, ← hy.2] at hl
  obtain ⟨v, I, R0, G1, G', lam', hIR, K8, K9, h8, h9, hI⟩ := st_laws (l := l) (D := D) (t := t) (κ := κ) (lam := lam) (p1 := xs (i + 1)) hfi hInv
  refine lv_aload_n hx hb dL_law_936 rfl (lv_at hl0 1 rfl) ?_
  refine ld 1 hx hb hX hbl hbA hL ex (by omega) hS (by decide) (y := yy) hl dL_law_937 dL_law_938 dL_law_939 dL_law_940 dL_law_941 ?_
  refine law8 (As := [.int (xs (i + 1))]) (rest := []) C hIR K8 h8 gL_law_X8_laws rfl ⟨rfl, rfl⟩ hdX8_laws ⟨Nat.le_of_ble_eq_true rfl, Nat.le_of_ble_eq_true rfl⟩ hP hD hS rfl hl.1 (Nat.le_of_ble_eq_true rfl) dL_law_942 (Nat.le_refl _) (Nat.le_refl _) (fun H locs hP hD hS => ?_)
  refine W.eq (g2 := F0 m 945 ls [.int v]) rfl ?_
  refine lv_aload_n hx hb dL_law_945 rfl (lv_at hl0 2 rfl) ?_
  refine ld 1 hx hb hX hbl hbA hL ex (by omega) hS (by decide) (y := yy) hl dL_law_946 dL_law_947 dL_law_948 dL_law_949 dL_law_950 ?_
  refine law9 (As := [.int (xs (i + 1))]) (rest := [.int v]) C K9 h9 gL_law_X9_laws rfl ⟨rfl, rfl⟩ hdX9_laws ⟨Nat.le_of_ble_eq_true rfl, Nat.le_of_ble_eq_true rfl⟩ hP hD hS rfl hl.1 (Nat.le_of_ble_eq_true rfl) dL_law_951 (Nat.le_refl _) (Nat.le_refl _) (fun H locs hP hD hS => ?_)
  refine W.eq (g2 := F0 m 954 ls [.int v, .int v]) rfl ?_
  refine lv_icmp_eq (tgt := 1246) hx hb dL_law_954 (by decide) (fun _ => ?_) (fun c2 => ?_)
  · exact kk G' lam' H locs hI hP hD hS
  · exact absurd rfl c2

set_option maxHeartbeats 4000000 in
set_option maxRecDepth 20000 in
theorem cs_29 : CaseAt 959 := by
  intro p l e s m below meth c H locs Q b L xs ls x3 i D t κ a fi fh G lam C hX hbl hL hi ex hfi hInv hP hD hS hl kk
  obtain ⟨hx, hb, hr, hml, hown, hts, hC0, hlk, hA⟩ := id C
  have hbA : ¬ (fun q : Nat => s.heap.size ≤ q) b := Nat.not_le.mpr hbl
  obtain ⟨yy, hy⟩ : ∃ y : Nat → Value, y 1 = .ref (a 0 0) ∧ y 2 = .ref (a 20 0) := ⟨fun n => if n = 1 then .ref (a 0 0) else .ref (a 20 0), rfl, rfl⟩
  have hl0 := hl
  rw [← hy.1, ← hy.2] at hl
  obtain ⟨v, I, R0, G1, G', lam', hIR, K8, K9, h8, h9, hI⟩ := st_look (l := l) (D := D) (t := t) (κ := κ) (lam := lam) (p1 := xs (i + 1)) hfi hInv
  refine lv_aload_n hx hb dL_law_959 rfl (lv_at hl0 1 rfl) ?_
  refine ld 1 hx hb hX hbl hbA hL ex (by omega) hS (by decide) (y := yy) hl dL_law_960 dL_law_961 dL_law_962 dL_law_963 dL_law_964 ?_
  refine law8 (As := [.int (xs (i + 1))]) (rest := []) C hIR K8 h8 gL_law_X8_look rfl ⟨rfl, rfl⟩ hdX8_look ⟨Nat.le_of_ble_eq_true rfl, Nat.le_of_ble_eq_true rfl⟩ hP hD hS rfl hl.1 (Nat.le_of_ble_eq_true rfl) dL_law_965 (Nat.le_refl _) (Nat.le_refl _) (fun H locs hP hD hS => ?_)
  refine W.eq (g2 := F0 m 968 ls [.int v]) rfl ?_
  refine lv_aload_n hx hb dL_law_968 rfl (lv_at hl0 2 rfl) ?_
  refine ld 1 hx hb hX hbl hbA hL ex (by omega) hS (by decide) (y := yy) hl dL_law_969 dL_law_970 dL_law_971 dL_law_972 dL_law_973 ?_
  refine law9 (As := [.int (xs (i + 1))]) (rest := [.int v]) C K9 h9 gL_law_X9_look rfl ⟨rfl, rfl⟩ hdX9_look ⟨Nat.le_of_ble_eq_true rfl, Nat.le_of_ble_eq_true rfl⟩ hP hD hS rfl hl.1 (Nat.le_of_ble_eq_true rfl) dL_law_974 (Nat.le_refl _) (Nat.le_refl _) (fun H locs hP hD hS => ?_)
  refine W.eq (g2 := F0 m 977 ls [.int v, .int v]) rfl ?_
  refine lv_icmp_eq (tgt := 1246) hx hb dL_law_977 (by decide) (fun _ => ?_) (fun c2 => ?_)
  · exact kk G' lam' H locs hI hP hD hS
  · exact absurd rfl c2

set_option maxHeartbeats 4000000 in
set_option maxRecDepth 20000 in
theorem cs_30 : CaseAt 982 := by
  intro p l e s m below meth c H locs Q b L xs ls x3 i D t κ a fi fh G lam C hX hbl hL hi ex hfi hInv hP hD hS hl kk
  obtain ⟨hx, hb, hr, hml, hown, hts, hC0, hlk, hA⟩ := id C
  have hbA : ¬ (fun q : Nat => s.heap.size ≤ q) b := Nat.not_le.mpr hbl
  obtain ⟨yy, hy⟩ : ∃ y : Nat → Value, y 1 = .ref (a 0 0) ∧ y 2 = .ref (a 20 0) := ⟨fun n => if n = 1 then .ref (a 0 0) else .ref (a 20 0), rfl, rfl⟩
  have hl0 := hl
  rw [← hy.1, ← hy.2] at hl
  obtain ⟨v, I, R0, G1, G', lam', hIR, K8, K9, h8, h9, hI⟩ := st_drift (l := l) (D := D) (t := t) (κ := κ) (lam := lam) (p1 := xs (i + 1)) (p2 := xs (i + 2)) (p3 := xs (i + 3)) hfi hInv
  refine lv_aload_n hx hb dL_law_982 rfl (lv_at hl0 1 rfl) ?_
  refine ld 1 hx hb hX hbl hbA hL ex (by omega) hS (by decide) (y := yy) hl dL_law_983 dL_law_984 dL_law_985 dL_law_986 dL_law_987 ?_
  refine ld 2 hx hb hX hbl hbA hL ex (by omega) hS (by decide) (y := yy) hl dL_law_988 dL_law_989 dL_law_990 dL_law_991 dL_law_992 ?_
  refine ld 3 hx hb hX hbl hbA hL ex (by omega) hS (by decide) (y := yy) hl dL_law_993 dL_law_994 dL_law_995 dL_law_996 dL_law_997 ?_
  refine law8 (As := [.int (xs (i + 1)), .int (xs (i + 2)), .int (xs (i + 3))]) (rest := []) C hIR K8 h8 gL_law_X8_drift rfl ⟨rfl, rfl⟩ hdX8_drift ⟨Nat.le_of_ble_eq_true rfl, Nat.le_of_ble_eq_true rfl⟩ hP hD hS rfl hl.1 (Nat.le_of_ble_eq_true rfl) dL_law_998 (Nat.le_refl _) (Nat.le_refl _) (fun H locs hP hD hS => ?_)
  refine W.eq (g2 := F0 m 1001 ls [.int v]) rfl ?_
  refine lv_aload_n hx hb dL_law_1001 rfl (lv_at hl0 2 rfl) ?_
  refine ld 1 hx hb hX hbl hbA hL ex (by omega) hS (by decide) (y := yy) hl dL_law_1002 dL_law_1003 dL_law_1004 dL_law_1005 dL_law_1006 ?_
  refine ld 2 hx hb hX hbl hbA hL ex (by omega) hS (by decide) (y := yy) hl dL_law_1007 dL_law_1008 dL_law_1009 dL_law_1010 dL_law_1011 ?_
  refine ld 3 hx hb hX hbl hbA hL ex (by omega) hS (by decide) (y := yy) hl dL_law_1012 dL_law_1013 dL_law_1014 dL_law_1015 dL_law_1016 ?_
  refine law9 (As := [.int (xs (i + 1)), .int (xs (i + 2)), .int (xs (i + 3))]) (rest := [.int v]) C K9 h9 gL_law_X9_drift rfl ⟨rfl, rfl⟩ hdX9_drift ⟨Nat.le_of_ble_eq_true rfl, Nat.le_of_ble_eq_true rfl⟩ hP hD hS rfl hl.1 (Nat.le_of_ble_eq_true rfl) dL_law_1017 (Nat.le_refl _) (Nat.le_refl _) (fun H locs hP hD hS => ?_)
  refine W.eq (g2 := F0 m 1020 ls [.int v, .int v]) rfl ?_
  refine lv_icmp_eq (tgt := 1246) hx hb dL_law_1020 (by decide) (fun _ => ?_) (fun c2 => ?_)
  · exact kk G' lam' H locs hI hP hD hS
  · exact absurd rfl c2

set_option maxHeartbeats 4000000 in
set_option maxRecDepth 20000 in
theorem cs_31 : CaseAt 1025 := by
  intro p l e s m below meth c H locs Q b L xs ls x3 i D t κ a fi fh G lam C hX hbl hL hi ex hfi hInv hP hD hS hl kk
  obtain ⟨hx, hb, hr, hml, hown, hts, hC0, hlk, hA⟩ := id C
  have hbA : ¬ (fun q : Nat => s.heap.size ≤ q) b := Nat.not_le.mpr hbl
  obtain ⟨yy, hy⟩ : ∃ y : Nat → Value, y 1 = .ref (a 0 0) ∧ y 2 = .ref (a 20 0) := ⟨fun n => if n = 1 then .ref (a 0 0) else .ref (a 20 0), rfl, rfl⟩
  have hl0 := hl
  rw [← hy.1, ← hy.2] at hl
  obtain ⟨v, I, R0, G1, G', lam', hIR, K8, K9, h8, h9, hI⟩ := st_keep (l := l) (D := D) (t := t) (κ := κ) (lam := lam) (p1 := xs (i + 1)) hfi hInv
  refine lv_aload_n hx hb dL_law_1025 rfl (lv_at hl0 1 rfl) ?_
  refine ld 1 hx hb hX hbl hbA hL ex (by omega) hS (by decide) (y := yy) hl dL_law_1026 dL_law_1027 dL_law_1028 dL_law_1029 dL_law_1030 ?_
  refine law8 (As := [.int (xs (i + 1))]) (rest := []) C hIR K8 h8 gL_law_X8_keep rfl ⟨rfl, rfl⟩ hdX8_keep ⟨Nat.le_of_ble_eq_true rfl, Nat.le_of_ble_eq_true rfl⟩ hP hD hS rfl hl.1 (Nat.le_of_ble_eq_true rfl) dL_law_1031 (Nat.le_refl _) (Nat.le_refl _) (fun H locs hP hD hS => ?_)
  refine W.eq (g2 := F0 m 1034 ls [.int v]) rfl ?_
  refine lv_aload_n hx hb dL_law_1034 rfl (lv_at hl0 2 rfl) ?_
  refine ld 1 hx hb hX hbl hbA hL ex (by omega) hS (by decide) (y := yy) hl dL_law_1035 dL_law_1036 dL_law_1037 dL_law_1038 dL_law_1039 ?_
  refine law9 (As := [.int (xs (i + 1))]) (rest := [.int v]) C K9 h9 gL_law_X9_keep rfl ⟨rfl, rfl⟩ hdX9_keep ⟨Nat.le_of_ble_eq_true rfl, Nat.le_of_ble_eq_true rfl⟩ hP hD hS rfl hl.1 (Nat.le_of_ble_eq_true rfl) dL_law_1040 (Nat.le_refl _) (Nat.le_refl _) (fun H locs hP hD hS => ?_)
  refine W.eq (g2 := F0 m 1043 ls [.int v, .int v]) rfl ?_
  refine lv_icmp_eq (tgt := 1246) hx hb dL_law_1043 (by decide) (fun _ => ?_) (fun c2 => ?_)
  · exact kk G' lam' H locs hI hP hD hS
  · exact absurd rfl c2

set_option maxHeartbeats 4000000 in
set_option maxRecDepth 20000 in
theorem cs_32 : CaseAt 1048 := by
  intro p l e s m below meth c H locs Q b L xs ls x3 i D t κ a fi fh G lam C hX hbl hL hi ex hfi hInv hP hD hS hl kk
  obtain ⟨hx, hb, hr, hml, hown, hts, hC0, hlk, hA⟩ := id C
  have hbA : ¬ (fun q : Nat => s.heap.size ≤ q) b := Nat.not_le.mpr hbl
  obtain ⟨yy, hy⟩ : ∃ y : Nat → Value, y 1 = .ref (a 0 0) ∧ y 2 = .ref (a 20 0) := ⟨fun n => if n = 1 then .ref (a 0 0) else .ref (a 20 0), rfl, rfl⟩
  have hl0 := hl
  rw [← hy.1, ← hy.2] at hl
  obtain ⟨v, I, R0, G1, G', lam', hIR, K8, K9, h8, h9, hI⟩ := st_back (l := l) (D := D) (t := t) (κ := κ) (lam := lam) (p1 := xs (i + 1)) hfi hInv
  refine lv_aload_n hx hb dL_law_1048 rfl (lv_at hl0 1 rfl) ?_
  refine ld 1 hx hb hX hbl hbA hL ex (by omega) hS (by decide) (y := yy) hl dL_law_1049 dL_law_1050 dL_law_1051 dL_law_1052 dL_law_1053 ?_
  refine law8 (As := [.int (xs (i + 1))]) (rest := []) C hIR K8 h8 gL_law_X8_back rfl ⟨rfl, rfl⟩ hdX8_back ⟨Nat.le_of_ble_eq_true rfl, Nat.le_of_ble_eq_true rfl⟩ hP hD hS rfl hl.1 (Nat.le_of_ble_eq_true rfl) dL_law_1054 (Nat.le_refl _) (Nat.le_refl _) (fun H locs hP hD hS => ?_)
  refine W.eq (g2 := F0 m 1057 ls [.int v]) rfl ?_
  refine lv_aload_n hx hb dL_law_1057 rfl (lv_at hl0 2 rfl) ?_
  refine ld 1 hx hb hX hbl hbA hL ex (by omega) hS (by decide) (y := yy) hl dL_law_1058 dL_law_1059 dL_law_1060 dL_law_1061 dL_law_1062 ?_
  refine law9 (As := [.int (xs (i + 1))]) (rest := [.int v]) C K9 h9 gL_law_X9_back rfl ⟨rfl, rfl⟩ hdX9_back ⟨Nat.le_of_ble_eq_true rfl, Nat.le_of_ble_eq_true rfl⟩ hP hD hS rfl hl.1 (Nat.le_of_ble_eq_true rfl) dL_law_1063 (Nat.le_refl _) (Nat.le_refl _) (fun H locs hP hD hS => ?_)
  refine W.eq (g2 := F0 m 1066 ls [.int v, .int v]) rfl ?_
  refine lv_icmp_eq (tgt := 1246) hx hb dL_law_1066 (by decide) (fun _ => ?_) (fun c2 => ?_)
  · exact kk G' lam' H locs hI hP hD hS
  · exact absurd rfl c2

set_option maxHeartbeats 4000000 in
set_option maxRecDepth 20000 in
theorem cs_33 : CaseAt 1071 := by
  intro p l e s m below meth c H locs Q b L xs ls x3 i D t κ a fi fh G lam C hX hbl hL hi ex hfi hInv hP hD hS hl kk
  obtain ⟨hx, hb, hr, hml, hown, hts, hC0, hlk, hA⟩ := id C
  have hbA : ¬ (fun q : Nat => s.heap.size ≤ q) b := Nat.not_le.mpr hbl
  obtain ⟨yy, hy⟩ : ∃ y : Nat → Value, y 1 = .ref (a 0 0) ∧ y 2 = .ref (a 20 0) := ⟨fun n => if n = 1 then .ref (a 0 0) else .ref (a 20 0), rfl, rfl⟩
  have hl0 := hl
  rw [← hy.1, ← hy.2] at hl
  obtain ⟨v, I, R0, G1, G', lam', hIR, K8, K9, h8, h9, hI⟩ := st_sheet (l := l) (D := D) (t := t) (κ := κ) (lam := lam) (p1 := xs (i + 1)) (p2 := xs (i + 2)) (p3 := xs (i + 3)) hfi hInv
  refine lv_aload_n hx hb dL_law_1071 rfl (lv_at hl0 1 rfl) ?_
  refine ld 1 hx hb hX hbl hbA hL ex (by omega) hS (by decide) (y := yy) hl dL_law_1072 dL_law_1073 dL_law_1074 dL_law_1075 dL_law_1076 ?_
  refine ld 2 hx hb hX hbl hbA hL ex (by omega) hS (by decide) (y := yy) hl dL_law_1077 dL_law_1078 dL_law_1079 dL_law_1080 dL_law_1081 ?_
  refine ld 3 hx hb hX hbl hbA hL ex (by omega) hS (by decide) (y := yy) hl dL_law_1082 dL_law_1083 dL_law_1084 dL_law_1085 dL_law_1086 ?_
  refine law8 (As := [.int (xs (i + 1)), .int (xs (i + 2)), .int (xs (i + 3))]) (rest := []) C hIR K8 h8 gL_law_X8_sheet rfl ⟨rfl, rfl⟩ hdX8_sheet ⟨Nat.le_of_ble_eq_true rfl, Nat.le_of_ble_eq_true rfl⟩ hP hD hS rfl hl.1 (Nat.le_of_ble_eq_true rfl) dL_law_1087 (Nat.le_refl _) (Nat.le_refl _) (fun H locs hP hD hS => ?_)
  refine W.eq (g2 := F0 m 1090 ls [.int v]) rfl ?_
  refine lv_aload_n hx hb dL_law_1090 rfl (lv_at hl0 2 rfl) ?_
  refine ld 1 hx hb hX hbl hbA hL ex (by omega) hS (by decide) (y := yy) hl dL_law_1091 dL_law_1092 dL_law_1093 dL_law_1094 dL_law_1095 ?_
  refine ld 2 hx hb hX hbl hbA hL ex (by omega) hS (by decide) (y := yy) hl dL_law_1096 dL_law_1097 dL_law_1098 dL_law_1099 dL_law_1100 ?_
  refine ld 3 hx hb hX hbl hbA hL ex (by omega) hS (by decide) (y := yy) hl dL_law_1101 dL_law_1102 dL_law_1103 dL_law_1104 dL_law_1105 ?_
  refine law9 (As := [.int (xs (i + 1)), .int (xs (i + 2)), .int (xs (i + 3))]) (rest := [.int v]) C K9 h9 gL_law_X9_sheet rfl ⟨rfl, rfl⟩ hdX9_sheet ⟨Nat.le_of_ble_eq_true rfl, Nat.le_of_ble_eq_true rfl⟩ hP hD hS rfl hl.1 (Nat.le_of_ble_eq_true rfl) dL_law_1106 (Nat.le_refl _) (Nat.le_refl _) (fun H locs hP hD hS => ?_)
  refine W.eq (g2 := F0 m 1109 ls [.int v, .int v]) rfl ?_
  refine lv_icmp_eq (tgt := 1246) hx hb dL_law_1109 (by decide) (fun _ => ?_) (fun c2 => ?_)
  · exact kk G' lam' H locs hI hP hD hS
  · exact absurd rfl c2

set_option maxHeartbeats 4000000 in
set_option maxRecDepth 20000 in
theorem cs_34 : CaseAt 1114 := by
  intro p l e s m below meth c H locs Q b L xs ls x3 i D t κ a fi fh G lam C hX hbl hL hi ex hfi hInv hP hD hS hl kk
  obtain ⟨hx, hb, hr, hml, hown, hts, hC0, hlk, hA⟩ := id C
  have hbA : ¬ (fun q : Nat => s.heap.size ≤ q) b := Nat.not_le.mpr hbl
  obtain ⟨yy, hy⟩ : ∃ y : Nat → Value, y 1 = .ref (a 0 0) ∧ y 2 = .ref (a 20 0) := ⟨fun n => if n = 1 then .ref (a 0 0) else .ref (a 20 0), rfl, rfl⟩
  have hl0 := hl
  rw [← hy.1, ← hy.2] at hl
  obtain ⟨v, I, R0, G1, G', lam', hIR, K8, K9, h8, h9, hI⟩ := st_lay (l := l) (D := D) (t := t) (κ := κ) (lam := lam) (p1 := xs (i + 1)) (p2 := xs (i + 2)) (p3 := xs (i + 3)) hfi hInv
  refine lv_aload_n hx hb dL_law_1114 rfl (lv_at hl0 1 rfl) ?_
  refine ld 1 hx hb hX hbl hbA hL ex (by omega) hS (by decide) (y := yy) hl dL_law_1115 dL_law_1116 dL_law_1117 dL_law_1118 dL_law_1119 ?_
  refine ld 2 hx hb hX hbl hbA hL ex (by omega) hS (by decide) (y := yy) hl dL_law_1120 dL_law_1121 dL_law_1122 dL_law_1123 dL_law_1124 ?_
  refine ld 3 hx hb hX hbl hbA hL ex (by omega) hS (by decide) (y := yy) hl dL_law_1125 dL_law_1126 dL_law_1127 dL_law_1128 dL_law_1129 ?_
  refine law8 (As := [.int (xs (i + 1)), .int (xs (i + 2)), .int (xs (i + 3))]) (rest := []) C hIR K8 h8 gL_law_X8_lay rfl ⟨rfl, rfl⟩ hdX8_lay ⟨Nat.le_of_ble_eq_true rfl, Nat.le_of_ble_eq_true rfl⟩ hP hD hS rfl hl.1 (Nat.le_of_ble_eq_true rfl) dL_law_1130 (Nat.le_refl _) (Nat.le_refl _) (fun H locs hP hD hS => ?_)
  refine W.eq (g2 := F0 m 1133 ls [.int v]) rfl ?_
  refine lv_aload_n hx hb dL_law_1133 rfl (lv_at hl0 2 rfl) ?_
  refine ld 1 hx hb hX hbl hbA hL ex (by omega) hS (by decide) (y := yy) hl dL_law_1134 dL_law_1135 dL_law_1136 dL_law_1137 dL_law_1138 ?_
  refine ld 2 hx hb hX hbl hbA hL ex (by omega) hS (by decide) (y := yy) hl dL_law_1139 dL_law_1140 dL_law_1141 dL_law_1142 dL_law_1143 ?_
  refine ld 3 hx hb hX hbl hbA hL ex (by omega) hS (by decide) (y := yy) hl dL_law_1144 dL_law_1145 dL_law_1146 dL_law_1147 dL_law_1148 ?_
  refine law9 (As := [.int (xs (i + 1)), .int (xs (i + 2)), .int (xs (i + 3))]) (rest := [.int v]) C K9 h9 gL_law_X9_lay rfl ⟨rfl, rfl⟩ hdX9_lay ⟨Nat.le_of_ble_eq_true rfl, Nat.le_of_ble_eq_true rfl⟩ hP hD hS rfl hl.1 (Nat.le_of_ble_eq_true rfl) dL_law_1149 (Nat.le_refl _) (Nat.le_refl _) (fun H locs hP hD hS => ?_)
  refine W.eq (g2 := F0 m 1152 ls [.int v, .int v]) rfl ?_
  refine lv_icmp_eq (tgt := 1246) hx hb dL_law_1152 (by decide) (fun _ => ?_) (fun c2 => ?_)
  · exact kk G' lam' H locs hI hP hD hS
  · exact absurd rfl c2

set_option maxHeartbeats 4000000 in
set_option maxRecDepth 20000 in
theorem cs_35 : CaseAt 1157 := by
  intro p l e s m below meth c H locs Q b L xs ls x3 i D t κ a fi fh G lam C hX hbl hL hi ex hfi hInv hP hD hS hl kk
  obtain ⟨hx, hb, hr, hml, hown, hts, hC0, hlk, hA⟩ := id C
  have hbA : ¬ (fun q : Nat => s.heap.size ≤ q) b := Nat.not_le.mpr hbl
  obtain ⟨yy, hy⟩ : ∃ y : Nat → Value, y 1 = .ref (a 0 0) ∧ y 2 = .ref (a 20 0) := ⟨fun n => if n = 1 then .ref (a 0 0) else .ref (a 20 0), rfl, rfl⟩
  have hl0 := hl
  rw [← hy.1, ← hy.2] at hl
  obtain ⟨v, I, R0, G1, G', lam', hIR, K8, K9, h8, h9, hI⟩ := st_read (l := l) (D := D) (t := t) (κ := κ) (lam := lam) (p1 := xs (i + 1)) (p2 := xs (i + 2)) (p3 := xs (i + 3)) (p4 := xs (i + 4)) hfi hInv
  refine lv_aload_n hx hb dL_law_1157 rfl (lv_at hl0 1 rfl) ?_
  refine ld 1 hx hb hX hbl hbA hL ex (by omega) hS (by decide) (y := yy) hl dL_law_1158 dL_law_1159 dL_law_1160 dL_law_1161 dL_law_1162 ?_
  refine ld 2 hx hb hX hbl hbA hL ex (by omega) hS (by decide) (y := yy) hl dL_law_1163 dL_law_1164 dL_law_1165 dL_law_1166 dL_law_1167 ?_
  refine ld 3 hx hb hX hbl hbA hL ex (by omega) hS (by decide) (y := yy) hl dL_law_1168 dL_law_1169 dL_law_1170 dL_law_1171 dL_law_1172 ?_
  refine ld 4 hx hb hX hbl hbA hL ex (by omega) hS (by decide) (y := yy) hl dL_law_1173 dL_law_1174 dL_law_1175 dL_law_1176 dL_law_1177 ?_
  refine law8 (As := [.int (xs (i + 1)), .int (xs (i + 2)), .int (xs (i + 3)), .int (xs (i + 4))]) (rest := []) C hIR K8 h8 gL_law_X8_read rfl ⟨rfl, rfl⟩ hdX8_read ⟨Nat.le_of_ble_eq_true rfl, Nat.le_of_ble_eq_true rfl⟩ hP hD hS rfl hl.1 (Nat.le_of_ble_eq_true rfl) dL_law_1178 (Nat.le_refl _) (Nat.le_refl _) (fun H locs hP hD hS => ?_)
  refine W.eq (g2 := F0 m 1181 ls [.int v]) rfl ?_
  refine lv_aload_n hx hb dL_law_1181 rfl (lv_at hl0 2 rfl) ?_
  refine ld 1 hx hb hX hbl hbA hL ex (by omega) hS (by decide) (y := yy) hl dL_law_1182 dL_law_1183 dL_law_1184 dL_law_1185 dL_law_1186 ?_
  refine ld 2 hx hb hX hbl hbA hL ex (by omega) hS (by decide) (y := yy) hl dL_law_1187 dL_law_1188 dL_law_1189 dL_law_1190 dL_law_1191 ?_
  refine ld 3 hx hb hX hbl hbA hL ex (by omega) hS (by decide) (y := yy) hl dL_law_1192 dL_law_1193 dL_law_1194 dL_law_1195 dL_law_1196 ?_
  refine ld 4 hx hb hX hbl hbA hL ex (by omega) hS (by decide) (y := yy) hl dL_law_1197 dL_law_1198 dL_law_1199 dL_law_1200 dL_law_1201 ?_
  refine law9 (As := [.int (xs (i + 1)), .int (xs (i + 2)), .int (xs (i + 3)), .int (xs (i + 4))]) (rest := [.int v]) C K9 h9 gL_law_X9_read rfl ⟨rfl, rfl⟩ hdX9_read ⟨Nat.le_of_ble_eq_true rfl, Nat.le_of_ble_eq_true rfl⟩ hP hD hS rfl hl.1 (Nat.le_of_ble_eq_true rfl) dL_law_1202 (Nat.le_refl _) (Nat.le_refl _) (fun H locs hP hD hS => ?_)
  refine W.eq (g2 := F0 m 1205 ls [.int v, .int v]) rfl ?_
  refine lv_icmp_eq (tgt := 1246) hx hb dL_law_1205 (by decide) (fun _ => ?_) (fun c2 => ?_)
  · exact kk G' lam' H locs hI hP hD hS
  · exact absurd rfl c2

set_option maxHeartbeats 4000000 in
set_option maxRecDepth 20000 in
theorem cs_36 : CaseAt 1210 := by
  intro p l e s m below meth c H locs Q b L xs ls x3 i D t κ a fi fh G lam C hX hbl hL hi ex hfi hInv hP hD hS hl kk
  obtain ⟨hx, hb, hr, hml, hown, hts, hC0, hlk, hA⟩ := id C
  have hbA : ¬ (fun q : Nat => s.heap.size ≤ q) b := Nat.not_le.mpr hbl
  obtain ⟨yy, hy⟩ : ∃ y : Nat → Value, y 1 = .ref (a 0 0) ∧ y 2 = .ref (a 20 0) := ⟨fun n => if n = 1 then .ref (a 0 0) else .ref (a 20 0), rfl, rfl⟩
  have hl0 := hl
  rw [← hy.1, ← hy.2] at hl
  obtain ⟨v, I, R0, G1, G', lam', hIR, K8, K9, h8, h9, hI⟩ := st_torn (l := l) (D := D) (t := t) (κ := κ) (lam := lam) hfi hInv
  refine lv_aload_n hx hb dL_law_1210 rfl (lv_at hl0 1 rfl) ?_
  refine law8 (As := []) (rest := []) C hIR K8 h8 gL_law_X8_torn rfl ⟨rfl, rfl⟩ hdX8_torn ⟨Nat.le_of_ble_eq_true rfl, Nat.le_of_ble_eq_true rfl⟩ hP hD hS rfl hl.1 (Nat.le_of_ble_eq_true rfl) dL_law_1211 (Nat.le_refl _) (Nat.le_refl _) (fun H locs hP hD hS => ?_)
  refine W.eq (g2 := F0 m 1214 ls [.int v]) rfl ?_
  refine lv_aload_n hx hb dL_law_1214 rfl (lv_at hl0 2 rfl) ?_
  refine law9 (As := []) (rest := [.int v]) C K9 h9 gL_law_X9_torn rfl ⟨rfl, rfl⟩ hdX9_torn ⟨Nat.le_of_ble_eq_true rfl, Nat.le_of_ble_eq_true rfl⟩ hP hD hS rfl hl.1 (Nat.le_of_ble_eq_true rfl) dL_law_1215 (Nat.le_refl _) (Nat.le_refl _) (fun H locs hP hD hS => ?_)
  refine W.eq (g2 := F0 m 1218 ls [.int v, .int v]) rfl ?_
  refine lv_icmp_eq (tgt := 1246) hx hb dL_law_1218 (by decide) (fun _ => ?_) (fun c2 => ?_)
  · exact kk G' lam' H locs hI hP hD hS
  · exact absurd rfl c2

set_option maxHeartbeats 4000000 in
set_option maxRecDepth 20000 in
theorem cs_37 : CaseAt 1223 := by
  intro p l e s m below meth c H locs Q b L xs ls x3 i D t κ a fi fh G lam C hX hbl hL hi ex hfi hInv hP hD hS hl kk
  obtain ⟨hx, hb, hr, hml, hown, hts, hC0, hlk, hA⟩ := id C
  have hbA : ¬ (fun q : Nat => s.heap.size ≤ q) b := Nat.not_le.mpr hbl
  obtain ⟨yy, hy⟩ : ∃ y : Nat → Value, y 1 = .ref (a 0 0) ∧ y 2 = .ref (a 20 0) := ⟨fun n => if n = 1 then .ref (a 0 0) else .ref (a 20 0), rfl, rfl⟩
  have hl0 := hl
  rw [← hy.1, ← hy.2] at hl
  obtain ⟨v, I, R0, G1, G', lam', hIR, K8, K9, h8, h9, hI⟩ := st_count (l := l) (D := D) (t := t) (κ := κ) (lam := lam) (p1 := xs (i + 1)) hfi hInv
  refine lv_aload_n hx hb dL_law_1223 rfl (lv_at hl0 1 rfl) ?_
  refine ld 1 hx hb hX hbl hbA hL ex (by omega) hS (by decide) (y := yy) hl dL_law_1224 dL_law_1225 dL_law_1226 dL_law_1227 dL_law_1228 ?_
  refine law8 (As := [.int (xs (i + 1))]) (rest := []) C hIR K8 h8 gL_law_X8_count rfl ⟨rfl, rfl⟩ hdX8_count ⟨Nat.le_of_ble_eq_true rfl, Nat.le_of_ble_eq_true rfl⟩ hP hD hS rfl hl.1 (Nat.le_of_ble_eq_true rfl) dL_law_1229 (Nat.le_refl _) (Nat.le_refl _) (fun H locs hP hD hS => ?_)
  refine W.eq (g2 := F0 m 1232 ls [.int v]) rfl ?_
  refine lv_aload_n hx hb dL_law_1232 rfl (lv_at hl0 2 rfl) ?_
  refine ld 1 hx hb hX hbl hbA hL ex (by omega) hS (by decide) (y := yy) hl dL_law_1233 dL_law_1234 dL_law_1235 dL_law_1236 dL_law_1237 ?_
  refine law9 (As := [.int (xs (i + 1))]) (rest := [.int v]) C K9 h9 gL_law_X9_count rfl ⟨rfl, rfl⟩ hdX9_count ⟨Nat.le_of_ble_eq_true rfl, Nat.le_of_ble_eq_true rfl⟩ hP hD hS rfl hl.1 (Nat.le_of_ble_eq_true rfl) dL_law_1238 (Nat.le_refl _) (Nat.le_refl _) (fun H locs hP hD hS => ?_)
  refine W.eq (g2 := F0 m 1241 ls [.int v, .int v]) rfl ?_
  refine lv_icmp_eq (tgt := 1246) hx hb dL_law_1241 (by decide) (fun _ => ?_) (fun c2 => ?_)
  · exact kk G' lam' H locs hI hP hD hS
  · exact absurd rfl c2

