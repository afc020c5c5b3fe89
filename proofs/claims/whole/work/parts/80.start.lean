/-! the law's loop, and its start -/
def G0 (v : S2) : Nat → S2 := fun i => if i = 20 then v else if i = 3 ∨ i = 4 ∨ i = 10 ∨ i = 13 then zR else z0
theorem inv_0 : ∃ v1 v2, fX9_firstDraft zM = some v1 ∧ fX9_keepDraft v1 = some v2 ∧ Inv (G0 v2) := by
  obtain ⟨v1, e1, d1, a2, a3, a4, a5, a6, f1⟩ := r_first (mo := zM)
  obtain ⟨v2, e2, d2, b0, b1, b3, b4, f2⟩ := r_keep (mo := v1) (M := 0) (B := 0) (a2.trans (by decide)) (by omega) (a4.trans (by decide)) (by omega)
  have g : ∀ b, b < 59 → v2 1 b = if b = 44 then 4 else if b = 45 then 99 else 0 := fun b hb => by
    rw [d2 b hb, if_neg (by omega), d1 b hb]
  have f : ∀ a b, (a ≠ 1 ∧ a ≠ 3 ∧ a ≠ 4 ∧ (a ≠ 0 ∨ 6 < b)) → v2 a b = zM a b := fun a b h => by
    rw [f2 a b (by omega), f1 a b (by omega)]
  have z1 : v2 0 1 = nI 0 := b1.trans (a3.trans (by decide))
  refine ⟨v1, v2, e1, e2, 0, 0, ?_⟩
  refine ⟨⟨⟨fun j hj => absurd hj (by omega), fun j hj => absurd hj (by omega), ?_, ?_⟩, ⟨fun j hj => absurd hj (by omega), fun j hj => absurd hj (by omega), (show win (zR 0 2) 1 4 = true by decide), (show win (zR 0 3) 0 99 = true by decide)⟩, by omega, by omega, b0, z1, (show zR 0 0 = nI 0 by decide), (show zR 0 1 = nI 0 by decide)⟩, ⟨0, by omega, ?_, (show z0 0 0 = nI 0 by decide), fun i hi => absurd hi (by omega), ?_⟩, ⟨0, by omega, ?_, (show z0 0 0 = nI 0 by decide), fun i hi => absurd hi (by omega)⟩, Or.inl ⟨(show z0 0 0 = 0 from rfl), b3⟩, Or.inl ⟨(show z0 0 0 = 0 from rfl), b4⟩, Or.inl ⟨(show z0 0 0 = 0 from rfl), ?_⟩, Or.inl ⟨(show z0 0 0 = 0 from rfl), ?_⟩, Or.inl ⟨(show z0 0 0 = 0 from rfl), ?_⟩, Or.inl ⟨(show z0 0 0 = 0 from rfl), ?_⟩, ?_, (show z0 2 4 = 0 from rfl)⟩
  · exact (g 44 (by omega)).trans (show (4 : Int32) = zR 0 2 by decide)
  · exact (g 45 (by omega)).trans (show (99 : Int32) = zR 0 3 by decide)
  · exact (f 0 7 (by omega)).trans (by decide)
  · exact (show (0 : Int32) = v2 0 12 from ((f 0 12 (by omega)).trans (by decide)).symm)
  · exact (g 46 (by omega)).trans (by decide)
  · exact (f 13 0 (by omega)).trans (by decide)
  · exact (f 13 1 (by omega)).trans (by decide)
  · exact (f 13 2 (by omega)).trans (by decide)
  · exact (f 13 3 (by omega)).trans (by decide)
  · exact (show (0 : Int32) = v2 0 17 from ((f 0 17 (by omega)).trans (by decide)).symm)
theorem i_le5 {i L : Nat} (hL : L ≤ 320) (hi : i ≤ L) (h : ¬ (Int32.ofNat L - 5 < nI i)) : i + 5 ≤ L := by
  have e : Int32.ofNat L = nI L := rfl
  rw [e, Int32.lt_iff_toInt_lt, Int32.toInt_sub, nI_toInt (by omega), nI_toInt (by omega), show (5 : Int32).toInt = 5 from rfl, Int.bmod_eq_of_le (by omega) (by omega)] at h
  omega
set_option maxHeartbeats 4000000 in
set_option maxRecDepth 20000 in
theorem law_loop {p : Program} {l : Launch} {e : Env} {s : State} {m : MethodId} {below : List Frame} {meth : Method} {c : Code} {b L : Nat} {xs : Nat → Int32} {D : va_G} {t κ : Nat → Nat} {a : Nat → Nat → Nat} {fi fh : Nat → Option Nat} (C : Cxt p s m #[Value.ref b] meth c cL_law 4 RL wsL_law ret D t κ (fun q : Nat => s.heap.size ≤ q)) (hX : va_X b L xs s s.heap) (hbl : b < s.heap.size) (hL : L ≤ 320) (hfi : FIH a fi fh) : ∀ (n i : Nat) (x3 : Int32) (G : Nat → S2) (lam : S6) (H : Heap) (locs : List Loc) (ls : Array Slot), i ≤ L → L < i + n → x3 = nI i → Inv G → va_P D vwCl (WL t a fi fh G lam) H → va_D (fun q : Nat => s.heap.size ≤ q) (WL t a fi fh G lam) → va_S (fun q : Nat => s.heap.size ≤ q) s.heap H locs → lv_has ls 4 [(0, .ref b), (1, .ref (a 0 0)), (2, .ref (a 20 0)), (3, .int x3)] →
    W p l e room_1 s m #[Value.ref b] below meth c H locs 600000 7302250 (lw_Z below #[Value.ref b] s) (F0 m 18 ls []) := by
  obtain ⟨hx, hb, hr, hml, hown, hts, hC0, hlk, hA⟩ := id C
  have hbA : ¬ (fun q : Nat => s.heap.size ≤ q) b := Nat.not_le.mpr hbl
  intro n
  induction n with
  | zero => intro i x3 G lam H locs ls h1 h2; omega
  | succ n ih =>
    intro i x3 G lam H locs ls hiL hin ex hI hP hD hS hl
    refine lv_iload_n hx hb dL_law_18 rfl (lv_at hl 3 rfl) ?_
    refine lv_aload_n hx hb dL_law_19 rfl (lv_at hl 0 rfl) ?_
    refine va_slen hx hb hX hbl hbA hS dL_law_20 ?_
    refine lv_iconst (v := 5) hx hb dL_law_21 (by decide) ?_
    refine lv_isub hx hb dL_law_22 ?_
    refine lv_icmp_gt (tgt := 1252) hx hb dL_law_23 (by decide) (fun c1 => ?_) (fun c1 => ?_)
    · refine lv_iconst (v := 1) hx hb dL_law_1252 (by decide) ?_
      refine va_forget (fun q hq => hS.2.2 q hq) ?_
      exact lw_ret hx hb hr hlk dL_law_1253
    · have hi5 : i + 5 ≤ L := i_le5 hL hiL (by rw [← ex]; exact c1)
      have KK : ∀ (G' : Nat → S2) (lam' : S6) (H' : Heap) (locs' : List Loc), Inv G' → va_P D vwCl (WL t a fi fh G' lam') H' → va_D (fun q : Nat => s.heap.size ≤ q) (WL t a fi fh G' lam') → va_S (fun q : Nat => s.heap.size ≤ q) s.heap H' locs' → W p l e room_1 s m #[Value.ref b] below meth c H' locs' 600000 7302250 (lw_Z below #[Value.ref b] s) (F0 m 1246 ls []) := by
        intro G' lam' H' locs' hI' hP' hD' hS'
        refine lv_iinc (v := nI (i + 5)) (lv' := [(3, .int (nI (i + 5))), (0, .ref b), (1, .ref (a 0 0)), (2, .ref (a 20 0))]) hx hb dL_law_1246 hl (k := 3) rfl (by rw [ex, ← nI_add]; rfl) (by decide) rfl (fun ls' hl' => ?_)
        refine lv_goto (tgt := 18) hx hb dL_law_1249 (by decide) ?_
        exact ih (i + 5) (nI (i + 5)) G' lam' H' locs' ls' hi5 (by omega) rfl hI' hP' hD' hS' (lv_sub hl' [1, 2, 3, 0] rfl)
      refine lv_aload_n hx hb dL_law_26 rfl (lv_at hl 0 rfl) ?_
      refine lv_iload_n hx hb dL_law_27 rfl (lv_at hl 3 rfl) ?_
      refine va_sld hx hb hX hbl hbA hS (by rw [ex]; exact vp_in_nI (by omega) (by omega)) dL_law_28 ?_
      refine lv_bipush (v := 63) hx hb dL_law_29 (by decide) ?_
      refine lv_iand hx hb dL_law_31 ?_
      refine lv_topi (fun x _ => ?_)
      by_cases h1 : x.toInt < 0
      · exact lv_tableOut (tgt := 1246) hx hb dL_law_32 (Or.inl h1) (by decide) (KK G lam H locs hI hP hD hS)
      by_cases h2 : 37 < x.toInt
      · exact lv_tableOut (tgt := 1246) hx hb dL_law_32 (Or.inr h2) (by decide) (KK G lam H locs hI hP hD hS)
      obtain ⟨k, hk, hk2⟩ : ∃ k : Nat, k < 38 ∧ x.toInt = (k : Int) := ⟨x.toInt.toNat, by omega, by omega⟩
      rcases (show k = 0 ∨ k = 1 ∨ k = 2 ∨ k = 3 ∨ k = 4 ∨ k = 5 ∨ k = 6 ∨ k = 7 ∨ k = 8 ∨ k = 9 ∨ k = 10 ∨ k = 11 ∨ k = 12 ∨ k = 13 ∨ k = 14 ∨ k = 15 ∨ k = 16 ∨ k = 17 ∨ k = 18 ∨ k = 19 ∨ k = 20 ∨ k = 21 ∨ k = 22 ∨ k = 23 ∨ k = 24 ∨ k = 25 ∨ k = 26 ∨ k = 27 ∨ k = 28 ∨ k = 29 ∨ k = 30 ∨ k = 31 ∨ k = 32 ∨ k = 33 ∨ k = 34 ∨ k = 35 ∨ k = 36 ∨ k = 37 by omega) with rfl | rfl | rfl | rfl | rfl | rfl | rfl | rfl | rfl | rfl | rfl | rfl | rfl | rfl | rfl | rfl | rfl | rfl | rfl | rfl | rfl | rfl | rfl | rfl | rfl | rfl | rfl | rfl | rfl | rfl | rfl | rfl | rfl | rfl | rfl | rfl | rfl | rfl
      · exact lv_tableIn (off := 168) (tgt := 200) hx hb dL_law_32 h1 h2 (by rw [hk2]; rfl) (by decide) (cs_0 p l e s m below meth c H locs _ b L xs ls x3 i D t κ a fi fh G lam C hX hbl hL hi5 ex hfi hI hP hD hS hl KK)
      · exact lv_tableIn (off := 191) (tgt := 223) hx hb dL_law_32 h1 h2 (by rw [hk2]; rfl) (by decide) (cs_1 p l e s m below meth c H locs _ b L xs ls x3 i D t κ a fi fh G lam C hX hbl hL hi5 ex hfi hI hP hD hS hl KK)
      · exact lv_tableIn (off := 214) (tgt := 246) hx hb dL_law_32 h1 h2 (by rw [hk2]; rfl) (by decide) (cs_2 p l e s m below meth c H locs _ b L xs ls x3 i D t κ a fi fh G lam C hX hbl hL hi5 ex hfi hI hP hD hS hl KK)
      · exact lv_tableIn (off := 227) (tgt := 259) hx hb dL_law_32 h1 h2 (by rw [hk2]; rfl) (by decide) (cs_3 p l e s m below meth c H locs _ b L xs ls x3 i D t κ a fi fh G lam C hX hbl hL hi5 ex hfi hI hP hD hS hl KK)
      · exact lv_tableIn (off := 240) (tgt := 272) hx hb dL_law_32 h1 h2 (by rw [hk2]; rfl) (by decide) (cs_4 p l e s m below meth c H locs _ b L xs ls x3 i D t κ a fi fh G lam C hX hbl hL hi5 ex hfi hI hP hD hS hl KK)
      · exact lv_tableIn (off := 263) (tgt := 295) hx hb dL_law_32 h1 h2 (by rw [hk2]; rfl) (by decide) (cs_5 p l e s m below meth c H locs _ b L xs ls x3 i D t κ a fi fh G lam C hX hbl hL hi5 ex hfi hI hP hD hS hl KK)
      · exact lv_tableIn (off := 296) (tgt := 328) hx hb dL_law_32 h1 h2 (by rw [hk2]; rfl) (by decide) (cs_6 p l e s m below meth c H locs _ b L xs ls x3 i D t κ a fi fh G lam C hX hbl hL hi5 ex hfi hI hP hD hS hl KK)
      · exact lv_tableIn (off := 329) (tgt := 361) hx hb dL_law_32 h1 h2 (by rw [hk2]; rfl) (by decide) (cs_7 p l e s m below meth c H locs _ b L xs ls x3 i D t κ a fi fh G lam C hX hbl hL hi5 ex hfi hI hP hD hS hl KK)
      · exact lv_tableIn (off := 362) (tgt := 394) hx hb dL_law_32 h1 h2 (by rw [hk2]; rfl) (by decide) (cs_8 p l e s m below meth c H locs _ b L xs ls x3 i D t κ a fi fh G lam C hX hbl hL hi5 ex hfi hI hP hD hS hl KK)
      · exact lv_tableIn (off := 405) (tgt := 437) hx hb dL_law_32 h1 h2 (by rw [hk2]; rfl) (by decide) (cs_9 p l e s m below meth c H locs _ b L xs ls x3 i D t κ a fi fh G lam C hX hbl hL hi5 ex hfi hI hP hD hS hl KK)
      · exact lv_tableIn (off := 448) (tgt := 480) hx hb dL_law_32 h1 h2 (by rw [hk2]; rfl) (by decide) (cs_10 p l e s m below meth c H locs _ b L xs ls x3 i D t κ a fi fh G lam C hX hbl hL hi5 ex hfi hI hP hD hS hl KK)
      · exact lv_tableIn (off := 481) (tgt := 513) hx hb dL_law_32 h1 h2 (by rw [hk2]; rfl) (by decide) (cs_11 p l e s m below meth c H locs _ b L xs ls x3 i D t κ a fi fh G lam C hX hbl hL hi5 ex hfi hI hP hD hS hl KK)
      · exact lv_tableIn (off := 514) (tgt := 546) hx hb dL_law_32 h1 h2 (by rw [hk2]; rfl) (by decide) (cs_12 p l e s m below meth c H locs _ b L xs ls x3 i D t κ a fi fh G lam C hX hbl hL hi5 ex hfi hI hP hD hS hl KK)
      · exact lv_tableIn (off := 537) (tgt := 569) hx hb dL_law_32 h1 h2 (by rw [hk2]; rfl) (by decide) (cs_13 p l e s m below meth c H locs _ b L xs ls x3 i D t κ a fi fh G lam C hX hbl hL hi5 ex hfi hI hP hD hS hl KK)
      · exact lv_tableIn (off := 570) (tgt := 602) hx hb dL_law_32 h1 h2 (by rw [hk2]; rfl) (by decide) (cs_14 p l e s m below meth c H locs _ b L xs ls x3 i D t κ a fi fh G lam C hX hbl hL hi5 ex hfi hI hP hD hS hl KK)
      · exact lv_tableIn (off := 593) (tgt := 625) hx hb dL_law_32 h1 h2 (by rw [hk2]; rfl) (by decide) (cs_15 p l e s m below meth c H locs _ b L xs ls x3 i D t κ a fi fh G lam C hX hbl hL hi5 ex hfi hI hP hD hS hl KK)
      · exact lv_tableIn (off := 616) (tgt := 648) hx hb dL_law_32 h1 h2 (by rw [hk2]; rfl) (by decide) (cs_16 p l e s m below meth c H locs _ b L xs ls x3 i D t κ a fi fh G lam C hX hbl hL hi5 ex hfi hI hP hD hS hl KK)
      · exact lv_tableIn (off := 639) (tgt := 671) hx hb dL_law_32 h1 h2 (by rw [hk2]; rfl) (by decide) (cs_17 p l e s m below meth c H locs _ b L xs ls x3 i D t κ a fi fh G lam C hX hbl hL hi5 ex hfi hI hP hD hS hl KK)
      · exact lv_tableIn (off := 672) (tgt := 704) hx hb dL_law_32 h1 h2 (by rw [hk2]; rfl) (by decide) (cs_18 p l e s m below meth c H locs _ b L xs ls x3 i D t κ a fi fh G lam C hX hbl hL hi5 ex hfi hI hP hD hS hl KK)
      · exact lv_tableIn (off := 685) (tgt := 717) hx hb dL_law_32 h1 h2 (by rw [hk2]; rfl) (by decide) (cs_19 p l e s m below meth c H locs _ b L xs ls x3 i D t κ a fi fh G lam C hX hbl hL hi5 ex hfi hI hP hD hS hl KK)
      · exact lv_tableIn (off := 708) (tgt := 740) hx hb dL_law_32 h1 h2 (by rw [hk2]; rfl) (by decide) (cs_20 p l e s m below meth c H locs _ b L xs ls x3 i D t κ a fi fh G lam C hX hbl hL hi5 ex hfi hI hP hD hS hl KK)
      · exact lv_tableIn (off := 721) (tgt := 753) hx hb dL_law_32 h1 h2 (by rw [hk2]; rfl) (by decide) (cs_21 p l e s m below meth c H locs _ b L xs ls x3 i D t κ a fi fh G lam C hX hbl hL hi5 ex hfi hI hP hD hS hl KK)
      · exact lv_tableIn (off := 734) (tgt := 766) hx hb dL_law_32 h1 h2 (by rw [hk2]; rfl) (by decide) (cs_22 p l e s m below meth c H locs _ b L xs ls x3 i D t κ a fi fh G lam C hX hbl hL hi5 ex hfi hI hP hD hS hl KK)
      · exact lv_tableIn (off := 757) (tgt := 789) hx hb dL_law_32 h1 h2 (by rw [hk2]; rfl) (by decide) (cs_23 p l e s m below meth c H locs _ b L xs ls x3 i D t κ a fi fh G lam C hX hbl hL hi5 ex hfi hI hP hD hS hl KK)
      · exact lv_tableIn (off := 801) (tgt := 833) hx hb dL_law_32 h1 h2 (by rw [hk2]; rfl) (by decide) (cs_24 p l e s m below meth c H locs _ b L xs ls x3 i D t κ a fi fh G lam C hX hbl hL hi5 ex hfi hI hP hD hS hl KK)
      · exact lv_tableIn (off := 835) (tgt := 867) hx hb dL_law_32 h1 h2 (by rw [hk2]; rfl) (by decide) (cs_25 p l e s m below meth c H locs _ b L xs ls x3 i D t κ a fi fh G lam C hX hbl hL hi5 ex hfi hI hP hD hS hl KK)
      · exact lv_tableIn (off := 868) (tgt := 900) hx hb dL_law_32 h1 h2 (by rw [hk2]; rfl) (by decide) (cs_26 p l e s m below meth c H locs _ b L xs ls x3 i D t κ a fi fh G lam C hX hbl hL hi5 ex hfi hI hP hD hS hl KK)
      · exact lv_tableIn (off := 891) (tgt := 923) hx hb dL_law_32 h1 h2 (by rw [hk2]; rfl) (by decide) (cs_27 p l e s m below meth c H locs _ b L xs ls x3 i D t κ a fi fh G lam C hX hbl hL hi5 ex hfi hI hP hD hS hl KK)
      · exact lv_tableIn (off := 904) (tgt := 936) hx hb dL_law_32 h1 h2 (by rw [hk2]; rfl) (by decide) (cs_28 p l e s m below meth c H locs _ b L xs ls x3 i D t κ a fi fh G lam C hX hbl hL hi5 ex hfi hI hP hD hS hl KK)
      · exact lv_tableIn (off := 927) (tgt := 959) hx hb dL_law_32 h1 h2 (by rw [hk2]; rfl) (by decide) (cs_29 p l e s m below meth c H locs _ b L xs ls x3 i D t κ a fi fh G lam C hX hbl hL hi5 ex hfi hI hP hD hS hl KK)
      · exact lv_tableIn (off := 950) (tgt := 982) hx hb dL_law_32 h1 h2 (by rw [hk2]; rfl) (by decide) (cs_30 p l e s m below meth c H locs _ b L xs ls x3 i D t κ a fi fh G lam C hX hbl hL hi5 ex hfi hI hP hD hS hl KK)
      · exact lv_tableIn (off := 993) (tgt := 1025) hx hb dL_law_32 h1 h2 (by rw [hk2]; rfl) (by decide) (cs_31 p l e s m below meth c H locs _ b L xs ls x3 i D t κ a fi fh G lam C hX hbl hL hi5 ex hfi hI hP hD hS hl KK)
      · exact lv_tableIn (off := 1016) (tgt := 1048) hx hb dL_law_32 h1 h2 (by rw [hk2]; rfl) (by decide) (cs_32 p l e s m below meth c H locs _ b L xs ls x3 i D t κ a fi fh G lam C hX hbl hL hi5 ex hfi hI hP hD hS hl KK)
      · exact lv_tableIn (off := 1039) (tgt := 1071) hx hb dL_law_32 h1 h2 (by rw [hk2]; rfl) (by decide) (cs_33 p l e s m below meth c H locs _ b L xs ls x3 i D t κ a fi fh G lam C hX hbl hL hi5 ex hfi hI hP hD hS hl KK)
      · exact lv_tableIn (off := 1082) (tgt := 1114) hx hb dL_law_32 h1 h2 (by rw [hk2]; rfl) (by decide) (cs_34 p l e s m below meth c H locs _ b L xs ls x3 i D t κ a fi fh G lam C hX hbl hL hi5 ex hfi hI hP hD hS hl KK)
      · exact lv_tableIn (off := 1125) (tgt := 1157) hx hb dL_law_32 h1 h2 (by rw [hk2]; rfl) (by decide) (cs_35 p l e s m below meth c H locs _ b L xs ls x3 i D t κ a fi fh G lam C hX hbl hL hi5 ex hfi hI hP hD hS hl KK)
      · exact lv_tableIn (off := 1178) (tgt := 1210) hx hb dL_law_32 h1 h2 (by rw [hk2]; rfl) (by decide) (cs_36 p l e s m below meth c H locs _ b L xs ls x3 i D t κ a fi fh G lam C hX hbl hL hi5 ex hfi hI hP hD hS hl KK)
      · exact lv_tableIn (off := 1191) (tgt := 1223) hx hb dL_law_32 h1 h2 (by rw [hk2]; rfl) (by decide) (cs_37 p l e s m below meth c H locs _ b L xs ls x3 i D t κ a fi fh G lam C hX hbl hL hi5 ex hfi hI hP hD hS hl KK)

theorem w_as (x0 x1 x2 x3 x4 x5 x6 x7 x8 x9 x10 x11 x12 x13 x14 x15 x16 x17 x18 x19 x20 : va_W) : (x0 ++ (x15 ++ (x19 ++ (x18 ++ (x17 ++ (x16 ++ (x8 ++ ((x12 ++ x13 ++ x14) ++ ((x9 ++ x10 ++ x11) ++ (x7 ++ (x6 ++ (x5 ++ (x4 ++ (x3 ++ (x2 ++ (x1 ++ ([] : va_W))))))))))))))))) ++ x20 = x0 ++ (x15 ++ (x19 ++ (x18 ++ (x17 ++ (x16 ++ (x8 ++ (x12 ++ (x13 ++ (x14 ++ (x9 ++ (x10 ++ (x11 ++ (x7 ++ (x6 ++ (x5 ++ (x4 ++ (x3 ++ (x2 ++ (x1 ++ (x20 ++ ([]))))))))))))))))))))) := by
  simp only [List.append_assoc, List.append_nil, List.nil_append]
def aL (acc atp atl ard atr adr ask asn aia aim0 ar0 as0 aim1 ar1 as1 aha ash0 ash1 ash2 ash3 amo : Nat → Nat) : Nat → Nat → Nat
  | 0 => acc | 1 => atp | 2 => atl | 3 => ard | 4 => atr | 5 => adr | 6 => ask | 7 => asn | 8 => aia | 9 => aim0 | 10 => ar0 | 11 => as0 | 12 => aim1 | 13 => ar1 | 14 => as1 | 15 => aha | 16 => ash0 | 17 => ash1 | 18 => ash2 | 19 => ash3 | _ => amo
set_option maxRecDepth 20000 in
theorem tb_law : Cond.classLink RL 7 RX8 ∈ lw_tbl ∧ Cond.classLink RL 10 RX9 ∈ lw_tbl ∧ Cond.initialized RX8 ∈ lw_tbl ∧ Cond.initialized RX9 ∈ lw_tbl ∧ Cond.methodLink RL 9 yX8_init ∈ lw_tbl ∧ Cond.methodLink RL 12 yX9_init ∈ lw_tbl ∧ Cond.instanceMethod yX8_init ∈ lw_tbl ∧ Cond.instanceMethod yX9_init ∈ lw_tbl := by decide +kernel

theorem w_start {t : Nat → Nat} {acc atp atl ard atr adr ask asn aia aim0 ar0 as0 aim1 ar1 as1 aha ash0 ash1 ash2 ash3 amo : Nat → Nat} {fia fha : Nat → Option Nat} {v2 : S2} {lam : S6} : ((wCC t acc (atp 0) (atl 0) (ard 0) (atr 0) (adr 0) (ask 0) (asn 0) (aia 0) (aha 0) z0 ++ (wHA t aha fha ++ (wSheet t ash3 z0 ++ (wSheet t ash2 z0 ++ (wSheet t ash1 z0 ++ (wSheet t ash0 z0 ++ (wIA t aia fia ++ ((wImage t aim1 (ar1 0) (as1 0) z0 ++ wRoad t ar1 zR ++ wSight t as1 z0) ++ ((wImage t aim0 (ar0 0) (as0 0) z0 ++ wRoad t ar0 zR ++ wSight t as0 z0) ++ (wSight t asn z0 ++ (wSeeker t ask (atr 0) (adr 0) z0 ++ (wDrive t adr z0 ++ (wRoad t atr zR ++ (wRoad t ard zR ++ (wTeller t atl (atp 0) z0 ++ (wTape t atp z0 ++ ([] : va_W))))))))))))))))) ++ wModel t amo v2 lam).Perm (WL t (aL acc atp atl ard atr adr ask asn aia aim0 ar0 as0 aim1 ar1 as1 aha ash0 ash1 ash2 ash3 amo) fia fha (G0 v2) lam) := by
  have e : (wCC t acc (atp 0) (atl 0) (ard 0) (atr 0) (adr 0) (ask 0) (asn 0) (aia 0) (aha 0) z0 ++ (wHA t aha fha ++ (wSheet t ash3 z0 ++ (wSheet t ash2 z0 ++ (wSheet t ash1 z0 ++ (wSheet t ash0 z0 ++ (wIA t aia fia ++ ((wImage t aim1 (ar1 0) (as1 0) z0 ++ wRoad t ar1 zR ++ wSight t as1 z0) ++ ((wImage t aim0 (ar0 0) (as0 0) z0 ++ wRoad t ar0 zR ++ wSight t as0 z0) ++ (wSight t asn z0 ++ (wSeeker t ask (atr 0) (adr 0) z0 ++ (wDrive t adr z0 ++ (wRoad t atr zR ++ (wRoad t ard zR ++ (wTeller t atl (atp 0) z0 ++ (wTape t atp z0 ++ ([] : va_W))))))))))))))))) ++ wModel t amo v2 lam = WB t (aL acc atp atl ard atr adr ask asn aia aim0 ar0 as0 aim1 ar1 as1 aha ash0 ash1 ash2 ash3 amo) fia fha (G0 v2) lam [0, 15, 19, 18, 17, 16, 8, 12, 13, 14, 9, 10, 11, 7, 6, 5, 4, 3, 2, 1, 20] := w_as _ _ _ _ _ _ _ _ _ _ _ _ _ _ _ _ _ _ _ _ _
  rw [e]
  exact wb_p (by decide)
set_option maxHeartbeats 4000000 in
set_option maxRecDepth 100000 in
/-- THE LAW, from its entry -/
theorem whole_start {p : Program} {e : Env} {s : State} {m : MethodId} {below : List Frame} {meth : Method} {c : Code} (l : Launch) {b L : Nat} {xs : Nat → Int32} (hL : L ≤ 320) (C0 : lw_At p s m meth c b L xs) : W p l e room_1 s m #[Value.ref b] below meth c s.heap [] 0 0 (lw_Z below #[Value.ref b] s) (entryFrame m ([Value.ref b] : List Value).toArray 4) := by
  obtain ⟨hx, hb, hr, hml, hown, hts, hX, hbl, hlocks, hgv⟩ := id C0
  obtain ⟨D, t, κ, hC, hXO⟩ := law_cx hts hgv
  obtain ⟨v1, v2, e1, e2, hI⟩ := inv_0
  have hA : ∀ q : Nat, s.heap.size ≤ q → (fun q : Nat => s.heap.size ≤ q) q := fun _ h => h
  have C : Cxt p s m #[Value.ref b] meth c cL_law 4 RL wsL_law ret D t κ (fun q : Nat => s.heap.size ≤ q) := ⟨hx, hb, hr, hml, hown, fun w hw => hts w (wsL_law_in w hw), hC, hlocks, hA⟩
  have hS : va_S (fun q : Nat => s.heap.size ≤ q) s.heap s.heap [] := va_S.rf
  have hP : va_P D vwCl [] s.heap := fun k q h => by simp at h
  have hD : va_D (fun q : Nat => s.heap.size ≤ q) [] := ⟨fun i j p q h => by simp at h, fun k q h => by simp at h⟩
  obtain ⟨w1, w2, w3, w4, w5, w6, w7, w8⟩ := tb_law
  obtain ⟨_, _, _, _, _, _, _, _, u8, u9⟩ := tb_i
  have hl := lv_entry ([.ref b]) (n := 4) (Nat.le_of_ble_eq_true rfl)
  rw [lg_entry_eq]
  generalize (lg_sl ([.ref b]) ++ List.replicate (4 - (lg_sl ([.ref b])).length) Slot.unset).toArray = ls at hl ⊢
  have hl : lv_has ls 4 [(0, .ref b)] := hl
  refine va_new (ci := 8) (fs := [.null, .null, .null, .null, .null, .null, .null, .null, .null, .null, .int 0]) (C := RX8) (T := TX8) (N := 11) hx hb hts inX8 tyX8 tyX8_ok hown (hts _ w1) (hts _ u8) (hts _ w3) hC.1 hP hD hS hA rfl (fun j hj => by rcases (show j = 0 ∨ j = 1 ∨ j = 2 ∨ j = 3 ∨ j = 4 ∨ j = 5 ∨ j = 6 ∨ j = 7 ∨ j = 8 ∨ j = 9 ∨ j = 10 by omega) with rfl | rfl | rfl | rfl | rfl | rfl | rfl | rfl | rfl | rfl | rfl <;> rfl) (Nat.le_of_ble_eq_true rfl) (Nat.le_of_ble_eq_true rfl) dL_law_0 (fun q1 H hP hD hS => ?_)
  refine W.cs (cells' := 1) (slots' := 11) rfl rfl ?_
  refine lv_dup hx hb dL_law_3 rfl ?_
  refine gk_I C (As := []) (rest := [.ref q1]) (ws := []) (x := (q1, .inr (8, [.null, .null, .null, .null, .null, .null, .null, .null, .null, .null, .int 0]))) (cX8_init_ok (l := l) (D := D) (t := t) (κ := κ)) hXO XO_M gL_law_X8_init rfl ⟨rfl, rfl⟩ (hts _ w3) (hts _ w5) (hts _ w7) rfl hdX8_init ⟨Nat.le_of_ble_eq_true rfl, Nat.le_of_ble_eq_true rfl⟩ hP hD hS rfl hl.1 (Nat.le_of_ble_eq_true rfl) dL_law_4 (Nat.le_of_ble_eq_true rfl) (Nat.le_of_ble_eq_true rfl) (fun H1 locs1 W1 po hPa hDa hSa => ?_)
  refine W.cs (cells' := 71) (slots' := 692) rfl rfl ?_
  obtain ⟨acc, atp, atl, ard, atr, adr, ask, asn, aia, fia, aim0, ar0, as0, aim1, ar1, as1, aha, fha, ash0, ash1, ash2, ash3, h0e, hfi, hfh, hW1⟩ := po
  subst h0e
  refine W.eq (g2 := F0 m 7 ls [.ref (acc 0)]) rfl ?_
  refine lv_astore_n (lv' := [(1, .ref (acc 0)), (0, .ref b)]) hx hb dL_law_7 rfl hl (by decide) rfl (fun ls hl => ?_)
  have hPb : va_P D vwCl W1 H1 := hPa
  have hDb : va_D (fun q : Nat => s.heap.size ≤ q) W1 := hDa
  refine va_new (ci := 9) (fs := [.null, .null, .null, .int 0, .int 0, .null, .int 0, .int 0, .int 0, .int 0, .int 0, .null, .int 0, .int 0, .int 0, .int 0, .int 0, .int 0, .int 0, .null, .null, .null, .null, .null, .null, .int 0, .int 0, .int 0, .long 0, .long 0, .long 0, .null, .null, .null, .null, .int 0, .null]) (C := RX9) (T := TX9) (N := 37) hx hb hts inX9 tyX9 tyX9_ok hown (hts _ w2) (hts _ u9) (hts _ w4) hC.1 hPb hDb hSa hA rfl (fun j hj => by rcases (show j = 0 ∨ j = 1 ∨ j = 2 ∨ j = 3 ∨ j = 4 ∨ j = 5 ∨ j = 6 ∨ j = 7 ∨ j = 8 ∨ j = 9 ∨ j = 10 ∨ j = 11 ∨ j = 12 ∨ j = 13 ∨ j = 14 ∨ j = 15 ∨ j = 16 ∨ j = 17 ∨ j = 18 ∨ j = 19 ∨ j = 20 ∨ j = 21 ∨ j = 22 ∨ j = 23 ∨ j = 24 ∨ j = 25 ∨ j = 26 ∨ j = 27 ∨ j = 28 ∨ j = 29 ∨ j = 30 ∨ j = 31 ∨ j = 32 ∨ j = 33 ∨ j = 34 ∨ j = 35 ∨ j = 36 by omega) with rfl | rfl | rfl | rfl | rfl | rfl | rfl | rfl | rfl | rfl | rfl | rfl | rfl | rfl | rfl | rfl | rfl | rfl | rfl | rfl | rfl | rfl | rfl | rfl | rfl | rfl | rfl | rfl | rfl | rfl | rfl | rfl | rfl | rfl | rfl | rfl | rfl <;> rfl) (Nat.le_of_ble_eq_true rfl) (Nat.le_of_ble_eq_true rfl) dL_law_8 (fun q2 H2 hPc hDc hSc => ?_)
  refine W.cs (cells' := 72) (slots' := 729) rfl rfl ?_
  refine lv_dup hx hb dL_law_11 rfl ?_
  refine gk_I C (As := []) (rest := [.ref q2]) (ws := W1) (x := (q2, .inr (9, [.null, .null, .null, .int 0, .int 0, .null, .int 0, .int 0, .int 0, .int 0, .int 0, .null, .int 0, .int 0, .int 0, .int 0, .int 0, .int 0, .int 0, .null, .null, .null, .null, .null, .null, .int 0, .int 0, .int 0, .long 0, .long 0, .long 0, .null, .null, .null, .null, .int 0, .null]))) (cX9_init_ok (l := l) (D := D) (t := t) (κ := κ) e1 e2) trivial (fun _ _ _ h => h) gL_law_X9_init rfl ⟨rfl, rfl⟩ (hts _ w4) (hts _ w6) (hts _ w8) rfl hdX9_init ⟨Nat.le_of_ble_eq_true rfl, Nat.le_of_ble_eq_true rfl⟩ hPc hDc hSc rfl hl.1 (Nat.le_of_ble_eq_true rfl) dL_law_12 (Nat.le_of_ble_eq_true rfl) (Nat.le_of_ble_eq_true rfl) (fun H3 locs3 W2 po hPd hDd hSd => ?_)
  obtain ⟨amo, h2e, hW2⟩ := po
  subst h2e
  rw [hW1, hW2] at hPd hDd
  have hPe := wp_perm w_start hPd
  have hDe := wd_perm w_start hDd
  refine W.cs (cells' := 88) (slots' := 1477) rfl rfl ?_
  refine W.widen (k := 600000) (n := 7302250) (by omega) (by omega) ?_
  refine W.eq (g2 := F0 m 15 ls [.ref (amo 0)]) rfl ?_
  refine lv_astore_n (lv' := [(2, .ref (amo 0)), (1, .ref (acc 0)), (0, .ref b)]) hx hb dL_law_15 rfl hl (by decide) rfl (fun ls hl => ?_)
  refine lv_iconst (v := 0) hx hb dL_law_16 (by decide) ?_
  refine lv_istore_n (lv' := [(3, .int 0), (2, .ref (amo 0)), (1, .ref (acc 0)), (0, .ref b)]) hx hb dL_law_17 rfl hl (by decide) rfl (fun ls hl => ?_)
  exact law_loop (a := (aL acc atp atl ard atr adr ask asn aia aim0 ar0 as0 aim1 ar1 as1 aha ash0 ash1 ash2 ash3 amo)) C hX hbl hL ⟨hfi.1, hfi.2, hfh⟩ (L + 1) 0 0 (G0 v2) (fun _ => 0) H3 locs3 ls (Nat.zero_le _) (by omega) nI_0.symm hI hPe hDe hSd (lv_sub hl [3, 2, 1, 0] rfl)

