/-! what every contract takes along, at the law's entry -/
abbrev lwF : List Cond := flatC (Jvm.Cond.and given_1 narrow_1)
abbrev tmS (i : Nat) : Term := .string "CoachCourt$Teller" ((strT.getD i (0, "")).1)
set_option maxRecDepth 20000 in
theorem fl_ex : ∀ i : Nat, i < 8 → Cond.exactly (tmS i) "java/lang/String" ∈ lwF := by decide +kernel
set_option maxRecDepth 20000 in
theorem fl_co : ∀ i : Nat, i < 8 → Cond.eq (.field (tmS i) "java/lang/String" "coder" "B") (.int 0) ∈ lwF := by decide +kernel
set_option maxRecDepth 20000 in
theorem fl_ar : ∀ i : Nat, i < 8 → Cond.arrayOf (.field (tmS i) "java/lang/String" "value" "[B") .byte ∈ lwF := by decide +kernel
set_option maxRecDepth 20000 in
theorem fl_le : ∀ i : Nat, i < 8 → Cond.eq (.length (.field (tmS i) "java/lang/String" "value" "[B")) (.int (Int32.ofNat (strL.getD i 0))) ∈ lwF := by decide +kernel
set_option maxRecDepth 20000 in
theorem fl_el : ∀ i : Nat, i < 8 → ∀ j : Nat, j < strL.getD i 0 → Cond.eq (.elem (.field (tmS i) "java/lang/String" "value" "[B") (.int (Int32.ofNat j))) (.int ((strB.getD i []).getD j 0)) ∈ lwF := by decide +kernel
set_option maxRecDepth 20000 in
theorem fl_ne : ∀ i : Nat, i < 8 → ∀ j : Nat, j < 8 → i ≠ j → Cond.not (Cond.eq (tmS i) (tmS j)) ∈ lwF ∨ Cond.not (Cond.eq (tmS j) (tmS i)) ∈ lwF := by decide +kernel
set_option maxRecDepth 20000 in
theorem fl_mh : ∀ j : Nat, j < 3 → Cond.eq (.elem (.static "CoachCourt" "MILE_HIGH" "[I") (.int (Int32.ofNat j))) (.int (tMH.getD j 0)) ∈ lwF := by decide +kernel
set_option maxRecDepth 20000 in
theorem fl_pl : ∀ j : Nat, j < 5 → Cond.eq (.elem (.static "CoachCourt" "PARTY_LOW" "[I") (.int (Int32.ofNat j))) (.int (tPL.getD j 0)) ∈ lwF := by decide +kernel
set_option maxRecDepth 20000 in
theorem fl_ph : ∀ j : Nat, j < 5 → Cond.eq (.elem (.static "CoachCourt" "PARTY_HIGH" "[I") (.int (Int32.ofNat j))) (.int (tPH.getD j 0)) ∈ lwF := by decide +kernel
set_option maxRecDepth 20000 in
theorem fl_a : Cond.arrayOf (.static "CoachCourt" "MILE_HIGH" "[I") .int ∈ lwF ∧ Cond.eq (.length (.static "CoachCourt" "MILE_HIGH" "[I")) (.int (Int32.ofNat 3)) ∈ lwF ∧ Cond.arrayOf (.static "CoachCourt" "PARTY_LOW" "[I") .int ∈ lwF ∧ Cond.eq (.length (.static "CoachCourt" "PARTY_LOW" "[I")) (.int (Int32.ofNat 5)) ∈ lwF ∧ Cond.arrayOf (.static "CoachCourt" "PARTY_HIGH" "[I") .int ∈ lwF ∧ Cond.eq (.length (.static "CoachCourt" "PARTY_HIGH" "[I")) (.int (Int32.ofNat 5)) ∈ lwF ∧ Cond.eq (.static "java/lang/String" "COMPACT_STRINGS" "Z") (.int 1) ∈ lwF ∧ Cond.isRef (.static "jdk/internal/util/Preconditions" "SIOOBE_FORMATTER" "Ljava/util/function/BiFunction;") ∈ lwF := by decide +kernel
set_option maxRecDepth 20000 in
theorem tb_l : Cond.laysStatic "CoachCourt" "MILE_HIGH" "[I" ∈ lw_tbl ∧ Cond.laysStatic "CoachCourt" "PARTY_LOW" "[I" ∈ lw_tbl ∧ Cond.laysStatic "CoachCourt" "PARTY_HIGH" "[I" ∈ lw_tbl ∧ Cond.laysStatic "java/lang/String" "COMPACT_STRINGS" "Z" ∈ lw_tbl ∧ Cond.laysStatic "jdk/internal/util/Preconditions" "SIOOBE_FORMATTER" "Ljava/util/function/BiFunction;" ∈ lw_tbl ∧ Cond.initialized "CoachCourt" ∈ lw_tbl ∧ Cond.initialized "java/lang/String" ∈ lw_tbl ∧ Cond.initialized "jdk/internal/util/Preconditions" ∈ lw_tbl := by decide +kernel
set_option maxRecDepth 20000 in
theorem tb_a : Cond.arrayClass .int ∈ lw_tbl ∧ Cond.arrayClass .byte ∈ lw_tbl ∧ Cond.arrayClass .boolean ∈ lw_tbl ∧ Cond.arrayOver (.object "CoachCourt$Image") ∈ lw_tbl ∧ Cond.arrayOver (.object "CoachCourt$Sheet") ∈ lw_tbl := by decide +kernel
set_option maxRecDepth 20000 in
theorem tb_nf : ∀ q ∈ nkF, Cond.fieldLinkNest q.1 q.2.1 q.2.2.1 q.2.2.2.1 q.2.2.2.2.1 q.2.2.2.2.2 ∈ lw_tbl := by decide +kernel
set_option maxRecDepth 20000 in
theorem tb_nm : ∀ q ∈ nkM, Cond.methodLinkNest q.1 q.2.1 q.2.2.1 q.2.2.2 ∈ lw_tbl := by decide +kernel
set_option maxRecDepth 20000 in
theorem tb_s : ∀ i : Nat, i < 8 → Cond.stringRef "CoachCourt$Teller" (strT.getD i (0, "")).1 (strT.getD i (0, "")).2 ∈ lw_tbl := by decide +kernel
set_option maxRecDepth 20000 in
theorem tb_i : Cond.instantiable RX0 7 ∈ lw_tbl ∧ Cond.instantiable RX1 3 ∈ lw_tbl ∧ Cond.instantiable RX2 12 ∈ lw_tbl ∧ Cond.instantiable RX3 5 ∈ lw_tbl ∧ Cond.instantiable RX4 4 ∈ lw_tbl ∧ Cond.instantiable RX5 3 ∈ lw_tbl ∧ Cond.instantiable RX6 7 ∈ lw_tbl ∧ Cond.instantiable RX7 3 ∈ lw_tbl ∧ Cond.instantiable RX8 11 ∈ lw_tbl ∧ Cond.instantiable RX9 37 ∈ lw_tbl := by decide +kernel
theorem arr_c {args : Array Value} {s : State} {ty : FieldType} (h : (Cond.arrayClass ty).before args s = true) : ∃ cA : ClassId, ArrOfT s cA ty ∧ s.vm.findClass ("[" ++ ty.toString) = some cA := by
  obtain ⟨cA, kA, comp, h1, h2, h3⟩ := Cond.arrayClass_spec h
  exact ⟨cA, fun n z => ⟨fun k h => (by cases h), kA, h2, comp, h3⟩, h1⟩
theorem arr_o {args : Array Value} {s : State} {C : String} (h : (Cond.arrayOver (.object C)).before args s = true) : ∃ cA : ClassId, ArrOfT s cA (.object C) ∧ va_RA s cA (.object C) := by
  obtain ⟨comp, cA, kA, h0, -, h2, h3, h4⟩ := Cond.arrayOver_spec h
  exact ⟨cA, fun n z => ⟨fun k h => (by cases h), kA, h2, comp, h3⟩, kA, comp, h2, h3, h0, h4⟩
set_option maxHeartbeats 4000000 in
theorem law_cx {s : State} {b : Nat} (hts : ∀ w ∈ lw_tbl, w.before #[Value.ref b] s = true) (hgv : (Jvm.Cond.and given_1 narrow_1).before #[Value.ref b] s = true) : ∃ (D : va_G) (t κ : Nat → Nat), CX D t κ (fun q : Nat => s.heap.size ≤ q) s ∧ XO s := by
  have hs : ∀ w ∈ lwF, w.before #[Value.ref b] s = true := flat_of_before _ hgv
  have hA : ∀ a : Nat, a < s.heap.size → ¬ (fun q : Nat => s.heap.size ≤ q) a := fun a h => Nat.not_le.mpr h
  obtain ⟨i0, i1, i2, i3, i4, i5, i6, i7, i8, i9⟩ := tb_i
  obtain ⟨c0, n0, k0⟩ := u_known (C := RX0) (T := TX0) (N := 7) (n := 7) hts inX0 (hts _ i0)
  obtain ⟨c1, n1, k1⟩ := u_known (C := RX1) (T := TX1) (N := 3) (n := 3) hts inX1 (hts _ i1)
  obtain ⟨c2, n2, k2⟩ := u_known (C := RX2) (T := TX2) (N := 12) (n := 12) hts inX2 (hts _ i2)
  obtain ⟨c3, n3, k3⟩ := u_known (C := RX3) (T := TX3) (N := 5) (n := 5) hts inX3 (hts _ i3)
  obtain ⟨c4, n4, k4⟩ := u_known (C := RX4) (T := TX4) (N := 4) (n := 4) hts inX4 (hts _ i4)
  obtain ⟨c5, n5, k5⟩ := u_known (C := RX5) (T := TX5) (N := 3) (n := 3) hts inX5 (hts _ i5)
  obtain ⟨c6, n6, k6⟩ := u_known (C := RX6) (T := TX6) (N := 7) (n := 7) hts inX6 (hts _ i6)
  obtain ⟨c7, n7, k7⟩ := u_known (C := RX7) (T := TX7) (N := 3) (n := 3) hts inX7 (hts _ i7)
  obtain ⟨c8, n8, k8⟩ := u_known (C := RX8) (T := TX8) (N := 11) (n := 11) hts inX8 (hts _ i8)
  obtain ⟨c9, n9, k9⟩ := u_known (C := RX9) (T := TX9) (N := 37) (n := 37) hts inX9 (hts _ i9)
  obtain ⟨a1, a2, a3, a4, a5⟩ := tb_a
  obtain ⟨t0, p0, q0⟩ := arr_c (hts _ a1)
  obtain ⟨t1, p1, q1⟩ := arr_c (hts _ a2)
  obtain ⟨t2, p2, q2⟩ := arr_c (hts _ a3)
  obtain ⟨t3, p3, q3⟩ := arr_o (hts _ a4)
  obtain ⟨t4, p4, q4⟩ := arr_o (hts _ a5)
  obtain ⟨f1, f2, f3, f4, f5, f6, f7, f8⟩ := fl_a
  obtain ⟨l1, l2, l3, l4, l5, l6, l7, l8⟩ := tb_l
  obtain ⟨x0, e0, T0⟩ := va_Tof (f := fun j => .int (tMH.getD j 0)) (by decide) (hs _ f1) (va_eqt (hs _ f2)) (fun j hj => va_eqt (hs _ (fl_mh j hj))) hA
  obtain ⟨x1, e1, T1⟩ := va_Tof (f := fun j => .int (tPL.getD j 0)) (by decide) (hs _ f3) (va_eqt (hs _ f4)) (fun j hj => va_eqt (hs _ (fl_pl j hj))) hA
  obtain ⟨x2, e2, T2⟩ := va_Tof (f := fun j => .int (tPH.getD j 0)) (by decide) (hs _ f5) (va_eqt (hs _ f6)) (fun j hj => va_eqt (hs _ (fl_ph j hj))) hA
  obtain ⟨aK, aV, hV, hE⟩ := vk_Sof (N := 8) (tm := tmS) (len := strL) (byt := strB) (args := #[Value.ref b]) (s := s) (A := fun q : Nat => s.heap.size ≤ q) (by decide) (fun i hi => hs _ (fl_ex i hi)) (fun i hi => hs _ (fl_co i hi)) (fun i hi => hs _ (fl_ar i hi)) (fun i hi => hs _ (fl_le i hi)) (fun i hi j hj => hs _ (fl_el i hi j hj)) (fun i j hi hj h => (fl_ne i hi j hj h).imp (hs _) (hs _)) hA
  refine ⟨(fun k => match k with | 0 => c0 | 1 => c1 | 2 => c2 | 3 => c3 | 4 => c4 | 5 => c5 | 6 => c6 | 7 => c7 | 8 => c8 | _ => c9, fun k => match k with | 0 => n0 | 1 => n1 | 2 => n2 | 3 => n3 | 4 => n4 | 5 => n5 | 6 => n6 | 7 => n7 | 8 => n8 | _ => n9), (fun k => match k with | 0 => t0 | 1 => t1 | 2 => t2 | 3 => t3 | _ => t4), (fun k => if k = 0 then x0 else if k = 1 then x1 else if k = 2 then x2 else if k < 11 then aK (k - 3) else aV (k - 11)), ⟨⟨?_, ?_⟩, ⟨fun q hq => va_Nw.of rfl (hts _ (tb_nf q hq)), fun q hq => va_Nw.of rfl (hts _ (tb_nm q hq))⟩, ?_, ?_⟩, va_AO.of (hts _ a4), va_AO.of (hts _ a5)⟩
  · intro k q hq
    match k, hq with
    | 0, hq => cases hq; exact k0
    | 1, hq => cases hq; exact k1
    | 2, hq => cases hq; exact k2
    | 3, hq => cases hq; exact k3
    | 4, hq => cases hq; exact k4
    | 5, hq => cases hq; exact k5
    | 6, hq => cases hq; exact k6
    | 7, hq => cases hq; exact k7
    | 8, hq => cases hq; exact k8
    | 9, hq => cases hq; exact k9
    | k + 10, hq => simp [vwCl] at hq
  · intro k q hq
    match k, hq with
    | 0, hq => cases hq; exact ⟨p0, q0⟩
    | 1, hq => cases hq; exact ⟨p1, q1⟩
    | 2, hq => cases hq; exact ⟨p2, q2⟩
    | 3, hq => cases hq; exact ⟨p3, q3⟩
    | 4, hq => cases hq; exact ⟨p4, q4⟩
    | k + 5, hq => simp [TYS] at hq
  · intro i q hq
    have hi : i < 8 := (List.getElem?_eq_some_iff.mp hq).1
    have hq2 : strT.getD i (0, "") = q := by rw [List.getD_eq_getElem?_getD, hq]; rfl
    have hk : (if 3 + i = 0 then x0 else if 3 + i = 1 then x1 else if 3 + i = 2 then x2 else if 3 + i < 11 then aK (3 + i - 3) else aV (3 + i - 11)) = aK i := by
      rw [if_neg (by omega), if_neg (by omega), if_neg (by omega), if_pos (by omega), show 3 + i - 3 = i by omega]
    have h1 := hts _ (tb_s i hi)
    have h2 := hE i hi
    unfold tmS at h2
    rw [hq2] at h1 h2
    show vk_R "CoachCourt$Teller" q.1 q.2 (if 3 + i = 0 then x0 else if 3 + i = 1 then x1 else if 3 + i = 2 then x2 else if 3 + i < 11 then aK (3 + i - 3) else aV (3 + i - 11)) s
    rw [hk]
    exact vk_R.of h1 h2
  · refine ⟨⟨va_Zref (hts _ l1) (hts _ l6) e0 hA, T0⟩, ⟨va_Zref (hts _ l2) (hts _ l6) e1 hA, T1⟩, ⟨va_Zref (hts _ l3) (hts _ l6) e2 hA, T2⟩, va_Zof (hts _ l4) (hts _ l7) (va_eqt (hs _ f7)) hA, va_Zqof (hts _ l5) (hts _ l8) (hs _ f8) hA, ?_⟩
    have h3 : ∀ i, i < 8 → (if 3 + i = 0 then x0 else if 3 + i = 1 then x1 else if 3 + i = 2 then x2 else if 3 + i < 11 then aK (3 + i - 3) else aV (3 + i - 11)) = aK i := fun i hi => by
      rw [if_neg (by omega), if_neg (by omega), if_neg (by omega), if_pos (by omega), show 3 + i - 3 = i by omega]
    have h4 : ∀ i, i < 8 → (if 11 + i = 0 then x0 else if 11 + i = 1 then x1 else if 11 + i = 2 then x2 else if 11 + i < 11 then aK (11 + i - 3) else aV (11 + i - 11)) = aV i := fun i hi => by
      rw [if_neg (by omega), if_neg (by omega), if_neg (by omega), if_neg (by omega), show 11 + i - 11 = i by omega]
    refine ⟨fun i hi => ?_, fun i j hi hj e => hV.2 i j hi hj ?_⟩
    · dsimp only
      rw [h3 i hi, h4 i hi]
      exact hV.1 i hi
    · dsimp only at e
      rwa [h3 i hi, h3 j hj] at e
