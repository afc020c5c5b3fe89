/-! a step of the law, method by method -/
section
variable {t : Nat → ClassId} {a : Nat → Nat → Nat} {fi fh : Nat → Option Nat} {G : Nat → S2} {lam : S6}
theorem wn1 {i0 : Nat} : WB t a fi fh G lam [i0] = BK t a fi fh G lam i0 := by
  simp only [WB, List.map_cons, List.map_nil, List.flatten_cons, List.flatten_nil, List.append_nil, List.append_assoc]
theorem wn2 {i0 i1 : Nat} : WB t a fi fh G lam [i0, i1] = BK t a fi fh G lam i0 ++ BK t a fi fh G lam i1 := by
  simp only [WB, List.map_cons, List.map_nil, List.flatten_cons, List.flatten_nil, List.append_nil, List.append_assoc]
theorem wn3 {i0 i1 i2 : Nat} : WB t a fi fh G lam [i0, i1, i2] = BK t a fi fh G lam i0 ++ BK t a fi fh G lam i1 ++ BK t a fi fh G lam i2 := by
  simp only [WB, List.map_cons, List.map_nil, List.flatten_cons, List.flatten_nil, List.append_nil, List.append_assoc]
theorem wn4 {i0 i1 i2 i3 : Nat} : WB t a fi fh G lam [i0, i1, i2, i3] = BK t a fi fh G lam i0 ++ BK t a fi fh G lam i1 ++ BK t a fi fh G lam i2 ++ BK t a fi fh G lam i3 := by
  simp only [WB, List.map_cons, List.map_nil, List.flatten_cons, List.flatten_nil, List.append_nil, List.append_assoc]
theorem wn5 {i0 i1 i2 i3 i4 : Nat} : WB t a fi fh G lam [i0, i1, i2, i3, i4] = BK t a fi fh G lam i0 ++ BK t a fi fh G lam i1 ++ BK t a fi fh G lam i2 ++ BK t a fi fh G lam i3 ++ BK t a fi fh G lam i4 := by
  simp only [WB, List.map_cons, List.map_nil, List.flatten_cons, List.flatten_nil, List.append_nil, List.append_assoc]
theorem wn6 {i0 i1 i2 i3 i4 i5 : Nat} : WB t a fi fh G lam [i0, i1, i2, i3, i4, i5] = BK t a fi fh G lam i0 ++ BK t a fi fh G lam i1 ++ BK t a fi fh G lam i2 ++ BK t a fi fh G lam i3 ++ BK t a fi fh G lam i4 ++ BK t a fi fh G lam i5 := by
  simp only [WB, List.map_cons, List.map_nil, List.flatten_cons, List.flatten_nil, List.append_nil, List.append_assoc]
theorem wn7 {i0 i1 i2 i3 i4 i5 i6 : Nat} : WB t a fi fh G lam [i0, i1, i2, i3, i4, i5, i6] = BK t a fi fh G lam i0 ++ BK t a fi fh G lam i1 ++ BK t a fi fh G lam i2 ++ BK t a fi fh G lam i3 ++ BK t a fi fh G lam i4 ++ BK t a fi fh G lam i5 ++ BK t a fi fh G lam i6 := by
  simp only [WB, List.map_cons, List.map_nil, List.flatten_cons, List.flatten_nil, List.append_nil, List.append_assoc]
theorem wn8 {i0 i1 i2 i3 i4 i5 i6 i7 : Nat} : WB t a fi fh G lam [i0, i1, i2, i3, i4, i5, i6, i7] = BK t a fi fh G lam i0 ++ BK t a fi fh G lam i1 ++ BK t a fi fh G lam i2 ++ BK t a fi fh G lam i3 ++ BK t a fi fh G lam i4 ++ BK t a fi fh G lam i5 ++ BK t a fi fh G lam i6 ++ BK t a fi fh G lam i7 := by
  simp only [WB, List.map_cons, List.map_nil, List.flatten_cons, List.flatten_nil, List.append_nil, List.append_assoc]
theorem wn9 {i0 i1 i2 i3 i4 i5 i6 i7 i8 : Nat} : WB t a fi fh G lam [i0, i1, i2, i3, i4, i5, i6, i7, i8] = BK t a fi fh G lam i0 ++ BK t a fi fh G lam i1 ++ BK t a fi fh G lam i2 ++ BK t a fi fh G lam i3 ++ BK t a fi fh G lam i4 ++ BK t a fi fh G lam i5 ++ BK t a fi fh G lam i6 ++ BK t a fi fh G lam i7 ++ BK t a fi fh G lam i8 := by
  simp only [WB, List.map_cons, List.map_nil, List.flatten_cons, List.flatten_nil, List.append_nil, List.append_assoc]
end
theorem iv_6 {M P : Nat} {mo : S2} {G : Nat → S2} {v : S2} (h : IVm M P mo G) (e : v 2 4 = 0) : IVm M P mo (gset G 6 v) := by
  obtain ⟨a1, a2, a3, a4, a5, a6, a7, a8, a9, a10, a11⟩ := h
  exact ⟨a1, a2, a3, a4, a5, a6, a7, a8, a9, a10, e⟩
theorem iv_0 {M P : Nat} {mo : S2} {G : Nat → S2} {v : S2} (h : IVm M P mo G) (e : v 0 0 = G 0 0 0) : IVm M P mo (gset G 0 v) := by
  obtain ⟨a1, a2, a3, a4, a5, a6, a7, a8, a9, a10, a11⟩ := h
  exact ⟨a1, a2, a3, a4, a5, a6, a7, a8, a9, e.trans a10, a11⟩
theorem ix_win {p : Int32} {n : Nat} {hi : Int32} (hn : n < 2 ^ 31) (hh : hi = nI (n - 1)) (h0 : 0 < n) (h : win p 0 hi = false) : ¬ ixb p n = true := by
  intro h2
  obtain ⟨h3, h4⟩ := not_or.mp (ixb_in h2)
  have h5 : (0 : Int32) ≤ p := i32_nlt.mp h3
  have h6 : p ≤ hi := by
    rw [hh, Int32.le_iff_toInt_le, nI_toInt (by omega)]
    have h7 : p.toNatClampNeg < n := Nat.lt_of_not_le h4
    have h8 : p.toNatClampNeg = p.toInt.toNat := rfl
    have h9 : (0 : Int) ≤ p.toInt := Int32.le_iff_toInt_le.mp h5
    omega
  rw [win, decide_eq_true h5, decide_eq_true h6] at h
  exact Bool.noConfusion h
set_option maxHeartbeats 4000000 in
theorem st_feed {l : Launch} {D : va_G} {t : Nat → ClassId} {κ : Nat → Nat} {a : Nat → Nat → Nat} {fi fh : Nat → Option Nat} {G : Nat → S2} {lam : S6} {p1 : Int32} (hf : FIH a fi fh) (h : Inv G) : ∃ v, Step l D t κ a fi fh yX8_feed wsX8_feed (rmL 1) yX9_feed wsX9_feed (rmL 1) [.int p1] G lam (.int v) := by
  obtain ⟨M, P, h⟩ := h
  obtain ⟨v, tp', mo', e8, e9, ht, f⟩ := sim_feed (cc := G 0) (p1 := p1) h.2.1
  have hI := iv_FF h f ht
  refine ⟨v, [1], [2, 3, 4, 5, 6, 7, 8, 9, 10, 11, 12, 13, 14, 15, 16, 17, 18, 19, 20], (gset G 1 tp'), gset (gset G 1 tp') 20 mo', lam, by decide, ?_, ?_, by intro i hi; simp only [List.mem_cons, List.not_mem_nil, or_false] at hi; rcases hi with rfl | rfl | rfl | rfl | rfl | rfl | rfl | rfl | rfl | rfl | rfl | rfl | rfl | rfl | rfl | rfl | rfl | rfl | rfl <;> rfl, fun i hi => if_neg (by omega), M, P, hI⟩
  · exact ct_e (cX8_feed_ok (l := l) (D := D) (t := t) (κ := κ) (a_cc := a 0) (y_cc_teller := a 2 0) (y_cc_road := a 3 0) (y_cc_trial := a 4 0) (y_cc_drive := a 5 0) (y_cc_seeker := a 6 0) (y_cc_seen := a 7 0) (y_cc_images := a 8 0) (y_cc_sheets := a 15 0) (a_tp := a 1) (s_cc := G 0) (s_tp := G 1) e8) wn2 wn2
  · exact cX9_feed_ok (l := l) (D := D) (t := t) (κ := κ) (a_mo := a 20) (lam := lam) e9

set_option maxHeartbeats 4000000 in
theorem st_end {l : Launch} {D : va_G} {t : Nat → ClassId} {κ : Nat → Nat} {a : Nat → Nat → Nat} {fi fh : Nat → Option Nat} {G : Nat → S2} {lam : S6} {p1 : Int32} (hf : FIH a fi fh) (h : Inv G) : ∃ v, Step l D t κ a fi fh yX8_end wsX8_end (rmL 1) yX9_end wsX9_end (rmL 1) [.int p1] G lam (.int v) := by
  obtain ⟨M, P, h⟩ := h
  obtain ⟨v, tp', mo', e8, e9, ht, f⟩ := sim_end (cc := G 0) (p1 := p1) h.2.1
  have hI := iv_FF h f ht
  refine ⟨v, [1], [2, 3, 4, 5, 6, 7, 8, 9, 10, 11, 12, 13, 14, 15, 16, 17, 18, 19, 20], (gset G 1 tp'), gset (gset G 1 tp') 20 mo', lam, by decide, ?_, ?_, by intro i hi; simp only [List.mem_cons, List.not_mem_nil, or_false] at hi; rcases hi with rfl | rfl | rfl | rfl | rfl | rfl | rfl | rfl | rfl | rfl | rfl | rfl | rfl | rfl | rfl | rfl | rfl | rfl | rfl <;> rfl, fun i hi => if_neg (by omega), M, P, hI⟩
  · exact ct_e (cX8_end_ok (l := l) (D := D) (t := t) (κ := κ) (a_cc := a 0) (y_cc_teller := a 2 0) (y_cc_road := a 3 0) (y_cc_trial := a 4 0) (y_cc_drive := a 5 0) (y_cc_seeker := a 6 0) (y_cc_seen := a 7 0) (y_cc_images := a 8 0) (y_cc_sheets := a 15 0) (a_tp := a 1) (s_cc := G 0) (s_tp := G 1) e8) wn2 wn2
  · exact cX9_end_ok (l := l) (D := D) (t := t) (κ := κ) (a_mo := a 20) (lam := lam) e9

set_option maxHeartbeats 4000000 in
theorem st_text {l : Launch} {D : va_G} {t : Nat → ClassId} {κ : Nat → Nat} {a : Nat → Nat → Nat} {fi fh : Nat → Option Nat} {G : Nat → S2} {lam : S6} (hf : FIH a fi fh) (h : Inv G) : ∃ v, Step l D t κ a fi fh yX8_text wsX8_text (rmL 9) yX9_text wsX9_text (rmL 6) [] G lam (.int v) := by
  obtain ⟨M, P, h⟩ := h
  obtain ⟨v, tp', tl', rd', td', sn', im0', im1', mo', M', P', e8, e9, hr, ht, f, hc⟩ := sim_text (cc := G 0) (tl := G 2) (td := G 4) (sn := G 7) (im0 := G 9) (im1 := G 12) h.1 h.2.1
  have hI := iv_text (tl' := tl') (td' := td') h hr ht f hc
  refine ⟨v, [1, 2, 3, 4, 7, 8, 9, 12], [5, 6, 10, 11, 13, 14, 15, 16, 17, 18, 19, 20], (gset (gset (gset (gset (gset (gset (gset G 1 tp') 2 tl') 3 rd') 4 td') 7 sn') 9 im0') 12 im1'), gset (gset (gset (gset (gset (gset (gset (gset G 1 tp') 2 tl') 3 rd') 4 td') 7 sn') 9 im0') 12 im1') 20 mo', lam, by decide, ?_, ?_, by intro i hi; simp only [List.mem_cons, List.not_mem_nil, or_false] at hi; rcases hi with rfl | rfl | rfl | rfl | rfl | rfl | rfl | rfl | rfl | rfl | rfl | rfl <;> rfl, fun i hi => if_neg (by omega), M', P', hI⟩
  · exact ct_e (cX8_text_ok (l := l) (D := D) (t := t) (κ := κ) (a_cc := a 0) (y_cc_drive := a 5 0) (y_cc_seeker := a 6 0) (y_cc_sheets := a 15 0) (a_tp := a 1) (a_tl := a 2) (a_rd := a 3) (a_tr := a 4) (a_sn := a 7) (a_ia := a 8) (f_ia := fi) (a_im0 := a 9) (y_im0_road := a 10 0) (y_im0_seen := a 11 0) (a_im1 := a 12) (y_im1_road := a 13 0) (y_im1_seen := a 14 0) (s_cc := G 0) (s_tp := G 1) (s_tl := G 2) (s_rd := G 3) (s_tr := G 4) (s_sn := G 7) (s_im0 := G 9) (s_im1 := G 12) hf.1 hf.2.1 e8) wn9 wn9
  · exact cX9_text_ok (l := l) (D := D) (t := t) (κ := κ) (a_mo := a 20) (lam := lam) e9

set_option maxHeartbeats 4000000 in
theorem st_fault {l : Launch} {D : va_G} {t : Nat → ClassId} {κ : Nat → Nat} {a : Nat → Nat → Nat} {fi fh : Nat → Option Nat} {G : Nat → S2} {lam : S6} (hf : FIH a fi fh) (h : Inv G) : ∃ v, Step l D t κ a fi fh yX8_fault wsX8_fault (rmL 0) yX9_fault wsX9_fault (rmL 0) [] G lam (.int v) := by
  obtain ⟨M, P, h⟩ := h
  have hI := h
  refine ⟨(G 1 0 4), [1], [2, 3, 4, 5, 6, 7, 8, 9, 10, 11, 12, 13, 14, 15, 16, 17, 18, 19, 20], G, gset G 20 (G 20), lam, by decide, ?_, ?_, fun _ _ => rfl, fun i hi => if_neg (by omega), M, P, hI⟩
  · exact ct_e (cX8_fault_ok (l := l) (D := D) (t := t) (κ := κ) (a_cc := a 0) (y_cc_teller := a 2 0) (y_cc_road := a 3 0) (y_cc_trial := a 4 0) (y_cc_drive := a 5 0) (y_cc_seeker := a 6 0) (y_cc_seen := a 7 0) (y_cc_images := a 8 0) (y_cc_sheets := a 15 0) (a_tp := a 1) (s_cc := G 0) (s_tp := G 1) rfl) wn2 wn2
  · exact cX9_fault_ok (l := l) (D := D) (t := t) (κ := κ) (a_mo := a 20) (lam := lam) ((sim_fault (cc := G 0) h.2.1).symm.trans rfl)

set_option maxHeartbeats 4000000 in
theorem st_rule {l : Launch} {D : va_G} {t : Nat → ClassId} {κ : Nat → Nat} {a : Nat → Nat → Nat} {fi fh : Nat → Option Nat} {G : Nat → S2} {lam : S6} {p1 : Int32} (hf : FIH a fi fh) (h : Inv G) : ∃ v, Step l D t κ a fi fh yX8_rule wsX8_rule (rmL 2) yX9_rule wsX9_rule (rmL 6) [.int p1] G lam (.int v) := by
  obtain ⟨M, P, h⟩ := h
  obtain ⟨v, mo', e8, e9, f⟩ := sim_rule (cc := G 0) (p1 := p1) h.1
  have hI := iv_SF h f
  refine ⟨v, [3], [1, 2, 4, 5, 6, 7, 8, 9, 10, 11, 12, 13, 14, 15, 16, 17, 18, 19, 20], G, gset G 20 mo', lam, by decide, ?_, ?_, fun _ _ => rfl, fun i hi => if_neg (by omega), M, P, hI⟩
  · exact ct_e (cX8_rule_ok (l := l) (D := D) (t := t) (κ := κ) (a_cc := a 0) (y_cc_tape := a 1 0) (y_cc_teller := a 2 0) (y_cc_trial := a 4 0) (y_cc_drive := a 5 0) (y_cc_seeker := a 6 0) (y_cc_seen := a 7 0) (y_cc_images := a 8 0) (y_cc_sheets := a 15 0) (a_rd := a 3) (s_cc := G 0) (s_rd := G 3) e8) wn2 wn2
  · exact cX9_rule_ok (l := l) (D := D) (t := t) (κ := κ) (a_mo := a 20) (lam := lam) e9

set_option maxHeartbeats 4000000 in
theorem st_mile {l : Launch} {D : va_G} {t : Nat → ClassId} {κ : Nat → Nat} {a : Nat → Nat → Nat} {fi fh : Nat → Option Nat} {G : Nat → S2} {lam : S6} {p1 p2 : Int32} (hf : FIH a fi fh) (h : Inv G) : ∃ v, Step l D t κ a fi fh yX8_mile wsX8_mile (rmL 2) yX9_mile wsX9_mile (rmL 3) [.int p1, .int p2] G lam (.int v) := by
  obtain ⟨M, P, h⟩ := h
  obtain ⟨v, mo', e8, e9, f⟩ := sim_mile (cc := G 0) (p1 := p1) (p2 := p2) h.1
  have hI := iv_SF h f
  refine ⟨v, [3], [1, 2, 4, 5, 6, 7, 8, 9, 10, 11, 12, 13, 14, 15, 16, 17, 18, 19, 20], G, gset G 20 mo', lam, by decide, ?_, ?_, fun _ _ => rfl, fun i hi => if_neg (by omega), M, P, hI⟩
  · exact ct_e (cX8_mile_ok (l := l) (D := D) (t := t) (κ := κ) (a_cc := a 0) (y_cc_tape := a 1 0) (y_cc_teller := a 2 0) (y_cc_trial := a 4 0) (y_cc_drive := a 5 0) (y_cc_seeker := a 6 0) (y_cc_seen := a 7 0) (y_cc_images := a 8 0) (y_cc_sheets := a 15 0) (a_rd := a 3) (s_cc := G 0) (s_rd := G 3) e8) wn2 wn2
  · exact cX9_mile_ok (l := l) (D := D) (t := t) (κ := κ) (a_mo := a 20) (lam := lam) e9

set_option maxHeartbeats 4000000 in
theorem st_party {l : Launch} {D : va_G} {t : Nat → ClassId} {κ : Nat → Nat} {a : Nat → Nat → Nat} {fi fh : Nat → Option Nat} {G : Nat → S2} {lam : S6} {p1 p2 : Int32} (hf : FIH a fi fh) (h : Inv G) : ∃ v, Step l D t κ a fi fh yX8_party wsX8_party (rmL 1) yX9_party wsX9_party (rmL 2) [.int p1, .int p2] G lam (.int v) := by
  obtain ⟨M, P, h⟩ := h
  obtain ⟨v, e8, e9⟩ := sim_party (cc := G 0) (p1 := p1) (p2 := p2) h.1
  have hI := h
  refine ⟨v, [3], [1, 2, 4, 5, 6, 7, 8, 9, 10, 11, 12, 13, 14, 15, 16, 17, 18, 19, 20], G, gset G 20 (G 20), lam, by decide, ?_, ?_, fun _ _ => rfl, fun i hi => if_neg (by omega), M, P, hI⟩
  · exact ct_e (cX8_party_ok (l := l) (D := D) (t := t) (κ := κ) (a_cc := a 0) (y_cc_tape := a 1 0) (y_cc_teller := a 2 0) (y_cc_trial := a 4 0) (y_cc_drive := a 5 0) (y_cc_seeker := a 6 0) (y_cc_seen := a 7 0) (y_cc_images := a 8 0) (y_cc_sheets := a 15 0) (a_rd := a 3) (s_cc := G 0) (s_rd := G 3) e8) wn2 wn2
  · exact cX9_party_ok (l := l) (D := D) (t := t) (κ := κ) (a_mo := a 20) (lam := lam) e9

set_option maxHeartbeats 4000000 in
theorem st_strain {l : Launch} {D : va_G} {t : Nat → ClassId} {κ : Nat → Nat} {a : Nat → Nat → Nat} {fi fh : Nat → Option Nat} {G : Nat → S2} {lam : S6} {p1 p2 : Int32} (hf : FIH a fi fh) (h : Inv G) : ∃ v, Step l D t κ a fi fh yX8_strain wsX8_strain (rmL 2) yX9_strain wsX9_strain (rmL 3) [.int p1, .int p2] G lam (.int v) := by
  obtain ⟨M, P, h⟩ := h
  obtain ⟨v, mo', e8, e9, f⟩ := sim_strain (cc := G 0) (p1 := p1) (p2 := p2) h.1
  have hI := iv_SF h f
  refine ⟨v, [3], [1, 2, 4, 5, 6, 7, 8, 9, 10, 11, 12, 13, 14, 15, 16, 17, 18, 19, 20], G, gset G 20 mo', lam, by decide, ?_, ?_, fun _ _ => rfl, fun i hi => if_neg (by omega), M, P, hI⟩
  · exact ct_e (cX8_strain_ok (l := l) (D := D) (t := t) (κ := κ) (a_cc := a 0) (y_cc_tape := a 1 0) (y_cc_teller := a 2 0) (y_cc_trial := a 4 0) (y_cc_drive := a 5 0) (y_cc_seeker := a 6 0) (y_cc_seen := a 7 0) (y_cc_images := a 8 0) (y_cc_sheets := a 15 0) (a_rd := a 3) (s_cc := G 0) (s_rd := G 3) e8) wn2 wn2
  · exact cX9_strain_ok (l := l) (D := D) (t := t) (κ := κ) (a_mo := a 20) (lam := lam) e9

set_option maxHeartbeats 4000000 in
theorem st_pave {l : Launch} {D : va_G} {t : Nat → ClassId} {κ : Nat → Nat} {a : Nat → Nat → Nat} {fi fh : Nat → Option Nat} {G : Nat → S2} {lam : S6} {p1 p2 p3 : Int32} (hf : FIH a fi fh) (h : Inv G) : ∃ v, Step l D t κ a fi fh yX8_pave wsX8_pave (rmL 1) yX9_pave wsX9_pave (rmL 2) [.int p1, .int p2, .int p3] G lam (.int v) := by
  obtain ⟨M, P, h⟩ := h
  obtain ⟨v, rd', mo', e8, e9, hr, f⟩ := sim_pave (cc := G 0) (p1 := p1) (p2 := p2) (p3 := p3) h.1
  have hI := iv_RF h f hr
  refine ⟨v, [3], [1, 2, 4, 5, 6, 7, 8, 9, 10, 11, 12, 13, 14, 15, 16, 17, 18, 19, 20], (gset G 3 rd'), gset (gset G 3 rd') 20 mo', lam, by decide, ?_, ?_, by intro i hi; simp only [List.mem_cons, List.not_mem_nil, or_false] at hi; rcases hi with rfl | rfl | rfl | rfl | rfl | rfl | rfl | rfl | rfl | rfl | rfl | rfl | rfl | rfl | rfl | rfl | rfl | rfl | rfl <;> rfl, fun i hi => if_neg (by omega), M, P, hI⟩
  · exact ct_e (cX8_pave_ok (l := l) (D := D) (t := t) (κ := κ) (a_cc := a 0) (y_cc_tape := a 1 0) (y_cc_teller := a 2 0) (y_cc_trial := a 4 0) (y_cc_drive := a 5 0) (y_cc_seeker := a 6 0) (y_cc_seen := a 7 0) (y_cc_images := a 8 0) (y_cc_sheets := a 15 0) (a_rd := a 3) (s_cc := G 0) (s_rd := G 3) e8) wn2 wn2
  · exact cX9_pave_ok (l := l) (D := D) (t := t) (κ := κ) (a_mo := a 20) (lam := lam) e9

set_option maxHeartbeats 4000000 in
theorem st_alter {l : Launch} {D : va_G} {t : Nat → ClassId} {κ : Nat → Nat} {a : Nat → Nat → Nat} {fi fh : Nat → Option Nat} {G : Nat → S2} {lam : S6} {p1 p2 p3 : Int32} (hf : FIH a fi fh) (h : Inv G) : ∃ v, Step l D t κ a fi fh yX8_alter wsX8_alter (rmL 1) yX9_alter wsX9_alter (rmL 2) [.int p1, .int p2, .int p3] G lam (.int v) := by
  obtain ⟨M, P, h⟩ := h
  obtain ⟨v, rd', mo', e8, e9, hr, f⟩ := sim_alter (cc := G 0) (p1 := p1) (p2 := p2) (p3 := p3) h.1
  have hI := iv_RF h f hr
  refine ⟨v, [3], [1, 2, 4, 5, 6, 7, 8, 9, 10, 11, 12, 13, 14, 15, 16, 17, 18, 19, 20], (gset G 3 rd'), gset (gset G 3 rd') 20 mo', lam, by decide, ?_, ?_, by intro i hi; simp only [List.mem_cons, List.not_mem_nil, or_false] at hi; rcases hi with rfl | rfl | rfl | rfl | rfl | rfl | rfl | rfl | rfl | rfl | rfl | rfl | rfl | rfl | rfl | rfl | rfl | rfl | rfl <;> rfl, fun i hi => if_neg (by omega), M, P, hI⟩
  · exact ct_e (cX8_alter_ok (l := l) (D := D) (t := t) (κ := κ) (a_cc := a 0) (y_cc_tape := a 1 0) (y_cc_teller := a 2 0) (y_cc_trial := a 4 0) (y_cc_drive := a 5 0) (y_cc_seeker := a 6 0) (y_cc_seen := a 7 0) (y_cc_images := a 8 0) (y_cc_sheets := a 15 0) (a_rd := a 3) (s_cc := G 0) (s_rd := G 3) e8) wn2 wn2
  · exact cX9_alter_ok (l := l) (D := D) (t := t) (κ := κ) (a_mo := a 20) (lam := lam) e9

set_option maxHeartbeats 4000000 in
theorem st_stand {l : Launch} {D : va_G} {t : Nat → ClassId} {κ : Nat → Nat} {a : Nat → Nat → Nat} {fi fh : Nat → Option Nat} {G : Nat → S2} {lam : S6} {p1 p2 : Int32} (hf : FIH a fi fh) (h : Inv G) : ∃ v, Step l D t κ a fi fh yX8_stand wsX8_stand (rmL 1) yX9_stand wsX9_stand (rmL 2) [.int p1, .int p2] G lam (.int v) := by
  obtain ⟨M, P, h⟩ := h
  obtain ⟨v, rd', mo', e8, e9, hr, f⟩ := sim_stand (cc := G 0) (p1 := p1) (p2 := p2) h.1
  have hI := iv_RF h f hr
  refine ⟨v, [3], [1, 2, 4, 5, 6, 7, 8, 9, 10, 11, 12, 13, 14, 15, 16, 17, 18, 19, 20], (gset G 3 rd'), gset (gset G 3 rd') 20 mo', lam, by decide, ?_, ?_, by intro i hi; simp only [List.mem_cons, List.not_mem_nil, or_false] at hi; rcases hi with rfl | rfl | rfl | rfl | rfl | rfl | rfl | rfl | rfl | rfl | rfl | rfl | rfl | rfl | rfl | rfl | rfl | rfl | rfl <;> rfl, fun i hi => if_neg (by omega), M, P, hI⟩
  · exact ct_e (cX8_stand_ok (l := l) (D := D) (t := t) (κ := κ) (a_cc := a 0) (y_cc_tape := a 1 0) (y_cc_teller := a 2 0) (y_cc_trial := a 4 0) (y_cc_drive := a 5 0) (y_cc_seeker := a 6 0) (y_cc_seen := a 7 0) (y_cc_images := a 8 0) (y_cc_sheets := a 15 0) (a_rd := a 3) (s_cc := G 0) (s_rd := G 3) e8) wn2 wn2
  · exact cX9_stand_ok (l := l) (D := D) (t := t) (κ := κ) (a_mo := a 20) (lam := lam) e9

set_option maxHeartbeats 4000000 in
theorem st_set {l : Launch} {D : va_G} {t : Nat → ClassId} {κ : Nat → Nat} {a : Nat → Nat → Nat} {fi fh : Nat → Option Nat} {G : Nat → S2} {lam : S6} {p1 p2 : Int32} (hf : FIH a fi fh) (h : Inv G) : ∃ v, Step l D t κ a fi fh yX8_set wsX8_set (rmL 1) yX9_set wsX9_set (rmL 1) [.int p1, .int p2] G lam (.int v) := by
  obtain ⟨M, P, h⟩ := h
  obtain ⟨v, rd', mo', e8, e9, hr, f⟩ := sim_set (cc := G 0) (p1 := p1) (p2 := p2) h.1
  have hI := iv_RF h f hr
  refine ⟨v, [3], [1, 2, 4, 5, 6, 7, 8, 9, 10, 11, 12, 13, 14, 15, 16, 17, 18, 19, 20], (gset G 3 rd'), gset (gset G 3 rd') 20 mo', lam, by decide, ?_, ?_, by intro i hi; simp only [List.mem_cons, List.not_mem_nil, or_false] at hi; rcases hi with rfl | rfl | rfl | rfl | rfl | rfl | rfl | rfl | rfl | rfl | rfl | rfl | rfl | rfl | rfl | rfl | rfl | rfl | rfl <;> rfl, fun i hi => if_neg (by omega), M, P, hI⟩
  · exact ct_e (cX8_set_ok (l := l) (D := D) (t := t) (κ := κ) (a_cc := a 0) (y_cc_tape := a 1 0) (y_cc_teller := a 2 0) (y_cc_trial := a 4 0) (y_cc_drive := a 5 0) (y_cc_seeker := a 6 0) (y_cc_seen := a 7 0) (y_cc_images := a 8 0) (y_cc_sheets := a 15 0) (a_rd := a 3) (s_cc := G 0) (s_rd := G 3) e8) wn2 wn2
  · exact cX9_set_ok (l := l) (D := D) (t := t) (κ := κ) (a_mo := a 20) (lam := lam) e9

set_option maxHeartbeats 4000000 in
theorem st_turn {l : Launch} {D : va_G} {t : Nat → ClassId} {κ : Nat → Nat} {a : Nat → Nat → Nat} {fi fh : Nat → Option Nat} {G : Nat → S2} {lam : S6} {p1 : Int32} (hf : FIH a fi fh) (h : Inv G) : ∃ v, Step l D t κ a fi fh yX8_turn wsX8_turn (rmL 1) yX9_turn wsX9_turn (rmL 1) [.int p1] G lam (.int v) := by
  obtain ⟨M, P, h⟩ := h
  obtain ⟨v, rd', mo', e8, e9, hr, f⟩ := sim_turn (cc := G 0) (p1 := p1) h.1
  have hI := iv_RF h f hr
  refine ⟨v, [3], [1, 2, 4, 5, 6, 7, 8, 9, 10, 11, 12, 13, 14, 15, 16, 17, 18, 19, 20], (gset G 3 rd'), gset (gset G 3 rd') 20 mo', lam, by decide, ?_, ?_, by intro i hi; simp only [List.mem_cons, List.not_mem_nil, or_false] at hi; rcases hi with rfl | rfl | rfl | rfl | rfl | rfl | rfl | rfl | rfl | rfl | rfl | rfl | rfl | rfl | rfl | rfl | rfl | rfl | rfl <;> rfl, fun i hi => if_neg (by omega), M, P, hI⟩
  · exact ct_e (cX8_turn_ok (l := l) (D := D) (t := t) (κ := κ) (a_cc := a 0) (y_cc_tape := a 1 0) (y_cc_teller := a 2 0) (y_cc_trial := a 4 0) (y_cc_drive := a 5 0) (y_cc_seeker := a 6 0) (y_cc_seen := a 7 0) (y_cc_images := a 8 0) (y_cc_sheets := a 15 0) (a_rd := a 3) (s_cc := G 0) (s_rd := G 3) e8) wn2 wn2
  · exact cX9_turn_ok (l := l) (D := D) (t := t) (κ := κ) (a_mo := a 20) (lam := lam) e9

set_option maxHeartbeats 4000000 in
theorem st_fate {l : Launch} {D : va_G} {t : Nat → ClassId} {κ : Nat → Nat} {a : Nat → Nat → Nat} {fi fh : Nat → Option Nat} {G : Nat → S2} {lam : S6} {p1 p2 : Int32} (hf : FIH a fi fh) (h : Inv G) : ∃ v, Step l D t κ a fi fh yX8_fate wsX8_fate (rmL 4) yX9_fate wsX9_fate (rmL 6) [.int p1, .int p2] G lam (.int v) := by
  obtain ⟨M, P, h⟩ := h
  obtain ⟨v, d', mo', e8, e9, f⟩ := sim_fate (cc := G 0) (p1 := p1) (p2 := p2) (dr := G 5) h.1
  have hI := iv_SF h f
  refine ⟨v, [3, 5], [1, 2, 4, 6, 7, 8, 9, 10, 11, 12, 13, 14, 15, 16, 17, 18, 19, 20], (gset G 5 d'), gset (gset G 5 d') 20 mo', lam, by decide, ?_, ?_, by intro i hi; simp only [List.mem_cons, List.not_mem_nil, or_false] at hi; rcases hi with rfl | rfl | rfl | rfl | rfl | rfl | rfl | rfl | rfl | rfl | rfl | rfl | rfl | rfl | rfl | rfl | rfl | rfl <;> rfl, fun i hi => if_neg (by omega), M, P, hI⟩
  · exact ct_e (cX8_fate_ok (l := l) (D := D) (t := t) (κ := κ) (a_cc := a 0) (y_cc_tape := a 1 0) (y_cc_teller := a 2 0) (y_cc_trial := a 4 0) (y_cc_seeker := a 6 0) (y_cc_seen := a 7 0) (y_cc_images := a 8 0) (y_cc_sheets := a 15 0) (a_rd := a 3) (a_dr := a 5) (s_cc := G 0) (s_rd := G 3) (s_dr := G 5) e8) wn3 wn3
  · exact cX9_fate_ok (l := l) (D := D) (t := t) (κ := κ) (a_mo := a 20) (lam := lam) e9

set_option maxHeartbeats 4000000 in
theorem st_beside {l : Launch} {D : va_G} {t : Nat → ClassId} {κ : Nat → Nat} {a : Nat → Nat → Nat} {fi fh : Nat → Option Nat} {G : Nat → S2} {lam : S6} {p1 : Int32} (hf : FIH a fi fh) (h : Inv G) : ∃ v, Step l D t κ a fi fh yX8_beside wsX8_beside (rmL 4) yX9_beside wsX9_beside (rmL 6) [.int p1] G lam (.int v) := by
  obtain ⟨M, P, h⟩ := h
  obtain ⟨v, d', mo', e8, e9, f⟩ := sim_beside (cc := G 0) (p1 := p1) (dr := G 5) h.1
  have hI := iv_SF h f
  refine ⟨v, [3, 5], [1, 2, 4, 6, 7, 8, 9, 10, 11, 12, 13, 14, 15, 16, 17, 18, 19, 20], (gset G 5 d'), gset (gset G 5 d') 20 mo', lam, by decide, ?_, ?_, by intro i hi; simp only [List.mem_cons, List.not_mem_nil, or_false] at hi; rcases hi with rfl | rfl | rfl | rfl | rfl | rfl | rfl | rfl | rfl | rfl | rfl | rfl | rfl | rfl | rfl | rfl | rfl | rfl <;> rfl, fun i hi => if_neg (by omega), M, P, hI⟩
  · exact ct_e (cX8_beside_ok (l := l) (D := D) (t := t) (κ := κ) (a_cc := a 0) (y_cc_tape := a 1 0) (y_cc_teller := a 2 0) (y_cc_trial := a 4 0) (y_cc_seeker := a 6 0) (y_cc_seen := a 7 0) (y_cc_images := a 8 0) (y_cc_sheets := a 15 0) (a_rd := a 3) (a_dr := a 5) (s_cc := G 0) (s_rd := G 3) (s_dr := G 5) e8) wn3 wn3
  · exact cX9_beside_ok (l := l) (D := D) (t := t) (κ := κ) (a_mo := a 20) (lam := lam) e9

set_option maxHeartbeats 4000000 in
theorem st_sum {l : Launch} {D : va_G} {t : Nat → ClassId} {κ : Nat → Nat} {a : Nat → Nat → Nat} {fi fh : Nat → Option Nat} {G : Nat → S2} {lam : S6} {p1 : Int32} (hf : FIH a fi fh) (h : Inv G) : ∃ v, Step l D t κ a fi fh yX8_sum wsX8_sum (rmL 4) yX9_sum wsX9_sum (rmL 6) [.int p1] G lam (.int v) := by
  obtain ⟨M, P, h⟩ := h
  obtain ⟨v, d', mo', e8, e9, f⟩ := sim_sum (cc := G 0) (p1 := p1) (dr := G 5) h.1
  have hI := iv_SF h f
  refine ⟨v, [3, 5], [1, 2, 4, 6, 7, 8, 9, 10, 11, 12, 13, 14, 15, 16, 17, 18, 19, 20], (gset G 5 d'), gset (gset G 5 d') 20 mo', lam, by decide, ?_, ?_, by intro i hi; simp only [List.mem_cons, List.not_mem_nil, or_false] at hi; rcases hi with rfl | rfl | rfl | rfl | rfl | rfl | rfl | rfl | rfl | rfl | rfl | rfl | rfl | rfl | rfl | rfl | rfl | rfl <;> rfl, fun i hi => if_neg (by omega), M, P, hI⟩
  · exact ct_e (cX8_sum_ok (l := l) (D := D) (t := t) (κ := κ) (a_cc := a 0) (y_cc_tape := a 1 0) (y_cc_teller := a 2 0) (y_cc_trial := a 4 0) (y_cc_seeker := a 6 0) (y_cc_seen := a 7 0) (y_cc_images := a 8 0) (y_cc_sheets := a 15 0) (a_rd := a 3) (a_dr := a 5) (s_cc := G 0) (s_rd := G 3) (s_dr := G 5) e8) wn3 wn3
  · exact cX9_sum_ok (l := l) (D := D) (t := t) (κ := κ) (a_mo := a 20) (lam := lam) e9

set_option maxHeartbeats 4000000 in
theorem st_best {l : Launch} {D : va_G} {t : Nat → ClassId} {κ : Nat → Nat} {a : Nat → Nat → Nat} {fi fh : Nat → Option Nat} {G : Nat → S2} {lam : S6} {p1 : Int32} (hf : FIH a fi fh) (h : Inv G) : ∃ v, Step l D t κ a fi fh yX8_best wsX8_best (rmL 13) yX9_best wsX9_best (rmL 7) [.int p1] G lam (.int v) := by
  obtain ⟨M, P, h⟩ := h
  obtain ⟨v, td', dr', sk', mo', e8, e9, f, h4⟩ := sim_best (cc := G 0) (p1 := p1) (td := G 4) (dr := G 5) h.1 h.2.2.2.2.2.2.2.2.2.2
  have hI := iv_6 (iv_SF h f) h4
  refine ⟨v, [3, 4, 5, 6], [1, 2, 7, 8, 9, 10, 11, 12, 13, 14, 15, 16, 17, 18, 19, 20], (gset (gset (gset G 4 td') 5 dr') 6 sk'), gset (gset (gset (gset G 4 td') 5 dr') 6 sk') 20 mo', lam, by decide, ?_, ?_, by intro i hi; simp only [List.mem_cons, List.not_mem_nil, or_false] at hi; rcases hi with rfl | rfl | rfl | rfl | rfl | rfl | rfl | rfl | rfl | rfl | rfl | rfl | rfl | rfl | rfl | rfl <;> rfl, fun i hi => if_neg (by omega), M, P, hI⟩
  · exact ct_e (cX8_best_ok (l := l) (D := D) (t := t) (κ := κ) (a_cc := a 0) (y_cc_tape := a 1 0) (y_cc_teller := a 2 0) (y_cc_seen := a 7 0) (y_cc_images := a 8 0) (y_cc_sheets := a 15 0) (a_rd := a 3) (a_tr := a 4) (a_dr := a 5) (a_sk := a 6) (s_cc := G 0) (s_rd := G 3) (s_tr := G 4) (s_dr := G 5) (s_sk := G 6) e8) wn5 wn5
  · exact cX9_best_ok (l := l) (D := D) (t := t) (κ := κ) (a_mo := a 20) (lam := lam) e9

set_option maxHeartbeats 4000000 in
theorem st_place {l : Launch} {D : va_G} {t : Nat → ClassId} {κ : Nat → Nat} {a : Nat → Nat → Nat} {fi fh : Nat → Option Nat} {G : Nat → S2} {lam : S6} {p1 p2 : Int32} (hf : FIH a fi fh) (h : Inv G) : ∃ v, Step l D t κ a fi fh yX8_place wsX8_place (rmL 6) yX9_place wsX9_place (rmL 7) [.int p1, .int p2] G lam (.int v) := by
  obtain ⟨M, P, h⟩ := h
  obtain ⟨v, tr', dr', mo', e8, e9, f⟩ := sim_place (cc := G 0) (p1 := p1) (p2 := p2) (tr := G 4) (dr := G 5) h.1
  have hI := iv_SF h f
  refine ⟨v, [3, 4, 5], [1, 2, 6, 7, 8, 9, 10, 11, 12, 13, 14, 15, 16, 17, 18, 19, 20], (gset (gset G 4 tr') 5 dr'), gset (gset (gset G 4 tr') 5 dr') 20 mo', lam, by decide, ?_, ?_, by intro i hi; simp only [List.mem_cons, List.not_mem_nil, or_false] at hi; rcases hi with rfl | rfl | rfl | rfl | rfl | rfl | rfl | rfl | rfl | rfl | rfl | rfl | rfl | rfl | rfl | rfl | rfl <;> rfl, fun i hi => if_neg (by omega), M, P, hI⟩
  · exact ct_e (cX8_place_ok (l := l) (D := D) (t := t) (κ := κ) (a_cc := a 0) (y_cc_tape := a 1 0) (y_cc_teller := a 2 0) (y_cc_seeker := a 6 0) (y_cc_seen := a 7 0) (y_cc_images := a 8 0) (y_cc_sheets := a 15 0) (a_rd := a 3) (a_tr := a 4) (a_dr := a 5) (s_cc := G 0) (s_rd := G 3) (s_tr := G 4) (s_dr := G 5) e8) wn4 wn4
  · exact cX9_place_ok (l := l) (D := D) (t := t) (κ := κ) (a_mo := a 20) (lam := lam) e9

set_option maxHeartbeats 4000000 in
theorem st_never {l : Launch} {D : va_G} {t : Nat → ClassId} {κ : Nat → Nat} {a : Nat → Nat → Nat} {fi fh : Nat → Option Nat} {G : Nat → S2} {lam : S6} (hf : FIH a fi fh) (h : Inv G) : ∃ v, Step l D t κ a fi fh yX8_never wsX8_never (rmL 6) yX9_never wsX9_never (rmL 7) [] G lam (.int v) := by
  obtain ⟨M, P, h⟩ := h
  obtain ⟨v, tr', dr', mo', e8, e9, f⟩ := sim_never (cc := G 0) (tr := G 4) (dr := G 5) h.1
  have hI := iv_SF h f
  refine ⟨v, [3, 4, 5], [1, 2, 6, 7, 8, 9, 10, 11, 12, 13, 14, 15, 16, 17, 18, 19, 20], (gset (gset G 4 tr') 5 dr'), gset (gset (gset G 4 tr') 5 dr') 20 mo', lam, by decide, ?_, ?_, by intro i hi; simp only [List.mem_cons, List.not_mem_nil, or_false] at hi; rcases hi with rfl | rfl | rfl | rfl | rfl | rfl | rfl | rfl | rfl | rfl | rfl | rfl | rfl | rfl | rfl | rfl | rfl <;> rfl, fun i hi => if_neg (by omega), M, P, hI⟩
  · exact ct_e (cX8_never_ok (l := l) (D := D) (t := t) (κ := κ) (a_cc := a 0) (y_cc_tape := a 1 0) (y_cc_teller := a 2 0) (y_cc_seeker := a 6 0) (y_cc_seen := a 7 0) (y_cc_images := a 8 0) (y_cc_sheets := a 15 0) (a_rd := a 3) (a_tr := a 4) (a_dr := a 5) (s_cc := G 0) (s_rd := G 3) (s_tr := G 4) (s_dr := G 5) e8) wn4 wn4
  · exact cX9_never_ok (l := l) (D := D) (t := t) (κ := κ) (a_mo := a 20) (lam := lam) e9

set_option maxHeartbeats 4000000 in
theorem st_oats {l : Launch} {D : va_G} {t : Nat → ClassId} {κ : Nat → Nat} {a : Nat → Nat → Nat} {fi fh : Nat → Option Nat} {G : Nat → S2} {lam : S6} {p1 : Int32} (hf : FIH a fi fh) (h : Inv G) : ∃ v, Step l D t κ a fi fh yX8_oats wsX8_oats (rmL 4) yX9_oats wsX9_oats (rmL 6) [.int p1] G lam (.int v) := by
  obtain ⟨M, P, h⟩ := h
  obtain ⟨v, tr', dr', mo', e8, e9, f⟩ := sim_oats (cc := G 0) (p1 := p1) (tr := G 4) (dr := G 5) h.1
  have hI := iv_SF h f
  refine ⟨v, [3, 4, 5], [1, 2, 6, 7, 8, 9, 10, 11, 12, 13, 14, 15, 16, 17, 18, 19, 20], (gset (gset G 4 tr') 5 dr'), gset (gset (gset G 4 tr') 5 dr') 20 mo', lam, by decide, ?_, ?_, by intro i hi; simp only [List.mem_cons, List.not_mem_nil, or_false] at hi; rcases hi with rfl | rfl | rfl | rfl | rfl | rfl | rfl | rfl | rfl | rfl | rfl | rfl | rfl | rfl | rfl | rfl | rfl <;> rfl, fun i hi => if_neg (by omega), M, P, hI⟩
  · exact ct_e (cX8_oats_ok (l := l) (D := D) (t := t) (κ := κ) (a_cc := a 0) (y_cc_tape := a 1 0) (y_cc_teller := a 2 0) (y_cc_seeker := a 6 0) (y_cc_seen := a 7 0) (y_cc_images := a 8 0) (y_cc_sheets := a 15 0) (a_rd := a 3) (a_tr := a 4) (a_dr := a 5) (s_cc := G 0) (s_rd := G 3) (s_tr := G 4) (s_dr := G 5) e8) wn4 wn4
  · exact cX9_oats_ok (l := l) (D := D) (t := t) (κ := κ) (a_mo := a 20) (lam := lam) e9

set_option maxHeartbeats 4000000 in
theorem st_room {l : Launch} {D : va_G} {t : Nat → ClassId} {κ : Nat → Nat} {a : Nat → Nat → Nat} {fi fh : Nat → Option Nat} {G : Nat → S2} {lam : S6} (hf : FIH a fi fh) (h : Inv G) : ∃ v, Step l D t κ a fi fh yX8_room wsX8_room (rmL 5) yX9_room wsX9_room (rmL 8) [] G lam (.int v) := by
  obtain ⟨M, P, h⟩ := h
  obtain ⟨v, tr', dr', mo', e8, e9, f⟩ := sim_room (cc := G 0) (tr := G 4) (dr := G 5) h.1
  have hI := iv_SF h f
  refine ⟨v, [3, 4, 5], [1, 2, 6, 7, 8, 9, 10, 11, 12, 13, 14, 15, 16, 17, 18, 19, 20], (gset (gset G 4 tr') 5 dr'), gset (gset (gset G 4 tr') 5 dr') 20 mo', lam, by decide, ?_, ?_, by intro i hi; simp only [List.mem_cons, List.not_mem_nil, or_false] at hi; rcases hi with rfl | rfl | rfl | rfl | rfl | rfl | rfl | rfl | rfl | rfl | rfl | rfl | rfl | rfl | rfl | rfl | rfl <;> rfl, fun i hi => if_neg (by omega), M, P, hI⟩
  · exact ct_e (cX8_room_ok (l := l) (D := D) (t := t) (κ := κ) (a_cc := a 0) (y_cc_tape := a 1 0) (y_cc_teller := a 2 0) (y_cc_seeker := a 6 0) (y_cc_seen := a 7 0) (y_cc_images := a 8 0) (y_cc_sheets := a 15 0) (a_rd := a 3) (a_tr := a 4) (a_dr := a 5) (s_cc := G 0) (s_rd := G 3) (s_tr := G 4) (s_dr := G 5) e8) wn4 wn4
  · exact cX9_room_ok (l := l) (D := D) (t := t) (κ := κ) (a_mo := a 20) (lam := lam) e9

set_option maxHeartbeats 4000000 in
theorem st_snow {l : Launch} {D : va_G} {t : Nat → ClassId} {κ : Nat → Nat} {a : Nat → Nat → Nat} {fi fh : Nat → Option Nat} {G : Nat → S2} {lam : S6} (hf : FIH a fi fh) (h : Inv G) : ∃ v, Step l D t κ a fi fh yX8_snow wsX8_snow (rmL 5) yX9_snow wsX9_snow (rmL 8) [] G lam (.int v) := by
  obtain ⟨M, P, h⟩ := h
  obtain ⟨v, tr', dr', mo', e8, e9, f⟩ := sim_snow (cc := G 0) (tr := G 4) (dr := G 5) h.1
  have hI := iv_SF h f
  refine ⟨v, [3, 4, 5], [1, 2, 6, 7, 8, 9, 10, 11, 12, 13, 14, 15, 16, 17, 18, 19, 20], (gset (gset G 4 tr') 5 dr'), gset (gset (gset G 4 tr') 5 dr') 20 mo', lam, by decide, ?_, ?_, by intro i hi; simp only [List.mem_cons, List.not_mem_nil, or_false] at hi; rcases hi with rfl | rfl | rfl | rfl | rfl | rfl | rfl | rfl | rfl | rfl | rfl | rfl | rfl | rfl | rfl | rfl | rfl <;> rfl, fun i hi => if_neg (by omega), M, P, hI⟩
  · exact ct_e (cX8_snow_ok (l := l) (D := D) (t := t) (κ := κ) (a_cc := a 0) (y_cc_tape := a 1 0) (y_cc_teller := a 2 0) (y_cc_seeker := a 6 0) (y_cc_seen := a 7 0) (y_cc_images := a 8 0) (y_cc_sheets := a 15 0) (a_rd := a 3) (a_tr := a 4) (a_dr := a 5) (s_cc := G 0) (s_rd := G 3) (s_tr := G 4) (s_dr := G 5) e8) wn4 wn4
  · exact cX9_snow_ok (l := l) (D := D) (t := t) (κ := κ) (a_mo := a 20) (lam := lam) e9

set_option maxHeartbeats 4000000 in
theorem st_rain {l : Launch} {D : va_G} {t : Nat → ClassId} {κ : Nat → Nat} {a : Nat → Nat → Nat} {fi fh : Nat → Option Nat} {G : Nat → S2} {lam : S6} {p1 : Int32} (hf : FIH a fi fh) (h : Inv G) : ∃ v, Step l D t κ a fi fh yX8_rain wsX8_rain (rmL 5) yX9_rain wsX9_rain (rmL 7) [.int p1] G lam (.int v) := by
  obtain ⟨M, P, h⟩ := h
  obtain ⟨v, tr', dr', mo', e8, e9, f⟩ := sim_rain (cc := G 0) (p1 := p1) (tr := G 4) (dr := G 5) h.1
  have hI := iv_SF h f
  refine ⟨v, [3, 4, 5], [1, 2, 6, 7, 8, 9, 10, 11, 12, 13, 14, 15, 16, 17, 18, 19, 20], (gset (gset G 4 tr') 5 dr'), gset (gset (gset G 4 tr') 5 dr') 20 mo', lam, by decide, ?_, ?_, by intro i hi; simp only [List.mem_cons, List.not_mem_nil, or_false] at hi; rcases hi with rfl | rfl | rfl | rfl | rfl | rfl | rfl | rfl | rfl | rfl | rfl | rfl | rfl | rfl | rfl | rfl | rfl <;> rfl, fun i hi => if_neg (by omega), M, P, hI⟩
  · exact ct_e (cX8_rain_ok (l := l) (D := D) (t := t) (κ := κ) (a_cc := a 0) (y_cc_tape := a 1 0) (y_cc_teller := a 2 0) (y_cc_seeker := a 6 0) (y_cc_seen := a 7 0) (y_cc_images := a 8 0) (y_cc_sheets := a 15 0) (a_rd := a 3) (a_tr := a 4) (a_dr := a 5) (s_cc := G 0) (s_rd := G 3) (s_tr := G 4) (s_dr := G 5) e8) wn4 wn4
  · exact cX9_rain_ok (l := l) (D := D) (t := t) (κ := κ) (a_mo := a 20) (lam := lam) e9

set_option maxHeartbeats 4000000 in
theorem st_luck {l : Launch} {D : va_G} {t : Nat → ClassId} {κ : Nat → Nat} {a : Nat → Nat → Nat} {fi fh : Nat → Option Nat} {G : Nat → S2} {lam : S6} {p1 p2 p3 : Int32} (hf : FIH a fi fh) (h : Inv G) : ∃ v, Step l D t κ a fi fh yX8_luck wsX8_luck (rmL 5) yX9_luck wsX9_luck (rmL 7) [.int p1, .int p2, .int p3] G lam (.long v) := by
  obtain ⟨M, P, h⟩ := h
  obtain ⟨v, tr', dr', mo', lam', e8, e9, f⟩ := sim_luck (cc := G 0) (p1 := p1) (p2 := p2) (p3 := p3) (tr := G 4) (dr := G 5) (lam := lam) h.1
  have hI := iv_SF h f
  refine ⟨v, [3, 4, 5], [1, 2, 6, 7, 8, 9, 10, 11, 12, 13, 14, 15, 16, 17, 18, 19, 20], (gset (gset G 4 tr') 5 dr'), gset (gset (gset G 4 tr') 5 dr') 20 mo', lam', by decide, ?_, ?_, by intro i hi; simp only [List.mem_cons, List.not_mem_nil, or_false] at hi; rcases hi with rfl | rfl | rfl | rfl | rfl | rfl | rfl | rfl | rfl | rfl | rfl | rfl | rfl | rfl | rfl | rfl | rfl <;> rfl, fun i hi => if_neg (by omega), M, P, hI⟩
  · exact ct_e (cX8_luck_ok (l := l) (D := D) (t := t) (κ := κ) (a_cc := a 0) (y_cc_tape := a 1 0) (y_cc_teller := a 2 0) (y_cc_seeker := a 6 0) (y_cc_seen := a 7 0) (y_cc_images := a 8 0) (y_cc_sheets := a 15 0) (a_rd := a 3) (a_tr := a 4) (a_dr := a 5) (s_cc := G 0) (s_rd := G 3) (s_tr := G 4) (s_dr := G 5) e8) wn4 wn4
  · exact cX9_luck_ok (l := l) (D := D) (t := t) (κ := κ) (a_mo := a 20) (lam := lam) e9

set_option maxHeartbeats 4000000 in
theorem st_mean {l : Launch} {D : va_G} {t : Nat → ClassId} {κ : Nat → Nat} {a : Nat → Nat → Nat} {fi fh : Nat → Option Nat} {G : Nat → S2} {lam : S6} {p1 p2 : Int32} (hf : FIH a fi fh) (h : Inv G) : ∃ v, Step l D t κ a fi fh yX8_mean wsX8_mean (rmL 5) yX9_mean wsX9_mean (rmL 7) [.int p1, .int p2] G lam (.long v) := by
  obtain ⟨M, P, h⟩ := h
  obtain ⟨v, tr', dr', mo', lam', e8, e9, f⟩ := sim_mean (cc := G 0) (p1 := p1) (p2 := p2) (tr := G 4) (dr := G 5) (lam := lam) h.1
  have hI := iv_SF h f
  refine ⟨v, [3, 4, 5], [1, 2, 6, 7, 8, 9, 10, 11, 12, 13, 14, 15, 16, 17, 18, 19, 20], (gset (gset G 4 tr') 5 dr'), gset (gset (gset G 4 tr') 5 dr') 20 mo', lam', by decide, ?_, ?_, by intro i hi; simp only [List.mem_cons, List.not_mem_nil, or_false] at hi; rcases hi with rfl | rfl | rfl | rfl | rfl | rfl | rfl | rfl | rfl | rfl | rfl | rfl | rfl | rfl | rfl | rfl | rfl <;> rfl, fun i hi => if_neg (by omega), M, P, hI⟩
  · exact ct_e (cX8_mean_ok (l := l) (D := D) (t := t) (κ := κ) (a_cc := a 0) (y_cc_tape := a 1 0) (y_cc_teller := a 2 0) (y_cc_seeker := a 6 0) (y_cc_seen := a 7 0) (y_cc_images := a 8 0) (y_cc_sheets := a 15 0) (a_rd := a 3) (a_tr := a 4) (a_dr := a 5) (s_cc := G 0) (s_rd := G 3) (s_tr := G 4) (s_dr := G 5) e8) wn4 wn4
  · exact cX9_mean_ok (l := l) (D := D) (t := t) (κ := κ) (a_mo := a 20) (lam := lam) e9

set_option maxHeartbeats 4000000 in
theorem st_see {l : Launch} {D : va_G} {t : Nat → ClassId} {κ : Nat → Nat} {a : Nat → Nat → Nat} {fi fh : Nat → Option Nat} {G : Nat → S2} {lam : S6} {p1 p2 : Int32} (hf : FIH a fi fh) (h : Inv G) : ∃ v, Step l D t κ a fi fh yX8_see wsX8_see (rmL 1) yX9_see wsX9_see (rmL 2) [.int p1, .int p2] G lam (.int v) := by
  obtain ⟨M, P, h⟩ := h
  obtain ⟨v, sn', mo', e8, e9, hs, f⟩ := sim_see (cc := G 0) (p1 := p1) (p2 := p2) h.1 h.2.2.1
  have hI := iv_NF h f hs
  refine ⟨v, [3, 7], [1, 2, 4, 5, 6, 8, 9, 10, 11, 12, 13, 14, 15, 16, 17, 18, 19, 20], (gset G 7 sn'), gset (gset G 7 sn') 20 mo', lam, by decide, ?_, ?_, by intro i hi; simp only [List.mem_cons, List.not_mem_nil, or_false] at hi; rcases hi with rfl | rfl | rfl | rfl | rfl | rfl | rfl | rfl | rfl | rfl | rfl | rfl | rfl | rfl | rfl | rfl | rfl | rfl <;> rfl, fun i hi => if_neg (by omega), M, P, hI⟩
  · exact ct_e (cX8_see_ok (l := l) (D := D) (t := t) (κ := κ) (a_cc := a 0) (y_cc_tape := a 1 0) (y_cc_teller := a 2 0) (y_cc_trial := a 4 0) (y_cc_drive := a 5 0) (y_cc_seeker := a 6 0) (y_cc_images := a 8 0) (y_cc_sheets := a 15 0) (a_rd := a 3) (a_sn := a 7) (s_cc := G 0) (s_rd := G 3) (s_sn := G 7) e8) wn3 wn3
  · exact cX9_see_ok (l := l) (D := D) (t := t) (κ := κ) (a_mo := a 20) (lam := lam) e9

set_option maxHeartbeats 4000000 in
theorem st_forget {l : Launch} {D : va_G} {t : Nat → ClassId} {κ : Nat → Nat} {a : Nat → Nat → Nat} {fi fh : Nat → Option Nat} {G : Nat → S2} {lam : S6} {p1 : Int32} (hf : FIH a fi fh) (h : Inv G) : ∃ v, Step l D t κ a fi fh yX8_forget wsX8_forget (rmL 1) yX9_forget wsX9_forget (rmL 1) [.int p1] G lam (.int v) := by
  obtain ⟨M, P, h⟩ := h
  obtain ⟨v, sn', mo', e8, e9, hs, f⟩ := sim_forget (cc := G 0) (p1 := p1) h.2.2.1
  have hI := iv_NF h f hs
  refine ⟨v, [7], [1, 2, 3, 4, 5, 6, 8, 9, 10, 11, 12, 13, 14, 15, 16, 17, 18, 19, 20], (gset G 7 sn'), gset (gset G 7 sn') 20 mo', lam, by decide, ?_, ?_, by intro i hi; simp only [List.mem_cons, List.not_mem_nil, or_false] at hi; rcases hi with rfl | rfl | rfl | rfl | rfl | rfl | rfl | rfl | rfl | rfl | rfl | rfl | rfl | rfl | rfl | rfl | rfl | rfl | rfl <;> rfl, fun i hi => if_neg (by omega), M, P, hI⟩
  · exact ct_e (cX8_forget_ok (l := l) (D := D) (t := t) (κ := κ) (a_cc := a 0) (y_cc_tape := a 1 0) (y_cc_teller := a 2 0) (y_cc_road := a 3 0) (y_cc_trial := a 4 0) (y_cc_drive := a 5 0) (y_cc_seeker := a 6 0) (y_cc_images := a 8 0) (y_cc_sheets := a 15 0) (a_sn := a 7) (s_cc := G 0) (s_sn := G 7) e8) wn2 wn2
  · exact cX9_forget_ok (l := l) (D := D) (t := t) (κ := κ) (a_mo := a 20) (lam := lam) e9

set_option maxHeartbeats 4000000 in
theorem st_turned {l : Launch} {D : va_G} {t : Nat → ClassId} {κ : Nat → Nat} {a : Nat → Nat → Nat} {fi fh : Nat → Option Nat} {G : Nat → S2} {lam : S6} (hf : FIH a fi fh) (h : Inv G) : ∃ v, Step l D t κ a fi fh yX8_turned wsX8_turned (rmL 5) yX9_turned wsX9_turned (rmL 7) [] G lam (.int v) := by
  obtain ⟨M, P, h⟩ := h
  obtain ⟨v, tr', dr', mo', e8, e9, f⟩ := sim_turned (cc := G 0) (tr := G 4) (dr := G 5) h.1 h.2.2.1
  have hI := iv_SF h f
  refine ⟨v, [3, 4, 5, 7], [1, 2, 6, 8, 9, 10, 11, 12, 13, 14, 15, 16, 17, 18, 19, 20], (gset (gset G 4 tr') 5 dr'), gset (gset (gset G 4 tr') 5 dr') 20 mo', lam, by decide, ?_, ?_, by intro i hi; simp only [List.mem_cons, List.not_mem_nil, or_false] at hi; rcases hi with rfl | rfl | rfl | rfl | rfl | rfl | rfl | rfl | rfl | rfl | rfl | rfl | rfl | rfl | rfl | rfl <;> rfl, fun i hi => if_neg (by omega), M, P, hI⟩
  · exact ct_e (cX8_turned_ok (l := l) (D := D) (t := t) (κ := κ) (a_cc := a 0) (y_cc_tape := a 1 0) (y_cc_teller := a 2 0) (y_cc_seeker := a 6 0) (y_cc_images := a 8 0) (y_cc_sheets := a 15 0) (a_rd := a 3) (a_tr := a 4) (a_dr := a 5) (a_sn := a 7) (s_cc := G 0) (s_rd := G 3) (s_tr := G 4) (s_dr := G 5) (s_sn := G 7) e8) wn5 wn5
  · exact cX9_turned_ok (l := l) (D := D) (t := t) (κ := κ) (a_mo := a 20) (lam := lam) e9

set_option maxHeartbeats 4000000 in
theorem st_laws {l : Launch} {D : va_G} {t : Nat → ClassId} {κ : Nat → Nat} {a : Nat → Nat → Nat} {fi fh : Nat → Option Nat} {G : Nat → S2} {lam : S6} {p1 : Int32} (hf : FIH a fi fh) (h : Inv G) : ∃ v, Step l D t κ a fi fh yX8_laws wsX8_laws (rmL 4) yX9_laws wsX9_laws (rmL 7) [.int p1] G lam (.int v) := by
  obtain ⟨M, P, h⟩ := h
  obtain ⟨v, tr', dr', mo', e8, e9, f⟩ := sim_laws (cc := G 0) (p1 := p1) (tr := G 4) (dr := G 5) h.1 h.2.2.1
  have hI := iv_SF h f
  refine ⟨v, [3, 4, 5, 7], [1, 2, 6, 8, 9, 10, 11, 12, 13, 14, 15, 16, 17, 18, 19, 20], (gset (gset G 4 tr') 5 dr'), gset (gset (gset G 4 tr') 5 dr') 20 mo', lam, by decide, ?_, ?_, by intro i hi; simp only [List.mem_cons, List.not_mem_nil, or_false] at hi; rcases hi with rfl | rfl | rfl | rfl | rfl | rfl | rfl | rfl | rfl | rfl | rfl | rfl | rfl | rfl | rfl | rfl <;> rfl, fun i hi => if_neg (by omega), M, P, hI⟩
  · exact ct_e (cX8_laws_ok (l := l) (D := D) (t := t) (κ := κ) (a_cc := a 0) (y_cc_tape := a 1 0) (y_cc_teller := a 2 0) (y_cc_seeker := a 6 0) (y_cc_images := a 8 0) (y_cc_sheets := a 15 0) (a_rd := a 3) (a_tr := a 4) (a_dr := a 5) (a_sn := a 7) (s_cc := G 0) (s_rd := G 3) (s_tr := G 4) (s_dr := G 5) (s_sn := G 7) e8) wn5 wn5
  · exact cX9_laws_ok (l := l) (D := D) (t := t) (κ := κ) (a_mo := a 20) (lam := lam) e9

set_option maxHeartbeats 4000000 in
theorem st_look {l : Launch} {D : va_G} {t : Nat → ClassId} {κ : Nat → Nat} {a : Nat → Nat → Nat} {fi fh : Nat → Option Nat} {G : Nat → S2} {lam : S6} {p1 : Int32} (hf : FIH a fi fh) (h : Inv G) : ∃ v, Step l D t κ a fi fh yX8_look wsX8_look (rmL 6) yX9_look wsX9_look (rmL 7) [.int p1] G lam (.int v) := by
  obtain ⟨M, P, h⟩ := h
  obtain ⟨v, cc', tr', dr', mo', e8, e9, f, hc⟩ := sim_look (cc := G 0) (p1 := p1) (tr := G 4) (dr := G 5) h.1 h.2.2.1
  have hI := iv_0 (iv_SF h f) hc
  refine ⟨v, [3, 4, 5, 7], [1, 2, 6, 8, 9, 10, 11, 12, 13, 14, 15, 16, 17, 18, 19, 20], (gset (gset (gset G 0 cc') 4 tr') 5 dr'), gset (gset (gset (gset G 0 cc') 4 tr') 5 dr') 20 mo', lam, by decide, ?_, ?_, by intro i hi; simp only [List.mem_cons, List.not_mem_nil, or_false] at hi; rcases hi with rfl | rfl | rfl | rfl | rfl | rfl | rfl | rfl | rfl | rfl | rfl | rfl | rfl | rfl | rfl | rfl <;> rfl, fun i hi => if_neg (by omega), M, P, hI⟩
  · exact ct_e (cX8_look_ok (l := l) (D := D) (t := t) (κ := κ) (a_cc := a 0) (y_cc_tape := a 1 0) (y_cc_teller := a 2 0) (y_cc_seeker := a 6 0) (y_cc_images := a 8 0) (y_cc_sheets := a 15 0) (a_rd := a 3) (a_tr := a 4) (a_dr := a 5) (a_sn := a 7) (s_cc := G 0) (s_rd := G 3) (s_tr := G 4) (s_dr := G 5) (s_sn := G 7) e8) wn5 wn5
  · exact cX9_look_ok (l := l) (D := D) (t := t) (κ := κ) (a_mo := a 20) (lam := lam) e9

set_option maxHeartbeats 4000000 in
theorem st_drift {l : Launch} {D : va_G} {t : Nat → ClassId} {κ : Nat → Nat} {a : Nat → Nat → Nat} {fi fh : Nat → Option Nat} {G : Nat → S2} {lam : S6} {p1 p2 p3 : Int32} (hf : FIH a fi fh) (h : Inv G) : ∃ v, Step l D t κ a fi fh yX8_drift wsX8_drift (rmL 4) yX9_drift wsX9_drift (rmL 7) [.int p1, .int p2, .int p3] G lam (.int v) := by
  obtain ⟨M, P, h⟩ := h
  obtain ⟨v, tr', dr', mo', e8, e9, f⟩ := sim_drift (cc := G 0) (p1 := p1) (p2 := p2) (p3 := p3) (tr := G 4) (dr := G 5) h.1
  have hI := iv_SF h f
  refine ⟨v, [3, 4, 5], [1, 2, 6, 7, 8, 9, 10, 11, 12, 13, 14, 15, 16, 17, 18, 19, 20], (gset (gset G 4 tr') 5 dr'), gset (gset (gset G 4 tr') 5 dr') 20 mo', lam, by decide, ?_, ?_, by intro i hi; simp only [List.mem_cons, List.not_mem_nil, or_false] at hi; rcases hi with rfl | rfl | rfl | rfl | rfl | rfl | rfl | rfl | rfl | rfl | rfl | rfl | rfl | rfl | rfl | rfl | rfl <;> rfl, fun i hi => if_neg (by omega), M, P, hI⟩
  · exact ct_e (cX8_drift_ok (l := l) (D := D) (t := t) (κ := κ) (a_cc := a 0) (y_cc_tape := a 1 0) (y_cc_teller := a 2 0) (y_cc_seeker := a 6 0) (y_cc_seen := a 7 0) (y_cc_images := a 8 0) (y_cc_sheets := a 15 0) (a_rd := a 3) (a_tr := a 4) (a_dr := a 5) (s_cc := G 0) (s_rd := G 3) (s_tr := G 4) (s_dr := G 5) e8) wn4 wn4
  · exact cX9_drift_ok (l := l) (D := D) (t := t) (κ := κ) (a_mo := a 20) (lam := lam) e9

set_option maxHeartbeats 4000000 in
theorem st_keep {l : Launch} {D : va_G} {t : Nat → ClassId} {κ : Nat → Nat} {a : Nat → Nat → Nat} {fi fh : Nat → Option Nat} {G : Nat → S2} {lam : S6} {p1 : Int32} (hf : FIH a fi fh) (h : Inv G) : ∃ v, Step l D t κ a fi fh yX8_keep wsX8_keep (rmL 1) yX9_keep wsX9_keep (rmL 1) [.int p1] G lam (.int v) := by
  obtain ⟨M, P, h⟩ := h
  by_cases hw : win p1 0 1 = true
  · obtain ⟨k, rfl, hk⟩ := win_le (h := 1) (by decide) hw
    rcases (show k = 0 ∨ k = 1 by omega) with rfl | rfl
    · obtain ⟨v, im', ir', is', mo', e8, e9, hi, f⟩ := sim_keep (cc := G 0) (k := 0) (by omega) h.1 h.2.2.1 h.2.2.2.1
      have hI := iv_K0 h f hi
      refine ⟨v, [3, 7, 8, 9, 10, 11], [1, 2, 4, 5, 6, 12, 13, 14, 15, 16, 17, 18, 19, 20], (gset (gset (gset G 9 im') 10 ir') 11 is'), gset (gset (gset (gset G 9 im') 10 ir') 11 is') 20 mo', lam, by decide, ?_, ?_, by intro i hi; simp only [List.mem_cons, List.not_mem_nil, or_false] at hi; rcases hi with rfl | rfl | rfl | rfl | rfl | rfl | rfl | rfl | rfl | rfl | rfl | rfl | rfl | rfl <;> rfl, fun i hi => if_neg (by omega), M, P, hI⟩
      · exact ct_e (cX8_keep_ok (l := l) (D := D) (t := t) (κ := κ) (a_cc := a 0) (y_cc_tape := a 1 0) (y_cc_teller := a 2 0) (y_cc_trial := a 4 0) (y_cc_drive := a 5 0) (y_cc_seeker := a 6 0) (y_cc_sheets := a 15 0) (a_rd := a 3) (a_sn := a 7) (a_ia := a 8) (f_ia := fi) (a_im := a 9) (a_ir := a 10) (a_is := a 11) (s_cc := G 0) (s_rd := G 3) (s_sn := G 7) (s_im := G 9) (s_ir := G 10) (s_is := G 11) (p1 := nI 0) (fun _ => hf.1) e8) wn7 wn7
      · exact cX9_keep_ok (l := l) (D := D) (t := t) (κ := κ) (a_mo := a 20) (lam := lam) e9
    · obtain ⟨v, im', ir', is', mo', e8, e9, hi, f⟩ := sim_keep (cc := G 0) (k := 1) (by omega) h.1 h.2.2.1 h.2.2.2.2.1
      have hI := iv_K1 h f hi
      refine ⟨v, [3, 7, 8, 12, 13, 14], [1, 2, 4, 5, 6, 9, 10, 11, 15, 16, 17, 18, 19, 20], (gset (gset (gset G 12 im') 13 ir') 14 is'), gset (gset (gset (gset G 12 im') 13 ir') 14 is') 20 mo', lam, by decide, ?_, ?_, by intro i hi; simp only [List.mem_cons, List.not_mem_nil, or_false] at hi; rcases hi with rfl | rfl | rfl | rfl | rfl | rfl | rfl | rfl | rfl | rfl | rfl | rfl | rfl | rfl <;> rfl, fun i hi => if_neg (by omega), M, P, hI⟩
      · exact ct_e (cX8_keep_ok (l := l) (D := D) (t := t) (κ := κ) (a_cc := a 0) (y_cc_tape := a 1 0) (y_cc_teller := a 2 0) (y_cc_trial := a 4 0) (y_cc_drive := a 5 0) (y_cc_seeker := a 6 0) (y_cc_sheets := a 15 0) (a_rd := a 3) (a_sn := a 7) (a_ia := a 8) (f_ia := fi) (a_im := a 12) (a_ir := a 13) (a_is := a 14) (s_cc := G 0) (s_rd := G 3) (s_sn := G 7) (s_im := G 12) (s_ir := G 13) (s_is := G 14) (p1 := nI 1) (fun _ => hf.2.1) e8) wn7 wn7
      · exact cX9_keep_ok (l := l) (D := D) (t := t) (κ := κ) (a_mo := a 20) (lam := lam) e9
  · have hb := Bool.eq_false_iff.mpr hw
    obtain ⟨e8, e9⟩ := sim_keep_bad (cc := G 0) (rd := G 3) (sn := G 7) (im := G 9) (ir := G 10) (is := G 11) (mo := G 20) (p1 := p1) hb
    have hI := h
    refine ⟨(-1), [3, 7, 8, 9, 10, 11], [1, 2, 4, 5, 6, 12, 13, 14, 15, 16, 17, 18, 19, 20], G, gset G 20 (G 20), lam, by decide, ?_, ?_, fun _ _ => rfl, fun i hi => if_neg (by omega), M, P, hI⟩
    · exact ct_e (cX8_keep_ok (l := l) (D := D) (t := t) (κ := κ) (a_cc := a 0) (y_cc_tape := a 1 0) (y_cc_teller := a 2 0) (y_cc_trial := a 4 0) (y_cc_drive := a 5 0) (y_cc_seeker := a 6 0) (y_cc_sheets := a 15 0) (a_rd := a 3) (a_sn := a 7) (a_ia := a 8) (f_ia := fi) (a_im := a 9) (a_ir := a 10) (a_is := a 11) (s_cc := G 0) (s_rd := G 3) (s_sn := G 7) (s_im := G 9) (s_ir := G 10) (s_is := G 11) (fun hx => absurd hx (ix_win (n := 2) (by decide) rfl (by decide) hb)) e8) wn7 wn7
    · exact cX9_keep_ok (l := l) (D := D) (t := t) (κ := κ) (a_mo := a 20) (lam := lam) e9

set_option maxHeartbeats 4000000 in
theorem st_back {l : Launch} {D : va_G} {t : Nat → ClassId} {κ : Nat → Nat} {a : Nat → Nat → Nat} {fi fh : Nat → Option Nat} {G : Nat → S2} {lam : S6} {p1 : Int32} (hf : FIH a fi fh) (h : Inv G) : ∃ v, Step l D t κ a fi fh yX8_back wsX8_back (rmL 4) yX9_back wsX9_back (rmL 7) [.int p1] G lam (.int v) := by
  obtain ⟨M, P, h⟩ := h
  by_cases hw : win p1 0 1 = true
  · obtain ⟨k, rfl, hk⟩ := win_le (h := 1) (by decide) hw
    rcases (show k = 0 ∨ k = 1 by omega) with rfl | rfl
    · obtain ⟨v, rd', dr', sn', mo', e8, e9, hr, hs, f⟩ := sim_back (cc := G 0) (dr := G 5) (k := 0) (by omega) h.1 h.2.2.1 h.2.2.2.1
      have hI := iv_BF h f hr hs
      refine ⟨v, [3, 5, 7, 8, 9, 10, 11], [1, 2, 4, 6, 12, 13, 14, 15, 16, 17, 18, 19, 20], (gset (gset (gset G 3 rd') 5 dr') 7 sn'), gset (gset (gset (gset G 3 rd') 5 dr') 7 sn') 20 mo', lam, by decide, ?_, ?_, by intro i hi; simp only [List.mem_cons, List.not_mem_nil, or_false] at hi; rcases hi with rfl | rfl | rfl | rfl | rfl | rfl | rfl | rfl | rfl | rfl | rfl | rfl | rfl <;> rfl, fun i hi => if_neg (by omega), M, P, hI⟩
      · exact ct_e (cX8_back_ok (l := l) (D := D) (t := t) (κ := κ) (a_cc := a 0) (y_cc_tape := a 1 0) (y_cc_teller := a 2 0) (y_cc_trial := a 4 0) (y_cc_seeker := a 6 0) (y_cc_sheets := a 15 0) (a_rd := a 3) (a_dr := a 5) (a_sn := a 7) (a_ia := a 8) (f_ia := fi) (a_im := a 9) (a_ir := a 10) (a_is := a 11) (s_cc := G 0) (s_rd := G 3) (s_dr := G 5) (s_sn := G 7) (s_im := G 9) (s_ir := G 10) (s_is := G 11) (p1 := nI 0) (fun _ => hf.1) e8) wn8 wn8
      · exact cX9_back_ok (l := l) (D := D) (t := t) (κ := κ) (a_mo := a 20) (lam := lam) e9
    · obtain ⟨v, rd', dr', sn', mo', e8, e9, hr, hs, f⟩ := sim_back (cc := G 0) (dr := G 5) (k := 1) (by omega) h.1 h.2.2.1 h.2.2.2.2.1
      have hI := iv_BF h f hr hs
      refine ⟨v, [3, 5, 7, 8, 12, 13, 14], [1, 2, 4, 6, 9, 10, 11, 15, 16, 17, 18, 19, 20], (gset (gset (gset G 3 rd') 5 dr') 7 sn'), gset (gset (gset (gset G 3 rd') 5 dr') 7 sn') 20 mo', lam, by decide, ?_, ?_, by intro i hi; simp only [List.mem_cons, List.not_mem_nil, or_false] at hi; rcases hi with rfl | rfl | rfl | rfl | rfl | rfl | rfl | rfl | rfl | rfl | rfl | rfl | rfl <;> rfl, fun i hi => if_neg (by omega), M, P, hI⟩
      · exact ct_e (cX8_back_ok (l := l) (D := D) (t := t) (κ := κ) (a_cc := a 0) (y_cc_tape := a 1 0) (y_cc_teller := a 2 0) (y_cc_trial := a 4 0) (y_cc_seeker := a 6 0) (y_cc_sheets := a 15 0) (a_rd := a 3) (a_dr := a 5) (a_sn := a 7) (a_ia := a 8) (f_ia := fi) (a_im := a 12) (a_ir := a 13) (a_is := a 14) (s_cc := G 0) (s_rd := G 3) (s_dr := G 5) (s_sn := G 7) (s_im := G 12) (s_ir := G 13) (s_is := G 14) (p1 := nI 1) (fun _ => hf.2.1) e8) wn8 wn8
      · exact cX9_back_ok (l := l) (D := D) (t := t) (κ := κ) (a_mo := a 20) (lam := lam) e9
  · have hb := Bool.eq_false_iff.mpr hw
    obtain ⟨e8, e9⟩ := sim_back_bad (cc := G 0) (rd := G 3) (dr := G 5) (sn := G 7) (im := G 9) (ir := G 10) (is := G 11) (mo := G 20) (p1 := p1) hb
    have hI := h
    refine ⟨(-1), [3, 5, 7, 8, 9, 10, 11], [1, 2, 4, 6, 12, 13, 14, 15, 16, 17, 18, 19, 20], G, gset G 20 (G 20), lam, by decide, ?_, ?_, fun _ _ => rfl, fun i hi => if_neg (by omega), M, P, hI⟩
    · exact ct_e (cX8_back_ok (l := l) (D := D) (t := t) (κ := κ) (a_cc := a 0) (y_cc_tape := a 1 0) (y_cc_teller := a 2 0) (y_cc_trial := a 4 0) (y_cc_seeker := a 6 0) (y_cc_sheets := a 15 0) (a_rd := a 3) (a_dr := a 5) (a_sn := a 7) (a_ia := a 8) (f_ia := fi) (a_im := a 9) (a_ir := a 10) (a_is := a 11) (s_cc := G 0) (s_rd := G 3) (s_dr := G 5) (s_sn := G 7) (s_im := G 9) (s_ir := G 10) (s_is := G 11) (fun hx => absurd hx (ix_win (n := 2) (by decide) rfl (by decide) hb)) e8) wn8 wn8
    · exact cX9_back_ok (l := l) (D := D) (t := t) (κ := κ) (a_mo := a 20) (lam := lam) e9

set_option maxHeartbeats 4000000 in
theorem st_sheet {l : Launch} {D : va_G} {t : Nat → ClassId} {κ : Nat → Nat} {a : Nat → Nat → Nat} {fi fh : Nat → Option Nat} {G : Nat → S2} {lam : S6} {p1 p2 p3 : Int32} (hf : FIH a fi fh) (h : Inv G) : ∃ v, Step l D t κ a fi fh yX8_sheet wsX8_sheet (rmL 1) yX9_sheet wsX9_sheet (rmL 2) [.int p1, .int p2, .int p3] G lam (.int v) := by
  obtain ⟨M, P, h⟩ := h
  by_cases hw : win p1 0 3 = true
  · obtain ⟨k, rfl, hk⟩ := win_le (h := 3) (by decide) hw
    rcases (show k = 0 ∨ k = 1 ∨ k = 2 ∨ k = 3 by omega) with rfl | rfl | rfl | rfl
    · obtain ⟨v, sh', mo', e8, e9, hs, f⟩ := sim_sheet (cc := G 0) (k := 0) (p2 := p2) (p3 := p3) (by omega) h.2.2.2.2.2.1
      have hI := iv_H (k := 0) (by omega) h f hs
      refine ⟨v, [15, 16], [1, 2, 3, 4, 5, 6, 7, 8, 9, 10, 11, 12, 13, 14, 17, 18, 19, 20], (gset G 16 sh'), gset (gset G 16 sh') 20 mo', lam, by decide, ?_, ?_, by intro i hi; simp only [List.mem_cons, List.not_mem_nil, or_false] at hi; rcases hi with rfl | rfl | rfl | rfl | rfl | rfl | rfl | rfl | rfl | rfl | rfl | rfl | rfl | rfl | rfl | rfl | rfl | rfl <;> rfl, fun i hi => if_neg (by omega), M, P, hI⟩
      · exact ct_e (cX8_sheet_ok (l := l) (D := D) (t := t) (κ := κ) (a_cc := a 0) (y_cc_tape := a 1 0) (y_cc_teller := a 2 0) (y_cc_road := a 3 0) (y_cc_trial := a 4 0) (y_cc_drive := a 5 0) (y_cc_seeker := a 6 0) (y_cc_seen := a 7 0) (y_cc_images := a 8 0) (a_ha := a 15) (f_ha := fh) (a_sh := a 16) (s_cc := G 0) (s_sh := G 16) (p1 := nI 0) (fun _ => hf.2.2.1) e8) wn3 wn3
      · exact cX9_sheet_ok (l := l) (D := D) (t := t) (κ := κ) (a_mo := a 20) (lam := lam) e9
    · obtain ⟨v, sh', mo', e8, e9, hs, f⟩ := sim_sheet (cc := G 0) (k := 1) (p2 := p2) (p3 := p3) (by omega) h.2.2.2.2.2.2.1
      have hI := iv_H (k := 1) (by omega) h f hs
      refine ⟨v, [15, 17], [1, 2, 3, 4, 5, 6, 7, 8, 9, 10, 11, 12, 13, 14, 16, 18, 19, 20], (gset G 17 sh'), gset (gset G 17 sh') 20 mo', lam, by decide, ?_, ?_, by intro i hi; simp only [List.mem_cons, List.not_mem_nil, or_false] at hi; rcases hi with rfl | rfl | rfl | rfl | rfl | rfl | rfl | rfl | rfl | rfl | rfl | rfl | rfl | rfl | rfl | rfl | rfl | rfl <;> rfl, fun i hi => if_neg (by omega), M, P, hI⟩
      · exact ct_e (cX8_sheet_ok (l := l) (D := D) (t := t) (κ := κ) (a_cc := a 0) (y_cc_tape := a 1 0) (y_cc_teller := a 2 0) (y_cc_road := a 3 0) (y_cc_trial := a 4 0) (y_cc_drive := a 5 0) (y_cc_seeker := a 6 0) (y_cc_seen := a 7 0) (y_cc_images := a 8 0) (a_ha := a 15) (f_ha := fh) (a_sh := a 17) (s_cc := G 0) (s_sh := G 17) (p1 := nI 1) (fun _ => hf.2.2.2.1) e8) wn3 wn3
      · exact cX9_sheet_ok (l := l) (D := D) (t := t) (κ := κ) (a_mo := a 20) (lam := lam) e9
    · obtain ⟨v, sh', mo', e8, e9, hs, f⟩ := sim_sheet (cc := G 0) (k := 2) (p2 := p2) (p3 := p3) (by omega) h.2.2.2.2.2.2.2.1
      have hI := iv_H (k := 2) (by omega) h f hs
      refine ⟨v, [15, 18], [1, 2, 3, 4, 5, 6, 7, 8, 9, 10, 11, 12, 13, 14, 16, 17, 19, 20], (gset G 18 sh'), gset (gset G 18 sh') 20 mo', lam, by decide, ?_, ?_, by intro i hi; simp only [List.mem_cons, List.not_mem_nil, or_false] at hi; rcases hi with rfl | rfl | rfl | rfl | rfl | rfl | rfl | rfl | rfl | rfl | rfl | rfl | rfl | rfl | rfl | rfl | rfl | rfl <;> rfl, fun i hi => if_neg (by omega), M, P, hI⟩
      · exact ct_e (cX8_sheet_ok (l := l) (D := D) (t := t) (κ := κ) (a_cc := a 0) (y_cc_tape := a 1 0) (y_cc_teller := a 2 0) (y_cc_road := a 3 0) (y_cc_trial := a 4 0) (y_cc_drive := a 5 0) (y_cc_seeker := a 6 0) (y_cc_seen := a 7 0) (y_cc_images := a 8 0) (a_ha := a 15) (f_ha := fh) (a_sh := a 18) (s_cc := G 0) (s_sh := G 18) (p1 := nI 2) (fun _ => hf.2.2.2.2.1) e8) wn3 wn3
      · exact cX9_sheet_ok (l := l) (D := D) (t := t) (κ := κ) (a_mo := a 20) (lam := lam) e9
    · obtain ⟨v, sh', mo', e8, e9, hs, f⟩ := sim_sheet (cc := G 0) (k := 3) (p2 := p2) (p3 := p3) (by omega) h.2.2.2.2.2.2.2.2.1
      have hI := iv_H (k := 3) (by omega) h f hs
      refine ⟨v, [15, 19], [1, 2, 3, 4, 5, 6, 7, 8, 9, 10, 11, 12, 13, 14, 16, 17, 18, 20], (gset G 19 sh'), gset (gset G 19 sh') 20 mo', lam, by decide, ?_, ?_, by intro i hi; simp only [List.mem_cons, List.not_mem_nil, or_false] at hi; rcases hi with rfl | rfl | rfl | rfl | rfl | rfl | rfl | rfl | rfl | rfl | rfl | rfl | rfl | rfl | rfl | rfl | rfl | rfl <;> rfl, fun i hi => if_neg (by omega), M, P, hI⟩
      · exact ct_e (cX8_sheet_ok (l := l) (D := D) (t := t) (κ := κ) (a_cc := a 0) (y_cc_tape := a 1 0) (y_cc_teller := a 2 0) (y_cc_road := a 3 0) (y_cc_trial := a 4 0) (y_cc_drive := a 5 0) (y_cc_seeker := a 6 0) (y_cc_seen := a 7 0) (y_cc_images := a 8 0) (a_ha := a 15) (f_ha := fh) (a_sh := a 19) (s_cc := G 0) (s_sh := G 19) (p1 := nI 3) (fun _ => hf.2.2.2.2.2) e8) wn3 wn3
      · exact cX9_sheet_ok (l := l) (D := D) (t := t) (κ := κ) (a_mo := a 20) (lam := lam) e9
  · have hb := Bool.eq_false_iff.mpr hw
    obtain ⟨e8, e9⟩ := sim_sheet_bad (cc := G 0) (sh := G 16) (mo := G 20) (p1 := p1) (p2 := p2) (p3 := p3) hb
    have hI := h
    refine ⟨(-1), [15, 16], [1, 2, 3, 4, 5, 6, 7, 8, 9, 10, 11, 12, 13, 14, 17, 18, 19, 20], G, gset G 20 (G 20), lam, by decide, ?_, ?_, fun _ _ => rfl, fun i hi => if_neg (by omega), M, P, hI⟩
    · exact ct_e (cX8_sheet_ok (l := l) (D := D) (t := t) (κ := κ) (a_cc := a 0) (y_cc_tape := a 1 0) (y_cc_teller := a 2 0) (y_cc_road := a 3 0) (y_cc_trial := a 4 0) (y_cc_drive := a 5 0) (y_cc_seeker := a 6 0) (y_cc_seen := a 7 0) (y_cc_images := a 8 0) (a_ha := a 15) (f_ha := fh) (a_sh := a 16) (s_cc := G 0) (s_sh := G 16) (fun hx => absurd hx (ix_win (n := 4) (by decide) rfl (by decide) hb)) e8) wn3 wn3
    · exact cX9_sheet_ok (l := l) (D := D) (t := t) (κ := κ) (a_mo := a 20) (lam := lam) e9

set_option maxHeartbeats 4000000 in
theorem st_lay {l : Launch} {D : va_G} {t : Nat → ClassId} {κ : Nat → Nat} {a : Nat → Nat → Nat} {fi fh : Nat → Option Nat} {G : Nat → S2} {lam : S6} {p1 p2 p3 : Int32} (hf : FIH a fi fh) (h : Inv G) : ∃ v, Step l D t κ a fi fh yX8_lay wsX8_lay (rmL 1) yX9_lay wsX9_lay (rmL 2) [.int p1, .int p2, .int p3] G lam (.int v) := by
  obtain ⟨M, P, h⟩ := h
  by_cases hw : win p1 0 3 = true
  · obtain ⟨k, rfl, hk⟩ := win_le (h := 3) (by decide) hw
    rcases (show k = 0 ∨ k = 1 ∨ k = 2 ∨ k = 3 by omega) with rfl | rfl | rfl | rfl
    · obtain ⟨v, sh', mo', e8, e9, hs, f⟩ := sim_lay (cc := G 0) (k := 0) (p2 := p2) (p3 := p3) (by omega) h.2.2.2.2.2.1
      have hI := iv_H (k := 0) (by omega) h f hs
      refine ⟨v, [15, 16], [1, 2, 3, 4, 5, 6, 7, 8, 9, 10, 11, 12, 13, 14, 17, 18, 19, 20], (gset G 16 sh'), gset (gset G 16 sh') 20 mo', lam, by decide, ?_, ?_, by intro i hi; simp only [List.mem_cons, List.not_mem_nil, or_false] at hi; rcases hi with rfl | rfl | rfl | rfl | rfl | rfl | rfl | rfl | rfl | rfl | rfl | rfl | rfl | rfl | rfl | rfl | rfl | rfl <;> rfl, fun i hi => if_neg (by omega), M, P, hI⟩
      · exact ct_e (cX8_lay_ok (l := l) (D := D) (t := t) (κ := κ) (a_cc := a 0) (y_cc_tape := a 1 0) (y_cc_teller := a 2 0) (y_cc_road := a 3 0) (y_cc_trial := a 4 0) (y_cc_drive := a 5 0) (y_cc_seeker := a 6 0) (y_cc_seen := a 7 0) (y_cc_images := a 8 0) (a_ha := a 15) (f_ha := fh) (a_sh := a 16) (s_cc := G 0) (s_sh := G 16) (p1 := nI 0) (fun _ => hf.2.2.1) e8) wn3 wn3
      · exact cX9_lay_ok (l := l) (D := D) (t := t) (κ := κ) (a_mo := a 20) (lam := lam) e9
    · obtain ⟨v, sh', mo', e8, e9, hs, f⟩ := sim_lay (cc := G 0) (k := 1) (p2 := p2) (p3 := p3) (by omega) h.2.2.2.2.2.2.1
      have hI := iv_H (k := 1) (by omega) h f hs
      refine ⟨v, [15, 17], [1, 2, 3, 4, 5, 6, 7, 8, 9, 10, 11, 12, 13, 14, 16, 18, 19, 20], (gset G 17 sh'), gset (gset G 17 sh') 20 mo', lam, by decide, ?_, ?_, by intro i hi; simp only [List.mem_cons, List.not_mem_nil, or_false] at hi; rcases hi with rfl | rfl | rfl | rfl | rfl | rfl | rfl | rfl | rfl | rfl | rfl | rfl | rfl | rfl | rfl | rfl | rfl | rfl <;> rfl, fun i hi => if_neg (by omega), M, P, hI⟩
      · exact ct_e (cX8_lay_ok (l := l) (D := D) (t := t) (κ := κ) (a_cc := a 0) (y_cc_tape := a 1 0) (y_cc_teller := a 2 0) (y_cc_road := a 3 0) (y_cc_trial := a 4 0) (y_cc_drive := a 5 0) (y_cc_seeker := a 6 0) (y_cc_seen := a 7 0) (y_cc_images := a 8 0) (a_ha := a 15) (f_ha := fh) (a_sh := a 17) (s_cc := G 0) (s_sh := G 17) (p1 := nI 1) (fun _ => hf.2.2.2.1) e8) wn3 wn3
      · exact cX9_lay_ok (l := l) (D := D) (t := t) (κ := κ) (a_mo := a 20) (lam := lam) e9
    · obtain ⟨v, sh', mo', e8, e9, hs, f⟩ := sim_lay (cc := G 0) (k := 2) (p2 := p2) (p3 := p3) (by omega) h.2.2.2.2.2.2.2.1
      have hI := iv_H (k := 2) (by omega) h f hs
      refine ⟨v, [15, 18], [1, 2, 3, 4, 5, 6, 7, 8, 9, 10, 11, 12, 13, 14, 16, 17, 19, 20], (gset G 18 sh'), gset (gset G 18 sh') 20 mo', lam, by decide, ?_, ?_, by intro i hi; simp only [List.mem_cons, List.not_mem_nil, or_false] at hi; rcases hi with rfl | rfl | rfl | rfl | rfl | rfl | rfl | rfl | rfl | rfl | rfl | rfl | rfl | rfl | rfl | rfl | rfl | rfl <;> rfl, fun i hi => if_neg (by omega), M, P, hI⟩
      · exact ct_e (cX8_lay_ok (l := l) (D := D) (t := t) (κ := κ) (a_cc := a 0) (y_cc_tape := a 1 0) (y_cc_teller := a 2 0) (y_cc_road := a 3 0) (y_cc_trial := a 4 0) (y_cc_drive := a 5 0) (y_cc_seeker := a 6 0) (y_cc_seen := a 7 0) (y_cc_images := a 8 0) (a_ha := a 15) (f_ha := fh) (a_sh := a 18) (s_cc := G 0) (s_sh := G 18) (p1 := nI 2) (fun _ => hf.2.2.2.2.1) e8) wn3 wn3
      · exact cX9_lay_ok (l := l) (D := D) (t := t) (κ := κ) (a_mo := a 20) (lam := lam) e9
    · obtain ⟨v, sh', mo', e8, e9, hs, f⟩ := sim_lay (cc := G 0) (k := 3) (p2 := p2) (p3 := p3) (by omega) h.2.2.2.2.2.2.2.2.1
      have hI := iv_H (k := 3) (by omega) h f hs
      refine ⟨v, [15, 19], [1, 2, 3, 4, 5, 6, 7, 8, 9, 10, 11, 12, 13, 14, 16, 17, 18, 20], (gset G 19 sh'), gset (gset G 19 sh') 20 mo', lam, by decide, ?_, ?_, by intro i hi; simp only [List.mem_cons, List.not_mem_nil, or_false] at hi; rcases hi with rfl | rfl | rfl | rfl | rfl | rfl | rfl | rfl | rfl | rfl | rfl | rfl | rfl | rfl | rfl | rfl | rfl | rfl <;> rfl, fun i hi => if_neg (by omega), M, P, hI⟩
      · exact ct_e (cX8_lay_ok (l := l) (D := D) (t := t) (κ := κ) (a_cc := a 0) (y_cc_tape := a 1 0) (y_cc_teller := a 2 0) (y_cc_road := a 3 0) (y_cc_trial := a 4 0) (y_cc_drive := a 5 0) (y_cc_seeker := a 6 0) (y_cc_seen := a 7 0) (y_cc_images := a 8 0) (a_ha := a 15) (f_ha := fh) (a_sh := a 19) (s_cc := G 0) (s_sh := G 19) (p1 := nI 3) (fun _ => hf.2.2.2.2.2) e8) wn3 wn3
      · exact cX9_lay_ok (l := l) (D := D) (t := t) (κ := κ) (a_mo := a 20) (lam := lam) e9
  · have hb := Bool.eq_false_iff.mpr hw
    obtain ⟨e8, e9⟩ := sim_lay_bad (cc := G 0) (sh := G 16) (mo := G 20) (p1 := p1) (p2 := p2) (p3 := p3) hb
    have hI := h
    refine ⟨(-1), [15, 16], [1, 2, 3, 4, 5, 6, 7, 8, 9, 10, 11, 12, 13, 14, 17, 18, 19, 20], G, gset G 20 (G 20), lam, by decide, ?_, ?_, fun _ _ => rfl, fun i hi => if_neg (by omega), M, P, hI⟩
    · exact ct_e (cX8_lay_ok (l := l) (D := D) (t := t) (κ := κ) (a_cc := a 0) (y_cc_tape := a 1 0) (y_cc_teller := a 2 0) (y_cc_road := a 3 0) (y_cc_trial := a 4 0) (y_cc_drive := a 5 0) (y_cc_seeker := a 6 0) (y_cc_seen := a 7 0) (y_cc_images := a 8 0) (a_ha := a 15) (f_ha := fh) (a_sh := a 16) (s_cc := G 0) (s_sh := G 16) (fun hx => absurd hx (ix_win (n := 4) (by decide) rfl (by decide) hb)) e8) wn3 wn3
    · exact cX9_lay_ok (l := l) (D := D) (t := t) (κ := κ) (a_mo := a 20) (lam := lam) e9

set_option maxHeartbeats 4000000 in
theorem st_read {l : Launch} {D : va_G} {t : Nat → ClassId} {κ : Nat → Nat} {a : Nat → Nat → Nat} {fi fh : Nat → Option Nat} {G : Nat → S2} {lam : S6} {p1 p2 p3 p4 : Int32} (hf : FIH a fi fh) (h : Inv G) : ∃ v, Step l D t κ a fi fh yX8_read wsX8_read (rmL 2) yX9_read wsX9_read (rmL 3) [.int p1, .int p2, .int p3, .int p4] G lam (.int v) := by
  obtain ⟨M, P, h⟩ := h
  by_cases hw : win p1 0 3 = true
  · obtain ⟨k, rfl, hk⟩ := win_le (h := 3) (by decide) hw
    rcases (show k = 0 ∨ k = 1 ∨ k = 2 ∨ k = 3 by omega) with rfl | rfl | rfl | rfl
    · obtain ⟨v, cc', rd', tr', mo', e8, e9, hr, f, hc⟩ := sim_read (tr := G 4) (cc := G 0) (k := 0) (p2 := p2) (p3 := p3) (p4 := p4) (by omega) h.1 h.2.2.2.2.2.1 h.2.2.2.2.2.2.2.2.2.1
      have hI := iv_XF h f hr hc
      refine ⟨v, [3, 4, 15, 16], [1, 2, 5, 6, 7, 8, 9, 10, 11, 12, 13, 14, 17, 18, 19, 20], (gset (gset (gset G 0 cc') 3 rd') 4 tr'), gset (gset (gset (gset G 0 cc') 3 rd') 4 tr') 20 mo', lam, by decide, ?_, ?_, by intro i hi; simp only [List.mem_cons, List.not_mem_nil, or_false] at hi; rcases hi with rfl | rfl | rfl | rfl | rfl | rfl | rfl | rfl | rfl | rfl | rfl | rfl | rfl | rfl | rfl | rfl <;> rfl, fun i hi => if_neg (by omega), M, P, hI⟩
      · exact ct_e (cX8_read_ok (l := l) (D := D) (t := t) (κ := κ) (a_cc := a 0) (y_cc_tape := a 1 0) (y_cc_teller := a 2 0) (y_cc_drive := a 5 0) (y_cc_seeker := a 6 0) (y_cc_seen := a 7 0) (y_cc_images := a 8 0) (a_rd := a 3) (a_tr := a 4) (a_ha := a 15) (f_ha := fh) (a_sh := a 16) (s_cc := G 0) (s_rd := G 3) (s_tr := G 4) (s_sh := G 16) (p1 := nI 0) (fun _ => hf.2.2.1) e8) wn5 wn5
      · exact cX9_read_ok (l := l) (D := D) (t := t) (κ := κ) (a_mo := a 20) (lam := lam) e9
    · obtain ⟨v, cc', rd', tr', mo', e8, e9, hr, f, hc⟩ := sim_read (tr := G 4) (cc := G 0) (k := 1) (p2 := p2) (p3 := p3) (p4 := p4) (by omega) h.1 h.2.2.2.2.2.2.1 h.2.2.2.2.2.2.2.2.2.1
      have hI := iv_XF h f hr hc
      refine ⟨v, [3, 4, 15, 17], [1, 2, 5, 6, 7, 8, 9, 10, 11, 12, 13, 14, 16, 18, 19, 20], (gset (gset (gset G 0 cc') 3 rd') 4 tr'), gset (gset (gset (gset G 0 cc') 3 rd') 4 tr') 20 mo', lam, by decide, ?_, ?_, by intro i hi; simp only [List.mem_cons, List.not_mem_nil, or_false] at hi; rcases hi with rfl | rfl | rfl | rfl | rfl | rfl | rfl | rfl | rfl | rfl | rfl | rfl | rfl | rfl | rfl | rfl <;> rfl, fun i hi => if_neg (by omega), M, P, hI⟩
      · exact ct_e (cX8_read_ok (l := l) (D := D) (t := t) (κ := κ) (a_cc := a 0) (y_cc_tape := a 1 0) (y_cc_teller := a 2 0) (y_cc_drive := a 5 0) (y_cc_seeker := a 6 0) (y_cc_seen := a 7 0) (y_cc_images := a 8 0) (a_rd := a 3) (a_tr := a 4) (a_ha := a 15) (f_ha := fh) (a_sh := a 17) (s_cc := G 0) (s_rd := G 3) (s_tr := G 4) (s_sh := G 17) (p1 := nI 1) (fun _ => hf.2.2.2.1) e8) wn5 wn5
      · exact cX9_read_ok (l := l) (D := D) (t := t) (κ := κ) (a_mo := a 20) (lam := lam) e9
    · obtain ⟨v, cc', rd', tr', mo', e8, e9, hr, f, hc⟩ := sim_read (tr := G 4) (cc := G 0) (k := 2) (p2 := p2) (p3 := p3) (p4 := p4) (by omega) h.1 h.2.2.2.2.2.2.2.1 h.2.2.2.2.2.2.2.2.2.1
      have hI := iv_XF h f hr hc
      refine ⟨v, [3, 4, 15, 18], [1, 2, 5, 6, 7, 8, 9, 10, 11, 12, 13, 14, 16, 17, 19, 20], (gset (gset (gset G 0 cc') 3 rd') 4 tr'), gset (gset (gset (gset G 0 cc') 3 rd') 4 tr') 20 mo', lam, by decide, ?_, ?_, by intro i hi; simp only [List.mem_cons, List.not_mem_nil, or_false] at hi; rcases hi with rfl | rfl | rfl | rfl | rfl | rfl | rfl | rfl | rfl | rfl | rfl | rfl | rfl | rfl | rfl | rfl <;> rfl, fun i hi => if_neg (by omega), M, P, hI⟩
      · exact ct_e (cX8_read_ok (l := l) (D := D) (t := t) (κ := κ) (a_cc := a 0) (y_cc_tape := a 1 0) (y_cc_teller := a 2 0) (y_cc_drive := a 5 0) (y_cc_seeker := a 6 0) (y_cc_seen := a 7 0) (y_cc_images := a 8 0) (a_rd := a 3) (a_tr := a 4) (a_ha := a 15) (f_ha := fh) (a_sh := a 18) (s_cc := G 0) (s_rd := G 3) (s_tr := G 4) (s_sh := G 18) (p1 := nI 2) (fun _ => hf.2.2.2.2.1) e8) wn5 wn5
      · exact cX9_read_ok (l := l) (D := D) (t := t) (κ := κ) (a_mo := a 20) (lam := lam) e9
    · obtain ⟨v, cc', rd', tr', mo', e8, e9, hr, f, hc⟩ := sim_read (tr := G 4) (cc := G 0) (k := 3) (p2 := p2) (p3 := p3) (p4 := p4) (by omega) h.1 h.2.2.2.2.2.2.2.2.1 h.2.2.2.2.2.2.2.2.2.1
      have hI := iv_XF h f hr hc
      refine ⟨v, [3, 4, 15, 19], [1, 2, 5, 6, 7, 8, 9, 10, 11, 12, 13, 14, 16, 17, 18, 20], (gset (gset (gset G 0 cc') 3 rd') 4 tr'), gset (gset (gset (gset G 0 cc') 3 rd') 4 tr') 20 mo', lam, by decide, ?_, ?_, by intro i hi; simp only [List.mem_cons, List.not_mem_nil, or_false] at hi; rcases hi with rfl | rfl | rfl | rfl | rfl | rfl | rfl | rfl | rfl | rfl | rfl | rfl | rfl | rfl | rfl | rfl <;> rfl, fun i hi => if_neg (by omega), M, P, hI⟩
      · exact ct_e (cX8_read_ok (l := l) (D := D) (t := t) (κ := κ) (a_cc := a 0) (y_cc_tape := a 1 0) (y_cc_teller := a 2 0) (y_cc_drive := a 5 0) (y_cc_seeker := a 6 0) (y_cc_seen := a 7 0) (y_cc_images := a 8 0) (a_rd := a 3) (a_tr := a 4) (a_ha := a 15) (f_ha := fh) (a_sh := a 19) (s_cc := G 0) (s_rd := G 3) (s_tr := G 4) (s_sh := G 19) (p1 := nI 3) (fun _ => hf.2.2.2.2.2) e8) wn5 wn5
      · exact cX9_read_ok (l := l) (D := D) (t := t) (κ := κ) (a_mo := a 20) (lam := lam) e9
  · have hb := Bool.eq_false_iff.mpr hw
    obtain ⟨e8, e9⟩ := sim_read_bad (cc := G 0) (rd := G 3) (tr := G 4) (sh := G 16) (mo := G 20) (p1 := p1) (p2 := p2) (p3 := p3) (p4 := p4) hb
    have hI := h
    refine ⟨(-1), [3, 4, 15, 16], [1, 2, 5, 6, 7, 8, 9, 10, 11, 12, 13, 14, 17, 18, 19, 20], G, gset G 20 (G 20), lam, by decide, ?_, ?_, fun _ _ => rfl, fun i hi => if_neg (by omega), M, P, hI⟩
    · exact ct_e (cX8_read_ok (l := l) (D := D) (t := t) (κ := κ) (a_cc := a 0) (y_cc_tape := a 1 0) (y_cc_teller := a 2 0) (y_cc_drive := a 5 0) (y_cc_seeker := a 6 0) (y_cc_seen := a 7 0) (y_cc_images := a 8 0) (a_rd := a 3) (a_tr := a 4) (a_ha := a 15) (f_ha := fh) (a_sh := a 16) (s_cc := G 0) (s_rd := G 3) (s_tr := G 4) (s_sh := G 16) (fun hx => absurd hx (ix_win (n := 4) (by decide) rfl (by decide) hb)) e8) wn5 wn5
    · exact cX9_read_ok (l := l) (D := D) (t := t) (κ := κ) (a_mo := a 20) (lam := lam) e9

set_option maxHeartbeats 4000000 in
theorem st_torn {l : Launch} {D : va_G} {t : Nat → ClassId} {κ : Nat → Nat} {a : Nat → Nat → Nat} {fi fh : Nat → Option Nat} {G : Nat → S2} {lam : S6} (hf : FIH a fi fh) (h : Inv G) : ∃ v, Step l D t κ a fi fh yX8_torn wsX8_torn (rmL 0) yX9_torn wsX9_torn (rmL 0) [] G lam (.int v) := by
  obtain ⟨M, P, h⟩ := h
  have hI := h
  refine ⟨(G 0 0 0), [], [1, 2, 3, 4, 5, 6, 7, 8, 9, 10, 11, 12, 13, 14, 15, 16, 17, 18, 19, 20], G, gset G 20 (G 20), lam, by decide, ?_, ?_, fun _ _ => rfl, fun i hi => if_neg (by omega), M, P, hI⟩
  · exact ct_e (cX8_torn_ok (l := l) (D := D) (t := t) (κ := κ) (a_cc := a 0) (y_cc_tape := a 1 0) (y_cc_teller := a 2 0) (y_cc_road := a 3 0) (y_cc_trial := a 4 0) (y_cc_drive := a 5 0) (y_cc_seeker := a 6 0) (y_cc_seen := a 7 0) (y_cc_images := a 8 0) (y_cc_sheets := a 15 0) (s_cc := G 0) rfl) wn1 wn1
  · exact cX9_torn_ok (l := l) (D := D) (t := t) (κ := κ) (a_mo := a 20) (lam := lam) (show fX9_torn (G 20) = some (G 0 0 0) from by rw [h.2.2.2.2.2.2.2.2.2.1]; rfl)

set_option maxHeartbeats 4000000 in
theorem st_count {l : Launch} {D : va_G} {t : Nat → ClassId} {κ : Nat → Nat} {a : Nat → Nat → Nat} {fi fh : Nat → Option Nat} {G : Nat → S2} {lam : S6} {p1 : Int32} (hf : FIH a fi fh) (h : Inv G) : ∃ v, Step l D t κ a fi fh yX8_count wsX8_count (rmL 1) yX9_count wsX9_count (rmL 1) [.int p1] G lam (.int v) := by
  obtain ⟨M, P, h⟩ := h
  obtain ⟨v, e8, e9⟩ := sim_count (cc := G 0) (p1 := p1) h.1 h.2.1 h.2.2.1 h.2.2.2.1 h.2.2.2.2.1 h.2.2.2.2.2.1
  have hI := h
  refine ⟨v, [1, 3, 7, 8, 9, 12, 15, 16], [2, 4, 5, 6, 10, 11, 13, 14, 17, 18, 19, 20], G, gset G 20 (G 20), lam, by decide, ?_, ?_, fun _ _ => rfl, fun i hi => if_neg (by omega), M, P, hI⟩
  · exact ct_e (cX8_count_ok (l := l) (D := D) (t := t) (κ := κ) (a_cc := a 0) (y_cc_teller := a 2 0) (y_cc_trial := a 4 0) (y_cc_drive := a 5 0) (y_cc_seeker := a 6 0) (a_tp := a 1) (a_rd := a 3) (a_sn := a 7) (a_ia := a 8) (f_ia := fi) (a_im0 := a 9) (y_im0_road := a 10 0) (y_im0_seen := a 11 0) (a_im1 := a 12) (y_im1_road := a 13 0) (y_im1_seen := a 14 0) (a_ha := a 15) (f_ha := fh) (a_sh := a 16) (s_cc := G 0) (s_tp := G 1) (s_rd := G 3) (s_sn := G 7) (s_im0 := G 9) (s_im1 := G 12) (s_sh := G 16) hf.1 hf.2.1 hf.2.2.1 e8) wn9 wn9
  · exact cX9_count_ok (l := l) (D := D) (t := t) (κ := κ) (a_mo := a 20) (lam := lam) e9

