/-! PURE: a number, a semicolon, taken by both -/
/-- the class ahead of a token that the reference has read -/
def PB (tp mo : S2) (n : Nat) (c : Nat → Nat) (i : Nat) : Prop := ∃ tp1, fX6_readToken tp = some tp1 ∧ RT tp1 mo n c i ∧ TFR tp tp1 ∧ (tp1 0 4 = 0 → tp 0 4 = 0)
theorem PB_n {tp mo : S2} {n i : Nat} {c : Nat → Nat} (h : TX tp mo n c) (hb : BT tp mo n i) : ∃ mo', fX9_next mo = some mo' ∧ PB tp mo' n c i ∧ MFR mo mo' := by
  obtain ⟨tp', mo', e1, e2, r, f1, f2, g⟩ := tk_next h hb
  exact ⟨mo', e2, ⟨tp', e1, r, f1, g⟩, f2⟩
theorem RT_row {tp mo mo' : S2} {n i : Nat} {c : Nat → Nat} (h : RT tp mo n c i) (hr : ∀ b, 8 ≤ b → b ≤ 13 → mo' 0 b = mo 0 b) : RT tp mo' n c i := by
  unfold RT at h ⊢
  rw [hr 8 (by omega) (by omega), hr 9 (by omega) (by omega), hr 10 (by omega) (by omega), hr 11 (by omega) (by omega), hr 12 (by omega) (by omega), hr 13 (by omega) (by omega)]
  exact h
theorem PB_row {tp mo mo' : S2} {n i : Nat} {c : Nat → Nat} (h : PB tp mo n c i) (hr : ∀ b, 8 ≤ b → b ≤ 13 → mo' 0 b = mo 0 b) : PB tp mo' n c i := by
  obtain ⟨tp1, e, r, f, g⟩ := h
  exact ⟨tp1, e, RT_row r hr, f, g⟩
theorem tk_blame {tp mo : S2} {n i x : Nat} {c : Nat → Nat} (h : RT tp mo n c i) (hx : 0 < x ∧ x ≤ 6) : ∃ tp2 mo2 e, fX6_blame tp (nI x) (tp 0 2) = some tp2 ∧ fX9_needs mo 0 (nI x) = some mo2 ∧ i ≤ e ∧ BT tp2 mo2 n e ∧ ¬ tp2 0 4 = 0 ∧ (∃ t, 0 < t ∧ t ≤ 6 ∧ mo2 0 12 = nI t) ∧ TFR tp tp2 ∧ MFR mo mo2 ∧ (¬ mo 0 12 = 0 → mo2 = mo ∧ tp2 = tp) := by
  obtain ⟨j, e, h1, h2, h3, h4, h5, h6⟩ := h
  unfold fX6_blame
  rcases h6 with ⟨a1, a2, a3, a4, _⟩ | ⟨t, t1, t2, t3, t4, t5⟩
  · rw [if_pos a1, nm_u, nm_u, r_needs0 a2 a4, h5]
    refine ⟨_, _, e, rfl, rfl, h1, ⟨h3, by rw [sE_v, if_neg (by omega), sE_v, if_neg (by omega), h4], Or.inr ⟨x, j, h2, ?_, hx.1, hx.2, ?_, ?_, ?_⟩⟩, ?_, ⟨x, hx.1, hx.2, ?_⟩, TFR_t (TFR_e (by omega)) (TFR_e (by omega)), MFR_t (MFR_e (by omega)) (MFR_e (by omega)), fun hh => absurd a2 hh⟩
    · rw [sE_v, if_neg (by omega), sE_v, if_neg (by omega), h5]
    · rw [sE_v, if_neg (by omega), sE_e]
    · rw [sE_v, if_neg (by omega), sE_e]
    · rw [sE_e, sE_e]
    · rw [sE_v, if_neg (by omega), sE_e]; exact nI_ne0 hx.1 (by omega)
    · rw [sE_v, if_neg (by omega), sE_e]
  · have f4 : ¬ tp 0 4 = 0 := by rw [t3]; exact nI_ne0 t1 (by omega)
    have f12 : ¬ mo 0 12 = 0 := by rw [t4]; exact nI_ne0 t1 (by omega)
    rw [if_neg f4, r_needsF f12]
    exact ⟨_, _, e, rfl, rfl, h1, ⟨h3, h4, Or.inr ⟨t, j, h2, h5, t1, t2, t3, t4, t5⟩⟩, f4, ⟨t, t1, t2, t4⟩, TFR_r tp, MFR_r mo, fun _ => ⟨rfl, rfl⟩⟩
theorem c_tv {tp mo : S2} {n j e : Nat} {c : Nat → Nat} (h : TX tp mo n c) (hj : j ≤ e) (he : e ≤ n) (h1 : tp 0 1 = nI e) (h2 : tp 0 2 = nI j) : ∃ v, fX6_tokenValue tp = some v := by
  have hn := h.1
  unfold fX6_tokenValue
  rw [nm_u, h2]
  have key : ∃ x, wh (fun (s : Int32 × Int32) => fX6_tokenValue_b7 tp s.1 s.2) 5000 ((0 : Int32), nI j) = some x ∧ True := by
    refine wh_ex (body := fun (s : Int32 × Int32) => fX6_tokenValue_b7 tp s.1 s.2) (fun t s => s.2 = nI (j + t)) (fun _ => True) (e - j) (fun t s ht hI => ?_) (fun s hI => ?_) 5000 0 _ (by omega) (by omega) rfl
    · left
      refine ⟨(10 * s.1 + tp 1 (j + t) - 48, nI (j + (t + 1))), ?_, rfl⟩
      show fX6_tokenValue_b7 tp s.1 s.2 = _
      unfold fX6_tokenValue_b7
      rw [hI, h1, if_neg (nI_ge (by omega) (by omega)), gd_n (by omega) (by decide), nm_u, nm_u, nI_p1, cl_n (by omega)]
      rfl
    · refine ⟨s, ?_, trivial⟩
      show fX6_tokenValue_b7 tp s.1 s.2 = _
      unfold fX6_tokenValue_b7
      rw [h1, if_pos (by rw [hI]; exact nI_le (by omega) (by omega))]
  obtain ⟨x, ex, _⟩ := key
  rw [ex, bd_s]
  exact ⟨_, rfl⟩
theorem c_tv2 {tp mo : S2} {n j e : Nat} {c : Nat → Nat} (h : TX tp mo n c) (hj : j < e) (he : e ≤ n) (h1 : tp 0 1 = nI e) (h2 : tp 0 2 = nI j) (h3 : e ≤ j + 2) (hd : ∀ t, j ≤ t → t < e → kd (c t) = 2) : fX6_tokenValue tp = some (nI (vlp c j (e - j))) := by
  have hn := h.1
  unfold fX6_tokenValue
  rw [nm_u, h2]
  have key : wh (fun (s : Int32 × Int32) => fX6_tokenValue_b7 tp s.1 s.2) 5000 (nI (vlp c j 0), nI (j + 0)) = some (nI (vlp c j (e - j)), nI (j + (e - j))) := wh_f (body := fun (s : Int32 × Int32) => fX6_tokenValue_b7 tp s.1 s.2) (fun t => (nI (vlp c j t), nI (j + t))) (nI (vlp c j (e - j)), nI (j + (e - j))) (e - j) (fun t ht => by
    show fX6_tokenValue_b7 tp (nI (vlp c j t)) (nI (j + t)) = _
    unfold fX6_tokenValue_b7
    have hk := kd_2 (hd (j + t) (by omega) (by omega))
    rw [h1, if_neg (nI_ge (by omega) (by omega)), gd_n (by omega) (by decide), nm_u, nm_u, nI_p1, cl_n (by omega), (h.2.2.2 (j + t) (by omega)).1, show (10 : Int32) * nI (vlp c j t) = nI (10 * vlp c j t) from pk_mul 10 _, nI_ad, show nI (10 * vlp c j t + c (j + t)) - (48 : Int32) = nI (10 * vlp c j t + c (j + t) - 48) from pk_sub (b := 48) (by omega)]
    have e : vlp c j (t + 1) = 10 * vlp c j t + c (j + t) - 48 := by
      have : t = 0 ∨ t = 1 := by omega
      rcases this with rfl | rfl
      · show c j - 48 = 10 * 0 + c (j + 0) - 48
        rw [Nat.add_zero]; omega
      · rfl
    rw [e]
    rfl) (by
    show fX6_tokenValue_b7 tp (nI (vlp c j (e - j))) (nI (j + (e - j))) = _
    unfold fX6_tokenValue_b7
    rw [h1, if_pos (nI_le (by omega) (by omega))]) (n := 5000) (by omega)
  have e0 : ((0 : Int32), nI j) = (nI (vlp c j 0), nI (j + 0)) := rfl
  rw [e0, key, bd_s]
theorem r_numF {mo : S2} {t : Nat} {lo hi : Int32} (h0 : 0 < t) (h6 : t ≤ 6) (h : mo 0 12 = nI t) : fX9_looked mo lo hi = some (0, mo) ∧ fX9_next mo = some mo := by
  have f : ¬ mo 0 12 = 0 := by rw [h]; exact nI_ne0 h0 (by omega)
  unfold fX9_looked fX9_looked_25 fX9_looked_49 fX9_next
  rw [if_neg f, if_neg f, if_neg f, if_neg (by rw [h]; exact nI_nle h0 (by omega))]
  exact ⟨rfl, rfl⟩
/-- a number looked at by the reference, taken by the class -/
theorem tk_look {tl tp mo : S2} {n i lo hi : Nat} {c : Nat → Nat} (h : TX tp mo n c) (hb : PB tp mo n c i) (hl : lo ≤ hi) (hh : hi < 100) : ∃ x tp2 y mo2 i2, fX7_takeNumber tl tp (nI lo) (nI hi) = some (nI x, tp2) ∧ fX9_looked mo (nI lo) (nI hi) = some (y, mo2) ∧ lo ≤ x ∧ x ≤ hi ∧ (tp2 0 4 = 0 → y = nI x ∧ tp 0 4 = 0 ∧ mo2 0 12 = 0 ∧ ∃ j, tp2 0 2 = nI j ∧ mo2 0 9 = nI j ∧ j ≤ i2) ∧ (¬ tp2 0 4 = 0 → ∃ t, 0 < t ∧ t ≤ 6 ∧ mo2 0 12 = nI t) ∧ BT tp2 mo2 n i2 ∧ i ≤ i2 ∧ TFR tp tp2 ∧ MFR mo mo2 ∧ (¬ mo 0 12 = 0 → mo2 = mo ∧ ¬ tp2 0 4 = 0) := by
  have hn := h.1
  obtain ⟨tp1, e1, R, f1, g1⟩ := hb
  have h1 : TX tp1 mo n c := TX_f h f1 (MFR_r mo)
  obtain ⟨j, e, a1, a2, a3, a4, a5, a6⟩ := id R
  unfold fX7_takeNumber fX7_takeNumber_66
  rw [e1, bd_s]
  rcases a6 with ⟨b1, b2, b3, b4, k, k1, k2, k3, k4, k5, k6⟩ | ⟨t, t1, t2, t3, t4, t5⟩
  · by_cases ck : k = 2
    · subst ck
      obtain ⟨d1, d2, d3⟩ := k6 rfl
      have hv := c_tv2 h1 (k5 (by omega)).1 a3 a4 a5 d1 d2
      have hL : fX9_looked mo (nI lo) (nI hi) = (fX9_needs mo (bI (win (nI (vlp c j (e - j))) (nI lo) (nI hi))) 3).bind fun v5 => fX9_looked_49 v5 := by
        unfold fX9_looked fX9_looked_21 fX9_looked_25
        rw [if_pos b2, k2, if_pos (show nI 2 = (2 : Int32) from rfl), r_needs1, bd_s, if_pos b2, d3, w9 rfl rfl, bd_s]
      rw [k1, if_pos (show nI 2 = (2 : Int32) from rfl), hv, bd_s, w8, bd_s, hL]
      cases hw : win (nI (vlp c j (e - j))) (nI lo) (nI hi) with
      | true =>
        obtain ⟨x, ex, x1, x2⟩ := win_n (l := lo) (h := hi) rfl rfl (by omega) (by omega) hw
        simp only [it_t]
        rw [if_pos b1, bd_s, bI_t, r_needs1, bd_s, ex]
        unfold fX9_looked_49
        rw [if_pos b2, d3, ex]
        exact ⟨x, tp1, _, mo, e, rfl, rfl, x1, x2, fun hz => ⟨rfl, g1 b1, b2, j, a5, b4, a2⟩, fun hz => absurd b1 hz, ⟨a3, a4, Or.inl ⟨b1, b2, b3⟩⟩, a1, f1, MFR_r mo, fun hz => absurd b2 hz⟩
      | false =>
        obtain ⟨tp2, mo2, e2, c1, c2, c3, c4, c5, ⟨t, c6, c6', c6''⟩, c7, c8, _⟩ := tk_blame (x := 3) R (by omega)
        have c1' : fX6_blame tp1 (3 : Int32) (tp1 0 2) = some tp2 := c1
        have c2' : fX9_needs mo 0 3 = some mo2 := c2
        have f12 : ¬ mo2 0 12 = 0 := by rw [c6'']; exact nI_ne0 c6 (by omega)
        simp only [it_f]
        rw [c1', bd_s, if_neg c5, bI_f, c2', bd_s]
        unfold fX9_looked_49
        rw [if_neg f12]
        exact ⟨lo, tp2, _, mo2, e2, rfl, rfl, Nat.le_refl lo, hl, fun hz => absurd hz c5, fun _ => ⟨t, c6, c6', c6''⟩, c4, c3, TFR_t f1 c7, c8, fun hz => absurd b2 hz⟩
    · obtain ⟨tp2, mo2, e2, c1, c2, c3, c4, c5, ⟨t, c6, c6', c6''⟩, c7, c8, _⟩ := tk_blame (x := 2) R (by omega)
      have c1' : fX6_blame tp1 (2 : Int32) (tp1 0 2) = some tp2 := c1
      have c2' : fX9_needs mo 0 2 = some mo2 := c2
      have f12 : ¬ mo2 0 12 = 0 := by rw [c6'']; exact nI_ne0 c6 (by omega)
      have kn : ¬ nI k = (2 : Int32) := fun hh => ck (nI_eI (b := 2) hh (by omega) (by decide))
      have hL : fX9_looked mo (nI lo) (nI hi) = some (0, mo2) := by
        unfold fX9_looked fX9_looked_21 fX9_looked_25 fX9_looked_49
        rw [if_pos b2, k2, if_neg kn, c2', bd_s, if_neg f12, if_neg f12]
      rw [k1, if_neg kn, c1', bd_s, if_neg c5, hL]
      exact ⟨lo, tp2, _, mo2, e2, rfl, rfl, Nat.le_refl lo, hl, fun hz => absurd hz c5, fun _ => ⟨t, c6, c6', c6''⟩, c4, c3, TFR_t f1 c7, c8, fun hz => absurd b2 hz⟩
  · have f4 : ¬ tp1 0 4 = 0 := by rw [t3]; exact nI_ne0 t1 (by omega)
    have fb : ∀ x y, fX6_blame tp1 x y = some tp1 := fun x y => by unfold fX6_blame; rw [if_neg f4]
    obtain ⟨v, hv⟩ := c_tv h1 a2 a3 a4 a5
    rw [(r_numF t1 t2 t4).1]
    have fin : ∃ x tp2 y mo2 i2, some (nI lo, tp1) = some (nI x, tp2) ∧ some ((0 : Int32), mo) = some (y, mo2) ∧ lo ≤ x ∧ x ≤ hi ∧ (tp2 0 4 = 0 → y = nI x ∧ tp 0 4 = 0 ∧ mo2 0 12 = 0 ∧ ∃ j, tp2 0 2 = nI j ∧ mo2 0 9 = nI j ∧ j ≤ i2) ∧ (¬ tp2 0 4 = 0 → ∃ t, 0 < t ∧ t ≤ 6 ∧ mo2 0 12 = nI t) ∧ BT tp2 mo2 n i2 ∧ i ≤ i2 ∧ TFR tp tp2 ∧ MFR mo mo2 ∧ (¬ mo 0 12 = 0 → mo2 = mo ∧ ¬ tp2 0 4 = 0) := ⟨lo, tp1, _, mo, e, rfl, rfl, Nat.le_refl lo, hl, fun hz => absurd hz f4, fun _ => ⟨t, t1, t2, t4⟩, ⟨a3, a4, Or.inr ⟨t, j, a2, a5, t1, t2, t3, t4, t5⟩⟩, a1, f1, MFR_r mo, fun _ => ⟨rfl, f4⟩⟩
    by_cases c2 : tp1 0 3 = 2
    · rw [if_pos c2, hv, bd_s, w8, bd_s]
      cases win v (nI lo) (nI hi) with
      | true => simp only [it_t]; rw [if_neg f4]; exact fin
      | false => simp only [it_f]; rw [fb, bd_s, if_neg f4]; exact fin
    · rw [if_neg c2, fb, bd_s, if_neg f4]
      exact fin
theorem tk_num {tl tp mo : S2} {n i lo hi : Nat} {c : Nat → Nat} (h : TX tp mo n c) (hb : PB tp mo n c i) (hl : lo ≤ hi) (hh : hi < 100) : ∃ x tp2 y mo2 i2, fX7_takeNumber tl tp (nI lo) (nI hi) = some (nI x, tp2) ∧ fX9_readNumber mo (nI lo) (nI hi) = some (y, mo2) ∧ lo ≤ x ∧ x ≤ hi ∧ (tp2 0 4 = 0 → y = nI x ∧ tp 0 4 = 0) ∧ PB tp2 mo2 n c i2 ∧ i ≤ i2 ∧ TFR tp tp2 ∧ MFR mo mo2 ∧ (¬ mo 0 12 = 0 → mo2 = mo ∧ ¬ tp2 0 4 = 0) := by
  obtain ⟨x, tp2, y, mo2, i2, e1, e2, x1, x2, g1, g0, g2, g3, g4, g5, g6⟩ := tk_look (tl := tl) h hb hl hh
  obtain ⟨mo3, e3, P3, f3⟩ := PB_n (TX_f h g4 g5) g2
  unfold fX9_readNumber
  rw [e2, bd_s, nm_u]
  dsimp only
  rw [e3, bd_s]
  refine ⟨x, tp2, y, mo3, i2, e1, rfl, x1, x2, fun hz => ⟨(g1 hz).1, (g1 hz).2.1⟩, P3, g3, g4, MFR_t g5 f3, fun hz => ?_⟩
  obtain ⟨q1, q2⟩ := g6 hz
  subst q1
  obtain ⟨t, t1, t2, t3⟩ := g0 q2
  rw [(r_numF (lo := 0) (hi := 0) t1 t2 t3).2] at e3
  exact ⟨so_eq e3, q2⟩
/-- a line's end in the reference -/
def rEnd (mo : S2) : Option S2 := if (mo 0 12) = (0 : Int32) then (if (mo 0 10) = (3 : Int32) then fX9_readLine_163 mo 1 else fX9_readLine_163 mo 0) else fX9_readLine_167 mo
theorem tk_semi {tl tp mo : S2} {n i : Nat} {c : Nat → Nat} (h : TX tp mo n c) (hb : PB tp mo n c i) : ∃ tp3 mo3 i3, fX7_takeSemicolon tl tp = some tp3 ∧ rEnd mo = some mo3 ∧ PB tp3 mo3 n c i3 ∧ (tp3 0 4 = 0 → tp 0 4 = 0 ∧ i < i3) ∧ TFR tp tp3 ∧ MFR mo mo3 := by
  have hn := h.1
  obtain ⟨tp1, e1, R, f1, g1⟩ := hb
  have h1 : TX tp1 mo n c := TX_f h f1 (MFR_r mo)
  obtain ⟨j, e, a1, a2, a3, a4, a5, a6⟩ := id R
  unfold fX7_takeSemicolon rEnd fX9_readLine_163 fX9_readLine_167
  rw [e1, bd_s]
  rcases a6 with ⟨b1, b2, b3, b4, k, k1, k2, k3, k4, k5, k6⟩ | ⟨t, t1, t2, t3, t4, t5⟩
  · rw [if_pos b2, k1, k2]
    by_cases ck : k = 3
    · subst ck
      obtain ⟨mo3, e3, P3, f3⟩ := PB_n h1 ⟨a3, a4, Or.inl ⟨b1, b2, b3⟩⟩
      rw [if_pos (show nI 3 = (3 : Int32) from rfl), if_pos (show nI 3 = (3 : Int32) from rfl), r_needs1, bd_s, e3, bd_s]
      exact ⟨_, _, e, rfl, rfl, P3, fun _ => ⟨g1 b1, (k5 (by omega)).2⟩, f1, f3⟩
    · obtain ⟨tp2, mo2, e2, c1, c2, c3, c4, c5, ⟨t, c6, c6', c6''⟩, c7, c8, _⟩ := tk_blame (x := 2) R (by omega)
      have c1' : fX6_blame tp1 (2 : Int32) (tp1 0 2) = some tp2 := c1
      have c2' : fX9_needs mo 0 2 = some mo2 := c2
      have kn : ¬ nI k = (3 : Int32) := fun hh => ck (nI_eI (b := 3) hh (by omega) (by decide))
      obtain ⟨mo3, e3, P3, f3⟩ := PB_n (TX_f h1 c7 c8) c4
      rw [if_neg kn, if_neg kn, c1', bd_s, c2', bd_s, e3, bd_s]
      exact ⟨_, _, e2, rfl, rfl, P3, fun hz => absurd hz c5, TFR_t f1 c7, MFR_t c8 f3⟩
  · have f4 : ¬ tp1 0 4 = 0 := by rw [t3]; exact nI_ne0 t1 (by omega)
    have f12 : ¬ mo 0 12 = 0 := by rw [t4]; exact nI_ne0 t1 (by omega)
    have fb : ∀ x y, fX6_blame tp1 x y = some tp1 := fun x y => by unfold fX6_blame; rw [if_neg f4]
    obtain ⟨i2, w1, w2⟩ := BT_RT R
    obtain ⟨mo3, e3, P3, f3⟩ := PB_n h1 w2
    rw [if_neg f12, e3, bd_s]
    by_cases c3 : tp1 0 3 = 3
    · rw [if_pos c3]
      exact ⟨_, _, i2, rfl, rfl, P3, fun hz => absurd hz f4, f1, f3⟩
    · rw [if_neg c3, fb, bd_s]
      exact ⟨_, _, i2, rfl, rfl, P3, fun hz => absurd hz f4, f1, f3⟩
