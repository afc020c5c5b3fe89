/-! PURE: words and numbers of the text -/
def wd (si t : Nat) : Nat := ((strB.getD si []).getD t 0).toNatClampNeg
def wl (si : Nat) : Nat := strL.getD si 0
theorem wd_v : ∀ si, si < 8 → ∀ t, t < wl si → sch si (nI t) = nI (wd si t) ∧ wd si t < 128 := by decide +kernel
theorem wl_b : ∀ si, si < 8 → wl si ≤ 7 := by decide
def spl (c : Nat → Nat) (j e si : Nat) : Bool := decide (e = j + wl si ∧ ∀ t, t < wl si → c (j + t) = wd si t)
theorem c_spells {tp mo : S2} {n j e si : Nat} {c : Nat → Nat} (h : TX tp mo n c) (hsi : si < 8) (hj : j ≤ e) (he : e ≤ n) (h1 : tp 0 1 = nI e) (h2 : tp 0 2 = nI j) : fX6_tokenSpells tp si = some (bI (spl c j e si)) := by
  have hn := h.1
  have hw := wl_b si hsi
  unfold fX6_tokenSpells fJ0_length
  rw [bd_s, h1, h2, pk_sub hj]
  by_cases hL : e = j + wl si
  · have e1 : nI (e - j) = nI (strL.getD si 0) := by rw [show e - j = wl si by omega]; rfl
    rw [if_pos e1, nm_u]
    have key : ∃ x, wh (fun (s : Int32) => fX6_tokenSpells_b23 tp s si) 5000 (nI j) = some x ∧ ((∃ q, x = .inl q ∧ spl c j e si = true) ∨ (x = .inr 0 ∧ spl c j e si = false)) := by
      refine wh_ex (body := fun (s : Int32) => fX6_tokenSpells_b23 tp s si)
        (fun t s => s = nI (j + t) ∧ ∀ u, u < t → c (j + u) = wd si u)
        (fun x => (∃ q, x = .inl q ∧ spl c j e si = true) ∨ (x = .inr 0 ∧ spl c j e si = false)) (wl si) (fun t s ht hI => ?_) (fun s hI => ?_) 5000 0 _ (by omega) (by omega) ⟨rfl, fun u hu => by omega⟩
      · obtain ⟨k1, k2⟩ := hI
        obtain ⟨w1, w2⟩ := wd_v si hsi t ht
        have hc := h.2.2.2 (j + t) (by omega)
        have E : fX6_tokenSpells_b23 tp s si = if c (j + t) = wd si t then some (.inl (nI (j + (t + 1)))) else some (.inr (.inr 0)) := by
          unfold fX6_tokenSpells_b23 fJ0_charAt
          rw [k1, h1, h2, if_neg (nI_ge (by omega) (by omega)), gd_n (by omega) (by decide), pk_sub (by omega), show j + t - j = t by omega, gd_n (show t < strL.getD si 0 from ht) (Nat.lt_of_le_of_lt hw (by decide)), bd_s, cl_n (by omega), hc.1, w1, nm_u, nI_p1]
          by_cases c1 : c (j + t) = wd si t
          · rw [if_pos c1, if_pos (by rw [c1])]; rfl
          · rw [if_neg c1, if_neg (fun hh => c1 (nI_eI hh (by omega) (by omega)))]
        by_cases c1 : c (j + t) = wd si t
        · left
          rw [if_pos c1] at E
          refine ⟨_, E, rfl, fun u hu => ?_⟩
          rcases Nat.lt_or_ge u t with h5 | h5
          · exact k2 u h5
          · have : u = t := by omega
            subst this
            exact c1
        · right
          rw [if_neg c1] at E
          exact ⟨_, E, Or.inr ⟨rfl, decide_eq_false (fun hh => c1 (hh.2 t ht))⟩⟩
      · obtain ⟨k1, k2⟩ := hI
        refine ⟨.inl s, ?_, Or.inl ⟨s, rfl, decide_eq_true ⟨hL, k2⟩⟩⟩
        show fX6_tokenSpells_b23 tp s si = _
        unfold fX6_tokenSpells_b23
        rw [k1, h1, if_pos (nI_le (by omega) (by omega))]
    obtain ⟨x, ex, hq⟩ := key
    rw [ex, bd_s]
    rcases hq with ⟨q, rfl, hs⟩ | ⟨rfl, hs⟩
    · rw [hs]; rfl
    · rw [hs]; rfl
  · have e1 : ¬ nI (e - j) = nI (strL.getD si 0) := fun hh => hL (by
      have h3 : wl si < 2 ^ 31 := Nat.lt_of_le_of_lt hw (by decide)
      have := nI_eI (b := wl si) hh (by omega) h3
      omega)
    rw [if_neg e1]
    have hs : spl c j e si = false := decide_eq_false (fun hh => hL hh.1)
    rw [hs]; rfl
def lnn (c : Nat → Nat) (j e : Nat) : Nat := if spl c j e 0 = true then 0 else if spl c j e 1 = true then 1 else if spl c j e 2 = true then 2 else if spl c j e 3 = true then 3 else if spl c j e 4 = true then 4 else if spl c j e 5 = true then 5 else if spl c j e 6 = true then 6 else if spl c j e 7 = true then 7 else 8
theorem c_line {tl tp mo : S2} {n j e : Nat} {c : Nat → Nat} (h : TX tp mo n c) (hj : j ≤ e) (he : e ≤ n) (h1 : tp 0 1 = nI e) (h2 : tp 0 2 = nI j) : fX7_lineOfName tl tp = some (nI (lnn c j e)) := by
  unfold fX7_lineOfName lnn
  rw [c_spells (si := 0) h (by decide) hj he h1 h2, bd_s, c_spells (si := 1) h (by decide) hj he h1 h2, bd_s, c_spells (si := 2) h (by decide) hj he h1 h2, bd_s, c_spells (si := 3) h (by decide) hj he h1 h2, bd_s, c_spells (si := 4) h (by decide) hj he h1 h2, bd_s, c_spells (si := 5) h (by decide) hj he h1 h2, bd_s, c_spells (si := 6) h (by decide) hj he h1 h2, bd_s, c_spells (si := 7) h (by decide) hj he h1 h2, bd_s]
  cases spl c j e 0 with
  | true => rfl
  | false =>
    cases spl c j e 1 with
    | true => rfl
    | false =>
      cases spl c j e 2 with
      | true => rfl
      | false =>
        cases spl c j e 3 with
        | true => rfl
        | false =>
          cases spl c j e 4 with
          | true => rfl
          | false =>
            cases spl c j e 5 with
            | true => rfl
            | false =>
              cases spl c j e 6 with
              | true => rfl
              | false =>
                cases spl c j e 7 with
                | true => rfl
                | false => rfl
theorem nI_k {a : Nat} (x : Int32) (k : Nat) (hx : x = nI k) : nI a + x = nI (a + k) := by rw [hx, nI_ad]
theorem n_by {x k : Nat} {y : Int32} (hx : x < 128) (hy : y = nI k) (hk : k < 128) : nI x = y ↔ x = k := by
  rw [hy]
  exact nI_eq (by omega) (by omega)
theorem r_w0 {tp mo : S2} {n j e : Nat} {c : Nat → Nat} {NEXT : Option Int32} {r : Int32} (h : TX tp mo n c) (hj : j ≤ e) (he : e ≤ n) (h8 : mo 0 8 = nI e) (h9 : mo 0 9 = nI j) : ((fX9_is mo (5 : Int32) (112 : Int32) (108 : Int32) (97 : Int32)).bind fun v1 => if v1 = (0 : Int32) then NEXT else (fX9_ends mo (105 : Int32) (110 : Int32) (0 : Int32) (0 : Int32)).bind fun v2 => if v2 = (0 : Int32) then NEXT else some r) = if spl c j e 0 = true then some r else NEXT := by
  have hn := h.1
  have hw : wl 0 = 5 := by decide
  unfold fX9_is fX9_ends fX9_ends_32 fX9_ends_50
  rw [h8, h9, pk_sub hj]
  by_cases hL : e = j + 5
  · have b0 : c (j + 0) < 128 := (h.2.2.2 (j + 0) (by omega)).2.2
    have b1 : c (j + 1) < 128 := (h.2.2.2 (j + 1) (by omega)).2.2
    have b2 : c (j + 2) < 128 := (h.2.2.2 (j + 2) (by omega)).2.2
    have b3 : c (j + 3) < 128 := (h.2.2.2 (j + 3) (by omega)).2.2
    have b4 : c (j + 4) < 128 := (h.2.2.2 (j + 4) (by omega)).2.2
    have q0 : fX9_byteAt mo (nI j) = some (nI (c (j + 0))) := by rw [r_byte h (by omega), if_pos (by omega), Nat.add_zero]
    have q1 : fX9_byteAt mo (nI j + (1 : Int32)) = some (nI (c (j + 1))) := by rw [nI_k (a := j) (1 : Int32) 1 rfl, r_byte h (by omega), if_pos (by omega)]
    have q2 : fX9_byteAt mo (nI j + (2 : Int32)) = some (nI (c (j + 2))) := by rw [nI_k (a := j) (2 : Int32) 2 rfl, r_byte h (by omega), if_pos (by omega)]
    have q3 : fX9_byteAt mo (nI j + (3 : Int32)) = some (nI (c (j + 3))) := by rw [nI_k (a := j) (3 : Int32) 3 rfl, r_byte h (by omega), if_pos (by omega)]
    have q4 : fX9_byteAt mo (nI j + (4 : Int32)) = some (nI (c (j + 4))) := by rw [nI_k (a := j) (4 : Int32) 4 rfl, r_byte h (by omega), if_pos (by omega)]
    rw [if_pos (show nI (e - j) = (5 : Int32) by rw [show e - j = 5 by omega]; rfl), q0, bd_s]
    by_cases h0 : c (j + 0) = 112
    · rw [if_pos ((n_by (y := 112) (k := 112) b0 rfl (by decide)).mpr h0), q1, bd_s]
      by_cases h1 : c (j + 1) = 108
      · rw [if_pos ((n_by (y := 108) (k := 108) b1 rfl (by decide)).mpr h1), q2, bd_s]
        by_cases h2 : c (j + 2) = 97
        · rw [if_pos ((n_by (y := 97) (k := 97) b2 rfl (by decide)).mpr h2), bd_s, if_neg (by decide), q3, bd_s]
          by_cases h3 : c (j + 3) = 105
          · rw [if_pos ((n_by (y := 105) (k := 105) b3 rfl (by decide)).mpr h3), if_neg (by decide), q4, bd_s]
            by_cases h4 : c (j + 4) = 110
            · rw [if_pos ((n_by (y := 110) (k := 110) b4 rfl (by decide)).mpr h4), if_pos rfl, if_pos rfl, bd_s, if_neg (by decide)]
              have hs : spl c j e 0 = true := decide_eq_true ⟨by rw [hw]; exact hL, fun t ht => by
                rw [hw] at ht
                have : t = 0 ∨ t = 1 ∨ t = 2 ∨ t = 3 ∨ t = 4 := by omega
                rcases this with rfl | rfl | rfl | rfl | rfl
                · exact h0.trans (by decide)
                · exact h1.trans (by decide)
                · exact h2.trans (by decide)
                · exact h3.trans (by decide)
                · exact h4.trans (by decide)⟩
              rw [hs, if_pos rfl]
            · have hs : spl c j e 0 = false := decide_eq_false (fun hh => h4 ((hh.2 4 (by rw [hw]; decide)).trans (by decide)))
              rw [if_neg (fun hh => h4 ((n_by (y := 110) (k := 110) b4 rfl (by decide)).mp hh)), bd_s, if_pos rfl, hs, if_neg (by decide)]
          · have hs : spl c j e 0 = false := decide_eq_false (fun hh => h3 ((hh.2 3 (by rw [hw]; decide)).trans (by decide)))
            rw [if_neg (fun hh => h3 ((n_by (y := 105) (k := 105) b3 rfl (by decide)).mp hh)), bd_s, if_pos rfl, hs, if_neg (by decide)]
        · have hs : spl c j e 0 = false := decide_eq_false (fun hh => h2 ((hh.2 2 (by rw [hw]; decide)).trans (by decide)))
          rw [if_neg (fun hh => h2 ((n_by (y := 97) (k := 97) b2 rfl (by decide)).mp hh)), bd_s, if_pos rfl, hs, if_neg (by decide)]
      · have hs : spl c j e 0 = false := decide_eq_false (fun hh => h1 ((hh.2 1 (by rw [hw]; decide)).trans (by decide)))
        rw [if_neg (fun hh => h1 ((n_by (y := 108) (k := 108) b1 rfl (by decide)).mp hh)), bd_s, if_pos rfl, hs, if_neg (by decide)]
    · have hs : spl c j e 0 = false := decide_eq_false (fun hh => h0 ((hh.2 0 (by rw [hw]; decide)).trans (by decide)))
      rw [if_neg (fun hh => h0 ((n_by (y := 112) (k := 112) b0 rfl (by decide)).mp hh)), bd_s, if_pos rfl, hs, if_neg (by decide)]
  · have hs : spl c j e 0 = false := decide_eq_false (fun hh => hL (by rw [← hw]; exact hh.1))
    rw [if_neg (n_ne (x := 5) (q := 5) (show ¬ e - j = 5 by omega) rfl (by omega) (by decide)), bd_s, if_pos rfl, hs, if_neg (by decide)]
theorem r_w1 {tp mo : S2} {n j e : Nat} {c : Nat → Nat} {NEXT : Option Int32} {r : Int32} (h : TX tp mo n c) (hj : j ≤ e) (he : e ≤ n) (h8 : mo 0 8 = nI e) (h9 : mo 0 9 = nI j) : ((fX9_is mo (5 : Int32) (114 : Int32) (105 : Int32) (100 : Int32)).bind fun v1 => if v1 = (0 : Int32) then NEXT else (fX9_ends mo (101 : Int32) (114 : Int32) (0 : Int32) (0 : Int32)).bind fun v2 => if v2 = (0 : Int32) then NEXT else some r) = if spl c j e 1 = true then some r else NEXT := by
  have hn := h.1
  have hw : wl 1 = 5 := by decide
  unfold fX9_is fX9_ends fX9_ends_32 fX9_ends_50
  rw [h8, h9, pk_sub hj]
  by_cases hL : e = j + 5
  · have b0 : c (j + 0) < 128 := (h.2.2.2 (j + 0) (by omega)).2.2
    have b1 : c (j + 1) < 128 := (h.2.2.2 (j + 1) (by omega)).2.2
    have b2 : c (j + 2) < 128 := (h.2.2.2 (j + 2) (by omega)).2.2
    have b3 : c (j + 3) < 128 := (h.2.2.2 (j + 3) (by omega)).2.2
    have b4 : c (j + 4) < 128 := (h.2.2.2 (j + 4) (by omega)).2.2
    have q0 : fX9_byteAt mo (nI j) = some (nI (c (j + 0))) := by rw [r_byte h (by omega), if_pos (by omega), Nat.add_zero]
    have q1 : fX9_byteAt mo (nI j + (1 : Int32)) = some (nI (c (j + 1))) := by rw [nI_k (a := j) (1 : Int32) 1 rfl, r_byte h (by omega), if_pos (by omega)]
    have q2 : fX9_byteAt mo (nI j + (2 : Int32)) = some (nI (c (j + 2))) := by rw [nI_k (a := j) (2 : Int32) 2 rfl, r_byte h (by omega), if_pos (by omega)]
    have q3 : fX9_byteAt mo (nI j + (3 : Int32)) = some (nI (c (j + 3))) := by rw [nI_k (a := j) (3 : Int32) 3 rfl, r_byte h (by omega), if_pos (by omega)]
    have q4 : fX9_byteAt mo (nI j + (4 : Int32)) = some (nI (c (j + 4))) := by rw [nI_k (a := j) (4 : Int32) 4 rfl, r_byte h (by omega), if_pos (by omega)]
    rw [if_pos (show nI (e - j) = (5 : Int32) by rw [show e - j = 5 by omega]; rfl), q0, bd_s]
    by_cases h0 : c (j + 0) = 114
    · rw [if_pos ((n_by (y := 114) (k := 114) b0 rfl (by decide)).mpr h0), q1, bd_s]
      by_cases h1 : c (j + 1) = 105
      · rw [if_pos ((n_by (y := 105) (k := 105) b1 rfl (by decide)).mpr h1), q2, bd_s]
        by_cases h2 : c (j + 2) = 100
        · rw [if_pos ((n_by (y := 100) (k := 100) b2 rfl (by decide)).mpr h2), bd_s, if_neg (by decide), q3, bd_s]
          by_cases h3 : c (j + 3) = 101
          · rw [if_pos ((n_by (y := 101) (k := 101) b3 rfl (by decide)).mpr h3), if_neg (by decide), q4, bd_s]
            by_cases h4 : c (j + 4) = 114
            · rw [if_pos ((n_by (y := 114) (k := 114) b4 rfl (by decide)).mpr h4), if_pos rfl, if_pos rfl, bd_s, if_neg (by decide)]
              have hs : spl c j e 1 = true := decide_eq_true ⟨by rw [hw]; exact hL, fun t ht => by
                rw [hw] at ht
                have : t = 0 ∨ t = 1 ∨ t = 2 ∨ t = 3 ∨ t = 4 := by omega
                rcases this with rfl | rfl | rfl | rfl | rfl
                · exact h0.trans (by decide)
                · exact h1.trans (by decide)
                · exact h2.trans (by decide)
                · exact h3.trans (by decide)
                · exact h4.trans (by decide)⟩
              rw [hs, if_pos rfl]
            · have hs : spl c j e 1 = false := decide_eq_false (fun hh => h4 ((hh.2 4 (by rw [hw]; decide)).trans (by decide)))
              rw [if_neg (fun hh => h4 ((n_by (y := 114) (k := 114) b4 rfl (by decide)).mp hh)), bd_s, if_pos rfl, hs, if_neg (by decide)]
          · have hs : spl c j e 1 = false := decide_eq_false (fun hh => h3 ((hh.2 3 (by rw [hw]; decide)).trans (by decide)))
            rw [if_neg (fun hh => h3 ((n_by (y := 101) (k := 101) b3 rfl (by decide)).mp hh)), bd_s, if_pos rfl, hs, if_neg (by decide)]
        · have hs : spl c j e 1 = false := decide_eq_false (fun hh => h2 ((hh.2 2 (by rw [hw]; decide)).trans (by decide)))
          rw [if_neg (fun hh => h2 ((n_by (y := 100) (k := 100) b2 rfl (by decide)).mp hh)), bd_s, if_pos rfl, hs, if_neg (by decide)]
      · have hs : spl c j e 1 = false := decide_eq_false (fun hh => h1 ((hh.2 1 (by rw [hw]; decide)).trans (by decide)))
        rw [if_neg (fun hh => h1 ((n_by (y := 105) (k := 105) b1 rfl (by decide)).mp hh)), bd_s, if_pos rfl, hs, if_neg (by decide)]
    · have hs : spl c j e 1 = false := decide_eq_false (fun hh => h0 ((hh.2 0 (by rw [hw]; decide)).trans (by decide)))
      rw [if_neg (fun hh => h0 ((n_by (y := 114) (k := 114) b0 rfl (by decide)).mp hh)), bd_s, if_pos rfl, hs, if_neg (by decide)]
  · have hs : spl c j e 1 = false := decide_eq_false (fun hh => hL (by rw [← hw]; exact hh.1))
    rw [if_neg (n_ne (x := 5) (q := 5) (show ¬ e - j = 5 by omega) rfl (by omega) (by decide)), bd_s, if_pos rfl, hs, if_neg (by decide)]
theorem r_w2 {tp mo : S2} {n j e : Nat} {c : Nat → Nat} {NEXT : Option Int32} {r : Int32} (h : TX tp mo n c) (hj : j ≤ e) (he : e ≤ n) (h8 : mo 0 8 = nI e) (h9 : mo 0 9 = nI j) : ((fX9_is mo (4 : Int32) (108 : Int32) (97 : Int32) (109 : Int32)).bind fun v1 => if v1 = (0 : Int32) then NEXT else (fX9_ends mo (101 : Int32) (0 : Int32) (0 : Int32) (0 : Int32)).bind fun v2 => if v2 = (0 : Int32) then NEXT else some r) = if spl c j e 2 = true then some r else NEXT := by
  have hn := h.1
  have hw : wl 2 = 4 := by decide
  unfold fX9_is fX9_ends fX9_ends_32 fX9_ends_50
  rw [h8, h9, pk_sub hj]
  by_cases hL : e = j + 4
  · have b0 : c (j + 0) < 128 := (h.2.2.2 (j + 0) (by omega)).2.2
    have b1 : c (j + 1) < 128 := (h.2.2.2 (j + 1) (by omega)).2.2
    have b2 : c (j + 2) < 128 := (h.2.2.2 (j + 2) (by omega)).2.2
    have b3 : c (j + 3) < 128 := (h.2.2.2 (j + 3) (by omega)).2.2
    have q0 : fX9_byteAt mo (nI j) = some (nI (c (j + 0))) := by rw [r_byte h (by omega), if_pos (by omega), Nat.add_zero]
    have q1 : fX9_byteAt mo (nI j + (1 : Int32)) = some (nI (c (j + 1))) := by rw [nI_k (a := j) (1 : Int32) 1 rfl, r_byte h (by omega), if_pos (by omega)]
    have q2 : fX9_byteAt mo (nI j + (2 : Int32)) = some (nI (c (j + 2))) := by rw [nI_k (a := j) (2 : Int32) 2 rfl, r_byte h (by omega), if_pos (by omega)]
    have q3 : fX9_byteAt mo (nI j + (3 : Int32)) = some (nI (c (j + 3))) := by rw [nI_k (a := j) (3 : Int32) 3 rfl, r_byte h (by omega), if_pos (by omega)]
    rw [if_pos (show nI (e - j) = (4 : Int32) by rw [show e - j = 4 by omega]; rfl), q0, bd_s]
    by_cases h0 : c (j + 0) = 108
    · rw [if_pos ((n_by (y := 108) (k := 108) b0 rfl (by decide)).mpr h0), q1, bd_s]
      by_cases h1 : c (j + 1) = 97
      · rw [if_pos ((n_by (y := 97) (k := 97) b1 rfl (by decide)).mpr h1), q2, bd_s]
        by_cases h2 : c (j + 2) = 109
        · rw [if_pos ((n_by (y := 109) (k := 109) b2 rfl (by decide)).mpr h2), bd_s, if_neg (by decide), q3, bd_s]
          by_cases h3 : c (j + 3) = 101
          · rw [if_pos ((n_by (y := 101) (k := 101) b3 rfl (by decide)).mpr h3), if_pos rfl, if_pos rfl, if_pos rfl, bd_s, if_neg (by decide)]
            have hs : spl c j e 2 = true := decide_eq_true ⟨by rw [hw]; exact hL, fun t ht => by
              rw [hw] at ht
              have : t = 0 ∨ t = 1 ∨ t = 2 ∨ t = 3 := by omega
              rcases this with rfl | rfl | rfl | rfl
              · exact h0.trans (by decide)
              · exact h1.trans (by decide)
              · exact h2.trans (by decide)
              · exact h3.trans (by decide)⟩
            rw [hs, if_pos rfl]
          · have hs : spl c j e 2 = false := decide_eq_false (fun hh => h3 ((hh.2 3 (by rw [hw]; decide)).trans (by decide)))
            rw [if_neg (fun hh => h3 ((n_by (y := 101) (k := 101) b3 rfl (by decide)).mp hh)), bd_s, if_pos rfl, hs, if_neg (by decide)]
        · have hs : spl c j e 2 = false := decide_eq_false (fun hh => h2 ((hh.2 2 (by rw [hw]; decide)).trans (by decide)))
          rw [if_neg (fun hh => h2 ((n_by (y := 109) (k := 109) b2 rfl (by decide)).mp hh)), bd_s, if_pos rfl, hs, if_neg (by decide)]
      · have hs : spl c j e 2 = false := decide_eq_false (fun hh => h1 ((hh.2 1 (by rw [hw]; decide)).trans (by decide)))
        rw [if_neg (fun hh => h1 ((n_by (y := 97) (k := 97) b1 rfl (by decide)).mp hh)), bd_s, if_pos rfl, hs, if_neg (by decide)]
    · have hs : spl c j e 2 = false := decide_eq_false (fun hh => h0 ((hh.2 0 (by rw [hw]; decide)).trans (by decide)))
      rw [if_neg (fun hh => h0 ((n_by (y := 108) (k := 108) b0 rfl (by decide)).mp hh)), bd_s, if_pos rfl, hs, if_neg (by decide)]
  · have hs : spl c j e 2 = false := decide_eq_false (fun hh => hL (by rw [← hw]; exact hh.1))
    rw [if_neg (n_ne (x := 4) (q := 4) (show ¬ e - j = 4 by omega) rfl (by omega) (by decide)), bd_s, if_pos rfl, hs, if_neg (by decide)]
theorem r_w3 {tp mo : S2} {n j e : Nat} {c : Nat → Nat} {NEXT : Option Int32} {r : Int32} (h : TX tp mo n c) (hj : j ≤ e) (he : e ≤ n) (h8 : mo 0 8 = nI e) (h9 : mo 0 9 = nI j) : ((fX9_is mo (7 : Int32) (99 : Int32) (111 : Int32) (117 : Int32)).bind fun v1 => if v1 = (0 : Int32) then NEXT else (fX9_ends mo (110 : Int32) (115 : Int32) (101 : Int32) (108 : Int32)).bind fun v2 => if v2 = (0 : Int32) then NEXT else some r) = if spl c j e 3 = true then some r else NEXT := by
  have hn := h.1
  have hw : wl 3 = 7 := by decide
  unfold fX9_is fX9_ends fX9_ends_32 fX9_ends_50
  rw [h8, h9, pk_sub hj]
  by_cases hL : e = j + 7
  · have b0 : c (j + 0) < 128 := (h.2.2.2 (j + 0) (by omega)).2.2
    have b1 : c (j + 1) < 128 := (h.2.2.2 (j + 1) (by omega)).2.2
    have b2 : c (j + 2) < 128 := (h.2.2.2 (j + 2) (by omega)).2.2
    have b3 : c (j + 3) < 128 := (h.2.2.2 (j + 3) (by omega)).2.2
    have b4 : c (j + 4) < 128 := (h.2.2.2 (j + 4) (by omega)).2.2
    have b5 : c (j + 5) < 128 := (h.2.2.2 (j + 5) (by omega)).2.2
    have b6 : c (j + 6) < 128 := (h.2.2.2 (j + 6) (by omega)).2.2
    have q0 : fX9_byteAt mo (nI j) = some (nI (c (j + 0))) := by rw [r_byte h (by omega), if_pos (by omega), Nat.add_zero]
    have q1 : fX9_byteAt mo (nI j + (1 : Int32)) = some (nI (c (j + 1))) := by rw [nI_k (a := j) (1 : Int32) 1 rfl, r_byte h (by omega), if_pos (by omega)]
    have q2 : fX9_byteAt mo (nI j + (2 : Int32)) = some (nI (c (j + 2))) := by rw [nI_k (a := j) (2 : Int32) 2 rfl, r_byte h (by omega), if_pos (by omega)]
    have q3 : fX9_byteAt mo (nI j + (3 : Int32)) = some (nI (c (j + 3))) := by rw [nI_k (a := j) (3 : Int32) 3 rfl, r_byte h (by omega), if_pos (by omega)]
    have q4 : fX9_byteAt mo (nI j + (4 : Int32)) = some (nI (c (j + 4))) := by rw [nI_k (a := j) (4 : Int32) 4 rfl, r_byte h (by omega), if_pos (by omega)]
    have q5 : fX9_byteAt mo (nI j + (5 : Int32)) = some (nI (c (j + 5))) := by rw [nI_k (a := j) (5 : Int32) 5 rfl, r_byte h (by omega), if_pos (by omega)]
    have q6 : fX9_byteAt mo (nI j + (6 : Int32)) = some (nI (c (j + 6))) := by rw [nI_k (a := j) (6 : Int32) 6 rfl, r_byte h (by omega), if_pos (by omega)]
    rw [if_pos (show nI (e - j) = (7 : Int32) by rw [show e - j = 7 by omega]; rfl), q0, bd_s]
    by_cases h0 : c (j + 0) = 99
    · rw [if_pos ((n_by (y := 99) (k := 99) b0 rfl (by decide)).mpr h0), q1, bd_s]
      by_cases h1 : c (j + 1) = 111
      · rw [if_pos ((n_by (y := 111) (k := 111) b1 rfl (by decide)).mpr h1), q2, bd_s]
        by_cases h2 : c (j + 2) = 117
        · rw [if_pos ((n_by (y := 117) (k := 117) b2 rfl (by decide)).mpr h2), bd_s, if_neg (by decide), q3, bd_s]
          by_cases h3 : c (j + 3) = 110
          · rw [if_pos ((n_by (y := 110) (k := 110) b3 rfl (by decide)).mpr h3), if_neg (by decide), q4, bd_s]
            by_cases h4 : c (j + 4) = 115
            · rw [if_pos ((n_by (y := 115) (k := 115) b4 rfl (by decide)).mpr h4), if_neg (by decide), q5, bd_s]
              by_cases h5 : c (j + 5) = 101
              · rw [if_pos ((n_by (y := 101) (k := 101) b5 rfl (by decide)).mpr h5), if_neg (by decide), q6, bd_s]
                by_cases h6 : c (j + 6) = 108
                · rw [if_pos ((n_by (y := 108) (k := 108) b6 rfl (by decide)).mpr h6), bd_s, if_neg (by decide)]
                  have hs : spl c j e 3 = true := decide_eq_true ⟨by rw [hw]; exact hL, fun t ht => by
                    rw [hw] at ht
                    have : t = 0 ∨ t = 1 ∨ t = 2 ∨ t = 3 ∨ t = 4 ∨ t = 5 ∨ t = 6 := by omega
                    rcases this with rfl | rfl | rfl | rfl | rfl | rfl | rfl
                    · exact h0.trans (by decide)
                    · exact h1.trans (by decide)
                    · exact h2.trans (by decide)
                    · exact h3.trans (by decide)
                    · exact h4.trans (by decide)
                    · exact h5.trans (by decide)
                    · exact h6.trans (by decide)⟩
                  rw [hs, if_pos rfl]
                · have hs : spl c j e 3 = false := decide_eq_false (fun hh => h6 ((hh.2 6 (by rw [hw]; decide)).trans (by decide)))
                  rw [if_neg (fun hh => h6 ((n_by (y := 108) (k := 108) b6 rfl (by decide)).mp hh)), bd_s, if_pos rfl, hs, if_neg (by decide)]
              · have hs : spl c j e 3 = false := decide_eq_false (fun hh => h5 ((hh.2 5 (by rw [hw]; decide)).trans (by decide)))
                rw [if_neg (fun hh => h5 ((n_by (y := 101) (k := 101) b5 rfl (by decide)).mp hh)), bd_s, if_pos rfl, hs, if_neg (by decide)]
            · have hs : spl c j e 3 = false := decide_eq_false (fun hh => h4 ((hh.2 4 (by rw [hw]; decide)).trans (by decide)))
              rw [if_neg (fun hh => h4 ((n_by (y := 115) (k := 115) b4 rfl (by decide)).mp hh)), bd_s, if_pos rfl, hs, if_neg (by decide)]
          · have hs : spl c j e 3 = false := decide_eq_false (fun hh => h3 ((hh.2 3 (by rw [hw]; decide)).trans (by decide)))
            rw [if_neg (fun hh => h3 ((n_by (y := 110) (k := 110) b3 rfl (by decide)).mp hh)), bd_s, if_pos rfl, hs, if_neg (by decide)]
        · have hs : spl c j e 3 = false := decide_eq_false (fun hh => h2 ((hh.2 2 (by rw [hw]; decide)).trans (by decide)))
          rw [if_neg (fun hh => h2 ((n_by (y := 117) (k := 117) b2 rfl (by decide)).mp hh)), bd_s, if_pos rfl, hs, if_neg (by decide)]
      · have hs : spl c j e 3 = false := decide_eq_false (fun hh => h1 ((hh.2 1 (by rw [hw]; decide)).trans (by decide)))
        rw [if_neg (fun hh => h1 ((n_by (y := 111) (k := 111) b1 rfl (by decide)).mp hh)), bd_s, if_pos rfl, hs, if_neg (by decide)]
    · have hs : spl c j e 3 = false := decide_eq_false (fun hh => h0 ((hh.2 0 (by rw [hw]; decide)).trans (by decide)))
      rw [if_neg (fun hh => h0 ((n_by (y := 99) (k := 99) b0 rfl (by decide)).mp hh)), bd_s, if_pos rfl, hs, if_neg (by decide)]
  · have hs : spl c j e 3 = false := decide_eq_false (fun hh => hL (by rw [← hw]; exact hh.1))
    rw [if_neg (n_ne (x := 7) (q := 7) (show ¬ e - j = 7 by omega) rfl (by omega) (by decide)), bd_s, if_pos rfl, hs, if_neg (by decide)]
theorem r_w4 {tp mo : S2} {n j e : Nat} {c : Nat → Nat} {NEXT : Option Int32} {r : Int32} (h : TX tp mo n c) (hj : j ≤ e) (he : e ≤ n) (h8 : mo 0 8 = nI e) (h9 : mo 0 9 = nI j) : ((fX9_is mo (4 : Int32) (109 : Int32) (105 : Int32) (108 : Int32)).bind fun v1 => if v1 = (0 : Int32) then NEXT else (fX9_ends mo (101 : Int32) (0 : Int32) (0 : Int32) (0 : Int32)).bind fun v2 => if v2 = (0 : Int32) then NEXT else some r) = if spl c j e 4 = true then some r else NEXT := by
  have hn := h.1
  have hw : wl 4 = 4 := by decide
  unfold fX9_is fX9_ends fX9_ends_32 fX9_ends_50
  rw [h8, h9, pk_sub hj]
  by_cases hL : e = j + 4
  · have b0 : c (j + 0) < 128 := (h.2.2.2 (j + 0) (by omega)).2.2
    have b1 : c (j + 1) < 128 := (h.2.2.2 (j + 1) (by omega)).2.2
    have b2 : c (j + 2) < 128 := (h.2.2.2 (j + 2) (by omega)).2.2
    have b3 : c (j + 3) < 128 := (h.2.2.2 (j + 3) (by omega)).2.2
    have q0 : fX9_byteAt mo (nI j) = some (nI (c (j + 0))) := by rw [r_byte h (by omega), if_pos (by omega), Nat.add_zero]
    have q1 : fX9_byteAt mo (nI j + (1 : Int32)) = some (nI (c (j + 1))) := by rw [nI_k (a := j) (1 : Int32) 1 rfl, r_byte h (by omega), if_pos (by omega)]
    have q2 : fX9_byteAt mo (nI j + (2 : Int32)) = some (nI (c (j + 2))) := by rw [nI_k (a := j) (2 : Int32) 2 rfl, r_byte h (by omega), if_pos (by omega)]
    have q3 : fX9_byteAt mo (nI j + (3 : Int32)) = some (nI (c (j + 3))) := by rw [nI_k (a := j) (3 : Int32) 3 rfl, r_byte h (by omega), if_pos (by omega)]
    rw [if_pos (show nI (e - j) = (4 : Int32) by rw [show e - j = 4 by omega]; rfl), q0, bd_s]
    by_cases h0 : c (j + 0) = 109
    · rw [if_pos ((n_by (y := 109) (k := 109) b0 rfl (by decide)).mpr h0), q1, bd_s]
      by_cases h1 : c (j + 1) = 105
      · rw [if_pos ((n_by (y := 105) (k := 105) b1 rfl (by decide)).mpr h1), q2, bd_s]
        by_cases h2 : c (j + 2) = 108
        · rw [if_pos ((n_by (y := 108) (k := 108) b2 rfl (by decide)).mpr h2), bd_s, if_neg (by decide), q3, bd_s]
          by_cases h3 : c (j + 3) = 101
          · rw [if_pos ((n_by (y := 101) (k := 101) b3 rfl (by decide)).mpr h3), if_pos rfl, if_pos rfl, if_pos rfl, bd_s, if_neg (by decide)]
            have hs : spl c j e 4 = true := decide_eq_true ⟨by rw [hw]; exact hL, fun t ht => by
              rw [hw] at ht
              have : t = 0 ∨ t = 1 ∨ t = 2 ∨ t = 3 := by omega
              rcases this with rfl | rfl | rfl | rfl
              · exact h0.trans (by decide)
              · exact h1.trans (by decide)
              · exact h2.trans (by decide)
              · exact h3.trans (by decide)⟩
            rw [hs, if_pos rfl]
          · have hs : spl c j e 4 = false := decide_eq_false (fun hh => h3 ((hh.2 3 (by rw [hw]; decide)).trans (by decide)))
            rw [if_neg (fun hh => h3 ((n_by (y := 101) (k := 101) b3 rfl (by decide)).mp hh)), bd_s, if_pos rfl, hs, if_neg (by decide)]
        · have hs : spl c j e 4 = false := decide_eq_false (fun hh => h2 ((hh.2 2 (by rw [hw]; decide)).trans (by decide)))
          rw [if_neg (fun hh => h2 ((n_by (y := 108) (k := 108) b2 rfl (by decide)).mp hh)), bd_s, if_pos rfl, hs, if_neg (by decide)]
      · have hs : spl c j e 4 = false := decide_eq_false (fun hh => h1 ((hh.2 1 (by rw [hw]; decide)).trans (by decide)))
        rw [if_neg (fun hh => h1 ((n_by (y := 105) (k := 105) b1 rfl (by decide)).mp hh)), bd_s, if_pos rfl, hs, if_neg (by decide)]
    · have hs : spl c j e 4 = false := decide_eq_false (fun hh => h0 ((hh.2 0 (by rw [hw]; decide)).trans (by decide)))
      rw [if_neg (fun hh => h0 ((n_by (y := 109) (k := 109) b0 rfl (by decide)).mp hh)), bd_s, if_pos rfl, hs, if_neg (by decide)]
  · have hs : spl c j e 4 = false := decide_eq_false (fun hh => hL (by rw [← hw]; exact hh.1))
    rw [if_neg (n_ne (x := 4) (q := 4) (show ¬ e - j = 4 by omega) rfl (by omega) (by decide)), bd_s, if_pos rfl, hs, if_neg (by decide)]
theorem r_w5 {tp mo : S2} {n j e : Nat} {c : Nat → Nat} {NEXT : Option Int32} {r : Int32} (h : TX tp mo n c) (hj : j ≤ e) (he : e ≤ n) (h8 : mo 0 8 = nI e) (h9 : mo 0 9 = nI j) : ((fX9_is mo (3 : Int32) (109 : Int32) (117 : Int32) (100 : Int32)).bind fun v1 => if v1 = (0 : Int32) then NEXT else some r) = if spl c j e 5 = true then some r else NEXT := by
  have hn := h.1
  have hw : wl 5 = 3 := by decide
  unfold fX9_is
  rw [h8, h9, pk_sub hj]
  by_cases hL : e = j + 3
  · have b0 : c (j + 0) < 128 := (h.2.2.2 (j + 0) (by omega)).2.2
    have b1 : c (j + 1) < 128 := (h.2.2.2 (j + 1) (by omega)).2.2
    have b2 : c (j + 2) < 128 := (h.2.2.2 (j + 2) (by omega)).2.2
    have q0 : fX9_byteAt mo (nI j) = some (nI (c (j + 0))) := by rw [r_byte h (by omega), if_pos (by omega), Nat.add_zero]
    have q1 : fX9_byteAt mo (nI j + (1 : Int32)) = some (nI (c (j + 1))) := by rw [nI_k (a := j) (1 : Int32) 1 rfl, r_byte h (by omega), if_pos (by omega)]
    have q2 : fX9_byteAt mo (nI j + (2 : Int32)) = some (nI (c (j + 2))) := by rw [nI_k (a := j) (2 : Int32) 2 rfl, r_byte h (by omega), if_pos (by omega)]
    rw [if_pos (show nI (e - j) = (3 : Int32) by rw [show e - j = 3 by omega]; rfl), q0, bd_s]
    by_cases h0 : c (j + 0) = 109
    · rw [if_pos ((n_by (y := 109) (k := 109) b0 rfl (by decide)).mpr h0), q1, bd_s]
      by_cases h1 : c (j + 1) = 117
      · rw [if_pos ((n_by (y := 117) (k := 117) b1 rfl (by decide)).mpr h1), q2, bd_s]
        by_cases h2 : c (j + 2) = 100
        · rw [if_pos ((n_by (y := 100) (k := 100) b2 rfl (by decide)).mpr h2), bd_s, if_neg (by decide)]
          have hs : spl c j e 5 = true := decide_eq_true ⟨by rw [hw]; exact hL, fun t ht => by
            rw [hw] at ht
            have : t = 0 ∨ t = 1 ∨ t = 2 := by omega
            rcases this with rfl | rfl | rfl
            · exact h0.trans (by decide)
            · exact h1.trans (by decide)
            · exact h2.trans (by decide)⟩
          rw [hs, if_pos rfl]
        · have hs : spl c j e 5 = false := decide_eq_false (fun hh => h2 ((hh.2 2 (by rw [hw]; decide)).trans (by decide)))
          rw [if_neg (fun hh => h2 ((n_by (y := 100) (k := 100) b2 rfl (by decide)).mp hh)), bd_s, if_pos rfl, hs, if_neg (by decide)]
      · have hs : spl c j e 5 = false := decide_eq_false (fun hh => h1 ((hh.2 1 (by rw [hw]; decide)).trans (by decide)))
        rw [if_neg (fun hh => h1 ((n_by (y := 117) (k := 117) b1 rfl (by decide)).mp hh)), bd_s, if_pos rfl, hs, if_neg (by decide)]
    · have hs : spl c j e 5 = false := decide_eq_false (fun hh => h0 ((hh.2 0 (by rw [hw]; decide)).trans (by decide)))
      rw [if_neg (fun hh => h0 ((n_by (y := 109) (k := 109) b0 rfl (by decide)).mp hh)), bd_s, if_pos rfl, hs, if_neg (by decide)]
  · have hs : spl c j e 5 = false := decide_eq_false (fun hh => hL (by rw [← hw]; exact hh.1))
    rw [if_neg (n_ne (x := 3) (q := 3) (show ¬ e - j = 3 by omega) rfl (by omega) (by decide)), bd_s, if_pos rfl, hs, if_neg (by decide)]
theorem r_w6 {tp mo : S2} {n j e : Nat} {c : Nat → Nat} {NEXT : Option Int32} {r : Int32} (h : TX tp mo n c) (hj : j ≤ e) (he : e ≤ n) (h8 : mo 0 8 = nI e) (h9 : mo 0 9 = nI j) : ((fX9_is mo (4 : Int32) (114 : Int32) (111 : Int32) (111 : Int32)).bind fun v1 => if v1 = (0 : Int32) then NEXT else (fX9_ends mo (109 : Int32) (0 : Int32) (0 : Int32) (0 : Int32)).bind fun v2 => if v2 = (0 : Int32) then NEXT else some r) = if spl c j e 6 = true then some r else NEXT := by
  have hn := h.1
  have hw : wl 6 = 4 := by decide
  unfold fX9_is fX9_ends fX9_ends_32 fX9_ends_50
  rw [h8, h9, pk_sub hj]
  by_cases hL : e = j + 4
  · have b0 : c (j + 0) < 128 := (h.2.2.2 (j + 0) (by omega)).2.2
    have b1 : c (j + 1) < 128 := (h.2.2.2 (j + 1) (by omega)).2.2
    have b2 : c (j + 2) < 128 := (h.2.2.2 (j + 2) (by omega)).2.2
    have b3 : c (j + 3) < 128 := (h.2.2.2 (j + 3) (by omega)).2.2
    have q0 : fX9_byteAt mo (nI j) = some (nI (c (j + 0))) := by rw [r_byte h (by omega), if_pos (by omega), Nat.add_zero]
    have q1 : fX9_byteAt mo (nI j + (1 : Int32)) = some (nI (c (j + 1))) := by rw [nI_k (a := j) (1 : Int32) 1 rfl, r_byte h (by omega), if_pos (by omega)]
    have q2 : fX9_byteAt mo (nI j + (2 : Int32)) = some (nI (c (j + 2))) := by rw [nI_k (a := j) (2 : Int32) 2 rfl, r_byte h (by omega), if_pos (by omega)]
    have q3 : fX9_byteAt mo (nI j + (3 : Int32)) = some (nI (c (j + 3))) := by rw [nI_k (a := j) (3 : Int32) 3 rfl, r_byte h (by omega), if_pos (by omega)]
    rw [if_pos (show nI (e - j) = (4 : Int32) by rw [show e - j = 4 by omega]; rfl), q0, bd_s]
    by_cases h0 : c (j + 0) = 114
    · rw [if_pos ((n_by (y := 114) (k := 114) b0 rfl (by decide)).mpr h0), q1, bd_s]
      by_cases h1 : c (j + 1) = 111
      · rw [if_pos ((n_by (y := 111) (k := 111) b1 rfl (by decide)).mpr h1), q2, bd_s]
        by_cases h2 : c (j + 2) = 111
        · rw [if_pos ((n_by (y := 111) (k := 111) b2 rfl (by decide)).mpr h2), bd_s, if_neg (by decide), q3, bd_s]
          by_cases h3 : c (j + 3) = 109
          · rw [if_pos ((n_by (y := 109) (k := 109) b3 rfl (by decide)).mpr h3), if_pos rfl, if_pos rfl, if_pos rfl, bd_s, if_neg (by decide)]
            have hs : spl c j e 6 = true := decide_eq_true ⟨by rw [hw]; exact hL, fun t ht => by
              rw [hw] at ht
              have : t = 0 ∨ t = 1 ∨ t = 2 ∨ t = 3 := by omega
              rcases this with rfl | rfl | rfl | rfl
              · exact h0.trans (by decide)
              · exact h1.trans (by decide)
              · exact h2.trans (by decide)
              · exact h3.trans (by decide)⟩
            rw [hs, if_pos rfl]
          · have hs : spl c j e 6 = false := decide_eq_false (fun hh => h3 ((hh.2 3 (by rw [hw]; decide)).trans (by decide)))
            rw [if_neg (fun hh => h3 ((n_by (y := 109) (k := 109) b3 rfl (by decide)).mp hh)), bd_s, if_pos rfl, hs, if_neg (by decide)]
        · have hs : spl c j e 6 = false := decide_eq_false (fun hh => h2 ((hh.2 2 (by rw [hw]; decide)).trans (by decide)))
          rw [if_neg (fun hh => h2 ((n_by (y := 111) (k := 111) b2 rfl (by decide)).mp hh)), bd_s, if_pos rfl, hs, if_neg (by decide)]
      · have hs : spl c j e 6 = false := decide_eq_false (fun hh => h1 ((hh.2 1 (by rw [hw]; decide)).trans (by decide)))
        rw [if_neg (fun hh => h1 ((n_by (y := 111) (k := 111) b1 rfl (by decide)).mp hh)), bd_s, if_pos rfl, hs, if_neg (by decide)]
    · have hs : spl c j e 6 = false := decide_eq_false (fun hh => h0 ((hh.2 0 (by rw [hw]; decide)).trans (by decide)))
      rw [if_neg (fun hh => h0 ((n_by (y := 114) (k := 114) b0 rfl (by decide)).mp hh)), bd_s, if_pos rfl, hs, if_neg (by decide)]
  · have hs : spl c j e 6 = false := decide_eq_false (fun hh => hL (by rw [← hw]; exact hh.1))
    rw [if_neg (n_ne (x := 4) (q := 4) (show ¬ e - j = 4 by omega) rfl (by omega) (by decide)), bd_s, if_pos rfl, hs, if_neg (by decide)]
theorem r_w7 {tp mo : S2} {n j e : Nat} {c : Nat → Nat} {NEXT : Option Int32} {r : Int32} (h : TX tp mo n c) (hj : j ≤ e) (he : e ≤ n) (h8 : mo 0 8 = nI e) (h9 : mo 0 9 = nI j) : ((fX9_is mo (4 : Int32) (115 : Int32) (110 : Int32) (111 : Int32)).bind fun v1 => if v1 = (0 : Int32) then NEXT else (fX9_ends mo (119 : Int32) (0 : Int32) (0 : Int32) (0 : Int32)).bind fun v2 => if v2 = (0 : Int32) then NEXT else some r) = if spl c j e 7 = true then some r else NEXT := by
  have hn := h.1
  have hw : wl 7 = 4 := by decide
  unfold fX9_is fX9_ends fX9_ends_32 fX9_ends_50
  rw [h8, h9, pk_sub hj]
  by_cases hL : e = j + 4
  · have b0 : c (j + 0) < 128 := (h.2.2.2 (j + 0) (by omega)).2.2
    have b1 : c (j + 1) < 128 := (h.2.2.2 (j + 1) (by omega)).2.2
    have b2 : c (j + 2) < 128 := (h.2.2.2 (j + 2) (by omega)).2.2
    have b3 : c (j + 3) < 128 := (h.2.2.2 (j + 3) (by omega)).2.2
    have q0 : fX9_byteAt mo (nI j) = some (nI (c (j + 0))) := by rw [r_byte h (by omega), if_pos (by omega), Nat.add_zero]
    have q1 : fX9_byteAt mo (nI j + (1 : Int32)) = some (nI (c (j + 1))) := by rw [nI_k (a := j) (1 : Int32) 1 rfl, r_byte h (by omega), if_pos (by omega)]
    have q2 : fX9_byteAt mo (nI j + (2 : Int32)) = some (nI (c (j + 2))) := by rw [nI_k (a := j) (2 : Int32) 2 rfl, r_byte h (by omega), if_pos (by omega)]
    have q3 : fX9_byteAt mo (nI j + (3 : Int32)) = some (nI (c (j + 3))) := by rw [nI_k (a := j) (3 : Int32) 3 rfl, r_byte h (by omega), if_pos (by omega)]
    rw [if_pos (show nI (e - j) = (4 : Int32) by rw [show e - j = 4 by omega]; rfl), q0, bd_s]
    by_cases h0 : c (j + 0) = 115
    · rw [if_pos ((n_by (y := 115) (k := 115) b0 rfl (by decide)).mpr h0), q1, bd_s]
      by_cases h1 : c (j + 1) = 110
      · rw [if_pos ((n_by (y := 110) (k := 110) b1 rfl (by decide)).mpr h1), q2, bd_s]
        by_cases h2 : c (j + 2) = 111
        · rw [if_pos ((n_by (y := 111) (k := 111) b2 rfl (by decide)).mpr h2), bd_s, if_neg (by decide), q3, bd_s]
          by_cases h3 : c (j + 3) = 119
          · rw [if_pos ((n_by (y := 119) (k := 119) b3 rfl (by decide)).mpr h3), if_pos rfl, if_pos rfl, if_pos rfl, bd_s, if_neg (by decide)]
            have hs : spl c j e 7 = true := decide_eq_true ⟨by rw [hw]; exact hL, fun t ht => by
              rw [hw] at ht
              have : t = 0 ∨ t = 1 ∨ t = 2 ∨ t = 3 := by omega
              rcases this with rfl | rfl | rfl | rfl
              · exact h0.trans (by decide)
              · exact h1.trans (by decide)
              · exact h2.trans (by decide)
              · exact h3.trans (by decide)⟩
            rw [hs, if_pos rfl]
          · have hs : spl c j e 7 = false := decide_eq_false (fun hh => h3 ((hh.2 3 (by rw [hw]; decide)).trans (by decide)))
            rw [if_neg (fun hh => h3 ((n_by (y := 119) (k := 119) b3 rfl (by decide)).mp hh)), bd_s, if_pos rfl, hs, if_neg (by decide)]
        · have hs : spl c j e 7 = false := decide_eq_false (fun hh => h2 ((hh.2 2 (by rw [hw]; decide)).trans (by decide)))
          rw [if_neg (fun hh => h2 ((n_by (y := 111) (k := 111) b2 rfl (by decide)).mp hh)), bd_s, if_pos rfl, hs, if_neg (by decide)]
      · have hs : spl c j e 7 = false := decide_eq_false (fun hh => h1 ((hh.2 1 (by rw [hw]; decide)).trans (by decide)))
        rw [if_neg (fun hh => h1 ((n_by (y := 110) (k := 110) b1 rfl (by decide)).mp hh)), bd_s, if_pos rfl, hs, if_neg (by decide)]
    · have hs : spl c j e 7 = false := decide_eq_false (fun hh => h0 ((hh.2 0 (by rw [hw]; decide)).trans (by decide)))
      rw [if_neg (fun hh => h0 ((n_by (y := 115) (k := 115) b0 rfl (by decide)).mp hh)), bd_s, if_pos rfl, hs, if_neg (by decide)]
  · have hs : spl c j e 7 = false := decide_eq_false (fun hh => hL (by rw [← hw]; exact hh.1))
    rw [if_neg (n_ne (x := 4) (q := 4) (show ¬ e - j = 4 by omega) rfl (by omega) (by decide)), bd_s, if_pos rfl, hs, if_neg (by decide)]
theorem r_line {tp mo : S2} {n j e : Nat} {c : Nat → Nat} (h : TX tp mo n c) (hj : j ≤ e) (he : e ≤ n) (h8 : mo 0 8 = nI e) (h9 : mo 0 9 = nI j) : fX9_lineNow mo = some (if lnn c j e = 8 then -4 else nI (lnn c j e)) := by
  unfold fX9_lineNow
  rw [r_w0 h hj he h8 h9]
  unfold fX9_lineNow_29
  rw [r_w1 h hj he h8 h9]
  unfold fX9_lineNow_58
  rw [r_w2 h hj he h8 h9]
  unfold fX9_lineNow_86
  rw [r_w3 h hj he h8 h9]
  unfold fX9_lineNow_118
  rw [r_w4 h hj he h8 h9]
  unfold fX9_lineNow_146
  rw [r_w5 h hj he h8 h9, r_w6 h hj he h8 h9]
  unfold fX9_lineNow_193
  rw [r_w7 h hj he h8 h9]
  unfold lnn
  cases spl c j e 0 with
  | true => rfl
  | false =>
    cases spl c j e 1 with
    | true => rfl
    | false =>
      cases spl c j e 2 with
      | true => rfl
      | false =>
        cases spl c j e 3 with
        | true => rfl
        | false =>
          cases spl c j e 4 with
          | true => rfl
          | false =>
            cases spl c j e 5 with
            | true => rfl
            | false =>
              cases spl c j e 6 with
              | true => rfl
              | false =>
                cases spl c j e 7 with
                | true => rfl
                | false => rfl
