/-! PURE: read -/
/-- what read may change of the reference -/
def XF (mo mo' : S2) : Prop := ∀ a b, (a ≠ 1 ∨ 46 ≤ b) → a ≠ 16 → (a ≠ 0 ∨ b ≠ 17) → mo' a b = mo a b
theorem XF_r (mo : S2) : XF mo mo := fun _ _ _ _ _ => rfl
theorem sim_read_bad {mo rd tr sh cc : S2} {p1 p2 p3 p4 : Int32} (hb : win p1 0 3 = false) : fX8_read cc rd tr sh p1 p2 p3 p4 = some (-1, cc, rd, tr) ∧ fX9_read mo p1 p2 p3 p4 = some (-1, mo) := by
  unfold fX8_read fX9_read
  rw [w8, bd_s, pX9_isSheet, bd_s, hb]
  exact ⟨rfl, rfl⟩
theorem ia_1 {α : Type} {a : Prop} [Decidable (false = true ∧ a)] {x y : α} : (if false = true ∧ a then x else y) = y := if_neg (fun h => by cases h.1)
theorem ia_2 {α : Type} {a : Prop} [Decidable (a ∧ false = true)] {x y : α} : (if a ∧ false = true then x else y) = y := if_neg (fun h => by cases h.2)
theorem ia_3 {α : Type} [Decidable (true = true ∧ true = true)] {x y : α} : (if true = true ∧ true = true then x else y) = x := if_pos ⟨rfl, rfl⟩
theorem r_stand {mo rd : S2} {M P : Nat} {v w : Int32} (h : RR mo rd M P) : fX9_stand mo v w = if blw v P = true ∧ blw w M = true then some (rd 8 v.toNatClampNeg, sE mo 1 (24 + 5 * v.toNatClampNeg + 4) w) else some (-1, mo) := by
  obtain ⟨⟨_, a2, _, _⟩, _, hM, hP, m0, m1, r0, r1⟩ := id h
  unfold fX9_stand
  rw [pX9_isParty m1 (by omega), bd_s]
  cases hb : blw v P with
  | false => rw [ia_1]; rfl
  | true =>
    obtain ⟨p, rfl, hp⟩ := blw_n (by omega) hb
    rw [pX9_isMile m0 (by omega), bd_s]
    cases hc : blw w M with
    | false => rw [ia_2]; rfl
    | true =>
      have c4 := (a2 p hp).2.2.2.2
      simp only [Nat.zero_add] at c4
      rw [ia_3]
      simp only [it_t]
      rw [m5_4 p (by omega), pX9_becomes (by omega), bd_s, cl_n (by omega), c4]
/-- the reason for which a pair is refused -/
def rsn (sh : S2) (lane : Int32) (ok : Bool) : Int32 := if sh 0 0 = 0 then 1 else if lane = sh 0 1 then (if ok = true then 0 else 2) else 3
theorem c_rp {sh : S2} {lane : Int32} {y z : Nat} (h0 : sh 0 0 = 0 ∨ sh 0 0 = 1) (h2 : sh 0 0 = 1 → sh 0 2 = nI z) (hz : z ≤ 40) (hy : y < 2 ^ 31) : fX4_refusalOfPair sh lane (nI y) = some (rsn sh lane (decide (y + 1 < z))) := by
  unfold fX4_refusalOfPair rsn
  rcases h0 with h0 | h0
  · unfold fX4_refusal
    rw [if_pos h0, bd_s, if_neg (by decide), if_pos h0]
  · rw [if_neg (by rw [h0]; decide)]
    by_cases hl : lane = sh 0 1
    · rw [ref_b h0 (h2 h0) hl, bd_s, ref_b h0 (h2 h0) hl, bd_s, if_pos hl, blw_nI hy (by omega), nI_p1]
      by_cases c1 : y < z
      · rw [decide_eq_true c1, if_pos rfl, if_pos rfl, blw_nI (by omega) (by omega)]
      · rw [decide_eq_false c1, if_neg (by decide), if_neg (by decide), decide_eq_false (by omega), if_neg (by decide)]
    · unfold fX4_refusal
      rw [if_neg (by rw [h0]; decide), if_neg hl, bd_s, if_neg (by decide), if_neg hl]
theorem c_rpn {sh : S2} {lane x : Int32} (h0 : sh 0 0 = 0 ∨ sh 0 0 = 1) (hx : x < 0) : fX4_refusalOfPair sh lane x = some (rsn sh lane false) := by
  unfold fX4_refusalOfPair rsn fX4_refusal
  rcases h0 with h0 | h0
  · rw [if_pos h0, bd_s, if_neg (by decide), if_pos h0]
  · have hn : ¬ sh 0 0 = 0 := by rw [h0]; decide
    by_cases hl : lane = sh 0 1
    · rw [if_neg hn, if_pos hl, if_pos hx, bd_s, if_neg (by decide), if_neg hn, if_pos hl, if_neg (by decide)]
    · rw [if_neg hn, if_neg hl, bd_s, if_neg (by decide), if_neg hn, if_neg hl]
theorem wh_l {σ ρ : Type} {body : σ → Option (σ ⊕ ρ)} {s s' : σ} {n : Nat} (h : body s = some (.inl s')) (hn : 0 < n) : wh body n s = wh body (n - 1) s' := by
  obtain ⟨k, rfl⟩ : ∃ k, n = k + 1 := ⟨n - 1, by omega⟩
  rw [Nat.add_sub_cancel]
  show (match body s with | none => none | some (.inl s') => wh body k s' | some (.inr r) => some r) = _
  rw [h]
theorem wh_r {σ ρ : Type} {body : σ → Option (σ ⊕ ρ)} {s : σ} {r : ρ} {n : Nat} (h : body s = some (.inr r)) (hn : 0 < n) : wh body n s = some r := by
  obtain ⟨k, rfl⟩ : ∃ k, n = k + 1 := ⟨n - 1, by omega⟩
  show (match body s with | none => none | some (.inl s') => wh body k s' | some (.inr r) => some r) = _
  rw [h]
theorem win_n4 {a : Int32} (h : win a 0 2 = true) : ¬ a = -4 := by
  rintro rfl
  revert h
  decide
theorem r_b77 {s sh : S2} {k c : Nat} {lane f w x6 x7 : Int32} (hk : k < 4) (hc : c < 2) (hs : SH s sh k) {ok : Bool} (hok : sh 0 0 = 1 → (if (Int32.toInt64 f + Int32.toInt64 ((2 : Int32) * x7)) + Int32.toInt64 (nI c) < 0 then false else decide ((Int32.toInt64 f + Int32.toInt64 ((2 : Int32) * x7)) + Int32.toInt64 (nI c) < Int32.toInt64 (s 14 k))) = ok) : fX9_read_b77 s (nI k) lane f w 0 x6 x7 (nI c) = some (.inl (rsn sh lane ok, nI (c + 1), s)) := by
  unfold fX9_read_b77
  rw [if_neg (show ¬ (2 : Int32) ≤ nI c from nI_ge (a := c) (b := 2) hc (by decide)), if_pos rfl, nm_u, gd_n hk (by decide), cl_n (by omega)]
  simp only [nm_u, nI_p1, lg_cmp_lt]
  unfold rsn
  rcases hs with ⟨a1, a2⟩ | ⟨a1, a2, a3, a4, a5, a6⟩
  · rw [if_pos a2, if_pos a1]
  · rw [if_neg (win_n4 a3), if_neg (show ¬ sh 0 0 = 0 by rw [a1]; decide), a2, ← hok a1]
    by_cases hl : lane = s 13 k
    · rw [if_pos hl.symm, if_pos hl]
      by_cases c1 : (Int32.toInt64 f + Int32.toInt64 ((2 : Int32) * x7)) + Int32.toInt64 (nI c) < 0
      · rw [if_pos c1, if_pos c1, if_neg (by decide)]
      · rw [if_neg c1, if_neg c1]
        by_cases c2 : (Int32.toInt64 f + Int32.toInt64 ((2 : Int32) * x7)) + Int32.toInt64 (nI c) < Int32.toInt64 (s 14 k)
        · rw [if_pos c2, decide_eq_true c2, if_pos rfl]
        · rw [if_neg c2, decide_eq_false c2, if_neg (by decide)]
    · rw [if_neg (fun hh => hl hh.symm), if_neg hl]
theorem r_rp {s sh : S2} {k : Nat} {lane f w x6 x7 : Int32} (hk : k < 4) (hs : SH s sh k) {ok0 ok1 : Bool} (h0 : sh 0 0 = 1 → (if (Int32.toInt64 f + Int32.toInt64 ((2 : Int32) * x7)) + Int32.toInt64 (nI 0) < 0 then false else decide ((Int32.toInt64 f + Int32.toInt64 ((2 : Int32) * x7)) + Int32.toInt64 (nI 0) < Int32.toInt64 (s 14 k))) = ok0) (h1 : sh 0 0 = 1 → ok0 = true → (if (Int32.toInt64 f + Int32.toInt64 ((2 : Int32) * x7)) + Int32.toInt64 (nI 1) < 0 then false else decide ((Int32.toInt64 f + Int32.toInt64 ((2 : Int32) * x7)) + Int32.toInt64 (nI 1) < Int32.toInt64 (s 14 k))) = ok1) : ∃ x, wh (fun (c : Int32 × Int32 × S2) => fX9_read_b77 c.2.2 (nI k) lane f w c.1 x6 x7 c.2.1) 5000 ((0 : Int32), (0 : Int32), s) = some (rsn sh lane (ok0 && ok1), x, s) := by
  have e0 := r_b77 (lane := lane) (w := w) (x6 := x6) hk (show 0 < 2 by decide) hs h0
  rw [wh_l (body := fun (c : Int32 × Int32 × S2) => fX9_read_b77 c.2.2 (nI k) lane f w c.1 x6 x7 c.2.1) (s := ((0 : Int32), (0 : Int32), s)) e0 (by decide)]
  by_cases hz : rsn sh lane ok0 = 0
  · have hh : sh 0 0 = 1 ∧ ok0 = true := by
      unfold rsn at hz
      rcases hs with ⟨a1, a2⟩ | ⟨a1, _⟩
      · rw [if_pos a1] at hz; exact absurd hz (by decide)
      · refine ⟨a1, ?_⟩
        rw [if_neg (show ¬ sh 0 0 = 0 by rw [a1]; decide)] at hz
        by_cases hl : lane = sh 0 1
        · rw [if_pos hl] at hz
          cases ok0 with
          | false => rw [if_neg (by decide)] at hz; exact absurd hz (by decide)
          | true => rfl
        · rw [if_neg hl] at hz; exact absurd hz (by decide)
    have e1 := r_b77 (lane := lane) (w := w) (x6 := x6) hk (show 1 < 2 by decide) hs (fun a => h1 a hh.2)
    rw [hz, wh_l (body := fun (c : Int32 × Int32 × S2) => fX9_read_b77 c.2.2 (nI k) lane f w c.1 x6 x7 c.2.1) (s := ((0 : Int32), nI (0 + 1), s)) e1 (by decide), hh.2, Bool.true_and]
    refine ⟨nI (1 + 1), wh_r ?_ (by decide)⟩
    dsimp only
    unfold fX9_read_b77
    rw [if_pos (by decide)]
  · have ee : rsn sh lane (ok0 && ok1) = rsn sh lane ok0 := by
      cases ok0 with
      | false => rfl
      | true =>
        unfold rsn at hz ⊢
        by_cases c1 : sh 0 0 = 0
        · rw [if_pos c1, if_pos c1]
        · rw [if_neg c1] at hz
          rw [if_neg c1, if_neg c1]
          by_cases c2 : lane = sh 0 1
          · rw [if_pos c2, if_pos rfl] at hz; exact absurd rfl hz
          · rw [if_neg c2, if_neg c2]
    rw [ee]
    refine ⟨nI (0 + 1), wh_r ?_ (by decide)⟩
    dsimp only
    unfold fX9_read_b77
    rw [if_neg (by decide), if_neg hz]
theorem RR_fr {mo mo' rd : S2} {M P : Nat} (h : RR mo rd M P) (h1 : ∀ b, mo' 1 b = mo 1 b) (h2 : mo' 0 0 = mo 0 0) (h3 : mo' 0 1 = mo 0 1) : RR mo' rd M P := by
  unfold RR RA at h ⊢
  simp only [h1, h2, h3]
  exact h
theorem SH_fr {mo mo' sh : S2} {k : Nat} (h : SH mo sh k) (hf : ∀ a b, 13 ≤ a → a ≤ 15 → mo' a b = mo a b) : SH mo' sh k := by
  unfold SH at h ⊢
  have e1 : ∀ b, mo' 13 b = mo 13 b := fun b => hf 13 b (by omega) (by omega)
  have e2 : ∀ b, mo' 14 b = mo 14 b := fun b => hf 14 b (by omega) (by omega)
  have e3 : ∀ b, mo' 15 b = mo 15 b := fun b => hf 15 b (by omega) (by omega)
  simp only [e1, e2, e3]
  exact h
theorem r_208 {s : S2} {x7 : Int32} : ∃ x, wh (fun (c : Int32 × S2) => fX9_read_b208 c.2 x7 c.1) 5000 ((0 : Int32), s) = some x ∧ ∀ a b, x.2 a b = if a = 1 ∧ b < 59 then s 16 b else s a b := by
  refine wh_ex (body := fun (c : Int32 × S2) => fX9_read_b208 c.2 x7 c.1)
    (fun i c => c.1 = nI i ∧ ∀ a b, c.2 a b = if a = 1 ∧ b < i then s 16 b else s a b)
    (fun c => ∀ a b, c.2 a b = if a = 1 ∧ b < 59 then s 16 b else s a b) 59
    (fun i c hi hI => ?_) (fun c hI => ?_) 5000 0 _ (by decide) (by decide) ⟨rfl, fun a b => by simp⟩
  · obtain ⟨h1, h2⟩ := hI
    left
    refine ⟨(nI (i + 1), sE c.2 1 i (s 16 i)), ?_, rfl, fun a b => ?_⟩
    · unfold fX9_read_b208
      rw [h1, if_neg (show ¬ (59 : Int32) ≤ nI i from nI_ge (a := i) (b := 59) hi (by decide)), gd_n hi (by decide), gd_n (by omega) (by decide), cl_n (by omega), nm_u, nm_u, nI_p1, h2 16 i, if_neg (by omega)]
    · dsimp only
      rw [sE_v, h2]
      by_cases h5 : a = 1
      · subst h5
        by_cases hb : b = i
        · subst hb; simp
        · have : (b < i + 1) ↔ b < i := by omega
          simp [hb, this]
      · simp [h5]
  · obtain ⟨h1, h2⟩ := hI
    refine ⟨c, ?_, h2⟩
    unfold fX9_read_b208
    rw [h1, if_pos (by decide), ← h1]
theorem r_26 {s : S2} {a1 a2 a3 a4 : Int32} : ∃ x, wh (fun (c : Int32 × S2) => fX9_read_b26 c.2 a1 a2 a3 a4 c.1) 5000 ((0 : Int32), s) = some x ∧ ∀ a b, x.2 a b = if a = 16 ∧ b < 59 then s 1 b else s a b := by
  refine wh_ex (body := fun (c : Int32 × S2) => fX9_read_b26 c.2 a1 a2 a3 a4 c.1)
    (fun i c => c.1 = nI i ∧ ∀ a b, c.2 a b = if a = 16 ∧ b < i then s 1 b else s a b)
    (fun c => ∀ a b, c.2 a b = if a = 16 ∧ b < 59 then s 1 b else s a b) 59
    (fun i c hi hI => ?_) (fun c hI => ?_) 5000 0 _ (by decide) (by decide) ⟨rfl, fun a b => by simp⟩
  · obtain ⟨h1, h2⟩ := hI
    left
    refine ⟨(nI (i + 1), sE c.2 16 i (s 1 i)), ?_, rfl, fun a b => ?_⟩
    · unfold fX9_read_b26
      rw [h1, if_neg (show ¬ (59 : Int32) ≤ nI i from nI_ge (a := i) (b := 59) hi (by decide)), gd_n (by omega) (by decide), gd_n hi (by decide), cl_n (by omega), nm_u, nm_u, nI_p1, h2 1 i, if_neg (by omega)]
    · dsimp only
      rw [sE_v, h2]
      by_cases h5 : a = 16
      · subst h5
        by_cases hb : b = i
        · subst hb; simp
        · have : (b < i + 1) ↔ b < i := by omega
          simp [hb, this]
      · simp [h5]
  · obtain ⟨h1, h2⟩ := hI
    refine ⟨c, ?_, h2⟩
    unfold fX9_read_b26
    rw [h1, if_pos (by decide), ← h1]
/-- the pair at place i, told to both: refused for one reason, or whole -/
theorem rd_pos {s sh : S2} {k i : Nat} {lane f w x6 : Int32} (hk : k < 4) (hi : i < 20) (hs : SH s sh k) (hp : i = 0 ∨ ∃ x, f = nI x ∧ x + 2 * i ≤ 40) : ∃ ρ x, fX4_refusalOfPair sh lane (f + (2 : Int32) * nI i) = some ρ ∧ wh (fun (c : Int32 × Int32 × S2) => fX9_read_b77 c.2.2 (nI k) lane f w c.1 x6 (nI i) c.2.1) 5000 ((0 : Int32), (0 : Int32), s) = some (ρ, x, s) ∧ (ρ = 0 → sh 0 0 = 1 ∧ ∃ y x, f = nI x ∧ y = x + 2 * i ∧ y + 1 < 40 ∧ f + (2 : Int32) * nI i = nI y) := by
  have h01 : sh 0 0 = 0 ∨ sh 0 0 = 1 := by rcases hs with ⟨a, _⟩ | ⟨a, _⟩; exact Or.inl a; exact Or.inr a
  have e2i : (2 : Int32) * nI i = nI (2 * i) := pk_mul 2 i
  by_cases hf : f < 0
  · have i0 : i = 0 := by
      rcases hp with h | ⟨x, rfl, hx⟩
      · exact h
      · exact absurd hf (nI_pos (by omega))
    subst i0
    have ef : f + (2 : Int32) * nI 0 = f := by rw [e2i]; show f + nI 0 = f; rw [nI_0]; exact Int32.add_zero f
    obtain ⟨x, ex⟩ := r_rp (lane := lane) (f := f) (w := w) (x6 := x6) (x7 := nI 0) (ok0 := false) (ok1 := false) hk hs (fun _ => by
      rw [if_pos]
      rw [Int64.lt_iff_toInt_lt]
      rw [e2i]
      show (Int32.toInt64 f + Int32.toInt64 (nI 0) + Int32.toInt64 (nI 0)).toInt < 0
      rw [nI_0, show Int32.toInt64 0 = 0 from rfl, Int64.add_zero, Int64.add_zero, Int32.toInt_toInt64]
      have := Int32.lt_iff_toInt_lt.mp hf
      simpa using this) (fun _ hh => absurd hh (by decide))
    refine ⟨rsn sh lane false, x, ?_, ex, fun hr => ?_⟩
    · rw [ef]; exact c_rpn h01 hf
    · exfalso
      unfold rsn at hr
      by_cases c1 : sh 0 0 = 0
      · rw [if_pos c1] at hr; exact absurd hr (by decide)
      · rw [if_neg c1] at hr
        by_cases c2 : lane = sh 0 1
        · rw [if_pos c2, if_neg (by decide)] at hr; exact absurd hr (by decide)
        · rw [if_neg c2] at hr; exact absurd hr (by decide)
  · obtain ⟨x, hx, rfl⟩ := nI_of hf
    have hy : x + 2 * i < 2 ^ 31 := by
      rcases hp with h | ⟨x', e, h⟩
      · omega
      · by_cases hx' : x' < 2 ^ 31
        · have := (nI_eq hx hx').mp e
          omega
        · omega
    have ey : nI x + (2 : Int32) * nI i = nI (x + 2 * i) := by rw [e2i, nI_ad]
    have el : ∀ c, c < 2 → (Int32.toInt64 (nI x) + Int32.toInt64 ((2 : Int32) * nI i)) + Int32.toInt64 (nI c) = lN (x + 2 * i + c) := fun c hc => by
      rw [e2i, nI_l hx, nI_l (by omega), nI_l (by omega), lN_add, lN_add]
    obtain ⟨z, hz1, hz2⟩ : ∃ z, (sh 0 0 = 1 → sh 0 2 = nI z ∧ s 14 k = nI z) ∧ z ≤ 40 := by
      rcases hs with ⟨a1, _⟩ | ⟨_, _, _, a4, a5, _⟩
      · exact ⟨0, fun hh => absurd (a1.symm.trans hh) (by decide), by omega⟩
      · obtain ⟨z, ez, hz⟩ := win_le (h := 40) (by decide) a5
        exact ⟨z, fun _ => ⟨by rw [a4, ez], ez⟩, hz⟩
    have hok : ∀ c, c < 2 → sh 0 0 = 1 → (if (Int32.toInt64 (nI x) + Int32.toInt64 ((2 : Int32) * nI i)) + Int32.toInt64 (nI c) < 0 then false else decide ((Int32.toInt64 (nI x) + Int32.toInt64 ((2 : Int32) * nI i)) + Int32.toInt64 (nI c) < Int32.toInt64 (s 14 k))) = decide (x + 2 * i + c < z) := fun c hc h1 => by
      rw [el c hc, (hz1 h1).2, nI_l (n := z) (by omega), if_neg]
      · exact decide_eq_decide.mpr (pk_lLT (by omega) (by omega))
      · intro hh
        have : lN (x + 2 * i + c) < lN 0 := hh
        have := (pk_lLT (by omega) (by omega)).mp this
        omega
    obtain ⟨xx, ex⟩ := r_rp (lane := lane) (f := nI x) (w := w) (x6 := x6) (x7 := nI i) hk hs (hok 0 (by decide)) (fun a _ => hok 1 (by decide) a)
    have eo : (decide (x + 2 * i + 0 < z) && decide (x + 2 * i + 1 < z)) = decide (x + 2 * i + 1 < z) := by
      by_cases c1 : x + 2 * i + 1 < z
      · rw [decide_eq_true c1, decide_eq_true (by omega)]; rfl
      · rw [decide_eq_false c1, Bool.and_false]
    rw [eo] at ex
    refine ⟨_, xx, ?_, ex, fun hr => ?_⟩
    · rw [ey]; exact c_rp h01 (fun a => (hz1 a).1) hz2 hy
    · unfold rsn at hr
      by_cases c1 : sh 0 0 = 0
      · rw [if_pos c1] at hr; exact absurd hr (by decide)
      · rw [if_neg c1] at hr
        by_cases c2 : lane = sh 0 1
        · rw [if_pos c2] at hr
          by_cases c3 : x + 2 * i + 1 < z
          · exact ⟨by rcases h01 with a | a; exact absurd a c1; exact a, _, x, rfl, rfl, by omega, ey⟩
          · rw [decide_eq_false c3, if_neg (by decide)] at hr; exact absurd hr (by decide)
        · rw [if_neg c2] at hr; exact absurd hr (by decide)
def YF (mo t : S2) : Prop := (∀ a b, (a ≠ 1 ∨ 46 ≤ b) → a ≠ 16 → t a b = mo a b) ∧ ∀ b, b < 59 → t 16 b = mo 1 b
theorem sim_read {mo rd tr sh cc : S2} {M P k : Nat} {p2 p3 p4 : Int32} (hk : k < 4) (h : RR mo rd M P) (hs : SH mo sh k) (ht : cc 0 0 = mo 0 17) : ∃ v cc' rd' tr' mo', fX8_read cc rd tr sh (nI k) p2 p3 p4 = some (v, cc', rd', tr') ∧ fX9_read mo (nI k) p2 p3 p4 = some (v, mo') ∧ RR mo' rd' M P ∧ XF mo mo' ∧ cc' 0 0 = mo' 0 17 := by
  obtain ⟨_, _, hM, hP, m0, m1, r0, r1⟩ := id h
  unfold fX8_read fX9_read
  rw [w8, bd_s, w8, bd_s, w8, bd_s, pX9_isSheet, bd_s, win_3 k hk, Bool.true_and, w9 (lo := 0) (hi := 20) (by decide) (by decide), bd_s]
  cases hw : win p2 0 2 with
  | false => exact ⟨_, _, _, _, _, rfl, rfl, h, XF_r mo, ht⟩
  | true =>
    cases hv : win p4 0 20 with
    | false => exact ⟨_, _, _, _, _, rfl, rfl, h, XF_r mo, ht⟩
    | true =>
      obtain ⟨n, rfl, hn⟩ := win_le (h := 20) (by decide) hv
      obtain ⟨d, e1, hc⟩ := pX2_copy (rd := tr) (ro := rd)
      obtain ⟨x, e2, hx⟩ := r_26 (s := mo) (a1 := nI k) (a2 := p2) (a3 := p3) (a4 := nI n)
      simp only [it_t]
      rw [gd_n hk (by decide), e1, bd_s, e2, bd_s]
      have Y0 : YF mo x.2 := ⟨fun a b hab h16 => by rw [hx, if_neg (by omega)], fun b hb => by rw [hx, if_pos ⟨rfl, hb⟩]⟩
      have Rd : RR mo d M P := ⟨RA_cp h.1 hM hP hc, RG_cp h.2.1 hM hP hc, hM, hP, m0, m1, by rw [hc.2.2.1, r0], by rw [hc.2.2.2.1, r1]⟩
      have Rx : RR x.2 d M P := RR_fr Rd (fun b => by rw [hx, if_neg (by omega)]) (by rw [hx, if_neg (by omega)]) (by rw [hx, if_neg (by omega)])
      have key : ∃ r u, wh (fun (c : Int32 × Int32 × S2 × S2 × S2) => fX8_read_b56 c.2.2.1 c.2.2.2.1 c.2.2.2.2 sh p2 p3 (nI n) c.1 c.2.1) 5000 ((0 : Int32), (0 : Int32), cc, rd, d) = some r ∧ wh (fun (c : Int32 × Int32 × Int32 × S2) => fX9_read_b62 c.2.2.2 (nI k) p2 p3 (nI n) c.1 c.2.1 c.2.2.1) 5000 ((0 : Int32), (0 : Int32), (0 : Int32), x.2) = some u ∧ ((∃ a b, r = .inl a ∧ u = .inl b ∧ a.1 = b.2.1 ∧ a.2.1 = b.1 ∧ a.2.2.1 = cc ∧ RR b.2.2.2 a.2.2.2.2 M P ∧ YF mo b.2.2.2) ∨ (∃ a b, r = .inr a ∧ u = .inr b ∧ a.1 = b.1 ∧ a.2.1 = cc ∧ RR b.2 a.2.2.1 M P ∧ YF mo b.2)) := by
        refine wh_2 (b1 := fun (c : Int32 × Int32 × S2 × S2 × S2) => fX8_read_b56 c.2.2.1 c.2.2.2.1 c.2.2.2.2 sh p2 p3 (nI n) c.1 c.2.1) (b2 := fun (c : Int32 × Int32 × Int32 × S2) => fX9_read_b62 c.2.2.2 (nI k) p2 p3 (nI n) c.1 c.2.1 c.2.2.1)
          (fun i s t => s.2.2.1 = cc ∧ s.2.2.2.1 = rd ∧ RR t.2.2.2 s.2.2.2.2 M P ∧ YF mo t.2.2.2 ∧ ((s.1 = nI i ∧ s.2.1 = 0 ∧ t.1 = 0 ∧ t.2.1 = nI i ∧ t.2.2.1 = nI i ∧ (i = 0 ∨ ∃ x, p3 = nI x ∧ x + 2 * i ≤ 40)) ∨ (s.1 = t.2.1 ∧ s.2.1 = t.1 ∧ ¬ s.2.1 = 0)))
          (fun r u => (∃ a b, r = .inl a ∧ u = .inl b ∧ a.1 = b.2.1 ∧ a.2.1 = b.1 ∧ a.2.2.1 = cc ∧ RR b.2.2.2 a.2.2.2.2 M P ∧ YF mo b.2.2.2) ∨ (∃ a b, r = .inr a ∧ u = .inr b ∧ a.1 = b.1 ∧ a.2.1 = cc ∧ RR b.2 a.2.2.1 M P ∧ YF mo b.2)) n (fun i s t hi hI => ?_) (fun s t hI => ?_) 5000 0 _ _ (by omega) (by omega) ⟨rfl, rfl, Rx, Y0, Or.inl ⟨rfl, rfl, rfl, rfl, rfl, Or.inl rfl⟩⟩
        · obtain ⟨k1, k2, k3, k4, k5⟩ := hI
          rcases k5 with ⟨j1, j2, j3, j4, j5, j6⟩ | ⟨j1, j2, j3⟩
          · have hst : SH t.2.2.2 sh k := SH_fr hs (fun a b h1 h2 => k4.1 a b (by omega) (by omega))
            obtain ⟨ρ, xx, y1, y2, y3⟩ := rd_pos (lane := p2) (f := p3) (w := nI n) (x6 := nI i) hk (by omega) hst j6
            have L : ¬ nI n ≤ nI i := nI_ge hi (by omega)
            by_cases hr : ρ = 0
            · obtain ⟨h1, y, x0, rfl, hy, hy40, ey⟩ := y3 hr
              subst hr
              obtain ⟨b1, b2⟩ : sh 1 y = t.2.2.2 15 (40 * k + y) ∧ sh 1 (y + 1) = t.2.2.2 15 (40 * k + (y + 1)) := by
                rcases hst with ⟨a1, _⟩ | ⟨_, _, _, _, _, a6⟩
                · exact absurd (a1.symm.trans h1) (by decide)
                · exact ⟨a6 y (by omega), a6 (y + 1) (by omega)⟩
              have ei : ((40 : Int32) * nI k + nI x0) + (2 : Int32) * nI i = nI (40 * k + y) := by
                rw [show (40 : Int32) * nI k = nI (40 * k) from pk_mul 40 k, show (2 : Int32) * nI i = nI (2 * i) from pk_mul 2 i, nI_ad, nI_ad, show 40 * k + x0 + 2 * i = 40 * k + y by omega]
              have E1 : fX8_read_b56 s.2.2.1 s.2.2.2.1 s.2.2.2.2 sh p2 (nI x0) (nI n) s.1 s.2.1 = if blw (sh 1 y) P = true ∧ blw (sh 1 (y + 1)) M = true then some (.inl (nI (i + 1), 0, s.2.2.1, s.2.2.2.1, sE s.2.2.2.2 8 (sh 1 y).toNatClampNeg (sh 1 (y + 1)))) else some (.inr (.inr ((-20 : Int32) - nI i, s.2.2.1, s.2.2.2.1, s.2.2.2.2))) := by
                unfold fX8_read_b56
                rw [j1, if_neg L, j2, if_pos rfl, nm_u, y1, bd_s, if_pos rfl, ey, gd_n (by omega) (by decide), nm_u, nI_p1, gd_n (by omega) (by decide), nm_u, cl_n (i := y) (by omega), cl_n (i := y + 1) (by omega), pX2_hasParty k3.2.2.2.2.2.2.2, bd_s, pX2_hasMile k3.2.2.2.2.2.2.1, bd_s]
                cases hb1 : blw (sh 1 y) P with
                | false => rw [ia_1]; rfl
                | true =>
                  cases hb2 : blw (sh 1 (y + 1)) M with
                  | false => rw [ia_2]; rfl
                  | true =>
                    obtain ⟨p, ep, hp⟩ := blw_n (by omega) hb1
                    rw [ia_3]
                    simp only [it_t]
                    rw [ep, gd_n (by omega) (by decide), nm_u, nm_u, nI_p1]
              have E2 : fX9_read_b62 t.2.2.2 (nI k) p2 (nI x0) (nI n) t.1 t.2.1 t.2.2.1 = (if blw (sh 1 y) P = true ∧ blw (sh 1 (y + 1)) M = true then some (s.2.2.2.2 8 (sh 1 y).toNatClampNeg, sE t.2.2.2 1 (24 + 5 * (sh 1 y).toNatClampNeg + 4) (sh 1 (y + 1))) else some (-1, t.2.2.2)).bind fun v32 => if (0 : Int32) ≤ v32.1 then some (.inl (0, nI (i + 1), nI (i + 1), v32.2)) else (wh (fun (c : Int32 × S2) => fX9_read_b208 c.2 (nI i) c.1) 5000 ((0 : Int32), v32.2)).bind fun x41 => some (.inr (.inr ((-20 : Int32) - nI i, x41.2))) := by
                unfold fX9_read_b62 fX9_read_164
                rw [j5, if_neg L, j3, if_pos rfl, j4, y2, bd_s, if_pos rfl, nm_u, ei, gd_n (by omega) (by decide), nI_p1, gd_n (by omega) (by decide), cl_n (i := 40 * k + y) (by omega), cl_n (i := 40 * k + y + 1) (by omega), ← b1, show 40 * k + y + 1 = 40 * k + (y + 1) by omega, ← b2, r_stand k3, nI_p1]
                simp only [nm_u]
              by_cases hb : blw (sh 1 y) P = true ∧ blw (sh 1 (y + 1)) M = true
              · left
                rw [if_pos hb] at E1 E2
                obtain ⟨p, ep, hp⟩ := blw_n (by omega) hb.1
                obtain ⟨m, em, hm⟩ := blw_n (by omega) hb.2
                obtain ⟨f0, hf0, hf1⟩ := (k3.2.1.2.1 p hp).2.2.2.2
                rw [ep, em, cl_n (by omega)] at E1 E2
                rw [bd_s] at E2
                dsimp only at E2
                rw [hf0, if_pos (nI_pos' (by omega))] at E2
                obtain ⟨RP, FP⟩ := RR_party (k := 4) (v := nI m) k3 hp (by omega) (fun hh => by omega) (fun hh => by omega) (fun hh => by omega) (fun hh => by omega) (fun _ => ⟨m, rfl, hm⟩)
                refine ⟨_, _, E1, E2, k1, k2, RP, ⟨fun a b hab h16 => ?_, fun b hb => ?_⟩, Or.inl ⟨rfl, rfl, rfl, rfl, rfl, Or.inr ⟨x0, rfl, by omega⟩⟩⟩
                · exact (FP a b hab).trans (k4.1 a b hab h16)
                · exact (FP 16 b (by omega)).trans (k4.2 b hb)
              · right
                rw [if_neg hb] at E1 E2
                obtain ⟨xr, er, hxr⟩ := r_208 (s := t.2.2.2) (x7 := nI i)
                rw [bd_s, if_neg (show ¬ (0 : Int32) ≤ -1 by decide), er, bd_s] at E2
                refine ⟨_, _, E1, E2, Or.inr ⟨_, _, rfl, rfl, rfl, k1, ?_, ⟨fun a b hab h16 => ?_, fun b hb => ?_⟩⟩⟩
                · dsimp only
                  rw [k2]
                  refine RR_fr h (fun b => ?_) ?_ ?_
                  · rw [hxr]
                    by_cases hb : b < 59
                    · rw [if_pos ⟨rfl, hb⟩, k4.2 b hb]
                    · rw [if_neg (by omega), k4.1 1 b (by omega) (by omega)]
                  · rw [hxr, if_neg (by omega), k4.1 0 0 (by omega) (by omega)]
                  · rw [hxr, if_neg (by omega), k4.1 0 1 (by omega) (by omega)]
                · dsimp only
                  rw [hxr]
                  by_cases hb : a = 1 ∧ b < 59
                  · rw [if_pos hb, hb.1, k4.2 b hb.2]
                  · rw [if_neg hb, k4.1 a b hab h16]
                · dsimp only
                  rw [hxr, if_neg (by omega), k4.2 b hb]
            · left
              have E1 : fX8_read_b56 s.2.2.1 s.2.2.2.1 s.2.2.2.2 sh p2 p3 (nI n) s.1 s.2.1 = some (.inl (nI i, ρ, s.2.2.1, s.2.2.2.1, s.2.2.2.2)) := by
                unfold fX8_read_b56
                rw [j1, if_neg L, j2, if_pos rfl, nm_u, y1, bd_s, if_neg hr]
              have E2 : fX9_read_b62 t.2.2.2 (nI k) p2 p3 (nI n) t.1 t.2.1 t.2.2.1 = some (.inl (ρ, nI i, nI (i + 1), t.2.2.2)) := by
                unfold fX9_read_b62 fX9_read_164
                rw [j5, if_neg L, j3, if_pos rfl, j4, y2, bd_s, if_neg hr, nm_u, nI_p1]
              exact ⟨_, _, E1, E2, k1, k2, k3, k4, Or.inr ⟨rfl, rfl, hr⟩⟩
          · right
            have E1 : fX8_read_b56 s.2.2.1 s.2.2.2.1 s.2.2.2.2 sh p2 p3 (nI n) s.1 s.2.1 = some (.inr (.inl s)) := by
              unfold fX8_read_b56
              by_cases c1 : nI n ≤ s.1
              · rw [if_pos c1]
              · rw [if_neg c1, if_neg j3]
            have E2 : fX9_read_b62 t.2.2.2 (nI k) p2 p3 (nI n) t.1 t.2.1 t.2.2.1 = some (.inr (.inl t)) := by
              unfold fX9_read_b62
              by_cases c1 : nI n ≤ t.2.2.1
              · rw [if_pos c1]
              · rw [if_neg c1, if_neg (by rw [← j2]; exact j3)]
            exact ⟨_, _, E1, E2, Or.inl ⟨_, _, rfl, rfl, j1, j2, k1, k3, k4⟩⟩
        · obtain ⟨k1, k2, k3, k4, k5⟩ := hI
          rcases k5 with ⟨j1, j2, j3, j4, j5, j6⟩ | ⟨j1, j2, j3⟩
          · have E1 : fX8_read_b56 s.2.2.1 s.2.2.2.1 s.2.2.2.2 sh p2 p3 (nI n) s.1 s.2.1 = some (.inr (.inl s)) := by
              unfold fX8_read_b56
              rw [j1, if_pos (nI_le (Nat.le_refl n) (by omega)), ← j1]
            have E2 : fX9_read_b62 t.2.2.2 (nI k) p2 p3 (nI n) t.1 t.2.1 t.2.2.1 = some (.inr (.inl t)) := by
              unfold fX9_read_b62
              rw [if_pos (by rw [j5]; exact nI_le (Nat.le_refl n) (by omega))]
            exact ⟨_, _, E1, E2, Or.inl ⟨_, _, rfl, rfl, by rw [j1, j4], by rw [j2, j3], k1, k3, k4⟩⟩
          · have E1 : fX8_read_b56 s.2.2.1 s.2.2.2.1 s.2.2.2.2 sh p2 p3 (nI n) s.1 s.2.1 = some (.inr (.inl s)) := by
              unfold fX8_read_b56
              by_cases c1 : nI n ≤ s.1
              · rw [if_pos c1]
              · rw [if_neg c1, if_neg j3]
            have E2 : fX9_read_b62 t.2.2.2 (nI k) p2 p3 (nI n) t.1 t.2.1 t.2.2.1 = some (.inr (.inl t)) := by
              unfold fX9_read_b62
              by_cases c1 : nI n ≤ t.2.2.1
              · rw [if_pos c1]
              · rw [if_neg c1, if_neg (by rw [← j2]; exact j3)]
            exact ⟨_, _, E1, E2, Or.inl ⟨_, _, rfl, rfl, j1, j2, k1, k3, k4⟩⟩
      obtain ⟨r, u, w1, w2, hq⟩ := key
      rw [w1, bd_s, w2, bd_s]
      rcases hq with ⟨a, b, rfl, rfl, g1, g2, g3, g4, g5⟩ | ⟨a, b, rfl, rfl, g1, g2, g3, g4⟩
      · obtain ⟨d2, e3, hc2⟩ := pX2_copy (rd := a.2.2.2.1) (ro := a.2.2.2.2)
        show ∃ v cc' rd' tr' mo', fX8_read_161 a.2.2.1 a.2.2.2.1 a.2.2.2.2 sh a.1 a.2.1 = some (v, cc', rd', tr') ∧ fX9_read_250 b.2.2.2 b.1 b.2.1 = some (v, mo') ∧ RR mo' rd' M P ∧ XF mo mo' ∧ cc' 0 0 = mo' 0 17
        unfold fX8_read_161 fX9_read_250
        rw [e3, bd_s, nm_u, nm_u, g1]
        refine ⟨_, _, _, _, _, rfl, rfl, ?_, fun a' b' h1 h2 h3 => ?_, ?_⟩
        · refine RR_fr (mo := b.2.2.2) ⟨RA_cp g4.1 hM hP hc2, RG_cp g4.2.1 hM hP hc2, hM, hP, g4.2.2.2.2.1, g4.2.2.2.2.2.1, by rw [hc2.2.2.1]; exact g4.2.2.2.2.2.2.1, by rw [hc2.2.2.2.1]; exact g4.2.2.2.2.2.2.2⟩ (fun b => ?_) ?_ ?_
          · rw [sE_v, if_neg (by omega)]
          · rw [sE_v, if_neg (by omega)]
          · rw [sE_v, if_neg (by omega)]
        · rw [sE_v, if_neg (by omega), g5.1 a' b' h1 h2]
        · rw [sE_e, sE_e, g2]
      · exact ⟨_, _, _, _, _, rfl, by rw [g1]; rfl, g3, fun a' b' h1 h2 h3 => g4.1 a' b' h1 h2, by rw [g2, ht, g4.1 0 17 (by omega) (by omega)]⟩
