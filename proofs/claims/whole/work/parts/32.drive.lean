/-! PURE: Drive's methods -/
theorem pX0_setOut {dr rd : S2} {p : Nat} {B : Nat → Nat} (hp : p < 4) (hB : ∀ m, m < 8 → dr 5 m = nI (B m) ∧ B m < 16) : ∃ d1, fX0_setOut dr rd (nI p) = some d1 ∧ (∀ a b, d1 a b = if a = 5 ∧ b < 8 then nI (B b % 2 ^ p) else if b = p ∧ a = 1 then -4 else if b = p ∧ a = 2 then -4 else if b = p ∧ a = 3 then 0 else if b = p ∧ a = 4 then rd 5 p else dr a b) := by
  unfold fX0_setOut
  have key : ∃ x, wh (fun (c : Int32 × S2) => fX0_setOut_b2 c.2 rd (nI p) c.1) 5000 ((0 : Int32), dr) = some x ∧ ∀ a b, x.2 a b = if a = 5 ∧ b < 8 then nI (B b % 2 ^ p) else dr a b := by
    refine wh_ex (body := fun (c : Int32 × S2) => fX0_setOut_b2 c.2 rd (nI p) c.1)
      (fun i c => c.1 = nI i ∧ ∀ a b, c.2 a b = if a = 5 ∧ b < i then nI (B b % 2 ^ p) else dr a b)
      (fun c => ∀ a b, c.2 a b = if a = 5 ∧ b < 8 then nI (B b % 2 ^ p) else dr a b) 8
      (fun i c hi hI => ?_) (fun c hI => ?_) 5000 0 (0, dr) (by decide) (by decide) ⟨rfl, fun a b => by simp⟩
    · obtain ⟨h1, h2⟩ := hI
      left
      refine ⟨(nI (i + 1), sE c.2 5 i (nI (B i % 2 ^ p))), ?_, rfl, fun a b => ?_⟩
      · unfold fX0_setOut_b2
        rw [h1, if_neg (show ¬ (8 : Int32) ≤ nI i from nI_ge (a := i) (b := 8) hi (by decide)), gd_n hi (by decide), cl_n (by omega), nm_u, nm_u, nI_p1, h2 5 i]
        have h3 := hB i hi
        rw [if_neg (by omega), h3.1, bit_and p hp _ h3.2]
      · simp only [sE_v, h2]
        by_cases h5 : a = 5
        · subst h5
          by_cases hb : b = i
          · subst hb; simp
          · have : (b < i + 1) ↔ b < i := by omega
            simp [hb, this]
        · simp [h5]
    · obtain ⟨h1, h2⟩ := hI
      refine ⟨c, ?_, h2⟩
      unfold fX0_setOut_b2
      rw [h1, if_pos (show (8 : Int32) ≤ nI 8 from nI_le (a := 8) (b := 8) (Nat.le_refl _) (by decide))]
      rw [← h1]
  obtain ⟨x, hx, hq⟩ := key
  rw [hx, bd_s, gd_n hp (by decide), cl_n (by omega)]
  refine ⟨_, rfl, fun a b => ?_⟩
  simp only [sE_v, hq]
  by_cases h5 : a = 5 ∧ b < 8
  · have : ¬ a = 1 ∧ ¬ a = 2 ∧ ¬ a = 3 ∧ ¬ a = 4 := by omega
    simp [h5, this]
  · by_cases h1 : a = 1
    · simp [h1]
    · by_cases h2 : a = 2
      · simp [h2]
      · by_cases h3 : a = 3
        · simp [h3]
        · by_cases h4 : a = 4
          · simp [h4]
          · simp [h1, h2, h3, h4]
/-- one mile of a party's run, as the class has it -/
theorem pX0_mile {d rd : S2} {p f m b D : Nat} (hp : p < 4) (hm : m < 8) (hfm : f ≤ m) (hD : d 0 1 = nI D) (hmD : m < D) (hD8 : D ≤ 8) (hb : d 5 m = nI b) (hb16 : b < 16) :
    fX0_runParty_b16 d rd (nI p) (nI f) (nI m) =
      if (nI (pc4 b) < rd 0 2 ∧ ¬ d 4 p < stn (rd 4 p) (rd 2 m) (rd 3 m) ∧ ¬ (rd 4 p = 3 ∧ f < m ∧ ¬ rd 1 m = rd 1 (m - 1))) then
        (if (d 3 p + (if rd 1 m = rd 7 p then hrn (rd 2 m) (rd 3 m) else 0)) < rd 6 p then
          some (.inl (nI (m + 1), if rd 1 m = rd 7 p then sE (sE (sE d 5 m (d 5 m ||| ((1 : Int32) <<< (nI p &&& 31)))) 4 p (d 4 p - stn (rd 4 p) (rd 2 m) (rd 3 m))) 3 p (d 3 p + hrn (rd 2 m) (rd 3 m)) else sE (sE d 5 m (d 5 m ||| ((1 : Int32) <<< (nI p &&& 31)))) 4 p (d 4 p - stn (rd 4 p) (rd 2 m) (rd 3 m))))
        else some (.inr (.inr (sE (if rd 1 m = rd 7 p then sE (sE (sE d 5 m (d 5 m ||| ((1 : Int32) <<< (nI p &&& 31)))) 4 p (d 4 p - stn (rd 4 p) (rd 2 m) (rd 3 m))) 3 p (d 3 p + hrn (rd 2 m) (rd 3 m)) else sE (sE d 5 m (d 5 m ||| ((1 : Int32) <<< (nI p &&& 31)))) 4 p (d 4 p - stn (rd 4 p) (rd 2 m) (rd 3 m))) 1 p (nI m)))))
      else some (.inr (.inr (sE d 2 p (nI m)))) := by
  have h185 : ∀ (d2 : S2), fX0_runParty_185 d2 rd (nI p) (nI f) (nI m) = if d2 3 p < rd 6 p then some (.inl (nI (m + 1), d2)) else some (.inr (.inr (sE d2 1 p (nI m)))) := by
    intro d2
    unfold fX0_runParty_185
    rw [gd_n hp (by decide), cl_n (by omega)]
    by_cases h : d2 3 p < rd 6 p
    · rw [if_pos h, if_pos h, nm_u, nI_p1]
    · rw [if_neg h, if_neg h, nm_u]
  have h121 : fX0_runParty_121 d rd (nI p) (nI m) = some (.inr (.inr (sE d 2 p (nI m)))) := by
    unfold fX0_runParty_121
    rw [gd_n hp (by decide), cl_n (by omega), nm_u]
  have h98 : ∀ (k0 k1 : Int32), fX0_runParty_98 d rd (nI p) (nI f) (nI m) (stn (rd 4 p) (rd 2 m) (rd 3 m)) k0 k1 =
      if (k0 = 0 ∧ ¬ d 4 p < stn (rd 4 p) (rd 2 m) (rd 3 m) ∧ k1 = 0) then
        (if (d 3 p + (if rd 1 m = rd 7 p then hrn (rd 2 m) (rd 3 m) else 0)) < rd 6 p then
          some (.inl (nI (m + 1), if rd 1 m = rd 7 p then sE (sE (sE d 5 m (d 5 m ||| ((1 : Int32) <<< (nI p &&& 31)))) 4 p (d 4 p - stn (rd 4 p) (rd 2 m) (rd 3 m))) 3 p (d 3 p + hrn (rd 2 m) (rd 3 m)) else sE (sE d 5 m (d 5 m ||| ((1 : Int32) <<< (nI p &&& 31)))) 4 p (d 4 p - stn (rd 4 p) (rd 2 m) (rd 3 m))))
        else some (.inr (.inr (sE (if rd 1 m = rd 7 p then sE (sE (sE d 5 m (d 5 m ||| ((1 : Int32) <<< (nI p &&& 31)))) 4 p (d 4 p - stn (rd 4 p) (rd 2 m) (rd 3 m))) 3 p (d 3 p + hrn (rd 2 m) (rd 3 m)) else sE (sE d 5 m (d 5 m ||| ((1 : Int32) <<< (nI p &&& 31)))) 4 p (d 4 p - stn (rd 4 p) (rd 2 m) (rd 3 m))) 1 p (nI m)))))
      else some (.inr (.inr (sE d 2 p (nI m)))) := by
    intro k0 k1
    unfold fX0_runParty_98
    rw [h121]
    by_cases hk0 : k0 = 0
    · by_cases hk1 : k1 = 0
      · rw [if_pos hk0, if_pos hk1, gd_n hp (by decide), cl_n (i := p) (by omega)]
        by_cases hw : stn (rd 4 p) (rd 2 m) (rd 3 m) ≤ d 4 p
        · rw [if_pos hw, if_pos ⟨hk0, Int32.not_lt.mpr hw, hk1⟩, gd_n hm (by decide), cl_n (i := m) (by omega), nm_u, nm_u, h185, pX2_hearingOf hm, bd_s, nm_u, h185]
          simp only [sE_v]
          by_cases hl : rd 1 m = rd 7 p
          · simp [hl]
          · simp [hl]
        · rw [if_neg hw, if_neg (fun z => hw (Int32.not_lt.mp z.2.1))]
      · rw [if_pos hk0, if_neg hk1, if_neg (fun z => hk1 z.2.2)]
    · rw [if_neg hk0, if_neg (fun z => hk0 z.1)]
  have h56 : ∀ (k0 : Int32), fX0_runParty_56 d rd (nI p) (nI f) (nI m) (stn (rd 4 p) (rd 2 m) (rd 3 m)) k0 = fX0_runParty_98 d rd (nI p) (nI f) (nI m) (stn (rd 4 p) (rd 2 m) (rd 3 m)) k0 (if (rd 4 p = 3 ∧ f < m ∧ ¬ rd 1 m = rd 1 (m - 1)) then 1 else 0) := by
    intro k0
    unfold fX0_runParty_56
    rw [gd_n hp (by decide), cl_n (i := p) (by omega)]
    by_cases h3 : rd 4 p = 3
    · rw [if_pos h3]
      by_cases hf : f < m
      · rw [if_neg (nI_ge hf (by omega)), gd_n hm (by decide)]
        have e1 : nI m - (1 : Int32) = nI (m - 1) := by
          obtain ⟨k, rfl⟩ : ∃ k, m = k + 1 := ⟨m - 1, by omega⟩
          exact nI_pred k
        rw [e1, gd_n (by omega) (by decide), cl_n (by omega), cl_n (by omega)]
        by_cases hl : rd 1 m = rd 1 (m - 1)
        · rw [if_pos hl, if_neg (fun z => z.2.2 hl)]
        · rw [if_neg hl, if_pos ⟨h3, hf, hl⟩]
      · rw [if_pos (nI_le (by omega) (by omega)), if_neg (fun z => hf z.2.1)]
    · rw [if_neg h3, if_neg (fun z => h3 z.1)]
  unfold fX0_runParty_b16
  rw [hD, if_neg (nI_ge hmD (by omega)), pX2_strainOf hp hm, bd_s, gd_n hm (by decide), cl_n (by omega), hb, bit_cnt b hb16, bd_s, h56, h56, h98, h98, hb]
  by_cases hr : nI (pc4 b) < rd 0 2
  · rw [if_pos hr]
    by_cases ho : (rd 4 p = 3 ∧ f < m ∧ ¬ rd 1 m = rd 1 (m - 1))
    · rw [if_pos ho, if_neg (fun z => absurd z.2.2 (by decide)), if_neg (fun z => z.2.2 ho)]
    · rw [if_neg ho]
      by_cases hw : d 4 p < stn (rd 4 p) (rd 2 m) (rd 3 m)
      · rw [if_neg (fun z => z.2.1 hw), if_neg (fun z => z.2.1 hw)]
      · have t1 : ((0 : Int32) = 0 ∧ ¬ d 4 p < stn (rd 4 p) (rd 2 m) (rd 3 m) ∧ (0 : Int32) = 0) := ⟨rfl, hw, rfl⟩
        have t2 : (nI (pc4 b) < rd 0 2 ∧ ¬ d 4 p < stn (rd 4 p) (rd 2 m) (rd 3 m) ∧ ¬ (rd 4 p = 3 ∧ f < m ∧ ¬ rd 1 m = rd 1 (m - 1))) := ⟨hr, hw, ho⟩
        rw [if_pos t1, if_pos t2]
  · rw [if_neg hr, if_neg (fun z => absurd z.1 (by decide)), if_neg (fun z => hr z.1)]
def rpPost (dr rd : S2) (p D : Nat) (B : Nat → Nat) (d' : S2) : Prop :=
  (∀ b, d' 0 b = dr 0 b) ∧ (∀ a q, 1 ≤ a → a ≤ 4 → q ≠ p → d' a q = dr a q) ∧
  d' 1 p = (tr rd p (fun j => pc4 (B j % 2 ^ p)) D).2.1 ∧ d' 2 p = (tr rd p (fun j => pc4 (B j % 2 ^ p)) D).2.2.1 ∧ d' 3 p = (tr rd p (fun j => pc4 (B j % 2 ^ p)) D).2.2.2.1 ∧ d' 4 p = (tr rd p (fun j => pc4 (B j % 2 ^ p)) D).2.2.2.2 ∧
  ∀ m, m < 8 → d' 5 m = nI (B m % 2 ^ p + if m < D ∧ rnb rd p (fun j => pc4 (B j % 2 ^ p)) m = true then 2 ^ p else 0)
theorem cab_iff {rd : S2} {p m c : Nat} {r : Bool} {v g h w : Int32} : cab rd p m c (r, v, g, h, w) = true ↔ (nI c < rd 0 2 ∧ ¬ w < stn (rd 4 p) (rd 2 m) (rd 3 m) ∧ ¬ (rd 4 p = 3 ∧ r = true ∧ ¬ rd 1 m = rd 1 (m - 1))) := by
  unfold cab
  simp only [Bool.and_eq_true, decide_eq_true_eq, Bool.not_eq_true', Bool.and_eq_false_iff, decide_eq_false_iff_not, Bool.not_eq_false', not_and, Classical.not_not]
  constructor
  · rintro ⟨h1, h2, h3⟩
    refine ⟨h1, h2, fun k1 k2 => ?_⟩
    rcases h3 with h3 | h3 | h3
    · exact absurd k1 h3
    · rw [h3] at k2; cases k2
    · exact h3
  · rintro ⟨h1, h2, h3⟩
    refine ⟨h1, h2, ?_⟩
    by_cases k1 : rd 4 p = 3
    · cases r with
      | false => exact Or.inr (Or.inl rfl)
      | true => exact Or.inr (Or.inr (h3 k1 rfl))
    · exact Or.inl k1
set_option maxHeartbeats 1000000 in
theorem pX0_runParty {dr rd : S2} {p f D : Nat} {B : Nat → Nat} (hp : p < 4) (hf : rd 8 p = nI f) (hf8 : f < 8) (hD : dr 0 1 = nI D) (hD8 : D ≤ 8) (hB : ∀ m, m < 8 → dr 5 m = nI (B m) ∧ B m < 16) : ∃ d', fX0_runParty dr rd (nI p) = some d' ∧ rpPost dr rd p D B d' := by
  obtain ⟨d1, hd1, hv1⟩ := pX0_setOut (rd := rd) hp hB
  have hpw : 0 < 2 ^ p := Nat.pow_pos (by decide)
  have hp16 := pw_le p hp
  have hbl : ∀ m, B m % 2 ^ p < 2 ^ p := fun m => Nat.mod_lt _ hpw
  generalize hcnt : (fun j => pc4 (B j % 2 ^ p)) = cnt
  have hcm : ∀ m, cnt m = pc4 (B m % 2 ^ p) := fun m => by rw [← hcnt]
  unfold fX0_runParty
  rw [hd1, bd_s, gd_n hp (by decide), cl_n (by omega), nm_u, hf]
  have hidle : ∀ m, m ≤ f → tr rd p cnt m = (false, -4, -4, 0, rd 5 p) := tr_idle hf (by omega)
  have key : ∃ x, wh (fun (c : Int32 × S2) => fX0_runParty_b16 c.2 rd (nI p) (nI f) c.1) 5000 (nI f, d1) = some x ∧ rpPost dr rd p D B (Sum.elim (fun c => c.2) (fun d => d) x) := by
    refine wh_ex (body := fun (c : Int32 × S2) => fX0_runParty_b16 c.2 rd (nI p) (nI f) c.1)
      (fun i c => c.1 = nI (f + i) ∧ tr rd p cnt (f + i) = (decide (0 < i), -4, -4, c.2 3 p, c.2 4 p) ∧ c.2 1 p = -4 ∧ c.2 2 p = -4 ∧ (∀ b, c.2 0 b = dr 0 b) ∧ (∀ a q, 1 ≤ a → a ≤ 4 → q ≠ p → c.2 a q = dr a q) ∧ (∀ m, m < 8 → c.2 5 m = nI (B m % 2 ^ p + if f ≤ m ∧ m < f + i then 2 ^ p else 0)) ∧ ∀ m, f ≤ m → m < f + i → rnb rd p cnt m = true)
      (fun x => rpPost dr rd p D B (Sum.elim (fun c => c.2) (fun d => d) x)) (D - f)
      (fun i c hi hI => ?_) (fun c hI => ?_) 5000 0 (nI f, d1) (Nat.zero_le _) (by omega) ?_
    · obtain ⟨h1, h2, h3, h4, h5, h6, h7, h8⟩ := hI
      have hm8 : f + i < 8 := by omega
      have hbm : c.2 5 (f + i) = nI (B (f + i) % 2 ^ p) := by
        rw [h7 _ hm8, if_neg (by omega), Nat.add_zero]
      have hact : acb rd p (f + i) (tr rd p cnt (f + i)) = true := by
        unfold acb
        rw [h2]
        by_cases h0 : 0 < i
        · simp [h0]
        · have : i = 0 := by omega
          subst this
          simp [hf]
      have hfm : (f < f + i) ↔ (decide (0 < i) = true) := by simp
      have hmile := pX0_mile (d := c.2) (rd := rd) (f := f) hp hm8 (by omega) (by rw [h5, hD]) (by omega : f + i < D) hD8 hbm (by have := hbl (f + i); omega)
      rw [h1, hmile]
      have hcab := cab_iff (rd := rd) (p := p) (m := f + i) (c := cnt (f + i)) (r := decide (0 < i)) (v := -4) (g := -4) (h := c.2 3 p) (w := c.2 4 p)
      rw [← h2] at hcab
      rw [hcm (f + i)] at hcab
      by_cases hcan : cab rd p (f + i) (cnt (f + i)) (tr rd p cnt (f + i)) = true
      · rw [hcm (f + i)] at hcan
        have hc' := hcab.mp hcan
        have hrun : rnb rd p cnt (f + i) = true := by
          unfold rnb
          rw [hact, hcm (f + i), hcan]
          rfl
        rw [if_pos (by rw [hfm]; exact hc'), hbm, bit_or p hp _ (hbl _)]
        have hst : tr rd p cnt (f + i + 1) = stp rd p (f + i) (cnt (f + i)) (tr rd p cnt (f + i)) := rfl
        have hh : hr1 rd p (f + i) (tr rd p cnt (f + i)) = c.2 3 p + (if rd 1 (f + i) = rd 7 p then hrn (rd 2 (f + i)) (rd 3 (f + i)) else 0) := by unfold hr1; rw [h2]
        have hw : wd1 rd p (f + i) (tr rd p cnt (f + i)) = c.2 4 p - stn (rd 4 p) (rd 2 (f + i)) (rd 3 (f + i)) := by unfold wd1; rw [h2]
        unfold stp at hst
        rw [if_pos hact, hcm (f + i), if_pos hcan, hh, hw, h2] at hst
        dsimp only at hst
        generalize hd3 : (if rd 1 (f + i) = rd 7 p then sE (sE (sE c.2 5 (f + i) (nI (B (f + i) % 2 ^ p + 2 ^ p))) 4 p (c.2 4 p - stn (rd 4 p) (rd 2 (f + i)) (rd 3 (f + i)))) 3 p (c.2 3 p + hrn (rd 2 (f + i)) (rd 3 (f + i))) else sE (sE c.2 5 (f + i) (nI (B (f + i) % 2 ^ p + 2 ^ p))) 4 p (c.2 4 p - stn (rd 4 p) (rd 2 (f + i)) (rd 3 (f + i)))) = d3
        have hd3v : ∀ a b, d3 a b = if a = 3 ∧ b = p then c.2 3 p + (if rd 1 (f + i) = rd 7 p then hrn (rd 2 (f + i)) (rd 3 (f + i)) else 0) else if a = 4 ∧ b = p then c.2 4 p - stn (rd 4 p) (rd 2 (f + i)) (rd 3 (f + i)) else if a = 5 ∧ b = f + i then nI (B (f + i) % 2 ^ p + 2 ^ p) else c.2 a b := by
          intro a b
          rw [← hd3]
          by_cases hl : rd 1 (f + i) = rd 7 p
          · rw [if_pos hl, if_pos hl]
            simp only [sE_v]
          · rw [if_neg hl, if_neg hl]
            simp only [sE_v]
            by_cases h33 : a = 3 ∧ b = p
            · obtain ⟨rfl, rfl⟩ := h33
              simp
            · rw [if_neg h33]
        have hrow : ∀ m, m < 8 → d3 5 m = nI (B m % 2 ^ p + if f ≤ m ∧ m < f + (i + 1) then 2 ^ p else 0) := by
          intro m hm
          rw [hd3v]
          by_cases hmi : m = f + i
          · subst hmi
            rw [if_neg (by omega), if_neg (by omega), if_pos ⟨rfl, rfl⟩, if_pos (by omega)]
          · rw [if_neg (by omega), if_neg (by omega), if_neg (fun z => hmi z.2), h7 m hm]
            have : (f ≤ m ∧ m < f + i) ↔ (f ≤ m ∧ m < f + (i + 1)) := by omega
            simp only [this]
        have hall : ∀ m, f ≤ m → m < f + (i + 1) → rnb rd p cnt m = true := by
          intro m k1 k2
          rcases Nat.lt_or_ge m (f + i) with k3 | k3
          · exact h8 m k1 k3
          · have : m = f + i := by omega
            rw [this]; exact hrun
        by_cases hneed : (c.2 3 p + (if rd 1 (f + i) = rd 7 p then hrn (rd 2 (f + i)) (rd 3 (f + i)) else 0)) < rd 6 p
        · left
          rw [if_pos hneed] at hst ⊢
          refine ⟨_, rfl, by rw [Nat.add_assoc], ?_, ?_, ?_, ?_, ?_, hrow, hall⟩
          · show tr rd p cnt (f + i + 1) = _
            rw [hst]
            dsimp only
            have e3 : d3 3 p = c.2 3 p + (if rd 1 (f + i) = rd 7 p then hrn (rd 2 (f + i)) (rd 3 (f + i)) else 0) := by rw [hd3v]; simp
            have e4 : d3 4 p = c.2 4 p - stn (rd 4 p) (rd 2 (f + i)) (rd 3 (f + i)) := by rw [hd3v]; simp
            rw [e3, e4]
            simp
          · show d3 1 p = -4
            rw [hd3v, if_neg (by omega), if_neg (by omega), if_neg (by omega)]; exact h3
          · show d3 2 p = -4
            rw [hd3v, if_neg (by omega), if_neg (by omega), if_neg (by omega)]; exact h4
          · intro b
            show d3 0 b = _
            rw [hd3v, if_neg (by omega), if_neg (by omega), if_neg (by omega)]; exact h5 b
          · intro a q k1 k2 k3
            show d3 a q = _
            rw [hd3v, if_neg (fun z => k3 z.2), if_neg (fun z => k3 z.2), if_neg (by omega)]; exact h6 a q k1 k2 k3
        · right
          rw [if_neg hneed] at hst ⊢
          refine ⟨_, rfl, ?_⟩
          have hdone : ∀ m, f + i + 1 ≤ m → m < 8 → rnb rd p cnt m = false := fun m k1 k2 => rn_done hf (by omega) (by rw [hst]) k1 (by omega)
          have hfin : tr rd p cnt D = (false, nI (f + i), -4, c.2 3 p + (if rd 1 (f + i) = rd 7 p then hrn (rd 2 (f + i)) (rd 3 (f + i)) else 0), c.2 4 p - stn (rd 4 p) (rd 2 (f + i)) (rd 3 (f + i))) := by
            obtain ⟨j, hj⟩ : ∃ j, D = f + i + 1 + j := ⟨D - (f + i + 1), by omega⟩
            rw [hj, tr_done hf (by omega) (by rw [hst]) j (by omega), hst]
          unfold rpPost
          rw [hcnt, hfin]
          refine ⟨fun b => ?_, fun a q k1 k2 k3 => ?_, ?_, ?_, ?_, ?_, fun m hm => ?_⟩ <;> simp only [Sum.elim_inr, sE_v]
          · rw [if_neg (by omega), hd3v, if_neg (by omega), if_neg (by omega), if_neg (by omega)]; exact h5 b
          · rw [if_neg (fun z => k3 z.2), hd3v, if_neg (fun z => k3 z.2), if_neg (fun z => k3 z.2), if_neg (by omega)]; exact h6 a q k1 k2 k3
          · simp
          · rw [if_neg (by omega), hd3v, if_neg (by omega), if_neg (by omega), if_neg (by omega)]; exact h4
          · rw [if_neg (by omega), hd3v, if_pos ⟨rfl, rfl⟩]
          · rw [if_neg (by omega), hd3v, if_neg (by omega), if_pos ⟨rfl, rfl⟩]
          · rw [if_neg (by omega), hrow m hm]
            by_cases k1 : f ≤ m ∧ m < f + (i + 1)
            · rw [if_pos k1, if_pos ⟨by omega, hall m k1.1 k1.2⟩]
            · rw [if_neg k1]
              rcases Nat.lt_or_ge m f with k2 | k2
              · rw [if_neg (by rw [rn_idle hf (by omega) k2]; simp)]
              · rw [if_neg (by rw [hdone m (by omega) hm]; simp)]
      · right
        rw [hcm (f + i)] at hcan
        have hc' : ¬ _ := fun z => hcan (hcab.mpr z)
        rw [if_neg (by rw [hfm]; exact hc')]
        refine ⟨_, rfl, ?_⟩
        have hst : tr rd p cnt (f + i + 1) = stp rd p (f + i) (cnt (f + i)) (tr rd p cnt (f + i)) := rfl
        unfold stp at hst
        rw [if_pos hact, hcm (f + i), if_neg hcan, h2] at hst
        dsimp only at hst
        have hrun : rnb rd p cnt (f + i) = false := by
          unfold rnb
          rw [hact, hcm (f + i)]
          simp [hcan]
        have hdone : ∀ m, f + i + 1 ≤ m → m < 8 → rnb rd p cnt m = false := fun m k1 k2 => rn_done hf (by omega) (by rw [hst]) k1 (by omega)
        have hfin : tr rd p cnt D = (false, -4, nI (f + i), c.2 3 p, c.2 4 p) := by
          obtain ⟨j, hj⟩ : ∃ j, D = f + i + 1 + j := ⟨D - (f + i + 1), by omega⟩
          rw [hj, tr_done hf (by omega) (by rw [hst]) j (by omega), hst]
        unfold rpPost
        rw [hcnt, hfin]
        refine ⟨fun b => ?_, fun a q k1 k2 k3 => ?_, ?_, ?_, ?_, ?_, fun m hm => ?_⟩ <;> simp only [Sum.elim_inr, sE_v]
        · rw [if_neg (by omega)]; exact h5 b
        · rw [if_neg (fun z => k3 z.2)]; exact h6 a q k1 k2 k3
        · rw [if_neg (by omega)]; exact h3
        · simp
        · rw [if_neg (by omega)]
        · rw [if_neg (by omega)]
        · rw [if_neg (by omega), h7 m hm]
          by_cases k1 : f ≤ m ∧ m < f + i
          · rw [if_pos k1, if_pos ⟨by omega, h8 m k1.1 k1.2⟩]
          · rw [if_neg k1]
            rcases Nat.lt_or_ge m f with k2 | k2
            · rw [if_neg (by rw [rn_idle hf (by omega) k2]; simp)]
            · rcases Nat.lt_or_ge (f + i) m with k3 | k3
              · rw [if_neg (by rw [hdone m (by omega) hm]; simp)]
              · have : m = f + i := by omega
                rw [this, if_neg (by rw [hrun]; simp)]
    · obtain ⟨h1, h2, h3, h4, h5, h6, h7, h8⟩ := hI
      refine ⟨.inl c, ?_, ?_⟩
      · unfold fX0_runParty_b16
        rw [h5 1, hD, h1, if_pos (nI_le (by omega) (by omega)), ← h1]
      · have hfin : tr rd p cnt D = (decide (0 < D - f), -4, -4, c.2 3 p, c.2 4 p) := by
          rcases Nat.lt_or_ge f D with k | k
          · rw [← h2]
            congr 1
            omega
          · rw [hidle D k]
            have e : D - f = 0 := by omega
            rw [e, Nat.add_zero, hidle f (Nat.le_refl _)] at h2
            rw [e]
            exact h2
        unfold rpPost
        rw [hcnt, hfin]
        refine ⟨h5, h6, h3, h4, rfl, rfl, fun m hm => ?_⟩
        show c.2 5 m = _
        rw [h7 m hm]
        by_cases k1 : f ≤ m ∧ m < f + (D - f)
        · rw [if_pos k1, if_pos ⟨by omega, h8 m k1.1 k1.2⟩]
        · rw [if_neg k1]
          rcases Nat.lt_or_ge m f with k2 | k2
          · rw [if_neg (by rw [rn_idle hf (by omega) k2]; simp)]
          · rw [if_neg (by omega)]
    · refine ⟨by rw [Nat.add_zero], ?_, ?_, ?_, fun b => ?_, fun a q k1 k2 k3 => ?_, fun m hm => ?_, fun m k1 k2 => by omega⟩
      · rw [Nat.add_zero, hidle f (Nat.le_refl _)]
        dsimp only
        rw [hv1 3 p, hv1 4 p]
        simp
      · dsimp only; rw [hv1]; simp
      · dsimp only; rw [hv1]; simp
      · dsimp only; rw [hv1]; simp
      · dsimp only; rw [hv1]; simp [k3]; omega
      · show d1 5 m = _
        rw [hv1, if_pos ⟨rfl, hm⟩, if_neg (by omega), Nat.add_zero]
  obtain ⟨x, hx, hq⟩ := key
  refine ⟨Sum.elim (fun c => c.2) (fun d => d) x, ?_, hq⟩
  rw [hx, bd_s]
  cases x <;> rfl
theorem tr_congr {rd : S2} {p : Nat} {c1 c2 : Nat → Nat} : ∀ D, (∀ j, j < D → c1 j = c2 j) → tr rd p c1 D = tr rd p c2 D := by
  intro D
  induction D with
  | zero => intro _; rfl
  | succ D ih =>
    intro h
    show stp rd p D (c1 D) (tr rd p c1 D) = stp rd p D (c2 D) (tr rd p c2 D)
    rw [ih (fun j hj => h j (by omega)), h D (by omega)]
theorem rnb_congr {rd : S2} {p : Nat} {c1 c2 : Nat → Nat} {D m : Nat} (h : ∀ j, j < D → c1 j = c2 j) (hm : m < D) : rnb rd p c1 m = rnb rd p c2 m := by
  unfold rnb
  rw [tr_congr m (fun j hj => h j (by omega)), h m hm]
theorem pX0_begin {dr rd : S2} {M : Nat} (h0 : rd 0 0 = nI M) (hM : M ≤ 8) : ∃ d1, fX0_begin dr rd = some d1 ∧ d1 0 0 = rd 0 1 ∧ d1 0 1 = nI (dvn rd M) ∧ (∀ a q, 1 ≤ a → a ≤ 4 → d1 a q = dr a q) ∧ ∀ m, m < 8 → d1 5 m = 0 := by
  unfold fX0_begin
  rw [nm_u, pX2_drivenMiles h0 hM, bd_s, nm_u]
  have key : ∃ x, wh (fun (c : Int32 × S2) => fX0_begin_b18 c.2 rd c.1) 5000 ((0 : Int32), sE (sE dr 0 0 (rd 0 1)) 0 1 (nI (dvn rd M))) = some x ∧ ∀ a b, x.2 a b = if a = 5 ∧ b < 8 then 0 else (sE (sE dr 0 0 (rd 0 1)) 0 1 (nI (dvn rd M))) a b := by
    refine wh_ex (body := fun (c : Int32 × S2) => fX0_begin_b18 c.2 rd c.1)
      (fun i c => c.1 = nI i ∧ ∀ a b, c.2 a b = if a = 5 ∧ b < i then 0 else (sE (sE dr 0 0 (rd 0 1)) 0 1 (nI (dvn rd M))) a b)
      (fun c => ∀ a b, c.2 a b = if a = 5 ∧ b < 8 then 0 else (sE (sE dr 0 0 (rd 0 1)) 0 1 (nI (dvn rd M))) a b) 8
      (fun i c hi hI => ?_) (fun c hI => ?_) 5000 0 _ (by decide) (by decide) ⟨rfl, fun a b => by simp⟩
    · obtain ⟨h1, h2⟩ := hI
      left
      refine ⟨(nI (i + 1), sE c.2 5 i 0), ?_, rfl, fun a b => ?_⟩
      · unfold fX0_begin_b18
        rw [h1, if_neg (show ¬ (8 : Int32) ≤ nI i from nI_ge (a := i) (b := 8) hi (by decide)), gd_n hi (by decide), cl_n (by omega), nm_u, nm_u, nI_p1]
      · dsimp only
        rw [sE_v, h2]
        by_cases h5 : a = 5
        · subst h5
          by_cases hb : b = i
          · subst hb; simp
          · have : (b < i + 1) ↔ b < i := by omega
            simp [hb, this]
        · simp [h5]
    · obtain ⟨h1, h2⟩ := hI
      refine ⟨c, ?_, h2⟩
      unfold fX0_begin_b18
      rw [h1, if_pos (show (8 : Int32) ≤ nI 8 from nI_le (a := 8) (b := 8) (Nat.le_refl _) (by decide)), ← h1]
  obtain ⟨x, hx, hq⟩ := key
  rw [hx, bd_s]
  refine ⟨_, rfl, ?_, ?_, fun a q k1 k2 => ?_, fun m hm => ?_⟩
  · rw [hq]; simp [sE_v]
  · rw [hq]; simp [sE_v]
  · rw [hq, if_neg (by omega), sE_v, if_neg (by omega), sE_v, if_neg (by omega)]
  · rw [hq, if_pos ⟨rfl, hm⟩]
/-- what a drive leaves: D miles driven -/
def drPost (rd : S2) (P D : Nat) (d : S2) : Prop := d 0 0 = nI P ∧ d 0 1 = nI D ∧ (∀ p, p < P → d 1 p = (TT rd p D).2.1 ∧ d 2 p = (TT rd p D).2.2.1 ∧ d 3 p = (TT rd p D).2.2.2.1 ∧ d 4 p = (TT rd p D).2.2.2.2) ∧ ∀ m, m < 8 → d 5 m = nI (if m < D then btf rd P m else 0)
theorem pX0_run {dr rd : S2} {M P : Nat} (h0 : rd 0 0 = nI M) (hM : M ≤ 8) (h1 : rd 0 1 = nI P) (hP : P ≤ 4) (hst : ∀ p, p < P → ∃ f, rd 8 p = nI f ∧ f < 8) : ∃ d', fX0_run dr rd = some d' ∧ drPost rd P (dvn rd M) d' := by
  have hD := dvn_le rd M
  generalize hDe : dvn rd M = D at hD
  unfold fX0_run
  obtain ⟨d1, e1, b1, b2, b3, b4⟩ := pX0_begin (dr := dr) h0 hM
  rw [hDe] at b2
  rw [e1, bd_s]
  have key : ∃ x, wh (fun (c : Int32 × S2) => fX0_run_b7 c.2 rd c.1) 5000 ((0 : Int32), d1) = some x ∧ drPost rd P D x.2 := by
    refine wh_ex (body := fun (c : Int32 × S2) => fX0_run_b7 c.2 rd c.1)
      (fun i c => c.1 = nI i ∧ c.2 0 0 = nI P ∧ c.2 0 1 = nI D ∧ (∀ p, p < i → c.2 1 p = (TT rd p D).2.1 ∧ c.2 2 p = (TT rd p D).2.2.1 ∧ c.2 3 p = (TT rd p D).2.2.2.1 ∧ c.2 4 p = (TT rd p D).2.2.2.2) ∧ ∀ m, m < 8 → c.2 5 m = nI (if m < D then btf rd i m else 0))
      (fun c => drPost rd P D c.2) P
      (fun i c hi hI => ?_) (fun c hI => ?_) 5000 0 _ (Nat.zero_le _) (by omega) ⟨rfl, by dsimp only; rw [b1, h1], b2, fun p hp => absurd hp (Nat.not_lt_zero p), fun m hm => by dsimp only; rw [b4 m hm]; unfold btf; split <;> rfl⟩
    · obtain ⟨k1, k2, k3, k4, k5⟩ := hI
      obtain ⟨f, hf, hf8⟩ := hst i hi
      have hlt := fun m => btf_lt rd i m
      have hp16 := pw_le i (by omega)
      obtain ⟨d', e', q1, q2, q3, q4, q5, q6, q7⟩ := pX0_runParty (dr := c.2) (rd := rd) (p := i) (f := f) (D := D) (B := fun m => if m < D then btf rd i m else 0) (by omega) hf hf8 k3 (by omega) (fun m hm => ⟨k5 m hm, by have := hlt m; split <;> omega⟩)
      have hmod : ∀ m, (if m < D then btf rd i m else 0) % 2 ^ i = if m < D then btf rd i m else 0 := fun m => Nat.mod_eq_of_lt (by have := hlt m; split <;> omega)
      have hcg : ∀ j, j < D → (fun j => pc4 ((if j < D then btf rd i j else 0) % 2 ^ i)) j = cnf rd i j := by
        intro j hj
        dsimp only
        rw [hmod, if_pos hj]
        rfl
      have htr : tr rd i (fun j => pc4 ((if j < D then btf rd i j else 0) % 2 ^ i)) D = TT rd i D := tr_congr D hcg
      left
      refine ⟨(nI (i + 1), d'), ?_, rfl, ?_, ?_, fun p hp => ?_, fun m hm => ?_⟩
      · unfold fX0_run_b7
        rw [k1, k2, if_neg (nI_ge hi (by omega)), e', bd_s, nm_u, nI_p1]
      · dsimp only; rw [q1, k2]
      · dsimp only; rw [q1, k3]
      · dsimp only
        rcases Nat.lt_or_ge p i with hlt2 | hge
        · rw [q2 1 p (by decide) (by decide) (by omega), q2 2 p (by decide) (by decide) (by omega), q2 3 p (by decide) (by decide) (by omega), q2 4 p (by decide) (by decide) (by omega)]
          exact k4 p hlt2
        · have : p = i := by omega
          subst this
          rw [htr] at q3 q4 q5 q6
          exact ⟨q3, q4, q5, q6⟩
      · dsimp only
        rw [q7 m hm, hmod, btf_s]
        by_cases hmD : m < D
        · rw [if_pos hmD, if_pos hmD, rnb_congr hcg hmD]
          by_cases hr : rnb rd i (cnf rd i) m = true
          · rw [if_pos ⟨hmD, hr⟩, if_pos hr]
          · rw [if_neg (fun z => hr z.2), if_neg hr]
        · rw [if_neg hmD, if_neg (fun z => hmD z.1), if_neg hmD]
    · obtain ⟨k1, k2, k3, k4, k5⟩ := hI
      refine ⟨c, ?_, k2, k3, k4, k5⟩
      unfold fX0_run_b7
      rw [k1, k2, if_pos (nI_le (Nat.le_refl _) (by omega)), ← k1]
  obtain ⟨x, hx, hq⟩ := key
  rw [hx, bd_s]
  exact ⟨_, rfl, hq⟩
