/-! PURE: what a drive is, in the words of the road's own rows (row 0: miles, parties, places, snow; 1 land 2 hill 3 mud 4 kind 5 wind 6 need 7 law 8 stone) -/
abbrev T5 : Type := Bool × Int32 × Int32 × Int32 × Int32
def mnt (h u : Int32) : Int32 := ((2 : Int32) + ((2 : Int32) * h)) + ((3 : Int32) * u)
def hrn (h u : Int32) : Int32 := if h = 0 then (if u = 0 then mnt h u / 2 else mnt h u) else mnt h u
def stn (k h u : Int32) : Int32 := if k = 1 then (mnt h u + h) / 2 else if k = 2 then 2 * (mnt h u + h) else mnt h u + h
def bg (rd : S2) : Nat → Int32
  | 0 => 0
  | k + 1 => bg rd k + mnt (rd 2 k) (rd 3 k)
def dvn (rd : S2) : Nat → Nat
  | 0 => 0
  | M + 1 => if dvn rd M = M ∧ ¬ rd 0 3 ≤ bg rd M then M + 1 else dvn rd M
theorem dvn_le (rd : S2) : ∀ M, dvn rd M ≤ M := by
  intro M
  induction M with
  | zero => exact Nat.le_refl 0
  | succ M ih =>
    unfold dvn
    split <;> omega
theorem dvn_lo (rd : S2) : ∀ M k, k < dvn rd M → ¬ rd 0 3 ≤ bg rd k := by
  intro M
  induction M with
  | zero => intro k h; exact absurd h (Nat.not_lt_zero k)
  | succ M ih =>
    intro k h
    unfold dvn at h
    split at h
    · rename_i hc
      rcases Nat.lt_or_ge k M with h1 | h1
      · exact ih k (by omega)
      · have : k = M := by omega
        subst this
        exact hc.2
    · exact ih k h
theorem dvn_hi (rd : S2) : ∀ M, dvn rd M = M ∨ rd 0 3 ≤ bg rd (dvn rd M) := by
  intro M
  induction M with
  | zero => exact Or.inl rfl
  | succ M ih =>
    unfold dvn
    split
    · exact Or.inl rfl
    · rename_i hc
      rcases ih with h | h
      · by_cases h2 : rd 0 3 ≤ bg rd M
        · right
          rw [h]
          exact h2
        · exact absurd ⟨h, h2⟩ hc
      · exact Or.inr h
def acb (rd : S2) (p m : Nat) (x : T5) : Bool := decide (rd 8 p = nI m) || x.1
def cab (rd : S2) (p m c : Nat) (x : T5) : Bool := decide (nI c < rd 0 2) && (!decide (x.2.2.2.2 < stn (rd 4 p) (rd 2 m) (rd 3 m)) && !(decide (rd 4 p = 3) && (x.1 && !decide (rd 1 m = rd 1 (m - 1)))))
def hr1 (rd : S2) (p m : Nat) (x : T5) : Int32 := x.2.2.2.1 + (if rd 1 m = rd 7 p then hrn (rd 2 m) (rd 3 m) else 0)
def wd1 (rd : S2) (p m : Nat) (x : T5) : Int32 := x.2.2.2.2 - stn (rd 4 p) (rd 2 m) (rd 3 m)
def stp (rd : S2) (p m c : Nat) (x : T5) : T5 :=
  if acb rd p m x = true then
    if cab rd p m c x = true then
      if hr1 rd p m x < rd 6 p then (true, -4, x.2.2.1, hr1 rd p m x, wd1 rd p m x)
      else (false, nI m, x.2.2.1, hr1 rd p m x, wd1 rd p m x)
    else (false, x.2.1, nI m, x.2.2.2.1, x.2.2.2.2)
  else x
def tr (rd : S2) (p : Nat) (cnt : Nat → Nat) : Nat → T5
  | 0 => (false, -4, -4, 0, rd 5 p)
  | m + 1 => stp rd p m (cnt m) (tr rd p cnt m)
def rnb (rd : S2) (p : Nat) (cnt : Nat → Nat) (m : Nat) : Bool := acb rd p m (tr rd p cnt m) && cab rd p m (cnt m) (tr rd p cnt m)
def btf (rd : S2) : Nat → Nat → Nat
  | 0 => fun _ => 0
  | p + 1 => fun m => btf rd p m + if rnb rd p (fun j => pc4 (btf rd p j)) m = true then 2 ^ p else 0
def cnf (rd : S2) (p : Nat) : Nat → Nat := fun j => pc4 (btf rd p j)
/-- the state of a party ahead of mile m -/
def TT (rd : S2) (p m : Nat) : T5 := tr rd p (cnf rd p) m
theorem btf_s (rd : S2) (p m : Nat) : btf rd (p + 1) m = btf rd p m + if rnb rd p (cnf rd p) m = true then 2 ^ p else 0 := rfl
theorem btf_lt (rd : S2) : ∀ p m, btf rd p m < 2 ^ p := by
  intro p
  induction p with
  | zero => intro m; exact Nat.one_pos
  | succ p ih =>
    intro m
    rw [btf_s, Nat.pow_succ]
    have := ih m
    split <;> omega
theorem tr_idle {rd : S2} {p f : Nat} {cnt : Nat → Nat} (hf : rd 8 p = nI f) (h31 : f < 2 ^ 31) : ∀ m, m ≤ f → tr rd p cnt m = (false, -4, -4, 0, rd 5 p) := by
  intro m
  induction m with
  | zero => intro _; rfl
  | succ m ih =>
    intro h
    unfold tr
    rw [ih (by omega)]
    unfold stp acb
    have hne : ¬ rd 8 p = nI m := by
      rw [hf]
      intro e
      have := (nI_eq h31 (by omega)).mp e
      omega
    simp [hne]
theorem rn_idle {rd : S2} {p f : Nat} {cnt : Nat → Nat} (hf : rd 8 p = nI f) (h31 : f < 2 ^ 31) {m : Nat} (h : m < f) : rnb rd p cnt m = false := by
  unfold rnb
  rw [tr_idle hf h31 m (by omega)]
  unfold acb
  have hne : ¬ rd 8 p = nI m := by
    rw [hf]
    intro e
    have := (nI_eq h31 (by omega)).mp e
    omega
  simp [hne]
theorem tr_done {rd : S2} {p f k : Nat} {cnt : Nat → Nat} (hf : rd 8 p = nI f) (hk : f < k) (hr : (tr rd p cnt k).1 = false) : ∀ j, k + j < 2 ^ 31 → tr rd p cnt (k + j) = tr rd p cnt k := by
  intro j
  induction j with
  | zero => intro _; rfl
  | succ j ih =>
    intro h
    show stp rd p (k + j) (cnt (k + j)) (tr rd p cnt (k + j)) = _
    rw [ih (by omega)]
    unfold stp acb
    have hne : ¬ rd 8 p = nI (k + j) := by
      rw [hf]
      intro e
      have := (nI_eq (by omega) (by omega)).mp e
      omega
    simp [hne, hr]
theorem rn_done {rd : S2} {p f k : Nat} {cnt : Nat → Nat} (hf : rd 8 p = nI f) (hk : f < k) (hr : (tr rd p cnt k).1 = false) {m : Nat} (h : k ≤ m) (hm : m < 2 ^ 31) : rnb rd p cnt m = false := by
  obtain ⟨j, rfl⟩ : ∃ j, m = k + j := ⟨m - k, by omega⟩
  unfold rnb
  rw [tr_done hf hk hr j hm]
  unfold acb
  have hne : ¬ rd 8 p = nI (k + j) := by
    rw [hf]
    intro e
    have := (nI_eq (by omega) (by omega)).mp e
    omega
  simp [hne, hr]
/-! PURE: the road's own methods -/
theorem pX2_minutesOf {rd : S2} {m : Nat} (hm : m < 8) : fX2_minutesOf rd (nI m) = some (mnt (rd 2 m) (rd 3 m)) := by
  unfold fX2_minutesOf
  rw [gd_n hm (by decide), cl_n (by omega)]
  rfl
theorem pX2_hearingOf {rd : S2} {m : Nat} (hm : m < 8) : fX2_hearingOf rd (nI m) = some (hrn (rd 2 m) (rd 3 m)) := by
  unfold fX2_hearingOf fX2_hearingOf_23 hrn
  rw [gd_n hm (by decide), cl_n (by omega), pX2_minutesOf hm]
  by_cases h1 : rd 2 m = 0
  · by_cases h2 : rd 3 m = 0
    · simp [h1, h2]
    · simp [h1, h2]
  · simp [h1]
theorem pX2_strainOf {rd : S2} {p m : Nat} (hp : p < 4) (hm : m < 8) : fX2_strainOf rd (nI p) (nI m) = some (stn (rd 4 p) (rd 2 m) (rd 3 m)) := by
  unfold fX2_strainOf stn
  rw [pX2_minutesOf hm, bd_s, gd_n hm (by decide), cl_n (i := m) (by omega), nm_u, gd_n hp (by decide), cl_n (i := p) (by omega), nm_u]
  by_cases h1 : rd 4 p = 1
  · simp [h1]
  · by_cases h2 : rd 4 p = 2
    · simp [h2]
    · simp [h1, h2]
theorem pX2_drivenMiles {rd : S2} {M : Nat} (h0 : rd 0 0 = nI M) (hM : M ≤ 8) : fX2_drivenMiles rd = some (nI (dvn rd M)) := by
  unfold fX2_drivenMiles
  have hle := dvn_le rd M
  have hw : wh (fun (c : Int32 × Int32) => fX2_drivenMiles_b4 rd c.1 c.2) 5000 ((0 : Int32), (0 : Int32)) = some (bg rd (dvn rd M), nI (dvn rd M)) := by
    refine wh_f (fun i => (bg rd i, nI i)) (bg rd (dvn rd M), nI (dvn rd M)) (dvn rd M) (fun i hi => ?_) ?_ (by omega)
    · unfold fX2_drivenMiles_b4
      dsimp only
      rw [h0, if_neg (nI_ge (by omega) (by omega)), if_neg (dvn_lo rd M i hi), pX2_minutesOf (by omega), bd_s, nm_u, nm_u, nI_p1]
      rfl
    · unfold fX2_drivenMiles_b4
      dsimp only
      rw [h0]
      rcases dvn_hi rd M with h | h
      · rw [if_pos (by rw [h]; exact nI_le (Nat.le_refl _) (by omega))]
      · by_cases h2 : nI M ≤ nI (dvn rd M)
        · rw [if_pos h2]
        · rw [if_neg h2, if_pos h]
  rw [hw, bd_s]
