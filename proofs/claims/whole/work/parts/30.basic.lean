/-! PURE: numbers, rows, loops -/
theorem gd_t {α : Type} {b : Bool} {k : Option α} (h : b = true) : gd b k = k := by unfold gd; rw [if_pos h]
theorem ixb_n {i n : Nat} (h : i < n) (hn : n < 2 ^ 31) : ixb (nI i) n = true := decide_eq_true (p := ¬ (nI i < 0 ∨ n ≤ (nI i).toNatClampNeg)) (vp_in_nI h hn)
theorem gd_n {α : Type} {i n : Nat} {k : Option α} (h : i < n) (hn : n < 2 ^ 31) : gd (ixb (nI i) n) k = k := gd_t (ixb_n h hn)
theorem cl_n {i : Nat} (h : i < 2 ^ 31) : Int32.toNatClampNeg (nI i) = i := nI_clamp h
theorem bd_s {α β : Type} {a : α} {f : α → Option β} : (some a).bind f = f a := rfl
theorem nm_u {α β : Type} {a : α} {f : α → β} : nm a f = f a := rfl
theorem nI_p1 (a : Nat) : nI a + (1 : Int32) = nI (a + 1) := nI_1 a
theorem sE_s {σ : S2} {k i : Nat} {x : Int32} : sE σ k i x k = upd (σ k) i x := by simp [sE]
theorem sE_n {σ : S2} {k j i : Nat} {x : Int32} (h : j ≠ k) : sE σ k i x j = σ j := by simp [sE, h]
theorem sE_e {σ : S2} {k i : Nat} {x : Int32} : sE σ k i x k i = x := by simp [sE, upd]
theorem sE_o {σ : S2} {k i j : Nat} {x : Int32} (h : j ≠ i) : sE σ k i x k j = σ k j := by simp [sE, upd, h]
theorem sE_v {σ : S2} {k i : Nat} {x : Int32} (a b : Nat) : sE σ k i x a b = if a = k ∧ b = i then x else σ a b := by
  unfold sE upd
  by_cases h : a = k
  · subst h
    by_cases h2 : b = i
    · subst h2; simp
    · simp [h2]
  · simp [h]
theorem sR_v {σ : S2} {k : Nat} {f : Nat → Int32} (a b : Nat) : sR σ k f a b = if a = k then f b else σ a b := by
  unfold sR
  by_cases h : a = k <;> simp [h]
theorem wh_ex {σ ρ : Type} {body : σ → Option (σ ⊕ ρ)} (I : Nat → σ → Prop) (Q : ρ → Prop) (N : Nat)
    (hs : ∀ i s, i < N → I i s → (∃ s', body s = some (.inl s') ∧ I (i + 1) s') ∨ ∃ r, body s = some (.inr r) ∧ Q r)
    (hx : ∀ s, I N s → ∃ r, body s = some (.inr r) ∧ Q r) :
    ∀ (n i : Nat) (s : σ), i ≤ N → N < n + i → I i s → ∃ r, wh body n s = some r ∧ Q r := by
  intro n
  induction n with
  | zero => intro i s h1 h2 _; omega
  | succ n ih =>
    intro i s h1 h2 h3
    rcases Nat.lt_or_ge i N with h | h
    · rcases hs i s h h3 with ⟨s', e, hI⟩ | ⟨r, e, hQ⟩
      · obtain ⟨r, e2, hQ⟩ := ih (i + 1) s' h (by omega) hI
        exact ⟨r, by unfold wh; rw [e]; exact e2, hQ⟩
      · exact ⟨r, by unfold wh; rw [e], hQ⟩
    · have : i = N := by omega
      subst this
      obtain ⟨r, e, hQ⟩ := hx s h3
      exact ⟨r, by unfold wh; rw [e], hQ⟩
theorem wh_f {σ ρ : Type} {body : σ → Option (σ ⊕ ρ)} (F : Nat → σ) (r : ρ) (N : Nat) (hs : ∀ i, i < N → body (F i) = some (.inl (F (i + 1)))) (hx : body (F N) = some (.inr r)) {n : Nat} (hn : N < n) : wh body n (F 0) = some r := by
  obtain ⟨r', h1, h2⟩ := wh_ex (body := body) (fun i s => s = F i) (fun z => z = r) N (fun i s hi he => Or.inl ⟨_, by rw [he]; exact hs i hi, rfl⟩) (fun s he => ⟨_, by rw [he]; exact hx, rfl⟩) n 0 (F 0) (Nat.zero_le _) (by omega) rfl
  rw [h1, h2]
/-! bits of the four parties -/
def pc4 (b : Nat) : Nat := b % 2 + b / 2 % 2 + b / 4 % 2 + b / 8 % 2
theorem bit_or : ∀ p, p < 4 → ∀ b, b < 2 ^ p → nI b ||| ((1 : Int32) <<< (nI p &&& 31)) = nI (b + 2 ^ p) := by decide
theorem bit_and : ∀ p, p < 4 → ∀ b, b < 16 → nI b &&& (((1 : Int32) <<< (nI p &&& 31)) - (1 : Int32)) = nI (b % 2 ^ p) := by decide
theorem bit_cnt : ∀ b, b < 16 → fJ6_bitCount_0f7a4 (nI b) = some (nI (pc4 b)) := by decide
theorem pc4_le : ∀ b, b < 16 → pc4 b ≤ 4 := by decide
theorem pc4_add : ∀ p, p < 4 → ∀ b, b < 2 ^ p → pc4 (b + 2 ^ p) = pc4 b + 1 := by decide
theorem pw_le : ∀ p, p < 4 → 2 ^ p + 2 ^ p ≤ 16 := by decide
