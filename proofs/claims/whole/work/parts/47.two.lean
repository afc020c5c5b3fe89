/-! PURE: two loops side by side -/
theorem wh_2 {σ ρ σ' ρ' : Type} {b1 : σ → Option (σ ⊕ ρ)} {b2 : σ' → Option (σ' ⊕ ρ')} (I : Nat → σ → σ' → Prop) (Q : ρ → ρ' → Prop) (N : Nat)
    (hs : ∀ i s t, i < N → I i s t → (∃ s' t', b1 s = some (.inl s') ∧ b2 t = some (.inl t') ∧ I (i + 1) s' t') ∨ ∃ r u, b1 s = some (.inr r) ∧ b2 t = some (.inr u) ∧ Q r u)
    (hx : ∀ s t, I N s t → ∃ r u, b1 s = some (.inr r) ∧ b2 t = some (.inr u) ∧ Q r u) :
    ∀ (n i : Nat) (s : σ) (t : σ'), i ≤ N → N < n + i → I i s t → ∃ r u, wh b1 n s = some r ∧ wh b2 n t = some u ∧ Q r u := by
  intro n
  induction n with
  | zero => intro i s t h1 h2 _; omega
  | succ n ih =>
    intro i s t h1 h2 h3
    rcases Nat.lt_or_ge i N with h | h
    · rcases hs i s t h h3 with ⟨s', t', e, e', hI⟩ | ⟨r, u, e, e', hQ⟩
      · obtain ⟨r, u, x1, x2, hQ⟩ := ih (i + 1) s' t' h (by omega) hI
        exact ⟨r, u, by unfold wh; rw [e]; exact x1, by unfold wh; rw [e']; exact x2, hQ⟩
      · exact ⟨r, u, by unfold wh; rw [e], by unfold wh; rw [e'], hQ⟩
    · have : i = N := by omega
      subst this
      obtain ⟨r, u, e, e', hQ⟩ := hx s t h3
      exact ⟨r, u, by unfold wh; rw [e], by unfold wh; rw [e'], hQ⟩
theorem sE_sE {σ : S2} {k i : Nat} {x y : Int32} : sE (sE σ k i x) k i y = sE σ k i y := by
  funext a b
  rw [sE_v, sE_v, sE_v]
  by_cases h : a = k ∧ b = i
  · rw [if_pos h, if_pos h]
  · rw [if_neg h, if_neg h, if_neg h]
theorem CP_s {d ro : S2} (h : CP d ro) : CP ro d := by
  obtain ⟨c1, c2, c3, c4, c5, c6⟩ := h
  exact ⟨fun j hj => ⟨(c1 j hj).1.symm, (c1 j hj).2.1.symm, (c1 j hj).2.2.symm⟩, fun p hp => ⟨(c2 p hp).1.symm, (c2 p hp).2.1.symm, (c2 p hp).2.2.1.symm, (c2 p hp).2.2.2.1.symm, (c2 p hp).2.2.2.2.symm⟩, c3.symm, c4.symm, c5.symm, c6.symm⟩
theorem CP_e {d ro : S2} {k i : Nat} {x : Int32} (h : CP d ro) : CP (sE d k i x) (sE ro k i x) := by
  obtain ⟨c1, c2, c3, c4, c5, c6⟩ := h
  have A : ∀ a b, d a b = ro a b → sE d k i x a b = sE ro k i x a b := fun a b e => by rw [sE_v, sE_v, e]
  exact ⟨fun j hj => ⟨A _ _ (c1 j hj).1, A _ _ (c1 j hj).2.1, A _ _ (c1 j hj).2.2⟩, fun p hp => ⟨A _ _ (c2 p hp).1, A _ _ (c2 p hp).2.1, A _ _ (c2 p hp).2.2.1, A _ _ (c2 p hp).2.2.2.1, A _ _ (c2 p hp).2.2.2.2⟩, A _ _ c3, A _ _ c4, A _ _ c5, A _ _ c6⟩
