/-! PURE: what changes the road -/
def RF (mo mo' : S2) : Prop := ∀ a b, (a ≠ 1 ∨ 46 ≤ b) → mo' a b = mo a b
theorem RF_r (mo : S2) : RF mo mo := fun _ _ _ => rfl
theorem ifc {p q : Prop} [Decidable p] [Decidable q] {v x y : Int32} (h : p ↔ q) (e : x = y) : (if p then v else x) = if q then v else y := by
  by_cases hp : p
  · rw [if_pos hp, if_pos (h.mp hp)]
  · rw [if_neg hp, if_neg (fun hq => hp (h.mpr hq)), e]
theorem RR_mile {mo rd : S2} {M P j k : Nat} {v : Int32} (h : RR mo rd M P) (hj : j < M) (hk : k ≤ 2) (h0 : k = 0 → win v 0 3 = true) (h1 : k = 1 → win v 0 3 = true) (h2 : k = 2 → win v 0 1 = true) : RR (sE mo 1 (3 * j + k) v) (sE rd (k + 1) j v) M P ∧ RF mo (sE mo 1 (3 * j + k) v) := by
  obtain ⟨⟨a1, a2, a3, a4⟩, ⟨g1, g2, g3, g4⟩, hM, hP, m0, m1, r0, r1⟩ := h
  refine ⟨⟨⟨fun i hi => ⟨?_, ?_, ?_⟩, fun p hp => ⟨?_, ?_, ?_, ?_, ?_⟩, ?_, ?_⟩, ⟨fun i hi => ⟨?_, ?_, ?_⟩, fun p hp => ?_, ?_, ?_⟩, hM, hP, ?_, ?_, ?_, ?_⟩, fun a b hab => ?_⟩
  · rw [sE_v, sE_v]; exact ifc (by omega) (a1 i hi).1
  · rw [sE_v, sE_v]; exact ifc (by omega) (a1 i hi).2.1
  · rw [sE_v, sE_v]; exact ifc (by omega) (a1 i hi).2.2
  · rw [sE_v, sE_v]; exact ifc (by omega) (a2 p hp).1
  · rw [sE_v, sE_v]; exact ifc (by omega) (a2 p hp).2.1
  · rw [sE_v, sE_v]; exact ifc (by omega) (a2 p hp).2.2.1
  · rw [sE_v, sE_v]; exact ifc (by omega) (a2 p hp).2.2.2.1
  · rw [sE_v, sE_v]; exact ifc (by omega) (a2 p hp).2.2.2.2
  · rw [sE_v, sE_v]; exact ifc (by omega) a3
  · rw [sE_v, sE_v]; exact ifc (by omega) a4
  · rw [sE_v]; split
    · exact h0 (by omega)
    · exact (g1 i hi).1
  · rw [sE_v]; split
    · exact h1 (by omega)
    · exact (g1 i hi).2.1
  · rw [sE_v]; split
    · exact h2 (by omega)
    · exact (g1 i hi).2.2
  · rw [sE_v, if_neg (by omega), sE_v, if_neg (by omega), sE_v, if_neg (by omega), sE_v, if_neg (by omega), sE_v, if_neg (by omega)]
    exact g2 p hp
  · rw [sE_v, if_neg (by omega)]; exact g3
  · rw [sE_v, if_neg (by omega)]; exact g4
  · rw [sE_v, if_neg (by omega)]; exact m0
  · rw [sE_v, if_neg (by omega)]; exact m1
  · rw [sE_v, if_neg (by omega)]; exact r0
  · rw [sE_v, if_neg (by omega)]; exact r1
  · rw [sE_v, if_neg (by omega)]
theorem RR_party {mo rd : S2} {M P p k : Nat} {v : Int32} (h : RR mo rd M P) (hp : p < P) (hk : k ≤ 4) (h0 : k = 0 → win v 0 3 = true) (h1 : k = 1 → win v 0 99 = true) (h2 : k = 2 → win v 1 20 = true) (h3 : k = 3 → win v 0 3 = true) (h4 : k = 4 → ∃ f, v = nI f ∧ f < M) : RR (sE mo 1 (24 + 5 * p + k) v) (sE rd (k + 4) p v) M P ∧ RF mo (sE mo 1 (24 + 5 * p + k) v) := by
  obtain ⟨⟨a1, a2, a3, a4⟩, ⟨g1, g2, g3, g4⟩, hM, hP, m0, m1, r0, r1⟩ := h
  refine ⟨⟨⟨fun i hi => ⟨?_, ?_, ?_⟩, fun q hq => ⟨?_, ?_, ?_, ?_, ?_⟩, ?_, ?_⟩, ⟨fun i hi => ?_, fun q hq => ⟨?_, ?_, ?_, ?_, ?_⟩, ?_, ?_⟩, hM, hP, ?_, ?_, ?_, ?_⟩, fun a b hab => ?_⟩
  · rw [sE_v, sE_v]; exact ifc (by omega) (a1 i hi).1
  · rw [sE_v, sE_v]; exact ifc (by omega) (a1 i hi).2.1
  · rw [sE_v, sE_v]; exact ifc (by omega) (a1 i hi).2.2
  · rw [sE_v, sE_v]; exact ifc (by omega) (a2 q hq).1
  · rw [sE_v, sE_v]; exact ifc (by omega) (a2 q hq).2.1
  · rw [sE_v, sE_v]; exact ifc (by omega) (a2 q hq).2.2.1
  · rw [sE_v, sE_v]; exact ifc (by omega) (a2 q hq).2.2.2.1
  · rw [sE_v, sE_v]; exact ifc (by omega) (a2 q hq).2.2.2.2
  · rw [sE_v, sE_v]; exact ifc (by omega) a3
  · rw [sE_v, sE_v]; exact ifc (by omega) a4
  · rw [sE_v, if_neg (by omega), sE_v, if_neg (by omega), sE_v, if_neg (by omega)]
    exact g1 i hi
  · rw [sE_v]; split
    · exact h0 (by omega)
    · exact (g2 q hq).1
  · rw [sE_v]; split
    · exact h1 (by omega)
    · exact (g2 q hq).2.1
  · rw [sE_v]; split
    · exact h2 (by omega)
    · exact (g2 q hq).2.2.1
  · rw [sE_v]; split
    · exact h3 (by omega)
    · exact (g2 q hq).2.2.2.1
  · rw [sE_v]; split
    · exact h4 (by omega)
    · exact (g2 q hq).2.2.2.2
  · rw [sE_v, if_neg (by omega)]; exact g3
  · rw [sE_v, if_neg (by omega)]; exact g4
  · rw [sE_v, if_neg (by omega)]; exact m0
  · rw [sE_v, if_neg (by omega)]; exact m1
  · rw [sE_v, if_neg (by omega)]; exact r0
  · rw [sE_v, if_neg (by omega)]; exact r1
  · rw [sE_v, if_neg (by omega)]
theorem RR_set {mo rd : S2} {M P k : Nat} {v : Int32} (h : RR mo rd M P) (hk : k = 2 ∨ k = 3) (h2 : k = 2 → win v 1 4 = true) (h3 : k = 3 → win v 0 99 = true) : RR (sE mo 1 (42 + k) v) (sE rd 0 k v) M P ∧ RF mo (sE mo 1 (42 + k) v) := by
  obtain ⟨⟨a1, a2, a3, a4⟩, ⟨g1, g2, g3, g4⟩, hM, hP, m0, m1, r0, r1⟩ := h
  refine ⟨⟨⟨fun i hi => ⟨?_, ?_, ?_⟩, fun q hq => ⟨?_, ?_, ?_, ?_, ?_⟩, ?_, ?_⟩, ⟨fun i hi => ?_, fun q hq => ?_, ?_, ?_⟩, hM, hP, ?_, ?_, ?_, ?_⟩, fun a b hab => ?_⟩
  · rw [sE_v, sE_v]; exact ifc (by omega) (a1 i hi).1
  · rw [sE_v, sE_v]; exact ifc (by omega) (a1 i hi).2.1
  · rw [sE_v, sE_v]; exact ifc (by omega) (a1 i hi).2.2
  · rw [sE_v, sE_v]; exact ifc (by omega) (a2 q hq).1
  · rw [sE_v, sE_v]; exact ifc (by omega) (a2 q hq).2.1
  · rw [sE_v, sE_v]; exact ifc (by omega) (a2 q hq).2.2.1
  · rw [sE_v, sE_v]; exact ifc (by omega) (a2 q hq).2.2.2.1
  · rw [sE_v, sE_v]; exact ifc (by omega) (a2 q hq).2.2.2.2
  · rw [sE_v, sE_v]; exact ifc (by omega) a3
  · rw [sE_v, sE_v]; exact ifc (by omega) a4
  · rw [sE_v, if_neg (by omega), sE_v, if_neg (by omega), sE_v, if_neg (by omega)]
    exact g1 i hi
  · rw [sE_v, if_neg (by omega), sE_v, if_neg (by omega), sE_v, if_neg (by omega), sE_v, if_neg (by omega), sE_v, if_neg (by omega)]
    exact g2 q hq
  · rw [sE_v]; split
    · exact h2 (by omega)
    · exact g3
  · rw [sE_v]; split
    · exact h3 (by omega)
    · exact g4
  · rw [sE_v, if_neg (by omega)]; exact m0
  · rw [sE_v, if_neg (by omega)]; exact m1
  · rw [sE_v, if_neg (by omega)]; exact r0
  · rw [sE_v, if_neg (by omega)]; exact r1
  · rw [sE_v, if_neg (by omega)]
theorem pX9_becomes {mo : S2} {i : Nat} {v : Int32} (hi : i < 177) : fX9_becomes mo (nI i) v = some (mo 1 i, sE mo 1 i v) := by
  unfold fX9_becomes
  rw [gd_n hi (by decide), nm_u, nm_u, cl_n (by omega)]
def okp (p2 p3 : Int32) : Bool := if p2 = 0 then win p3 0 3 else if p2 = 1 then win p3 0 3 else if p2 = 2 then win p3 0 1 else false
theorem pX9_pave_e {mo : S2} {p1 p2 p3 : Int32} : fX9_pave mo p1 p2 p3 = fX9_pave_50 mo p1 p2 p3 (bI (okp p2 p3)) := by
  unfold fX9_pave okp
  rw [w9 (lo := 0) (hi := 3) (by decide) (by decide), bd_s, pX9_isPart, bd_s]
  by_cases k0 : p2 = 0
  · rw [if_pos k0, if_pos k0]
  · rw [if_neg k0, if_neg k0]
    by_cases k1 : p2 = 1
    · rw [if_pos k1, if_pos k1]
    · rw [if_neg k1, if_neg k1]
      by_cases k2 : p2 = 2
      · rw [if_pos k2, if_pos k2]
        cases win p3 0 1 <;> rfl
      · rw [if_neg k2, if_neg k2]; rfl
theorem sim_pave {mo rd cc : S2} {M P : Nat} {p1 p2 p3 : Int32} (h : RR mo rd M P) : ∃ v rd' mo', fX8_pave cc rd p1 p2 p3 = some (v, rd') ∧ fX9_pave mo p1 p2 p3 = some (v, mo') ∧ RR mo' rd' M P ∧ RF mo mo' := by
  obtain ⟨⟨a1, _, _, _⟩, _, hM, hP, m0, m1, r0, r1⟩ := id h
  rw [pX9_pave_e]
  unfold fX8_pave fX9_pave_50
  rw [pX2_hasMile r0, bd_s, pX9_isMile m0 (by omega), bd_s, w8, bd_s, w8, bd_s]
  cases hb : blw p1 M with
  | false => exact ⟨_, _, _, rfl, rfl, h, RF_r mo⟩
  | true =>
    obtain ⟨j, rfl, hj⟩ := blw_n (by omega) hb
    simp only [it_t]
    cases hw : win p2 0 2 with
    | false =>
      have : okp p2 p3 = false := by
        unfold okp
        have n0 : ¬ p2 = 0 := fun e => by subst e; exact absurd hw (by decide)
        have n1 : ¬ p2 = 1 := fun e => by subst e; exact absurd hw (by decide)
        have n2 : ¬ p2 = 2 := fun e => by subst e; exact absurd hw (by decide)
        rw [if_neg n0, if_neg n1, if_neg n2]
      rw [this]
      exact ⟨_, _, _, rfl, rfl, h, RF_r mo⟩
    | true =>
      obtain ⟨k, rfl, hk⟩ := win_le (h := 2) (by decide) hw
      obtain ⟨c0, c1, c2⟩ := a1 j hj
      simp only [Nat.zero_add] at c0 c1 c2
      simp only [it_t]
      rw [gd_n (n := 3) (by omega) (by decide), m3_v j (by omega) k hk, pX9_becomes (by omega), bd_s]
      simp only [gd_n (show j < 8 by omega) (by decide), cl_n (show j < 2 ^ 31 by omega), nm_u]
      have hk' : k = 0 ∨ k = 1 ∨ k = 2 := by omega
      rcases hk' with rfl | rfl | rfl
      · show ∃ v rd' mo', (if bI (win p3 0 3) = 0 then _ else _) = _ ∧ (if bI (win p3 0 3) = 0 then _ else _) = _ ∧ _
        cases hv : win p3 0 3 with
        | false => exact ⟨_, _, _, rfl, rfl, h, RF_r mo⟩
        | true =>
          obtain ⟨x1, x2⟩ := RR_mile (k := 0) h hj (by omega) (fun _ => hv) (fun e => by omega) (fun e => by omega)
          exact ⟨_, _, _, rfl, by rw [it_t, ← c0]; rfl, x1, x2⟩
      · show ∃ v rd' mo', (if bI (win p3 0 3) = 0 then _ else _) = _ ∧ (if bI (win p3 0 3) = 0 then _ else _) = _ ∧ _
        cases hv : win p3 0 3 with
        | false => exact ⟨_, _, _, rfl, rfl, h, RF_r mo⟩
        | true =>
          obtain ⟨x1, x2⟩ := RR_mile (k := 1) h hj (by omega) (fun e => by omega) (fun _ => hv) (fun e => by omega)
          exact ⟨_, _, _, rfl, by rw [it_t, ← c1], x1, x2⟩
      · show ∃ v rd' mo', (if bI (win p3 0 1) = 0 then _ else _) = _ ∧ (if bI (win p3 0 1) = 0 then _ else _) = _ ∧ _
        cases hv : win p3 0 1 with
        | false => exact ⟨_, _, _, rfl, rfl, h, RF_r mo⟩
        | true =>
          obtain ⟨x1, x2⟩ := RR_mile (k := 2) h hj (by omega) (fun e => by omega) (fun e => by omega) (fun _ => hv)
          exact ⟨_, _, _, rfl, by rw [it_t, ← c2], x1, x2⟩
