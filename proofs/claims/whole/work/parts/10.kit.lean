/-! states, guards, loops: words of our own -/
abbrev S2 : Type := Nat → Nat → Int32
abbrev S6 : Type := Nat → Int64
def sE (σ : S2) (k i : Nat) (x : Int32) : S2 := fun j => if j = k then upd (σ k) i x else σ j
def sR (σ : S2) (k : Nat) (f : Nat → Int32) : S2 := fun j => if j = k then f else σ j
def ixb (i : Int32) (n : Nat) : Bool := decide (¬ (i < 0 ∨ n ≤ i.toNatClampNeg))
theorem ixb_in {i : Int32} {n : Nat} (h : ixb i n = true) : vp_in i n := of_decide_eq_true (p := ¬ (i < 0 ∨ n ≤ i.toNatClampNeg)) h
def bzb (x : Int32) : Bool := decide (x = 0) || decide (x = 1)
theorem bzb_nar {x : Int32} (h : bzb x = true) : narrow .boolean (.int x) = .int x := by
  unfold bzb at h
  simp only [Bool.or_eq_true, decide_eq_true_eq] at h
  rcases h with h | h <;> rw [h] <;> rfl
def nzb (x : Int32) : Bool := decide (¬ x = 0)
theorem nzb_ne {x : Int32} (h : nzb x = true) : ¬ x = 0 := of_decide_eq_true h
def nzl (x : Int64) : Bool := decide (¬ x = 0)
theorem nzl_ne {x : Int64} (h : nzl x = true) : ¬ x = 0 := of_decide_eq_true h
def gd {α : Type} (b : Bool) (k : Option α) : Option α := if b = true then k else none
theorem gd_some {α : Type} {b : Bool} {k : Option α} {y : α} (h : gd b k = some y) : b = true ∧ k = some y := by
  unfold gd at h
  by_cases hb : b = true
  · rw [if_pos hb] at h; exact ⟨hb, h⟩
  · rw [if_neg hb] at h; cases h
theorem so_eq {α : Type} {a b : α} (h : some a = some b) : b = a := (Option.some.inj h).symm
def nm {α β : Type} (x : α) (k : α → β) : β := k x
theorem nm_ex {α β : Type} {x : α} {k : α → β} {r : β} (h : nm x k = r) : ∃ z, z = x ∧ k z = r := ⟨x, rfl, h⟩
theorem bd_some {α β : Type} {x : Option α} {k : α → Option β} {r : β} (h : x.bind k = some r) : ∃ v, x = some v ∧ k v = some r := by
  cases x with
  | none => cases h
  | some v => exact ⟨v, rfl, h⟩
def wh {σ ρ : Type} (body : σ → Option (σ ⊕ ρ)) : Nat → σ → Option ρ
  | 0, _ => none
  | n + 1, s => match body s with
    | none => none
    | some (.inl s') => wh body n s'
    | some (.inr r) => some r
theorem wh_step {σ ρ : Type} {body : σ → Option (σ ⊕ ρ)} {n : Nat} {s : σ} {r : ρ} (h : wh body (n + 1) s = some r) : ∃ v, body s = some v ∧ (∀ s', v = .inl s' → wh body n s' = some r) ∧ ∀ r', v = .inr r' → r' = r := by
  unfold wh at h
  cases hb : body s with
  | none => rw [hb] at h; cases h
  | some v =>
    rw [hb] at h
    refine ⟨v, rfl, ?_, ?_⟩
    · intro s' e
      subst e
      exact h
    · intro r' e
      subst e
      cases h
      rfl
theorem wh_0 {σ ρ : Type} {body : σ → Option (σ ⊕ ρ)} {s : σ} {r : ρ} (h : wh body 0 s = some r) : False := by cases h
/-! the classes' worlds: t the array classes (int, byte, boolean, Image, Sheet), a the addresses, the state -/
abbrev TYS (t : Nat → ClassId) : List (ClassId × FieldType) := [(t 0, .int), (t 1, .byte), (t 2, .boolean), (t 3, .object "CoachCourt$Image"), (t 4, .object "CoachCourt$Sheet")]
def wDrive (t : Nat → ClassId) (a : Nat → Nat) (σ : S2) : va_W := [(a 0, .inr (0, [.ref (a 1), .ref (a 2), .ref (a 3), .ref (a 4), .ref (a 5), .int (σ 0 0), .int (σ 0 1)])), (a 1, .inl (t 0, 4, .inl (σ 1))), (a 2, .inl (t 0, 4, .inl (σ 2))), (a 3, .inl (t 0, 4, .inl (σ 3))), (a 4, .inl (t 0, 4, .inl (σ 4))), (a 5, .inl (t 0, 8, .inl (σ 5)))]
def wImage (_ : Nat → ClassId) (a : Nat → Nat) (xr xs : Nat) (σ : S2) : va_W := [(a 0, .inr (1, [.ref xr, .ref xs, .int (σ 0 0)]))]
def wRoad (t : Nat → ClassId) (a : Nat → Nat) (σ : S2) : va_W := [(a 0, .inr (2, [.ref (a 1), .ref (a 2), .ref (a 3), .ref (a 4), .ref (a 5), .ref (a 6), .ref (a 7), .ref (a 8), .int (σ 0 0), .int (σ 0 1), .int (σ 0 2), .int (σ 0 3)])), (a 1, .inl (t 0, 8, .inl (σ 1))), (a 2, .inl (t 0, 8, .inl (σ 2))), (a 3, .inl (t 0, 8, .inl (σ 3))), (a 4, .inl (t 0, 4, .inl (σ 4))), (a 5, .inl (t 0, 4, .inl (σ 5))), (a 6, .inl (t 0, 4, .inl (σ 6))), (a 7, .inl (t 0, 4, .inl (σ 7))), (a 8, .inl (t 0, 4, .inl (σ 8)))]
def wSeeker (t : Nat → ClassId) (a : Nat → Nat) (xt xd : Nat) (σ : S2) : va_W := [(a 0, .inr (3, [.ref xt, .ref xd, .ref (a 1), .ref (a 2), .int (σ 0 0)])), (a 1, .inl (t 0, 4, .inl (σ 1))), (a 2, .inl (t 0, 5, .inl (σ 2)))]
def wSheet (t : Nat → ClassId) (a : Nat → Nat) (σ : S2) : va_W := [(a 0, .inr (4, [.ref (a 1), .int (σ 0 0), .int (σ 0 1), .int (σ 0 2)])), (a 1, .inl (t 0, 40, .inl (σ 1)))]
def wSight (t : Nat → ClassId) (a : Nat → Nat) (σ : S2) : va_W := [(a 0, .inr (5, [.ref (a 1), .ref (a 2), .int (σ 0 0)])), (a 1, .inl (t 0, 6, .inl (σ 1))), (a 2, .inl (t 0, 6, .inl (σ 2)))]
def wTape (t : Nat → ClassId) (a : Nat → Nat) (σ : S2) : va_W := [(a 0, .inr (6, [.ref (a 1), .int (σ 0 0), .int (σ 0 1), .int (σ 0 2), .int (σ 0 3), .int (σ 0 4), .int (σ 0 5)])), (a 1, .inl (t 1, 160, .inl (σ 1)))]
def wTeller (_ : Nat → ClassId) (a : Nat → Nat) (xt : Nat) (σ : S2) : va_W := [(a 0, .inr (7, [.ref xt, .int (σ 0 0), .int (σ 0 1)]))]
def wCC (t : Nat → ClassId) (a : Nat → Nat) (x0 x1 x2 x3 x4 x5 x6 x7 x8 : Nat) (σ : S2) : va_W := [(a 0, .inr (8, [.ref x0, .ref x1, .ref x2, .ref x3, .ref x4, .ref x5, .ref x6, .ref x7, .ref x8, .ref (a 1), .int (σ 0 0)])), (a 1, .inl (t 0, 9, .inl (σ 1)))]
def wIA (t : Nat → ClassId) (a : Nat → Nat) (f : Nat → Option Nat) : va_W := [(a 0, .inl (t 3, 2, .inr (.inr (.inr (.inr f)))))]
def wHA (t : Nat → ClassId) (a : Nat → Nat) (f : Nat → Option Nat) : va_W := [(a 0, .inl (t 4, 4, .inr (.inr (.inr (.inr f)))))]
def wModel (t : Nat → ClassId) (a : Nat → Nat) (σ : S2) (lam : S6) : va_W := [(a 0, .inr (9, [.ref (a 1), .ref (a 2), .ref (a 3), .int (σ 0 0), .int (σ 0 1), .ref (a 4), .int (σ 0 2), .int (σ 0 3), .int (σ 0 4), .int (σ 0 5), .int (σ 0 6), .ref (a 5), .int (σ 0 7), .int (σ 0 8), .int (σ 0 9), .int (σ 0 10), .int (σ 0 11), .int (σ 0 12), .int (σ 0 13), .ref (a 6), .ref (a 7), .ref (a 8), .ref (a 9), .ref (a 10), .ref (a 11), .int (σ 0 14), .int (σ 0 15), .int (σ 0 16), .long (lam 0), .long (lam 1), .long (lam 2), .ref (a 12), .ref (a 13), .ref (a 14), .ref (a 15), .int (σ 0 17), .ref (a 16)])), (a 1, .inl (t 0, 177, .inl (σ 1))), (a 2, .inl (t 0, 59, .inl (σ 2))), (a 3, .inl (t 2, 2, .inl (σ 3))), (a 4, .inl (t 0, 59, .inl (σ 4))), (a 5, .inl (t 0, 160, .inl (σ 5))), (a 6, .inl (t 0, 4, .inl (σ 6))), (a 7, .inl (t 0, 4, .inl (σ 7))), (a 8, .inl (t 0, 4, .inl (σ 8))), (a 9, .inl (t 0, 4, .inl (σ 9))), (a 10, .inl (t 2, 4, .inl (σ 10))), (a 11, .inl (t 0, 8, .inl (σ 11))), (a 12, .inl (t 0, 36, .inl (σ 12))), (a 13, .inl (t 0, 4, .inl (σ 13))), (a 14, .inl (t 0, 4, .inl (σ 14))), (a 15, .inl (t 0, 160, .inl (σ 15))), (a 16, .inl (t 0, 59, .inl (σ 16)))]
/-! links across the nest, static tables, texts: what every contract of ours takes along -/
def nkF : List (String × Nat × String × String × String × String) := [("CoachCourt", 84, "CoachCourt$Tape", "length", "I", "CoachCourt"), ("CoachCourt$Teller", 40, "CoachCourt$Tape", "length", "I", "CoachCourt"), ("CoachCourt$Teller", 77, "CoachCourt$Tape", "from", "I", "CoachCourt"), ("CoachCourt$Teller", 57, "CoachCourt$Tape", "kind", "I", "CoachCourt"), ("CoachCourt$Teller", 48, "CoachCourt$Tape", "found", "I", "CoachCourt"), ("CoachCourt", 92, "CoachCourt$Tape", "found", "I", "CoachCourt"), ("CoachCourt$Teller", 51, "CoachCourt$Tape", "foundAt", "I", "CoachCourt"), ("CoachCourt$Drive", 71, "CoachCourt$Road", "land", "[I", "CoachCourt"), ("CoachCourt$Teller", 117, "CoachCourt$Road", "land", "[I", "CoachCourt"), ("CoachCourt", 168, "CoachCourt$Road", "land", "[I", "CoachCourt"), ("CoachCourt$Teller", 128, "CoachCourt$Road", "hill", "[I", "CoachCourt"), ("CoachCourt$Teller", 131, "CoachCourt$Road", "mud", "[I", "CoachCourt"), ("CoachCourt", 305, "CoachCourt$Road", "mud", "[I", "CoachCourt"), ("CoachCourt$Drive", 68, "CoachCourt$Road", "kind", "[I", "CoachCourt"), ("CoachCourt$Teller", 136, "CoachCourt$Road", "kind", "[I", "CoachCourt"), ("CoachCourt$Drive", 83, "CoachCourt$Road", "wind", "[I", "CoachCourt"), ("CoachCourt", 207, "CoachCourt$Road", "wind", "[I", "CoachCourt"), ("CoachCourt$Drive", 80, "CoachCourt$Road", "need", "[I", "CoachCourt"), ("CoachCourt$Drive", 74, "CoachCourt$Road", "law", "[I", "CoachCourt"), ("CoachCourt", 242, "CoachCourt$Road", "law", "[I", "CoachCourt"), ("CoachCourt$Drive", 52, "CoachCourt$Road", "stone", "[I", "CoachCourt"), ("CoachCourt$Seeker", 58, "CoachCourt$Road", "stone", "[I", "CoachCourt"), ("CoachCourt", 158, "CoachCourt$Road", "stone", "[I", "CoachCourt"), ("CoachCourt$Seeker", 55, "CoachCourt$Road", "miles", "I", "CoachCourt"), ("CoachCourt", 106, "CoachCourt$Road", "miles", "I", "CoachCourt"), ("CoachCourt$Teller", 114, "CoachCourt$Road", "miles", "I", "CoachCourt"), ("CoachCourt$Drive", 39, "CoachCourt$Road", "parties", "I", "CoachCourt"), ("CoachCourt", 109, "CoachCourt$Road", "parties", "I", "CoachCourt"), ("CoachCourt$Teller", 133, "CoachCourt$Road", "parties", "I", "CoachCourt"), ("CoachCourt$Drive", 65, "CoachCourt$Road", "places", "I", "CoachCourt"), ("CoachCourt", 112, "CoachCourt$Road", "places", "I", "CoachCourt"), ("CoachCourt$Teller", 148, "CoachCourt$Road", "places", "I", "CoachCourt"), ("CoachCourt", 115, "CoachCourt$Road", "snowfall", "I", "CoachCourt"), ("CoachCourt$Teller", 151, "CoachCourt$Road", "snowfall", "I", "CoachCourt"), ("CoachCourt$Sightings", 28, "CoachCourt$Drive", "verdict", "[I", "CoachCourt"), ("CoachCourt", 302, "CoachCourt$Drive", "verdict", "[I", "CoachCourt"), ("CoachCourt", 177, "CoachCourt$Drive", "runners", "[I", "CoachCourt"), ("CoachCourt", 195, "CoachCourt$Seeker", "stones", "[I", "CoachCourt"), ("CoachCourt", 198, "CoachCourt$Seeker", "most", "I", "CoachCourt"), ("CoachCourt", 99, "CoachCourt$Sightings", "many", "I", "CoachCourt"), ("CoachCourt", 262, "CoachCourt$Image", "road", "LCoachCourt$Road;", "CoachCourt"), ("CoachCourt", 263, "CoachCourt$Image", "seen", "LCoachCourt$Sightings;", "CoachCourt"), ("CoachCourt", 102, "CoachCourt$Image", "there", "Z", "CoachCourt"), ("CoachCourt", 277, "CoachCourt$Sheet", "cells", "[I", "CoachCourt"), ("CoachCourt", 295, "CoachCourt$Sheet", "there", "Z", "CoachCourt"), ("CoachCourt", 271, "CoachCourt$Sheet", "lane", "I", "CoachCourt"), ("CoachCourt", 296, "CoachCourt$Sheet", "size", "I", "CoachCourt"), ("CoachCourt$Teller", 121, "CoachCourt", "MILE_HIGH", "[I", "CoachCourt"), ("CoachCourt$Teller", 142, "CoachCourt", "PARTY_LOW", "[I", "CoachCourt"), ("CoachCourt$Teller", 145, "CoachCourt", "PARTY_HIGH", "[I", "CoachCourt")]
def nkM : List (String × Nat × MethodName × String) := [("CoachCourt", 9, ⟨"CoachCourt$Tape", "<init>", "()V"⟩, "CoachCourt"), ("CoachCourt", 27, ⟨"CoachCourt$Road", "<init>", "()V"⟩, "CoachCourt"), ("CoachCourt", 37, ⟨"CoachCourt$Drive", "<init>", "()V"⟩, "CoachCourt"), ("CoachCourt", 53, ⟨"CoachCourt$Sightings", "<init>", "()V"⟩, "CoachCourt"), ("CoachCourt", 64, ⟨"CoachCourt$Image", "<init>", "()V"⟩, "CoachCourt"), ("CoachCourt$Image", 9, ⟨"CoachCourt$Road", "<init>", "()V"⟩, "CoachCourt"), ("CoachCourt$Image", 18, ⟨"CoachCourt$Sightings", "<init>", "()V"⟩, "CoachCourt"), ("CoachCourt", 71, ⟨"CoachCourt$Sheet", "<init>", "()V"⟩, "CoachCourt"), ("CoachCourt$Teller", 110, ⟨"CoachCourt", "within", "(III)Z"⟩, "CoachCourt")]
def NK (U : State) : Prop := (∀ q ∈ nkF, va_Nw (.fieldLinkNest q.1 q.2.1 q.2.2.1 q.2.2.2.1 q.2.2.2.2.1 q.2.2.2.2.2) U) ∧ ∀ q ∈ nkM, va_Nw (.methodLinkNest q.1 q.2.1 q.2.2.1 q.2.2.2) U
theorem NK.f {U : State} (h : NK U) (k : Nat) {a : String} {i : Nat} {b n d g : String} (e : nkF[k]? = some (a, i, b, n, d, g)) {A : Array Value} : (Cond.fieldLinkNest a i b n d g).before A U = true := va_Nw.use rfl (h.1 _ (List.mem_of_getElem? e))
theorem NK.m {U : State} (h : NK U) (k : Nat) {a : String} {i : Nat} {x : MethodName} {g : String} (e : nkM[k]? = some (a, i, x, g)) : va_Nw (.methodLinkNest a i x g) U := h.2 _ (List.mem_of_getElem? e)
theorem NK.warm {s U : State} (hW : s.WarmedH U.vm) (h : NK s) : NK U := ⟨fun q hq => va_Nw.warmF hW (h.1 q hq), fun q hq => va_Nw.warmM hW (h.2 q hq)⟩
theorem NK.same {u U : State} (e : u.vm = U.vm) (h : NK u) : NK U := ⟨fun q hq => va_Nw.same rfl e (h.1 q hq), fun q hq => va_Nw.same rfl e (h.2 q hq)⟩
def strT : List (Nat × String) := [(87, "plain"), (93, "rider"), (95, "lame"), (97, "counsel"), (99, "mile"), (101, "mud"), (103, "room"), (105, "snow")]
def strL : List Nat := [5, 5, 4, 7, 4, 3, 4, 4]
def strB : List (List Int32) := [[112, 108, 97, 105, 110], [114, 105, 100, 101, 114], [108, 97, 109, 101], [99, 111, 117, 110, 115, 101, 108], [109, 105, 108, 101], [109, 117, 100], [114, 111, 111, 109], [115, 110, 111, 119]]
def NR (κ : Nat → Nat) (U : State) : Prop := ∀ (i : Nat) (q : Nat × String), strT[i]? = some q → vk_R "CoachCourt$Teller" q.1 q.2 (κ (3 + i)) U
theorem NR.warm {κ : Nat → Nat} {s U : State} (hW : s.WarmedH U.vm) (h : NR κ s) : NR κ U := fun i q hq => vk_R.warm hW (h i q hq)
theorem NR.same {κ : Nat → Nat} {u U : State} (e : U.vm = u.vm) (h : NR κ u) : NR κ U := fun i q hq => vk_R.same e (h i q hq)
def tMH : List Int32 := [3, 3, 1]
def tPL : List Int32 := [0, 0, 1, 0, 0]
def tPH : List Int32 := [3, 99, 20, 3, 7]
def SX (κ : Nat → Nat) (A : Nat → Prop) (U : State) (H : Heap) : Prop :=
  (va_Z "CoachCourt" "MILE_HIGH" "[I" (.ref (κ 0)) A U H ∧ va_T .int (κ 0) 3 (fun j => .int (tMH.getD j 0)) A U H) ∧
  (va_Z "CoachCourt" "PARTY_LOW" "[I" (.ref (κ 1)) A U H ∧ va_T .int (κ 1) 5 (fun j => .int (tPL.getD j 0)) A U H) ∧
  (va_Z "CoachCourt" "PARTY_HIGH" "[I" (.ref (κ 2)) A U H ∧ va_T .int (κ 2) 5 (fun j => .int (tPH.getD j 0)) A U H) ∧
  va_Z "java/lang/String" "COMPACT_STRINGS" "Z" (.int 1) A U H ∧ va_Zq "jdk/internal/util/Preconditions" "SIOOBE_FORMATTER" "Ljava/util/function/BiFunction;" A U H ∧ vk_S 8 strL strB (fun i => κ (3 + i)) (fun i => κ (11 + i)) A U H
theorem SX.moved {κ : Nat → Nat} {A : Nat → Prop} {u U : State} {H : Heap} (hvm : u.vm.Alike U.vm) (h : SX κ A u H) : SX κ A U H := by
  obtain ⟨⟨a1, a2⟩, ⟨b1, b2⟩, ⟨c1, c2⟩, d1, e1, f1⟩ := h
  exact ⟨⟨a1.moved hvm, a2.moved hvm⟩, ⟨b1.moved hvm, b2.moved hvm⟩, ⟨c1.moved hvm, c2.moved hvm⟩, d1.moved hvm, e1.moved hvm, f1.moved hvm⟩
theorem SX.kept {κ : Nat → Nat} {A : Nat → Prop} {U : State} {H H1 : Heap} (h : SX κ A U H) (hq : ∀ a : Nat, a < H.size → ¬ A a → H1[a]? = H[a]?) : SX κ A U H1 := by
  obtain ⟨⟨a1, a2⟩, ⟨b1, b2⟩, ⟨c1, c2⟩, d1, e1, f1⟩ := h
  exact ⟨⟨a1.kept hq, a2.kept hq⟩, ⟨b1.kept hq, b2.kept hq⟩, ⟨c1.kept hq, c2.kept hq⟩, d1.kept hq, e1.kept hq, f1.kept hq⟩
theorem SX.narrow {κ : Nat → Nat} {A B : Nat → Prop} {U : State} {H : Heap} (h : SX κ A U H) (hAB : ∀ q, B q → A q) : SX κ B U H := by
  obtain ⟨⟨a1, a2⟩, ⟨b1, b2⟩, ⟨c1, c2⟩, d1, e1, f1⟩ := h
  exact ⟨⟨a1.narrow hAB, a2.narrow hAB⟩, ⟨b1.narrow hAB, b2.narrow hAB⟩, ⟨c1.narrow hAB, c2.narrow hAB⟩, d1.narrow hAB, e1.narrow hAB, f1.narrow hAB⟩
/-! a contract: from the world w0, with the arguments As, the method returns rv and leaves the world w1 -/
def CX (D : va_G) (t : Nat → ClassId) (κ : Nat → Nat) (A : Nat → Prop) (U : State) : Prop := va_K D vwCl (TYS t) U ∧ NK U ∧ NR κ U ∧ SX κ A U U.heap
theorem CX.call {D : va_G} {t : Nat → ClassId} {κ : Nat → Nat} {A : Nat → Prop} {U : State} (h : CX D t κ A U) (g : JFrame) (mk : MethodId) (a : Array Value) : CX D t κ A (U.calling g mk a) :=
  ⟨va_K.moved (u := U) (U := U.calling g mk a) (Vm.Alike.refl U.vm) h.1, NK.same (u := U) (U := U.calling g mk a) rfl h.2.1, NR.same (u := U) (U := U.calling g mk a) rfl h.2.2.1, SX.moved (u := U) (U := U.calling g mk a) (Vm.Alike.refl U.vm) h.2.2.2⟩
theorem CX.go {D : va_G} {t : Nat → ClassId} {κ : Nat → Nat} {A B : Nat → Prop} {s U : State} {H : Heap} {locs : List Loc} (h : CX D t κ A s) (hU : U.heap = H) (hW : s.WarmedH U.vm) (hS : va_S A s.heap H locs) (hAB : ∀ q, B q → A q) : CX D t κ B U := by
  refine ⟨va_K.moved hW.alike h.1, NK.warm hW h.2.1, NR.warm hW h.2.2.1, ?_⟩
  rw [hU]
  exact ((h.2.2.2.kept hS.2.1).narrow hAB).moved hW.alike
def rmL (d : Nat) : Room := { frames := 2 + d, cells := 0, slots := 0, locals := 200 + 60 * d }
theorem rm_le {a b k : Nat} (h : a + 1 ≤ b) (hk : k ≤ 41) : (rmL a).frames + 1 ≤ (rmL b).frames ∧ 8 + (k + 11) + (rmL a).locals ≤ (rmL b).locals := by
  simp only [rmL]
  omega
def gQ (D : va_G) (rv : Option Value) (w1 : va_W) (A : Nat → Prop) : Array Value → State → Outcome → State → Prop := fun _ st oc u => (oc = .returned rv ∧ va_P D vwCl w1 u.heap ∧ va_D A w1) ∧ va_F A st u
def gP (D : va_G) (t : Nat → ClassId) (κ : Nat → Nat) (As : List Value) (w0 : va_W) (sz : Nat) : Array Value → State → Prop := va_Pc As (fun U => U.heap.size = sz ∧ va_P D vwCl w0 U.heap ∧ va_D (fun _ => True) w0 ∧ CX D t κ (va_A w0 sz) U)
def Ct (l : Launch) (D : va_G) (t : Nat → ClassId) (κ : Nat → Nat) (y : MethodName) (ws : List Cond) (rm : Room) (As : List Value) (w0 : va_W) (rv : Option Value) (w1 : va_W) : Prop :=
  ∀ sz : Nat, Met l y ws rm (gP D t κ As w0 sz) (gQ D rv w1 (va_A w0 sz)) 0 0 (va_A w0 sz)
def Cxt (p : Program) (s : State) (m : MethodId) (args : Array Value) (meth : Method) (c : Code) (cc : ByteArray) (nL : Nat) (own : String) (Ts : List Cond) (ret : Option FieldType) (D : va_G) (t : Nat → ClassId) (κ : Nat → Nat) (A : Nat → Prop) : Prop :=
  p.tables.exec = Jvm.exec ∧ c.code = cc ∧ meth.sig.returnType = ret ∧ c.maxLocals = nL ∧ s.vm.findClass own = some m.cls ∧ (∀ w ∈ Ts, w.before args s = true) ∧ CX D t κ A s ∧ meth.locks = false ∧ ∀ q : Nat, s.heap.size ≤ q → A q
theorem Ct.ofW {l : Launch} {D : va_G} {t : Nat → ClassId} {κ : Nat → Nat} {y : MethodName} {ws ws' : List Cond} {rm : Room} {As : List Value} {w0 w1 : va_W} {rv : Option Value} {cc : ByteArray} {maxL : Nat} {ret : Option FieldType} {own : String}
    (hy : plainName y.cls = true) (hw : ws = Cond.code y cc maxL ret :: ws') (ho : y.cls = own) (hlen : (lg_sl As).length ≤ maxL)
    (body : ∀ (p : Program) (e : Env) (s : State) (m : MethodId) (below : List Frame) (meth : Method) (c : Code) (A : Nat → Prop), Cxt p s m As.toArray meth c cc maxL own ws ret D t κ A → va_P D vwCl w0 s.heap → va_D A w0 → ∀ ls : Array Slot, lv_has ls maxL (lv_args 0 As) →
      W p l e rm s m As.toArray below meth c s.heap [] 0 0 (MQ below (gQ D rv w1 A) As.toArray s 0 0 A) (F0 m 0 ls [])) : Ct l D t κ y ws rm As w0 rv w1 := by
  intro sz
  refine Met.ofW (cc := cc) (maxL := maxL) (ret := ret) hy hw ?_
  intro p e s m args below meth c s₁ B hml hv
  obtain ⟨rfl, hsz, hP, hD0, hC⟩ := hv
  subst hsz
  subst ho
  have hl := lv_entry As (n := maxL) hlen
  rw [lg_entry_eq]
  exact body p e s m below meth c (va_A w0 s.heap.size) ⟨B.exec, B.bytes, B.returns, hml, findClass_of_methodNamed B.named, atoms_spec (ws := ws) B.pre, hC, B.notSynchronized, fun q h => Or.inr h⟩ hP (hD0.self (sz := s.heap.size)) _ hl
theorem wk_pick {D : va_G} {cl : List vw_C} {ws wc : va_W} {H : Heap} (hP : va_P D cl ws H) (is : List Nat) (hC : is.map (fun i => ws[i]?) = wc.map some) : va_P D cl wc H := by
  intro k q hk
  have h1 : (is.map (fun i => ws[i]?))[k]? = some (some q) := by rw [hC, List.getElem?_map, hk]; rfl
  rw [List.getElem?_map] at h1
  cases hi : is[k]? with
  | none => rw [hi] at h1; cases h1
  | some i =>
    rw [hi] at h1
    exact hP i q (Option.some.inj h1)
section GK
variable {p : Program} {l : Launch} {e : Env} {R : Room} {s : State} {m : MethodId} {args : Array Value} {below : List Frame} {meth : Method} {c : Code} {H : Heap} {locs : List Loc} {cells slots : Nat} {Q : State → Prop}
variable {cc : ByteArray} {nL : Nat} {own : String} {Ts : List Cond} {ret : Option FieldType} {D : va_G} {t : Nat → ClassId} {κ : Nat → Nat} {A A1 : Nat → Prop} {pc : Nat} {ls : Array Slot} {rest st0 : List Value} {a : Array Value} {rv : Option Value} {w1 : va_W} {free : Addr → Prop}
theorem gk_go (hr : va_Run p l e R s m args below meth c H locs cells slots 0 0 (F0 m pc ls st0) rest (gQ D rv w1 A1 a) free) (hS : va_S A s.heap H locs) (hA : ∀ q, q < H.size → A1 q → A q) (hf : ∀ q, free q → A q)
    (kk : ∀ (H1 : Heap) (locs1 : List Loc), va_P D vwCl w1 H1 → va_D A1 w1 → (∀ q : Nat, q < H.size → ¬ A1 q → H1[q]? = H[q]?) → va_S A s.heap H1 locs1 → W p l e R s m args below meth c H1 locs1 cells slots Q (F0 m (pc + 3) ls (rv.toList ++ rest))) : W p l e R s m args below meth c H locs cells slots Q (F0 m pc ls st0) := by
  intro T hT X
  obtain ⟨v, st₀, u, T', L, h0, X', hL, e1, e2, ⟨⟨hv, hp1, hd1⟩, hz, hk⟩, st⟩ := hr T hT X
  have hv' : v = rv := by injection hv
  subst hv'
  rw [h0] at hz hk
  obtain ⟨t2, a1, b1⟩ := kk T'.heap (locs ++ L) (by rw [e1]; exact hp1) hd1 (fun q h1 h2 => by rw [e1]; exact hk q h1 h2)
    ⟨Nat.le_trans hS.1 (by rw [e1]; exact hz), fun q h1 h2 => by rw [e1, hk q (Nat.lt_of_lt_of_le h1 hS.1) (fun z => h2 (hA q (Nat.lt_of_lt_of_le h1 hS.1) z))]; exact hS.2.1 q h1 h2, fun q hq => by
      rcases List.mem_append.mp hq with h | h
      · exact hS.2.2 q h
      · exact hf _ (hL q h)⟩ T' rfl X'
  exact ⟨t2, st t2 a1, b1⟩
variable {y : MethodName} {bytes : ByteArray} {maxL n index : Nat} {ret' : Option FieldType} {ws' ws'' : List Cond} {rm : Room} {As : List Value} {wc ws wr wf : va_W} {b : Addr} {q0 ci : Nat} {fs : List Value} {q : vw_C}
theorem gk_pre (C : CX D t κ A s) (hD : va_D A ws) (hP : va_P D vwCl ws H) (hS : va_S A s.heap H locs) (hA : ∀ q : Nat, s.heap.size ≤ q → A q) (isC : List Nat) (hC : isC.map (fun i => ws[i]?) = wc.map some) (hCn : va_nd isC = true) : PreS s H (gP D t κ As wc H.size) As := by
  refine ⟨fun a U g mk q => ?_, fun U hU hW => ?_⟩
  · obtain ⟨q0, q1, qP, qD, qC⟩ := q
    exact ⟨q0, q1, qP, qD, qC.call g mk a⟩
  · exact ⟨rfl, by rw [hU], by rw [hU]; exact wk_pick hP isC hC, (hD.sub isC hCn hC).weaken (fun _ _ _ _ => trivial), C.go hU hW hS (va_free hD hS hA isC hC)⟩
theorem gk_join (hP : va_P D vwCl ws H) (hD : va_D A ws) (hS : va_S A s.heap H locs) (hA : ∀ q : Nat, s.heap.size ≤ q → A q) (isC isR isF : List Nat) (hC : isC.map (fun i => ws[i]?) = wc.map some) (hR : isR.map (fun i => ws[i]?) = wr.map some) (hRn : va_nd isR = true) (hdis : ∀ i ∈ isR, i ∉ isC) (hF : isF.map (fun i => (wr ++ w1)[i]?) = wf.map some) (hFn : va_nd isF = true) {H1 : Heap}
    (hk : ∀ q : Nat, q < H.size → ¬ va_A wc H.size q → H1[q]? = H[q]?) (hP1 : va_P D vwCl w1 H1) (hD1 : va_D (va_A wc H.size) w1) : va_P D vwCl wf H1 ∧ va_D A wf := by
  obtain ⟨j1, j2⟩ := va_join hP hD isC isR hC hR hRn hdis hk (va_free hD hS hA isC hC) hP1 hD1
  exact ⟨wk_pick j1 isF hF, j2.sub isF hFn hF⟩
/-- a call of an instance method, its world cut out of ours and put back -/
theorem gk_V (C : Cxt p s m args meth c cc nL own Ts ret D t κ A) (hM : Ct l D t κ y ws' rm (.ref b :: As) wc rv w1) (hg : GoodIn Ts (wsV own index q.1 y ws')) (hw : ws' = Cond.code y bytes maxL ret' :: ws'') (hrm : rm.cells = 0 ∧ rm.slots = 0)
    (hd : y.cls = q.1 ∧ y.cls ≠ "java/lang/invoke/MethodHandle" ∧ y.cls ≠ "java/lang/invoke/VarHandle" ∧ (parseMethodDescriptor y.desc).map (fun d => d.parameters.length) = some n) (hR : rm.frames + 1 ≤ R.frames ∧ 8 + (maxL + 11) + rm.locals ≤ R.locals)
    (hc : vwCl[ci]? = some q) (he : wc[q0]? = some (b, .inr (ci, fs))) (hP : va_P D vwCl ws H) (hD : va_D A ws) (hS : va_S A s.heap H locs) (isC isR isF : List Nat) (hC : isC.map (fun i => ws[i]?) = wc.map some) (hCn : va_nd isC = true) (hRr : isR.map (fun i => ws[i]?) = wr.map some) (hRn : va_nd isR = true) (hdis : ∀ i ∈ isR, i ∉ isC) (hF : isF.map (fun i => (wr ++ w1)[i]?) = wf.map some) (hFn : va_nd isF = true)
    (hn : As.length = n) (hl : ls.size = nL) (hroom : (rest.map fun v => v.category).sum ≤ 8) (hdg : decode cc pc = .ok (.invokevirtual index, 3)) (hcl : cells ≤ R.cells) (hsl : slots ≤ R.slots)
    (kk : ∀ (H1 : Heap) (locs1 : List Loc), va_P D vwCl wf H1 → va_D A wf → va_S A s.heap H1 locs1 → W p l e R s m args below meth c H1 locs1 cells slots Q (F0 m (pc + 3) ls (rv.toList ++ rest))) : W p l e R s m args below meth c H locs cells slots Q (F0 m pc ls (As.reverse ++ .ref b :: rest)) := by
  obtain ⟨hx, hb, hr, hml, hown, hts, hC0, hlk, hA⟩ := C
  have hpre := gk_pre (As := .ref b :: As) hC0 hD hP hS hA isC hC hCn
  have hPc : va_P D vwCl wc H := wk_pick hP isC hC
  have hFc := va_free hD hS hA isC hC
  refine gk_go (va_runV (As := As) (rest := rest) ⟨hx, hb, hml, hown, hts⟩ (hM H.size) (cwV n hts hg hw hrm.1 hrm.2 hd hR) ⟨hpre.1, va_recv hC0.1 hPc hc he, hpre.2⟩ rfl hn hl rfl (lv_room hroom) hdg ⟨hcl, hsl⟩) hS (fun q _ h => hFc q h) hFc (fun H1 locs1 p1 d1 k1 s1 => ?_)
  obtain ⟨j1, j2⟩ := gk_join hP hD hS hA isC isR isF hC hRr hRn hdis hF hFn k1 p1 d1
  exact kk H1 locs1 j1 j2 s1
/-- the same, where the callee's world is the whole of ours -/
theorem gk_V0 (C : Cxt p s m args meth c cc nL own Ts ret D t κ A) (hM : Ct l D t κ y ws' rm (.ref b :: As) ws rv w1) (hg : GoodIn Ts (wsV own index q.1 y ws')) (hw : ws' = Cond.code y bytes maxL ret' :: ws'') (hrm : rm.cells = 0 ∧ rm.slots = 0)
    (hd : y.cls = q.1 ∧ y.cls ≠ "java/lang/invoke/MethodHandle" ∧ y.cls ≠ "java/lang/invoke/VarHandle" ∧ (parseMethodDescriptor y.desc).map (fun d => d.parameters.length) = some n) (hR : rm.frames + 1 ≤ R.frames ∧ 8 + (maxL + 11) + rm.locals ≤ R.locals)
    (hc : vwCl[ci]? = some q) (he : ws[q0]? = some (b, .inr (ci, fs))) (hP : va_P D vwCl ws H) (hD : va_D A ws) (hS : va_S A s.heap H locs)
    (hn : As.length = n) (hl : ls.size = nL) (hroom : (rest.map fun v => v.category).sum ≤ 8) (hdg : decode cc pc = .ok (.invokevirtual index, 3)) (hcl : cells ≤ R.cells) (hsl : slots ≤ R.slots)
    (kk : ∀ (H1 : Heap) (locs1 : List Loc), va_P D vwCl w1 H1 → va_D A w1 → va_S A s.heap H1 locs1 → W p l e R s m args below meth c H1 locs1 cells slots Q (F0 m (pc + 3) ls (rv.toList ++ rest))) : W p l e R s m args below meth c H locs cells slots Q (F0 m pc ls (As.reverse ++ .ref b :: rest)) := by
  obtain ⟨hx, hb, hr, hml, hown, hts, hC0, hlk, hA⟩ := C
  have hFc : ∀ q, va_A ws H.size q → A q := by
    intro q hq
    rcases hq with ⟨k, e, hk⟩ | hq
    · exact hD.2 k _ hk
    · exact hA q (Nat.le_trans hS.1 hq)
  have hpre : PreS s H (gP D t κ (.ref b :: As) ws H.size) (.ref b :: As) := by
    refine ⟨fun a U g mk q => ?_, fun U hU hW => ?_⟩
    · obtain ⟨q0, q1, qP, qD, qC⟩ := q
      exact ⟨q0, q1, qP, qD, qC.call g mk a⟩
    · exact ⟨rfl, by rw [hU], by rw [hU]; exact hP, hD.weaken (fun _ _ _ _ => trivial), hC0.go hU hW hS hFc⟩
  refine gk_go (va_runV (As := As) (rest := rest) ⟨hx, hb, hml, hown, hts⟩ (hM H.size) (cwV n hts hg hw hrm.1 hrm.2 hd hR) ⟨hpre.1, va_recv hC0.1 hP hc he, hpre.2⟩ rfl hn hl rfl (lv_room hroom) hdg ⟨hcl, hsl⟩) hS (fun q _ h => hFc q h) hFc (fun H1 locs1 p1 d1 k1 s1 => ?_)
  exact kk H1 locs1 p1 (d1.weaken (fun _ _ _ h => hFc _ h)) s1
/-- a call of a static method that reads and writes no cell of ours -/
theorem gk_S (C : Cxt p s m args meth c cc nL own Ts ret D t κ A) (hM : Ct l D t κ y ws' rm As [] rv []) (hg : GoodIn Ts (va_wsS own index y ws')) (hw : ws' = Cond.code y bytes maxL ret' :: ws'') (hrm : rm.cells = 0 ∧ rm.slots = 0)
    (hd : y.cls ≠ "java/lang/invoke/MethodHandle" ∧ y.cls ≠ "java/lang/invoke/VarHandle" ∧ (parseMethodDescriptor y.desc).map (fun d => d.parameters.length) = some n) (hR : rm.frames + 1 ≤ R.frames ∧ 8 + (maxL + 11) + rm.locals ≤ R.locals)
    (hP : va_P D vwCl ws H) (hD : va_D A ws) (hS : va_S A s.heap H locs)
    (hn : As.length = n) (hl : ls.size = nL) (hroom : (rest.map fun v => v.category).sum ≤ 8) (hdg : decode cc pc = .ok (.invokestatic index, 3)) (hcl : cells ≤ R.cells) (hsl : slots ≤ R.slots)
    (kk : ∀ (H1 : Heap) (locs1 : List Loc), va_P D vwCl ws H1 → va_D A ws → va_S A s.heap H1 locs1 → W p l e R s m args below meth c H1 locs1 cells slots Q (F0 m (pc + 3) ls (rv.toList ++ rest))) : W p l e R s m args below meth c H locs cells slots Q (F0 m pc ls (As.reverse ++ rest)) := by
  obtain ⟨hx, hb, hr, hml, hown, hts, hC0, hlk, hA⟩ := C
  have hpre := gk_pre (As := As) (wc := []) hC0 hD hP hS hA [] rfl rfl
  have hFc := va_free (wc := []) hD hS hA [] rfl
  refine gk_go (va_runS (As := As) (rest := rest) ⟨hx, hb, hml, hown, hts⟩ (hM H.size) (va_cwS n hts hg hw hrm.1 hrm.2 hd hR) hpre rfl hn hl rfl (lv_room hroom) hdg ⟨hcl, hsl⟩) hS (fun q _ h => hFc q h) hFc (fun H1 locs1 p1 d1 k1 s1 => ?_)
  refine kk H1 locs1 (hP.kept (fun k q hk => k1 q.1 (hP k q hk).lt ?_)) hD s1
  intro h
  rcases h with ⟨j, e, hj⟩ | h
  · simp at hj
  · exact absurd (hP k q hk).lt (by omega)
theorem g_vret (C : Cxt p s m args meth c cc nL own Ts none D t κ A) (hP : va_P D vwCl w1 H) (hD : va_D A w1) (hS : va_S A s.heap H locs) (hdg : decode cc pc = .ok (.return_, 1)) : W p l e R s m args below meth c H locs 0 0 (MQ below (gQ D none w1 A) args s 0 0 A) (F0 m pc ls []) := by
  obtain ⟨hx, hb, hr, hml, hown, hts, hC0, hlk, hA⟩ := C
  exact W.vret hx hb hr (fun u hu hW => ⟨⟨rfl, by rw [hu]; exact hP, hD⟩, hS.F hu⟩) hS.2.2 hdg
theorem g_iret {v : Int32} (C : Cxt p s m args meth c cc nL own Ts (some .int) D t κ A) (hP : va_P D vwCl w1 H) (hD : va_D A w1) (hS : va_S A s.heap H locs) (hdg : decode cc pc = .ok (.ireturn, 1)) : W p l e R s m args below meth c H locs 0 0 (MQ below (gQ D (some (.int v)) w1 A) args s 0 0 A) (F0 m pc ls [.int v]) := by
  obtain ⟨hx, hb, hr, hml, hown, hts, hC0, hlk, hA⟩ := C
  exact W.iret (v := v) hx hb hr (fun u hu hW => ⟨⟨rfl, by rw [hu]; exact hP, hD⟩, hS.F hu⟩) hS.2.2 hdg
theorem g_lret {v : Int64} (C : Cxt p s m args meth c cc nL own Ts (some .long) D t κ A) (hP : va_P D vwCl w1 H) (hD : va_D A w1) (hS : va_S A s.heap H locs) (hdg : decode cc pc = .ok (.lreturn, 1)) : W p l e R s m args below meth c H locs 0 0 (MQ below (gQ D (some (.long v)) w1 A) args s 0 0 A) (F0 m pc ls [.long v]) := by
  obtain ⟨hx, hb, hr, hml, hown, hts, hC0, hlk, hA⟩ := C
  exact W.lret (v := v) hx hb hr (fun u hu hW => ⟨⟨rfl, by rw [hu]; exact hP, hD⟩, hS.F hu⟩) hS.2.2 hdg
theorem g_zret {v : Int32} (C : Cxt p s m args meth c cc nL own Ts (some .boolean) D t κ A) (hn : narrow .boolean (.int v) = .int v) (hP : va_P D vwCl w1 H) (hD : va_D A w1) (hS : va_S A s.heap H locs) (hdg : decode cc pc = .ok (.ireturn, 1)) : W p l e R s m args below meth c H locs 0 0 (MQ below (gQ D (some (.int v)) w1 A) args s 0 0 A) (F0 m pc ls [.int v]) := by
  obtain ⟨hx, hb, hr, hml, hown, hts, hC0, hlk, hA⟩ := C
  exact W.zret (v := v) (ty := .boolean) hx hb hr hn (fun u hu hW => ⟨⟨rfl, by rw [hu]; exact hP, hD⟩, hS.F hu⟩) hS.2.2 hdg
theorem g_aret {a1 : Nat} {ty : FieldType} (C : Cxt p s m args meth c cc nL own Ts (some (.array ty)) D t κ A) (hP : va_P D vwCl w1 H) (hD : va_D A w1) (hS : va_S A s.heap H locs) (hdg : decode cc pc = .ok (.areturn, 1)) : W p l e R s m args below meth c H locs 0 0 (MQ below (gQ D (some (.ref a1)) w1 A) args s 0 0 A) (F0 m pc ls [.ref a1]) := by
  obtain ⟨hx, hb, hr, hml, hown, hts, hC0, hlk, hA⟩ := C
  exact W.aret (v := .ref a1) hx hb hr (Or.inr ⟨_, rfl⟩) (Or.inr ⟨_, rfl⟩) (fun u hu hW => ⟨⟨rfl, by rw [hu]; exact hP, hD⟩, hS.F hu⟩) hS.2.2 hdg
/-- a private static method of a nest mate -/
theorem gk_SN {host : String} (C : Cxt p s m args meth c cc nL own Ts ret D t κ A) (hM : Ct l D t κ y ws' rm As [] rv []) (hg : GoodIn Ts ws') (hw : ws' = Cond.code y bytes maxL ret' :: ws'') (hrm : rm.cells = 0 ∧ rm.slots = 0) (hlk : va_Nw (.methodLinkNest own index y host) s) (hini : (Cond.initialized y.cls).before args s = true) (hst : (Cond.static y).before args s = true)
    (hd : y.cls ≠ "java/lang/invoke/MethodHandle" ∧ y.cls ≠ "java/lang/invoke/VarHandle" ∧ (parseMethodDescriptor y.desc).map (fun d => d.parameters.length) = some n) (hR : rm.frames + 1 ≤ R.frames ∧ 8 + (maxL + 11) + rm.locals ≤ R.locals)
    (hP : va_P D vwCl ws H) (hD : va_D A ws) (hS : va_S A s.heap H locs)
    (hn : As.length = n) (hl : ls.size = nL) (hroom : (rest.map fun v => v.category).sum ≤ 8) (hdg : decode cc pc = .ok (.invokestatic index, 3)) (hcl : cells ≤ R.cells) (hsl : slots ≤ R.slots)
    (kk : ∀ (H1 : Heap) (locs1 : List Loc), va_P D vwCl ws H1 → va_D A ws → va_S A s.heap H1 locs1 → W p l e R s m args below meth c H1 locs1 cells slots Q (F0 m (pc + 3) ls (rv.toList ++ rest))) : W p l e R s m args below meth c H locs cells slots Q (F0 m pc ls (As.reverse ++ rest)) := by
  obtain ⟨hx, hb, hr, hml, hown, hts, hC0, hlk0, hA⟩ := C
  have hpre := gk_pre (As := As) (wc := []) hC0 hD hP hS hA [] rfl rfl
  have hFc := va_free (wc := []) hD hS hA [] rfl
  refine gk_go (va_runSN (As := As) (rest := rest) (host := host) ⟨hx, hb, hml, hown, hts⟩ (hM H.size) ⟨va_cnB n hts hg hw hrm.1 hrm.2 hlk hini hd hR, hst, trivial⟩ hpre rfl hn hl rfl (lv_room hroom) hdg ⟨hcl, hsl⟩) hS (fun q _ h => hFc q h) hFc (fun H1 locs1 p1 d1 k1 s1 => ?_)
  refine kk H1 locs1 (hP.kept (fun k q hk => k1 q.1 (hP k q hk).lt ?_)) hD s1
  intro h
  rcases h with ⟨j, e, hj⟩ | h
  · simp at hj
  · exact absurd (hP k q hk).lt (by omega)
/-- a static method with a world of ours -/
theorem gk_SW (C : Cxt p s m args meth c cc nL own Ts ret D t κ A) (hM : Ct l D t κ y ws' rm As wc rv w1) (hg : GoodIn Ts (va_wsS own index y ws')) (hw : ws' = Cond.code y bytes maxL ret' :: ws'') (hrm : rm.cells = 0 ∧ rm.slots = 0)
    (hd : y.cls ≠ "java/lang/invoke/MethodHandle" ∧ y.cls ≠ "java/lang/invoke/VarHandle" ∧ (parseMethodDescriptor y.desc).map (fun d => d.parameters.length) = some n) (hR : rm.frames + 1 ≤ R.frames ∧ 8 + (maxL + 11) + rm.locals ≤ R.locals)
    (hP : va_P D vwCl ws H) (hD : va_D A ws) (hS : va_S A s.heap H locs) (isC isR isF : List Nat) (hC : isC.map (fun i => ws[i]?) = wc.map some) (hCn : va_nd isC = true) (hRr : isR.map (fun i => ws[i]?) = wr.map some) (hRn : va_nd isR = true) (hdis : ∀ i ∈ isR, i ∉ isC) (hF : isF.map (fun i => (wr ++ w1)[i]?) = wf.map some) (hFn : va_nd isF = true)
    (hn : As.length = n) (hl : ls.size = nL) (hroom : (rest.map fun v => v.category).sum ≤ 8) (hdg : decode cc pc = .ok (.invokestatic index, 3)) (hcl : cells ≤ R.cells) (hsl : slots ≤ R.slots)
    (kk : ∀ (H1 : Heap) (locs1 : List Loc), va_P D vwCl wf H1 → va_D A wf → va_S A s.heap H1 locs1 → W p l e R s m args below meth c H1 locs1 cells slots Q (F0 m (pc + 3) ls (rv.toList ++ rest))) : W p l e R s m args below meth c H locs cells slots Q (F0 m pc ls (As.reverse ++ rest)) := by
  obtain ⟨hx, hb, hr, hml, hown, hts, hC0, hlk, hA⟩ := C
  have hpre := gk_pre (As := As) hC0 hD hP hS hA isC hC hCn
  have hFc := va_free hD hS hA isC hC
  refine gk_go (va_runS (As := As) (rest := rest) ⟨hx, hb, hml, hown, hts⟩ (hM H.size) (va_cwS n hts hg hw hrm.1 hrm.2 hd hR) hpre rfl hn hl rfl (lv_room hroom) hdg ⟨hcl, hsl⟩) hS (fun q _ h => hFc q h) hFc (fun H1 locs1 p1 d1 k1 s1 => ?_)
  obtain ⟨j1, j2⟩ := gk_join hP hD hS hA isC isR isF hC hRr hRn hdis hF hFn k1 p1 d1
  exact kk H1 locs1 j1 j2 s1
end GK
