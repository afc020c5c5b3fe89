/-! constructors: contracts that make cells -/
def gQN (D : va_G) (Post : va_W → Prop) (A : Nat → Prop) : Array Value → State → Outcome → State → Prop := fun _ st oc u => (oc = .returned none ∧ ∃ w1 : va_W, Post w1 ∧ va_P D vwCl w1 u.heap ∧ va_D A w1) ∧ va_F A st u
def gPN (D : va_G) (t : Nat → ClassId) (κ : Nat → Nat) (X : State → Prop) (As : List Value) (w0 : va_W) (sz : Nat) : Array Value → State → Prop := va_Pc As (fun U => U.heap.size = sz ∧ va_P D vwCl w0 U.heap ∧ va_D (fun _ => True) w0 ∧ CX D t κ (va_A w0 sz) U ∧ X U)
def CtN (l : Launch) (D : va_G) (t : Nat → ClassId) (κ : Nat → Nat) (X : State → Prop) (y : MethodName) (ws : List Cond) (rm : Room) (As : List Value) (w0 : va_W) (Post : va_W → Prop) (mc ms : Nat) : Prop :=
  ∀ sz : Nat, Met l y ws rm (gPN D t κ X As w0 sz) (gQN D Post (va_A w0 sz)) mc ms (va_A w0 sz)
def rmN (d mc ms : Nat) : Room := { frames := 2 + d, cells := mc, slots := ms, locals := 200 + 60 * d }
def XM (X : State → Prop) : Prop := ∀ u U : State, u.vm.Alike U.vm → X u → X U
theorem CtN.ofW {l : Launch} {D : va_G} {t : Nat → ClassId} {κ : Nat → Nat} {X : State → Prop} {y : MethodName} {ws ws' : List Cond} {rm : Room} {As : List Value} {w0 : va_W} {Post : va_W → Prop} {mc ms : Nat} {cc : ByteArray} {maxL : Nat} {own : String}
    (hy : plainName y.cls = true) (hw : ws = Cond.code y cc maxL none :: ws') (ho : y.cls = own) (hyn : y.name = "<init>") (hlen : (lg_sl As).length ≤ maxL)
    (body : ∀ (p : Program) (e : Env) (s : State) (m : MethodId) (below : List Frame) (meth : Method) (c : Code) (A : Nat → Prop), Cxt p s m As.toArray meth c cc maxL own ws none D t κ A → meth.name = "<init>" → X s → va_P D vwCl w0 s.heap → va_D A w0 → ∀ ls : Array Slot, lv_has ls maxL (lv_args 0 As) →
      W p l e rm s m As.toArray below meth c s.heap [] 0 0 (MQ below (gQN D Post A) As.toArray s mc ms A) (F0 m 0 ls [])) : CtN l D t κ X y ws rm As w0 Post mc ms := by
  intro sz
  refine Met.ofW (cc := cc) (maxL := maxL) (ret := none) hy hw ?_
  intro p e s m args below meth c s₁ B hml hv
  obtain ⟨rfl, hsz, hP, hD0, hC, hX⟩ := hv
  subst hsz
  subst ho
  have hl := lv_entry As (n := maxL) hlen
  have hin : meth.name = "<init>" := (name_of_methodNamed B.named B.method).1.trans hyn
  rw [lg_entry_eq]
  exact body p e s m below meth c (va_A w0 s.heap.size) ⟨B.exec, B.bytes, B.returns, hml, findClass_of_methodNamed B.named, atoms_spec (ws := ws) B.pre, hC, B.notSynchronized, fun q h => Or.inr h⟩ hin hX hP (hD0.self (sz := s.heap.size)) _ hl
theorem wk_last {A : Nat → Prop} {D : va_G} {cl : List vw_C} {ws w1 : va_W} {x : Nat × va_E} {H H1 : Heap} (hP : va_P D cl (ws ++ [x]) H) (hD : va_D A (ws ++ [x])) (hk : ∀ q : Nat, q < H.size → ¬ va_A [x] H.size q → H1[q]? = H[q]?) (hF : ∀ q, va_A [x] H.size q → A q) (hP1 : va_P D cl w1 H1) (hD1 : va_D (va_A [x] H.size) w1) : va_P D cl (ws ++ w1) H1 ∧ va_D A (ws ++ w1) := by
  have key : ∀ (k : Nat) (q : Nat × va_E), ws[k]? = some q → (ws ++ [x])[k]? = some q := fun k q hq => by
    rw [List.getElem?_append_left (List.getElem?_eq_some_iff.mp hq).1]; exact hq
  have hxl : (ws ++ [x])[ws.length]? = some x := by simp
  have hne : ∀ (k : Nat) (q : Nat × va_E), ws[k]? = some q → ¬ va_A [x] H.size q.1 := by
    intro k q hq h
    have hlt := (hP k q (key k q hq)).lt
    rcases h with ⟨j, e, hj⟩ | h
    · have hj0 : j < 1 := (List.getElem?_eq_some_iff.mp hj).1
      rw [show j = 0 by omega] at hj
      have hx : x = (q.1, e) := by simpa using hj
      have := hD.1 k ws.length q x (key k q hq) hxl (by rw [hx])
      have := (List.getElem?_eq_some_iff.mp hq).1
      omega
    · omega
  refine ⟨va_P.app (fun k q hq => (hP k q (key k q hq)).kept (hk q.1 (hP k q (key k q hq)).lt (hne k q hq))) hP1, va_D.app ⟨fun i j p q hi hj he => hD.1 i j p q (key i p hi) (key j q hj) he, fun k q hq => hD.2 k q (key k q hq)⟩ (hD1.weaken (fun _ _ _ h => hF _ h)) ?_⟩
  intro i j p q hi hj he
  exact hne i p hi (by rw [he]; exact hD1.2 j q hj)
section GKN
variable {p : Program} {l : Launch} {e : Env} {R : Room} {s : State} {m : MethodId} {args : Array Value} {below : List Frame} {meth : Method} {c : Code} {H : Heap} {locs : List Loc} {cells slots : Nat} {Q : State → Prop}
variable {cc : ByteArray} {nL : Nat} {own : String} {Ts : List Cond} {ret : Option FieldType} {D : va_G} {t : Nat → ClassId} {κ : Nat → Nat} {A A1 : Nat → Prop} {pc : Nat} {ls : Array Slot} {rest st0 : List Value} {a : Array Value} {Post : va_W → Prop} {mc ms : Nat} {free : Addr → Prop} {X : State → Prop}
theorem gk_goN (hr : va_Run p l e R s m args below meth c H locs cells slots mc ms (F0 m pc ls st0) rest (gQN D Post A1 a) free) (hS : va_S A s.heap H locs) (hA : ∀ q, q < H.size → A1 q → A q) (hf : ∀ q, free q → A q)
    (kk : ∀ (H1 : Heap) (locs1 : List Loc) (w1 : va_W), Post w1 → va_P D vwCl w1 H1 → va_D A1 w1 → (∀ q : Nat, q < H.size → ¬ A1 q → H1[q]? = H[q]?) → va_S A s.heap H1 locs1 → W p l e R s m args below meth c H1 locs1 (cells + mc) (slots + ms) Q (F0 m (pc + 3) ls rest)) : W p l e R s m args below meth c H locs cells slots Q (F0 m pc ls st0) := by
  intro T hT X
  obtain ⟨v, st₀, u, T', L, h0, X', hL, e1, e2, ⟨⟨hv, w1, hpo, hp1, hd1⟩, hz, hk⟩, st⟩ := hr T hT X
  have hv' : v = none := by injection hv
  subst hv'
  rw [h0] at hz hk
  obtain ⟨t2, a1, b1⟩ := kk T'.heap (locs ++ L) w1 hpo (by rw [e1]; exact hp1) hd1 (fun q h1 h2 => by rw [e1]; exact hk q h1 h2)
    ⟨Nat.le_trans hS.1 (by rw [e1]; exact hz), fun q h1 h2 => by rw [e1, hk q (Nat.lt_of_lt_of_le h1 hS.1) (fun z => h2 (hA q (Nat.lt_of_lt_of_le h1 hS.1) z))]; exact hS.2.1 q h1 h2, fun q hq => by
      rcases List.mem_append.mp hq with h | h
      · exact hS.2.2 q h
      · exact hf _ (hL q h)⟩ T' rfl X'
  exact ⟨t2, st t2 a1, b1⟩
variable {y : MethodName} {bytes : ByteArray} {maxL n index : Nat} {ws' ws'' : List Cond} {rm : Room} {As : List Value} {ws : va_W} {b : Addr} {x : Nat × va_E} {host : String}
theorem gk_preN (C : CX D t κ A s) (hXs : X s) (hXM : XM X) (hD : va_D A (ws ++ [x])) (hP : va_P D vwCl (ws ++ [x]) H) (hS : va_S A s.heap H locs) (hA : ∀ q : Nat, s.heap.size ≤ q → A q) : PreS s H (gPN D t κ X As [x] H.size) As ∧ ∀ q, va_A [x] H.size q → A q := by
  have hxl : (ws ++ [x])[ws.length]? = some x := by simp
  have h1 : ∀ (k : Nat) (q : Nat × va_E), ([x] : va_W)[k]? = some q → q = x := by
    intro k q hq
    have hz : k < 1 := (List.getElem?_eq_some_iff.mp hq).1
    rw [show k = 0 by omega] at hq
    exact (Option.some.inj hq).symm
  have hF : ∀ q, va_A [x] H.size q → A q := by
    intro q hq
    rcases hq with ⟨k, e, hk⟩ | hq
    · have := h1 k _ hk
      have h2 := hD.2 ws.length x hxl
      rw [← this] at h2
      exact h2
    · exact hA q (Nat.le_trans hS.1 hq)
  refine ⟨⟨fun a U g mk q => ?_, fun U hU hW => ?_⟩, hF⟩
  · obtain ⟨q0, q1, qP, qD, qC, qX⟩ := q
    exact ⟨q0, q1, qP, qD, qC.call g mk a, hXM U (U.calling g mk a) (Vm.Alike.refl U.vm) qX⟩
  · refine ⟨rfl, by rw [hU], by rw [hU]; exact fun k q hq => by rw [h1 k q hq]; exact hP _ _ hxl, ⟨fun i j p q hi hj _ => ?_, fun _ _ _ => trivial⟩, C.go hU hW hS hF, hXM s U hW.alike hXs⟩
    have := (List.getElem?_eq_some_iff.mp hi).1
    have := (List.getElem?_eq_some_iff.mp hj).1
    simp at *
    omega
/-- a constructor's call on the cell that was made last; its name is reached as any method's -/
theorem gk_I (C : Cxt p s m args meth c cc nL own Ts ret D t κ A) (hM : CtN l D t κ X y ws' rm (.ref b :: As) [x] Post mc ms) (hXs : X s) (hXM : XM X) (hg : GoodIn Ts ws') (hw : ws' = Cond.code y bytes maxL none :: ws'') (hrm : rm.cells = mc ∧ rm.slots = ms) (hini : (Cond.initialized y.cls).before args s = true) (hlk : (Cond.methodLink own index y).before args s = true) (hinm : (Cond.instanceMethod y).before args s = true) (hyn : y.name = "<init>")
    (hd : y.cls ≠ "java/lang/invoke/MethodHandle" ∧ y.cls ≠ "java/lang/invoke/VarHandle" ∧ (parseMethodDescriptor y.desc).map (fun d => d.parameters.length) = some n) (hR : rm.frames + 1 ≤ R.frames ∧ 8 + (maxL + 11) + rm.locals ≤ R.locals)
    (hP : va_P D vwCl (ws ++ [x]) H) (hD : va_D A (ws ++ [x])) (hS : va_S A s.heap H locs)
    (hn : As.length = n) (hl : ls.size = nL) (hroom : (rest.map fun v => v.category).sum ≤ 8) (hdg : decode cc pc = .ok (.invokespecial index, 3)) (hcl : cells + mc ≤ R.cells) (hsl : slots + ms ≤ R.slots)
    (kk : ∀ (H1 : Heap) (locs1 : List Loc) (w1 : va_W), Post w1 → va_P D vwCl (ws ++ w1) H1 → va_D A (ws ++ w1) → va_S A s.heap H1 locs1 → W p l e R s m args below meth c H1 locs1 (cells + mc) (slots + ms) Q (F0 m (pc + 3) ls rest)) : W p l e R s m args below meth c H locs cells slots Q (F0 m pc ls (As.reverse ++ .ref b :: rest)) := by
  obtain ⟨hx, hb, hr, hml, hown, hts, hC0, hlk0, hA⟩ := C
  obtain ⟨hpre, hFc⟩ := gk_preN (As := .ref b :: As) (X := X) hC0 hXs hXM hD hP hS hA
  refine gk_goN (va_runI (As := As) (rest := rest) ⟨hx, hb, hml, hown, hts⟩ (hM H.size) (cwI n hts hg hw hrm.1 hrm.2 hini hlk hinm hyn hd hR) hpre rfl hn hl rfl (lv_room hroom) hdg ⟨hcl, hsl⟩) hS (fun q _ h => hFc q h) hFc (fun H1 locs1 w1 po p1 d1 k1 s1 => ?_)
  obtain ⟨j1, j2⟩ := wk_last hP hD k1 hFc p1 d1
  exact kk H1 locs1 w1 po j1 j2 s1
/-- the same of a nest mate's private constructor -/
theorem gk_IN (C : Cxt p s m args meth c cc nL own Ts ret D t κ A) (hM : CtN l D t κ X y ws' rm (.ref b :: As) [x] Post mc ms) (hXs : X s) (hXM : XM X) (hg : GoodIn Ts ws') (hw : ws' = Cond.code y bytes maxL none :: ws'') (hrm : rm.cells = mc ∧ rm.slots = ms) (hini : (Cond.initialized y.cls).before args s = true) (hlk : va_Nw (.methodLinkNest own index y host) s) (hinm : (Cond.instanceMethod y).before args s = true) (hyn : y.name = "<init>")
    (hd : y.cls ≠ "java/lang/invoke/MethodHandle" ∧ y.cls ≠ "java/lang/invoke/VarHandle" ∧ (parseMethodDescriptor y.desc).map (fun d => d.parameters.length) = some n) (hR : rm.frames + 1 ≤ R.frames ∧ 8 + (maxL + 11) + rm.locals ≤ R.locals)
    (hP : va_P D vwCl (ws ++ [x]) H) (hD : va_D A (ws ++ [x])) (hS : va_S A s.heap H locs)
    (hn : As.length = n) (hl : ls.size = nL) (hroom : (rest.map fun v => v.category).sum ≤ 8) (hdg : decode cc pc = .ok (.invokespecial index, 3)) (hcl : cells + mc ≤ R.cells) (hsl : slots + ms ≤ R.slots)
    (kk : ∀ (H1 : Heap) (locs1 : List Loc) (w1 : va_W), Post w1 → va_P D vwCl (ws ++ w1) H1 → va_D A (ws ++ w1) → va_S A s.heap H1 locs1 → W p l e R s m args below meth c H1 locs1 (cells + mc) (slots + ms) Q (F0 m (pc + 3) ls rest)) : W p l e R s m args below meth c H locs cells slots Q (F0 m pc ls (As.reverse ++ .ref b :: rest)) := by
  obtain ⟨hx, hb, hr, hml, hown, hts, hC0, hlk0, hA⟩ := C
  obtain ⟨hpre, hFc⟩ := gk_preN (As := .ref b :: As) (X := X) hC0 hXs hXM hD hP hS hA
  refine gk_goN (va_runIN (As := As) (rest := rest) (host := host) ⟨hx, hb, hml, hown, hts⟩ (hM H.size) ⟨va_cnB n hts hg hw hrm.1 hrm.2 hlk hini hd hR, hyn, hinm⟩ hpre rfl hn hl rfl (lv_room hroom) hdg ⟨hcl, hsl⟩) hS (fun q _ h => hFc q h) hFc (fun H1 locs1 w1 po p1 d1 k1 s1 => ?_)
  obtain ⟨j1, j2⟩ := wk_last hP hD k1 hFc p1 d1
  exact kk H1 locs1 w1 po j1 j2 s1
theorem g_vretN {w1 : va_W} (C : Cxt p s m args meth c cc nL own Ts none D t κ A) (hpo : Post w1) (hP : va_P D vwCl w1 H) (hD : va_D A w1) (hS : va_S A s.heap H locs) (hdg : decode cc pc = .ok (.return_, 1)) : W p l e R s m args below meth c H locs cells slots (MQ below (gQN D Post A) args s cells slots A) (F0 m pc ls []) := by
  obtain ⟨hx, hb, hr, hml, hown, hts, hC0, hlk, hA⟩ := C
  exact W.vret hx hb hr (fun u hu hW => ⟨⟨rfl, w1, hpo, by rw [hu]; exact hP, hD⟩, hS.F hu⟩) hS.2.2 hdg
theorem g_newa {atype : ArrayType} {ty : FieldType} {k N : Nat} {a0 : vp_A} {nn : Int32} (C : Cxt p s m args meth c cc nL own Ts ret D t κ A) (harr : Cond.arrayClass (newarray.typeOf atype) ∈ Ts) (hty : newarray.typeOf atype = ty) (hk : (TYS t)[k]? = some (t k, ty)) (hra : ∀ z : ClassId, va_RA s z ty → s.vm.findClass ("[" ++ ty.toString) = some z)
    (hP : va_P D vwCl ws H) (hD : va_D A ws) (hS : va_S A s.heap H locs) (ha : ∀ cA : ClassId, vp_cell cA a0 = arrV cA N (fun _ => defaultValue ty)) (hn : ¬ nn < 0) (hN : nn.toNatClampNeg = N) (hbytes : N * componentBytes ty ≤ 536870912) (hcells : cells + 1 ≤ R.cells) (hslots : slots + N ≤ R.slots) (hdg : decode cc pc = .ok (.newarray atype, 2))
    (kk : ∀ (q : Nat) (H1 : Heap), va_P D vwCl (ws ++ [(q, .inl (t k, a0))]) H1 → va_D A (ws ++ [(q, .inl (t k, a0))]) → va_S A s.heap H1 locs → W p l e R s m args below meth c H1 locs (cells + 1) (slots + N) Q (F0 m (pc + 2) ls (.ref q :: rest))) : W p l e R s m args below meth c H locs cells slots Q (F0 m pc ls (.int nn :: rest)) := by
  obtain ⟨hx, hb, hr, hml, hown, hts, hC0, hlk, hA⟩ := C
  refine va_newa hx hb (hts _ harr) hty hC0.1 hP hD hS hA ha hn hN hbytes hcells hslots hdg (fun q cA H1 hK1 p1 d1 s1 => ?_)
  have e1 : s.vm.findClass ("[" ++ ty.toString) = some (t k) := hra _ (hC0.1.2 k _ hk).2
  have e2 : s.vm.findClass ("[" ++ ty.toString) = some cA := hra _ (hK1.2 5 (cA, ty) rfl).2
  have e3 : cA = t k := Option.some.inj (e2.symm.trans e1)
  subst e3
  exact kk q H1 p1 d1 s1
theorem g_newq {C0 : String} {k N : Nat} {nn : Int32} (C : Cxt p s m args meth c cc nL own Ts ret D t κ A) (hclink : Cond.classLink own index C0 ∈ Ts) (hover : va_AO C0 s) (hk : (TYS t)[k]? = some (t k, .object C0))
    (hP : va_P D vwCl ws H) (hD : va_D A ws) (hS : va_S A s.heap H locs) (hn : ¬ nn < 0) (hN : nn.toNatClampNeg = N) (hbytes : N * 4 ≤ 536870912) (hcells : cells + 1 ≤ R.cells) (hslots : slots + N ≤ R.slots) (hdg : decode cc pc = .ok (.anewarray index, 3))
    (kk : ∀ (q : Nat) (H1 : Heap), va_P D vwCl (ws ++ [(q, .inl (t k, N, .inr (.inr (.inr (.inr (fun _ => none))))))]) H1 → va_D A (ws ++ [(q, .inl (t k, N, .inr (.inr (.inr (.inr (fun _ => none))))))]) → va_S A s.heap H1 locs → W p l e R s m args below meth c H1 locs (cells + 1) (slots + N) Q (F0 m (pc + 3) ls (.ref q :: rest))) : W p l e R s m args below meth c H locs cells slots Q (F0 m pc ls (.int nn :: rest)) := by
  obtain ⟨hx, hb, hr, hml, hown, hts, hC0, hlk, hA⟩ := C
  refine va_newq hx hb hown (hts _ hclink) hover hC0.1 hP hD hS hA hn hN hbytes hcells hslots hdg (fun q cA H1 hK1 p1 d1 s1 => ?_)
  obtain ⟨k1, c1, a1, a2, a3, a4⟩ := (hC0.1.2 k _ hk).2
  obtain ⟨k2, c2, b1, b2, b3, b4⟩ := (hK1.2 5 (cA, .object C0) rfl).2
  have e3 : cA = t k := Option.some.inj (b4.symm.trans a4)
  subst e3
  exact kk q H1 p1 d1 s1
end GKN
def z0 : S2 := fun _ _ => 0
def zR : S2 := sE (sE z0 0 2 4) 0 3 99
