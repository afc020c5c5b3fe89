/-! the law's world, by blocks -/
section
variable (t : Nat → ClassId) (a : Nat → Nat → Nat) (fi fh : Nat → Option Nat) (G : Nat → S2) (lam : S6)
def BK : Nat → va_W
  | 0 => wCC t (a 0) (a 1 0) (a 2 0) (a 3 0) (a 4 0) (a 5 0) (a 6 0) (a 7 0) (a 8 0) (a 15 0) (G 0)
  | 1 => wTape t (a 1) (G 1)
  | 2 => wTeller t (a 2) (a 1 0) (G 2)
  | 3 => wRoad t (a 3) (G 3)
  | 4 => wRoad t (a 4) (G 4)
  | 5 => wDrive t (a 5) (G 5)
  | 6 => wSeeker t (a 6) (a 4 0) (a 5 0) (G 6)
  | 7 => wSight t (a 7) (G 7)
  | 8 => wIA t (a 8) fi
  | 9 => wImage t (a 9) (a 10 0) (a 11 0) (G 9)
  | 10 => wRoad t (a 10) (G 10)
  | 11 => wSight t (a 11) (G 11)
  | 12 => wImage t (a 12) (a 13 0) (a 14 0) (G 12)
  | 13 => wRoad t (a 13) (G 13)
  | 14 => wSight t (a 14) (G 14)
  | 15 => wHA t (a 15) fh
  | 16 => wSheet t (a 16) (G 16)
  | 17 => wSheet t (a 17) (G 17)
  | 18 => wSheet t (a 18) (G 18)
  | 19 => wSheet t (a 19) (G 19)
  | n => wModel t (a 20) (G n) lam
def WB (I : List Nat) : va_W := (I.map (BK t a fi fh G lam)).flatten
def WL : va_W := WB t a fi fh G lam (List.range 21)
end
section
variable {t : Nat → ClassId} {a : Nat → Nat → Nat} {fi fh : Nat → Option Nat} {G G1 : Nat → S2} {lam lam1 : S6}
theorem bk_c {i : Nat} (h : G1 i = G i) : BK t a fi fh G1 lam i = BK t a fi fh G lam i := by
  unfold BK
  split <;> first | rfl | rw [h]
theorem bk_l {i : Nat} (hi : i < 20) (h : G1 i = G i) : BK t a fi fh G1 lam1 i = BK t a fi fh G lam i := by
  rw [bk_c h]
  rcases (show i = 0 ∨ i = 1 ∨ i = 2 ∨ i = 3 ∨ i = 4 ∨ i = 5 ∨ i = 6 ∨ i = 7 ∨ i = 8 ∨ i = 9 ∨ i = 10 ∨ i = 11 ∨ i = 12 ∨ i = 13 ∨ i = 14 ∨ i = 15 ∨ i = 16 ∨ i = 17 ∨ i = 18 ∨ i = 19 by omega) with rfl | rfl | rfl | rfl | rfl | rfl | rfl | rfl | rfl | rfl | rfl | rfl | rfl | rfl | rfl | rfl | rfl | rfl | rfl | rfl <;> rfl
theorem wb_app {I R : List Nat} : WB t a fi fh G lam (I ++ R) = WB t a fi fh G lam I ++ WB t a fi fh G lam R := by
  unfold WB
  rw [List.map_append, List.flatten_append]
theorem wb_c {I : List Nat} (h : ∀ i ∈ I, BK t a fi fh G1 lam1 i = BK t a fi fh G lam i) : WB t a fi fh G1 lam1 I = WB t a fi fh G lam I := by
  unfold WB
  rw [List.map_congr_left h]
theorem wb_p {I R : List Nat} (h : I.Perm R) : (WB t a fi fh G lam I).Perm (WB t a fi fh G lam R) := List.Perm.flatten (h.map _)
theorem wb_1 {i : Nat} : WB t a fi fh G lam [i] = BK t a fi fh G lam i := List.append_nil _
theorem wb_s {i : Nat} {I : List Nat} : WB t a fi fh G lam (i :: I) = BK t a fi fh G lam i ++ WB t a fi fh G lam I := rfl
theorem wb_pp {I R : List Nat} (h : (List.range 21).Perm (I ++ R)) : (WL t a fi fh G lam).Perm (WB t a fi fh G lam I ++ WB t a fi fh G lam R) := by
  rw [← wb_app]
  exact wb_p h
theorem ct_e {l : Launch} {D : va_G} {κ : Nat → Nat} {y : MethodName} {ws : List Cond} {rm : Room} {As : List Value} {w0 w0' : va_W} {rv : Option Value} {w1 w1' : va_W} (K : Ct l D t κ y ws rm As w0 rv w1) (e0 : w0' = w0) (e1 : w1' = w1) : Ct l D t κ y ws rm As w0' rv w1' := by
  rw [e0, e1]; exact K
end
/-- one question to both: what the bytes of the two methods do, and what holds behind them -/
def Step (l : Launch) (D : va_G) (t : Nat → ClassId) (κ : Nat → Nat) (a : Nat → Nat → Nat) (fi fh : Nat → Option Nat) (y8 : MethodName) (ws8 : List Cond) (rm8 : Room) (y9 : MethodName) (ws9 : List Cond) (rm9 : Room) (As : List Value) (G : Nat → S2) (lam : S6) (v : Value) : Prop :=
  ∃ (I R : List Nat) (G1 G' : Nat → S2) (lam' : S6), (List.range 21).Perm ((0 :: I) ++ R) ∧ Ct l D t κ y8 ws8 rm8 (.ref (a 0 0) :: As) (WB t a fi fh G lam (0 :: I)) (some v) (WB t a fi fh G1 lam (0 :: I)) ∧ Ct l D t κ y9 ws9 rm9 (.ref (a 20 0) :: As) (wModel t (a 20) (G1 20) lam) (some v) (wModel t (a 20) (G' 20) lam') ∧ (∀ i ∈ R, G1 i = G i) ∧ (∀ i, i < 20 → G' i = G1 i) ∧ Inv G'
def FIH (a : Nat → Nat → Nat) (fi fh : Nat → Option Nat) : Prop := fi 0 = some (a 9 0) ∧ fi 1 = some (a 12 0) ∧ fh 0 = some (a 16 0) ∧ fh 1 = some (a 17 0) ∧ fh 2 = some (a 18 0) ∧ fh 3 = some (a 19 0)
section
variable {p : Program} {l : Launch} {e : Env} {R : Room} {s : State} {m : MethodId} {args : Array Value} {below : List Frame} {meth : Method} {c : Code} {H : Heap} {locs : List Loc} {cells slots : Nat} {Q : State → Prop}
variable {cc : ByteArray} {nL : Nat} {own : String} {Ts : List Cond} {ret : Option FieldType} {D : va_G} {t : Nat → ClassId} {κ : Nat → Nat} {A : Nat → Prop} {pc : Nat} {ls : Array Slot} {rest : List Value} {v : Value}
variable {y : MethodName} {bytes : ByteArray} {maxL n index : Nat} {ret' : Option FieldType} {ws' ws'' : List Cond} {rm : Room} {As : List Value}
variable {a : Nat → Nat → Nat} {fi fh : Nat → Option Nat} {G G1 : Nat → S2} {lam lam1 : S6}
theorem law8 {I R0 : List Nat} (C : Cxt p s m args meth c cc nL own Ts ret D t κ A) (hIR : (List.range 21).Perm ((0 :: I) ++ R0)) (hM : Ct l D t κ y ws' rm (.ref (a 0 0) :: As) (WB t a fi fh G lam (0 :: I)) (some v) (WB t a fi fh G1 lam (0 :: I))) (hR0 : ∀ i ∈ R0, G1 i = G i) (hg : GoodIn Ts (wsV own index RX8 y ws')) (hw : ws' = Cond.code y bytes maxL ret' :: ws'') (hrm : rm.cells = 0 ∧ rm.slots = 0)
    (hd : y.cls = RX8 ∧ y.cls ≠ "java/lang/invoke/MethodHandle" ∧ y.cls ≠ "java/lang/invoke/VarHandle" ∧ (parseMethodDescriptor y.desc).map (fun d => d.parameters.length) = some n) (hR : rm.frames + 1 ≤ R.frames ∧ 8 + (maxL + 11) + rm.locals ≤ R.locals)
    (hP : va_P D vwCl (WL t a fi fh G lam) H) (hD : va_D A (WL t a fi fh G lam)) (hS : va_S A s.heap H locs)
    (hn : As.length = n) (hl : ls.size = nL) (hroom : (rest.map fun v => v.category).sum ≤ 8) (hdg : decode cc pc = .ok (.invokevirtual index, 3)) (hcl : cells ≤ R.cells) (hsl : slots ≤ R.slots)
    (kk : ∀ (H1 : Heap) (locs1 : List Loc), va_P D vwCl (WL t a fi fh G1 lam) H1 → va_D A (WL t a fi fh G1 lam) → va_S A s.heap H1 locs1 → W p l e R s m args below meth c H1 locs1 cells slots Q (F0 m (pc + 3) ls (v :: rest))) : W p l e R s m args below meth c H locs cells slots Q (F0 m pc ls (As.reverse ++ .ref (a 0 0) :: rest)) := by
  refine gk_F (ci := 8) (q := (RX8, TX8, 11)) (q0 := 0) (wr := WB t a fi fh G lam R0) (wf := WL t a fi fh G1 lam) C hM hg hw hrm hd hR rfl rfl hP hD hS (wb_pp hIR) ?_ hn hl hroom hdg hcl hsl kk
  rw [← wb_c (G1 := G1) (lam1 := lam) (fun i hi => bk_c (hR0 i hi))]
  exact (wb_pp hIR).symm
theorem law9 (C : Cxt p s m args meth c cc nL own Ts ret D t κ A) (hM : Ct l D t κ y ws' rm (.ref (a 20 0) :: As) (wModel t (a 20) (G 20) lam) (some v) (wModel t (a 20) (G1 20) lam1)) (hR0 : ∀ i, i < 20 → G1 i = G i) (hg : GoodIn Ts (wsV own index RX9 y ws')) (hw : ws' = Cond.code y bytes maxL ret' :: ws'') (hrm : rm.cells = 0 ∧ rm.slots = 0)
    (hd : y.cls = RX9 ∧ y.cls ≠ "java/lang/invoke/MethodHandle" ∧ y.cls ≠ "java/lang/invoke/VarHandle" ∧ (parseMethodDescriptor y.desc).map (fun d => d.parameters.length) = some n) (hR : rm.frames + 1 ≤ R.frames ∧ 8 + (maxL + 11) + rm.locals ≤ R.locals)
    (hP : va_P D vwCl (WL t a fi fh G lam) H) (hD : va_D A (WL t a fi fh G lam)) (hS : va_S A s.heap H locs)
    (hn : As.length = n) (hl : ls.size = nL) (hroom : (rest.map fun v => v.category).sum ≤ 8) (hdg : decode cc pc = .ok (.invokevirtual index, 3)) (hcl : cells ≤ R.cells) (hsl : slots ≤ R.slots)
    (kk : ∀ (H1 : Heap) (locs1 : List Loc), va_P D vwCl (WL t a fi fh G1 lam1) H1 → va_D A (WL t a fi fh G1 lam1) → va_S A s.heap H1 locs1 → W p l e R s m args below meth c H1 locs1 cells slots Q (F0 m (pc + 3) ls (v :: rest))) : W p l e R s m args below meth c H locs cells slots Q (F0 m pc ls (As.reverse ++ .ref (a 20 0) :: rest)) := by
  have hIR : (List.range 21).Perm ([20] ++ List.range 20) := by decide
  have e0 : WB t a fi fh G lam [20] = wModel t (a 20) (G 20) lam := List.append_nil _
  have e1 : WB t a fi fh G1 lam1 [20] = wModel t (a 20) (G1 20) lam1 := List.append_nil _
  refine gk_F (ci := 9) (q := (RX9, TX9, 37)) (q0 := 0) (wr := WB t a fi fh G lam (List.range 20)) (wf := WL t a fi fh G1 lam1) C hM hg hw hrm hd hR rfl rfl hP hD hS ?_ ?_ hn hl hroom hdg hcl hsl kk
  · rw [← e0]; exact wb_pp hIR
  · rw [← e1, ← wb_c (G1 := G1) (lam1 := lam1) (fun i hi => bk_l (List.mem_range.mp hi) (hR0 i (List.mem_range.mp hi)))]
    exact (wb_pp hIR).symm
end
