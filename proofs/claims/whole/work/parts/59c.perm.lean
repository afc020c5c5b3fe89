/-! worlds up to their order; a callee's world at the front -/
theorem wp_mem {D : va_G} {cl : List vw_C} {ws : va_W} {H : Heap} : va_P D cl ws H ↔ ∀ q ∈ ws, va_at D cl q H := by
  constructor
  · intro h q hq
    obtain ⟨k, hk⟩ := List.getElem?_of_mem hq
    exact h k q hk
  · intro h k q hk
    exact h q (List.mem_of_getElem? hk)
theorem wp_perm {D : va_G} {cl : List vw_C} {ws ws' : va_W} {H : Heap} (p : ws.Perm ws') (h : va_P D cl ws H) : va_P D cl ws' H := wp_mem.mpr (fun q hq => wp_mem.mp h q (p.mem_iff.mpr hq))
theorem wd_mem {A : Nat → Prop} {ws : va_W} : va_D A ws ↔ (ws.Pairwise (fun p q => p.1 ≠ q.1)) ∧ ∀ q ∈ ws, A q.1 := by
  constructor
  · intro h
    refine ⟨List.pairwise_iff_getElem.mpr (fun i j hi hj hij e => ?_), fun q hq => ?_⟩
    · have := h.1 i j ws[i] ws[j] (List.getElem?_eq_getElem hi) (List.getElem?_eq_getElem hj) e
      omega
    · obtain ⟨k, hk⟩ := List.getElem?_of_mem hq
      exact h.2 k q hk
  · rintro ⟨h1, h2⟩
    refine ⟨fun i j p q hi hj e => ?_, fun k q hk => h2 q (List.mem_of_getElem? hk)⟩
    obtain ⟨hi', rfl⟩ := List.getElem?_eq_some_iff.mp hi
    obtain ⟨hj', rfl⟩ := List.getElem?_eq_some_iff.mp hj
    have h3 := List.pairwise_iff_getElem.mp h1
    rcases Nat.lt_trichotomy i j with h | h | h
    · exact absurd e (h3 i j hi' hj' h)
    · exact h
    · exact absurd e.symm (h3 j i hj' hi' h)
theorem wd_perm {A : Nat → Prop} {ws ws' : va_W} (p : ws.Perm ws') (h : va_D A ws) : va_D A ws' := by
  obtain ⟨h1, h2⟩ := wd_mem.mp h
  exact wd_mem.mpr ⟨(p.pairwise_iff (fun h => Ne.symm h)).mp h1, fun q hq => h2 q (p.mem_iff.mpr hq)⟩
theorem pm_f {α : Type} {a b c : List α} : (a ++ (b ++ c)).Perm (b ++ (a ++ c)) := by
  rw [← List.append_assoc, ← List.append_assoc]
  exact List.Perm.append_right c List.perm_append_comm
theorem pm_l {α : Type} {a b c : List α} (h : b.Perm c) : (a ++ b).Perm (a ++ c) := List.Perm.append_left a h
theorem wk_front {A : Nat → Prop} {D : va_G} {cl : List vw_C} {wc wr w1 : va_W} {H H1 : Heap} (hP : va_P D cl (wc ++ wr) H) (hD : va_D A (wc ++ wr)) (hk : ∀ q : Nat, q < H.size → ¬ va_A wc H.size q → H1[q]? = H[q]?) (hF : ∀ q, va_A wc H.size q → A q) (hP1 : va_P D cl w1 H1) (hD1 : va_D (va_A wc H.size) w1) : va_P D cl (w1 ++ wr) H1 ∧ va_D A (w1 ++ wr) := by
  rw [wp_mem] at hP hP1
  rw [wd_mem] at hD hD1
  obtain ⟨hD, hA⟩ := hD
  obtain ⟨hD1, hA1⟩ := hD1
  have hc := List.pairwise_append.mp hD
  have hne : ∀ q ∈ wr, ¬ va_A wc H.size q.1 := by
    intro q hq h
    have hlt := (hP q (List.mem_append_right _ hq)).lt
    rcases h with ⟨j, e, hj⟩ | h
    · exact hc.2.2 _ (List.mem_of_getElem? hj) q hq rfl
    · omega
  refine ⟨wp_mem.mpr (fun q hq => ?_), wd_mem.mpr ⟨List.pairwise_append.mpr ⟨hD1, hc.2.1, fun p hp q hq e => ?_⟩, fun q hq => ?_⟩⟩
  · rcases List.mem_append.mp hq with h | h
    · exact hP1 q h
    · exact (hP q (List.mem_append_right _ h)).kept (hk q.1 (hP q (List.mem_append_right _ h)).lt (hne q h))
  · exact hne q hq (by rw [← e]; exact hA1 p hp)
  · rcases List.mem_append.mp hq with h | h
    · exact hF _ (hA1 q h)
    · exact hA q (List.mem_append_right _ h)
section GKF
variable {p : Program} {l : Launch} {e : Env} {R : Room} {s : State} {m : MethodId} {args : Array Value} {below : List Frame} {meth : Method} {c : Code} {H : Heap} {locs : List Loc} {cells slots : Nat} {Q : State → Prop}
variable {cc : ByteArray} {nL : Nat} {own : String} {Ts : List Cond} {ret : Option FieldType} {D : va_G} {t : Nat → ClassId} {κ : Nat → Nat} {A : Nat → Prop} {pc : Nat} {ls : Array Slot} {rest : List Value} {rv : Option Value} {w1 : va_W}
variable {y : MethodName} {bytes : ByteArray} {maxL n index : Nat} {ret' : Option FieldType} {ws' ws'' : List Cond} {rm : Room} {As : List Value} {wc ws wr wf : va_W} {b : Addr} {q0 ci : Nat} {fs : List Value} {q : vw_C}
/-- a call of an instance method: its world is brought to the front, the rest stays -/
theorem gk_F (C : Cxt p s m args meth c cc nL own Ts ret D t κ A) (hM : Ct l D t κ y ws' rm (.ref b :: As) wc rv w1) (hg : GoodIn Ts (wsV own index q.1 y ws')) (hw : ws' = Cond.code y bytes maxL ret' :: ws'') (hrm : rm.cells = 0 ∧ rm.slots = 0)
    (hd : y.cls = q.1 ∧ y.cls ≠ "java/lang/invoke/MethodHandle" ∧ y.cls ≠ "java/lang/invoke/VarHandle" ∧ (parseMethodDescriptor y.desc).map (fun d => d.parameters.length) = some n) (hR : rm.frames + 1 ≤ R.frames ∧ 8 + (maxL + 11) + rm.locals ≤ R.locals)
    (hc : vwCl[ci]? = some q) (he : wc[q0]? = some (b, .inr (ci, fs))) (hP : va_P D vwCl ws H) (hD : va_D A ws) (hS : va_S A s.heap H locs) (hp1 : ws.Perm (wc ++ wr)) (hp2 : (w1 ++ wr).Perm wf)
    (hn : As.length = n) (hl : ls.size = nL) (hroom : (rest.map fun v => v.category).sum ≤ 8) (hdg : decode cc pc = .ok (.invokevirtual index, 3)) (hcl : cells ≤ R.cells) (hsl : slots ≤ R.slots)
    (kk : ∀ (H1 : Heap) (locs1 : List Loc), va_P D vwCl wf H1 → va_D A wf → va_S A s.heap H1 locs1 → W p l e R s m args below meth c H1 locs1 cells slots Q (F0 m (pc + 3) ls (rv.toList ++ rest))) : W p l e R s m args below meth c H locs cells slots Q (F0 m pc ls (As.reverse ++ .ref b :: rest)) := by
  obtain ⟨hx, hb, hr, hml, hown, hts, hC0, hlk, hA⟩ := C
  have hP' := wp_perm hp1 hP
  have hD' := wd_perm hp1 hD
  have hPc : va_P D vwCl wc H := wp_mem.mpr (fun q hq => wp_mem.mp hP' q (List.mem_append_left _ hq))
  have hDc : va_D A wc := wd_mem.mpr ⟨(List.pairwise_append.mp (wd_mem.mp hD').1).1, fun q hq => (wd_mem.mp hD').2 q (List.mem_append_left _ hq)⟩
  have hFc : ∀ q, va_A wc H.size q → A q := by
    intro q hq
    rcases hq with ⟨k, e, hk⟩ | hq
    · exact hDc.2 k _ hk
    · exact hA q (Nat.le_trans hS.1 hq)
  have hpre : PreS s H (gP D t κ (.ref b :: As) wc H.size) (.ref b :: As) := by
    refine ⟨fun a U g mk q => ?_, fun U hU hW => ?_⟩
    · obtain ⟨q0, q1, qP, qD, qC⟩ := q
      exact ⟨q0, q1, qP, qD, qC.call g mk a⟩
    · exact ⟨rfl, by rw [hU], by rw [hU]; exact hPc, hDc.weaken (fun _ _ _ _ => trivial), hC0.go hU hW hS hFc⟩
  refine gk_go (va_runV (As := As) (rest := rest) ⟨hx, hb, hml, hown, hts⟩ (hM H.size) (cwV n hts hg hw hrm.1 hrm.2 hd hR) ⟨hpre.1, va_recv hC0.1 hPc hc he, hpre.2⟩ rfl hn hl rfl (lv_room hroom) hdg ⟨hcl, hsl⟩) hS (fun q _ h => hFc q h) hFc (fun H1 locs1 p1 d1 k1 s1 => ?_)
  obtain ⟨j1, j2⟩ := wk_front hP' hD' k1 hFc p1 d1
  exact kk H1 locs1 (wp_perm hp2 j1) (wd_perm hp2 j2) s1
end GKF
