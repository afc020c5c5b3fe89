/-! PURE: roads that are only tried: the reference's row 2 against a road -/
theorem RM_cp {mo d ro : S2} {M P : Nat} (h : RM mo ro M P) (hM : M ≤ 8) (hP : P ≤ 4) (hc : CP d ro) : RM mo d M P := by
  obtain ⟨a1, a2, a3, a4, a5, a6⟩ := h
  obtain ⟨c1, c2, _, _, c5, c6⟩ := hc
  refine ⟨fun j hj => ?_, fun p hp => ?_, ?_, ?_, a5, a6⟩
  · obtain ⟨x1, x2, x3⟩ := c1 j (by omega)
    rw [x1, x2, x3]; exact a1 j hj
  · obtain ⟨x1, x2, x3, x4, x5⟩ := c2 p (by omega)
    rw [x1, x2, x3, x4, x5]; exact a2 p hp
  · rw [c5]; exact a3
  · rw [c6]; exact a4
theorem RM_mile {mo rd : S2} {M P j k : Nat} {v : Int32} (h : RM mo rd M P) (hM : M ≤ 8) (hP : P ≤ 4) (hj : j < M) (hk : k ≤ 2) : RM (sE mo 2 (3 * j + k) v) (sE rd (k + 1) j v) M P := by
  obtain ⟨a1, a2, a3, a4, a5, a6⟩ := h
  refine ⟨fun i hi => ⟨?_, ?_, ?_⟩, fun p hp => ⟨?_, ?_, ?_, ?_, ?_⟩, ?_, ?_, ?_, ?_⟩
  · rw [sE_v, sE_v]; exact ifc (by omega) (a1 i hi).1
  · rw [sE_v, sE_v]; exact ifc (by omega) (a1 i hi).2.1
  · rw [sE_v, sE_v]; exact ifc (by omega) (a1 i hi).2.2
  · rw [sE_v, sE_v]; exact ifc (by omega) (a2 p hp).1
  · rw [sE_v, sE_v]; exact ifc (by omega) (a2 p hp).2.1
  · rw [sE_v, sE_v]; exact ifc (by omega) (a2 p hp).2.2.1
  · rw [sE_v, sE_v]; exact ifc (by omega) (a2 p hp).2.2.2.1
  · rw [sE_v, sE_v]; exact ifc (by omega) (a2 p hp).2.2.2.2
  · rw [sE_v, sE_v]; exact ifc (by omega) a3
  · rw [sE_v, sE_v]; exact ifc (by omega) a4
  · rw [sE_v, if_neg (by omega)]; exact a5
  · rw [sE_v, if_neg (by omega)]; exact a6
theorem RM_party {mo rd : S2} {M P p k : Nat} {v : Int32} (h : RM mo rd M P) (hM : M ≤ 8) (hP : P ≤ 4) (hp : p < P) (hk : k ≤ 4) : RM (sE mo 2 (24 + 5 * p + k) v) (sE rd (k + 4) p v) M P := by
  obtain ⟨a1, a2, a3, a4, a5, a6⟩ := h
  refine ⟨fun i hi => ⟨?_, ?_, ?_⟩, fun q hq => ⟨?_, ?_, ?_, ?_, ?_⟩, ?_, ?_, ?_, ?_⟩
  · rw [sE_v, sE_v]; exact ifc (by omega) (a1 i hi).1
  · rw [sE_v, sE_v]; exact ifc (by omega) (a1 i hi).2.1
  · rw [sE_v, sE_v]; exact ifc (by omega) (a1 i hi).2.2
  · rw [sE_v, sE_v]; exact ifc (by omega) (a2 q hq).1
  · rw [sE_v, sE_v]; exact ifc (by omega) (a2 q hq).2.1
  · rw [sE_v, sE_v]; exact ifc (by omega) (a2 q hq).2.2.1
  · rw [sE_v, sE_v]; exact ifc (by omega) (a2 q hq).2.2.2.1
  · rw [sE_v, sE_v]; exact ifc (by omega) (a2 q hq).2.2.2.2
  · rw [sE_v, sE_v]; exact ifc (by omega) a3
  · rw [sE_v, sE_v]; exact ifc (by omega) a4
  · rw [sE_v, if_neg (by omega)]; exact a5
  · rw [sE_v, if_neg (by omega)]; exact a6
theorem RM_set {mo rd : S2} {M P k : Nat} {v : Int32} (h : RM mo rd M P) (hM : M ≤ 8) (hP : P ≤ 4) (hk : k = 2 ∨ k = 3) : RM (sE mo 2 (42 + k) v) (sE rd 0 k v) M P := by
  obtain ⟨a1, a2, a3, a4, a5, a6⟩ := h
  refine ⟨fun i hi => ⟨?_, ?_, ?_⟩, fun q hq => ⟨?_, ?_, ?_, ?_, ?_⟩, ?_, ?_, ?_, ?_⟩
  · rw [sE_v, sE_v]; exact ifc (by omega) (a1 i hi).1
  · rw [sE_v, sE_v]; exact ifc (by omega) (a1 i hi).2.1
  · rw [sE_v, sE_v]; exact ifc (by omega) (a1 i hi).2.2
  · rw [sE_v, sE_v]; exact ifc (by omega) (a2 q hq).1
  · rw [sE_v, sE_v]; exact ifc (by omega) (a2 q hq).2.1
  · rw [sE_v, sE_v]; exact ifc (by omega) (a2 q hq).2.2.1
  · rw [sE_v, sE_v]; exact ifc (by omega) (a2 q hq).2.2.2.1
  · rw [sE_v, sE_v]; exact ifc (by omega) (a2 q hq).2.2.2.2
  · rw [sE_v, sE_v]; exact ifc (by omega) a3
  · rw [sE_v, sE_v]; exact ifc (by omega) a4
  · rw [sE_v, if_neg (by omega)]; exact a5
  · rw [sE_v, if_neg (by omega)]; exact a6
/-- a road that can be driven -/
def RQ (rd : S2) (M P : Nat) : Prop := rd 0 0 = nI M ∧ rd 0 1 = nI P ∧ M ≤ 8 ∧ P ≤ 4 ∧ ∀ p, p < P → ∃ f, rd 8 p = nI f ∧ f < 8
theorem RQ_run {rd dr : S2} {M P : Nat} (h : RQ rd M P) : ∃ d', fX0_run dr rd = some d' ∧ drPost rd P (dvn rd M) d' := pX0_run h.1 h.2.2.1 h.2.1 h.2.2.2.1 h.2.2.2.2
theorem RQ_RR {mo rd : S2} {M P : Nat} (h : RR mo rd M P) : RQ rd M P := ⟨h.2.2.2.2.2.2.1, h.2.2.2.2.2.2.2, h.2.2.1, h.2.2.2.1, fun p hp => by
  obtain ⟨f, hf, hl⟩ := (h.2.1.2.1 p hp).2.2.2.2
  have := h.2.2.1
  exact ⟨f, hf, by omega⟩⟩
theorem RQ_cp {d ro : S2} {M P : Nat} (h : RQ ro M P) (hc : CP d ro) : RQ d M P := by
  obtain ⟨h0, h1, hM, hP, hs⟩ := h
  refine ⟨by rw [hc.2.2.1, h0], by rw [hc.2.2.2.1, h1], hM, hP, fun p hp => ?_⟩
  rw [(hc.2.1 p (by omega)).2.2.2.2]
  exact hs p hp
/-- one road, tried by both: verdicts, falls, heard, left agree -/
theorem try_eq {s d rd : S2} {P D p : Nat} (hm : moPost rd P D s) (hd : drPost rd P D d) (hp : p < P) : d 1 p = s 6 p ∧ d 2 p = s 7 p ∧ d 3 p = s 8 p ∧ d 4 p = s 9 p := by
  obtain ⟨x1, x2, x3, x4⟩ := hd.2.2.1 p hp
  obtain ⟨_, y1, y2, y3, y4⟩ := hm.2.1 p hp
  exact ⟨by rw [x1, y1], by rw [x2, y2], by rw [x3, y3], by rw [x4, y4]⟩
theorem try_mk {s d rd : S2} {P D : Nat} (hm : moPost rd P D s) (hd : drPost rd P D d) : mk4 (d 1) P = mk4 (s 6) P := mk4_c P (fun _ hq => (try_eq hm hd hq).1)
