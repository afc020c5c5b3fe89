/-! PURE: count -/
theorem pX2_muddy {rd : S2} {M : Nat} (h0 : rd 0 0 = nI M) (hM : M ≤ 8) : fX2_muddyMiles rd = some (sm4 (rd 3) M) := by
  unfold fX2_muddyMiles
  have key := wh_f (body := fun (c : Int32 × Int32) => fX2_muddyMiles_b4 rd c.1 c.2) (fun i => (sm4 (rd 3) i, nI i)) (sm4 (rd 3) M, nI M) M (fun i hi => by
    show fX2_muddyMiles_b4 rd (sm4 (rd 3) i) (nI i) = _
    unfold fX2_muddyMiles_b4
    rw [h0, if_neg (nI_ge hi (by omega)), gd_n (by omega) (by decide), nm_u, nm_u, nI_p1, cl_n (by omega)]
    rfl) (by
    show fX2_muddyMiles_b4 rd (sm4 (rd 3) M) (nI M) = _
    unfold fX2_muddyMiles_b4
    rw [h0, if_pos (nI_le (Nat.le_refl _) (by omega))]) (n := 5000) (by omega)
  have e0 : ((0 : Int32), (0 : Int32)) = (sm4 (rd 3) 0, nI 0) := rfl
  rw [e0, key, bd_s]
theorem pX2_windAll {rd : S2} {P : Nat} (h0 : rd 0 1 = nI P) (hP : P ≤ 4) : fX2_windOfAll rd = some (sm4 (rd 5) P) := by
  unfold fX2_windOfAll
  have key := wh_f (body := fun (c : Int32 × Int32) => fX2_windOfAll_b4 rd c.1 c.2) (fun i => (sm4 (rd 5) i, nI i)) (sm4 (rd 5) P, nI P) P (fun i hi => by
    show fX2_windOfAll_b4 rd (sm4 (rd 5) i) (nI i) = _
    unfold fX2_windOfAll_b4
    rw [h0, if_neg (nI_ge hi (by omega)), gd_n (by omega) (by decide), nm_u, nm_u, nI_p1, cl_n (by omega)]
    rfl) (by
    show fX2_windOfAll_b4 rd (sm4 (rd 5) P) (nI P) = _
    unfold fX2_windOfAll_b4
    rw [h0, if_pos (nI_le (Nat.le_refl _) (by omega))]) (n := 5000) (by omega)
  have e0 : ((0 : Int32), (0 : Int32)) = (sm4 (rd 5) 0, nI 0) := rfl
  rw [e0, key, bd_s]
theorem sim_count {mo tp rd sn im0 im1 ir0 ir1 is0 is1 sh cc : S2} {M P : Nat} {p1 : Int32} (h : RR mo rd M P) (ht : TP mo tp) (hs : SN mo sn 0 P) (h0 : IM mo im0 ir0 is0 0 M P) (h1 : IM mo im1 ir1 is1 1 M P) (hh : SH mo sh 0) : ∃ v, fX8_count cc tp rd sn im0 im1 sh p1 = some v ∧ fX9_count mo p1 = some v := by
  obtain ⟨⟨a1, a2, _, _⟩, _, hM, hP, m0, m1, r0, r1⟩ := id h
  simp only [Nat.zero_add] at a1 a2
  unfold fX8_count fX9_count
  have k1 := wh_f (body := fun (c : Int32 × Int32) => fX9_count_b7 mo p1 c.1 (0 : Int32) c.2) (fun i => (sm4 (fun j => mo 1 (3 * j + 2)) i, nI i)) (sm4 (fun j => mo 1 (3 * j + 2)) M, nI M) M (fun i hi => by
    show fX9_count_b7 mo p1 (sm4 (fun j => mo 1 (3 * j + 2)) i) 0 (nI i) = _
    unfold fX9_count_b7
    rw [m0, if_neg (nI_ge hi (by omega)), m3_2 i (by omega), gd_n (by omega) (by decide), nm_u, nm_u, nI_p1, cl_n (by omega)]
    rfl) (by
    show fX9_count_b7 mo p1 (sm4 (fun j => mo 1 (3 * j + 2)) M) 0 (nI M) = _
    unfold fX9_count_b7
    rw [m0, if_pos (nI_le (Nat.le_refl _) (by omega))]) (n := 5000) (by omega)
  have e0 : ((0 : Int32), (0 : Int32)) = (sm4 (fun j => mo 1 (3 * j + 2)) 0, nI 0) := rfl
  rw [e0, k1, bd_s]
  have k2 := wh_f (body := fun (c : Int32 × Int32) => fX9_count_b39 mo p1 (sm4 (fun j => mo 1 (3 * j + 2)) M) c.1 c.2) (fun i => (sm4 (fun j => mo 1 (24 + 5 * j + 1)) i, nI i)) (sm4 (fun j => mo 1 (24 + 5 * j + 1)) P, nI P) P (fun i hi => by
    show fX9_count_b39 mo p1 _ (sm4 (fun j => mo 1 (24 + 5 * j + 1)) i) (nI i) = _
    unfold fX9_count_b39
    rw [m1, if_neg (nI_ge hi (by omega)), m5_1 i (by omega), gd_n (by omega) (by decide), nm_u, nm_u, nI_p1, cl_n (by omega)]
    rfl) (by
    show fX9_count_b39 mo p1 _ (sm4 (fun j => mo 1 (24 + 5 * j + 1)) P) (nI P) = _
    unfold fX9_count_b39
    rw [m1, if_pos (nI_le (Nat.le_refl _) (by omega))]) (n := 5000) (by omega)
  have e1 : (sm4 (fun j => mo 1 (3 * j + 2)) 0, nI 0) = (sm4 (fun j => mo 1 (24 + 5 * j + 1)) 0, nI 0) := rfl
  rw [e1]
  dsimp only at k2 ⊢
  rw [k2, bd_s, pX2_muddy r0 hM, bd_s, pX2_windAll r1 hP, bd_s]
  have x1 : sm4 (rd 3) M = sm4 (fun j => mo 1 (3 * j + 2)) M := sm4_c M (fun j hj => (a1 j hj).2.2.symm)
  have x2 : sm4 (rd 5) P = sm4 (fun j => mo 1 (24 + 5 * j + 1)) P := sm4_c P (fun j hj => (a2 j hj).2.1.symm)
  rw [x1, x2]
  by_cases c0 : p1 = 0
  · rw [if_pos c0, if_pos c0]; exact ⟨_, rfl, rfl⟩
  rw [if_neg c0, if_neg c0]
  by_cases c1 : p1 = 1
  · obtain ⟨n, _, s1, s2, _⟩ := hs
    rw [if_pos c1, if_pos c1, s2, show Int32.toNatClampNeg (46 : Int32) = 46 from rfl, show mo 1 46 = nI n from s1]; exact ⟨_, rfl, rfl⟩
  rw [if_neg c1, if_neg c1]
  by_cases c2 : p1 = 2
  · rw [if_pos c2, if_pos c2, show Int32.toNatClampNeg (0 : Int32) = 0 from rfl, show Int32.toNatClampNeg (1 : Int32) = 1 from rfl]
    unfold fX8_imagesThere fX8_imagesThere_27 fX8_imagesThere_27_2
    rcases h0 with ⟨i0, i1⟩ | ⟨i0, i1, _⟩ <;> rcases h1 with ⟨j0, j1⟩ | ⟨j0, j1, _⟩ <;> rw [i0, i1, j0, j1] <;> exact ⟨_, rfl, rfl⟩
  rw [if_neg c2, if_neg c2]
  by_cases c3 : p1 = 3
  · obtain ⟨n, _, t1, t2, _⟩ := ht
    rw [if_pos c3, if_pos c3, t1, t2]; exact ⟨_, rfl, rfl⟩
  rw [if_neg c3, if_neg c3]
  by_cases c4 : p1 = 4
  · rw [if_pos c4, if_pos c4, show Int32.toNatClampNeg (0 : Int32) = 0 from rfl]
    rcases hh with ⟨s0, s1⟩ | ⟨s0, _, s2, s3, _⟩
    · rw [if_pos s0, if_pos s1]; exact ⟨_, rfl, rfl⟩
    · rw [if_neg (by rw [s0]; decide), if_neg (fun e => by rw [e] at s2; exact absurd s2 (by decide)), s3]; exact ⟨_, rfl, rfl⟩
  rw [if_neg c4, if_neg c4]
  by_cases c5 : p1 = 5
  · rw [if_pos c5]; exact ⟨_, rfl, rfl⟩
  rw [if_neg c5]; exact ⟨_, rfl, rfl⟩
