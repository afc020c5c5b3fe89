/-! what the law keeps between the court and its reference -/
def gset (G : Nat → S2) (k : Nat) (v : S2) : Nat → S2 := fun i => if i = k then v else G i
def IVm (M P : Nat) (mo : S2) (G : Nat → S2) : Prop := RR mo (G 3) M P ∧ TP mo (G 1) ∧ SN mo (G 7) 0 P ∧ IM mo (G 9) (G 10) (G 11) 0 M P ∧ IM mo (G 12) (G 13) (G 14) 1 M P ∧ SH mo (G 16) 0 ∧ SH mo (G 17) 1 ∧ SH mo (G 18) 2 ∧ SH mo (G 19) 3 ∧ G 0 0 0 = mo 0 17 ∧ G 6 2 4 = 0
def Inv (G : Nat → S2) : Prop := ∃ M P, IVm M P (G 20) G
theorem rr_f {mo mo' rd : S2} {M P : Nat} (h : RR mo rd M P) (h1 : ∀ b, b < 46 → mo' 1 b = mo 1 b) (h2 : mo' 0 0 = mo 0 0) (h3 : mo' 0 1 = mo 0 1) : RR mo' rd M P := by
  obtain ⟨r1, r2, r3, r4, r5, r6, r7, r8⟩ := h
  exact ⟨RA_mv r1 r3 r4 (fun b hb => by rw [Nat.zero_add]; exact h1 b hb), r2, r3, r4, h2.trans r5, h3.trans r6, r7, r8⟩
theorem tp_f {mo mo' tp : S2} (h : TP mo tp) (h1 : ∀ b, mo' 5 b = mo 5 b) (h2 : mo' 0 7 = mo 0 7) (h3 : mo' 0 12 = mo 0 12) : TP mo' tp := by
  obtain ⟨n, r1, r2, r3, r4, r5⟩ := h
  exact ⟨n, r1, h2.trans r2, r3, fun i hi => by rw [h1]; exact r4 i hi, r5.trans h3.symm⟩
theorem sn_f {mo mo' sn : S2} {o P : Nat} (h : SN mo sn o P) (h1 : ∀ b, o ≤ b → b < o + 59 → mo' 1 b = mo 1 b) : SN mo' sn o P := SN_mv h (fun b hb => h1 _ (by omega) (by omega)) rfl (fun _ _ => ⟨rfl, rfl⟩)
theorem im_f {mo mo' im ir is : S2} {k M P : Nat} (h : IM mo im ir is k M P) (hM : M ≤ 8) (hP : P ≤ 4) (h3 : mo' 3 k = mo 3 k) (h1 : ∀ b, 59 * (k + 1) ≤ b → b < 59 * (k + 1) + 59 → mo' 1 b = mo 1 b) : IM mo' im ir is k M P := by
  rcases h with ⟨r1, r2⟩ | ⟨r1, r2, r3, r4, r5, r6, r7⟩
  · exact Or.inl ⟨r1, h3.trans r2⟩
  · exact Or.inr ⟨r1, h3.trans r2, RA_mv r3 hM hP (fun b hb => h1 _ (by omega) (by omega)), r4, r5, r6, sn_f r7 h1⟩
theorem sh_f {mo mo' sh : S2} {k : Nat} (h : SH mo sh k) (h1 : mo' 13 k = mo 13 k) (h2 : mo' 14 k = mo 14 k) (h3 : ∀ b, 40 * k ≤ b → b < 40 * k + 40 → mo' 15 b = mo 15 b) : SH mo' sh k := by
  unfold SH at h ⊢
  rw [h1, h2]
  rcases h with h | ⟨r1, r2, r3, r4, r5, r6⟩
  · exact Or.inl h
  · exact Or.inr ⟨r1, r2, r3, r4, r5, fun j hj => by rw [h3 _ (by omega) (by omega)]; exact r6 j hj⟩
theorem RR.m8 {mo rd : S2} {M P : Nat} (h : RR mo rd M P) : M ≤ 8 := h.2.2.1
theorem RR.p4 {mo rd : S2} {M P : Nat} (h : RR mo rd M P) : P ≤ 4 := h.2.2.2.1
section
variable {M P : Nat} {mo mo' : S2} {G : Nat → S2}
theorem iv_SF (h : IVm M P mo G) (f : SF mo mo') : IVm M P mo' G := by
  obtain ⟨a1, a2, a3, a4, a5, a6, a7, a8, a9, a10, a11⟩ := h
  have g1 : ∀ b, mo' 1 b = mo 1 b := fun b => f 1 b (by omega)
  have g3 : ∀ b, mo' 3 b = mo 3 b := fun b => f 3 b (by omega)
  refine ⟨rr_f a1 (fun b _ => g1 b) (f 0 0 (by omega)) (f 0 1 (by omega)), tp_f a2 (fun b => f 5 b (by omega)) (f 0 7 (by omega)) (f 0 12 (by omega)), sn_f a3 (fun b _ _ => g1 b), im_f a4 a1.m8 a1.p4 (g3 _) (fun b _ _ => g1 b), im_f a5 a1.m8 a1.p4 (g3 _) (fun b _ _ => g1 b), sh_f a6 (f _ _ (by omega)) (f _ _ (by omega)) (fun b _ _ => f _ _ (by omega)), sh_f a7 (f _ _ (by omega)) (f _ _ (by omega)) (fun b _ _ => f _ _ (by omega)), sh_f a8 (f _ _ (by omega)) (f _ _ (by omega)) (fun b _ _ => f _ _ (by omega)), sh_f a9 (f _ _ (by omega)) (f _ _ (by omega)) (fun b _ _ => f _ _ (by omega)), a10.trans (f 0 17 (by omega)).symm, a11⟩
theorem iv_RF {rd' : S2} (h : IVm M P mo G) (f : RF mo mo') (hr : RR mo' rd' M P) : IVm M P mo' (gset G 3 rd') := by
  obtain ⟨a1, a2, a3, a4, a5, a6, a7, a8, a9, a10, a11⟩ := h
  exact ⟨hr, tp_f a2 (fun b => f 5 b (by omega)) (f 0 7 (by omega)) (f 0 12 (by omega)), (by
    obtain ⟨n, r1, r2, r3, r4⟩ := a3
    exact ⟨n, r1, (f _ _ (by omega)).trans r2, r3, fun i hi => by rw [f 1 _ (by omega), f 1 _ (by omega)]; exact r4 i hi⟩), im_f a4 a1.m8 a1.p4 (f _ _ (by omega)) (fun b _ _ => f _ _ (by omega)), im_f a5 a1.m8 a1.p4 (f _ _ (by omega)) (fun b _ _ => f _ _ (by omega)), sh_f a6 (f _ _ (by omega)) (f _ _ (by omega)) (fun b _ _ => f _ _ (by omega)), sh_f a7 (f _ _ (by omega)) (f _ _ (by omega)) (fun b _ _ => f _ _ (by omega)), sh_f a8 (f _ _ (by omega)) (f _ _ (by omega)) (fun b _ _ => f _ _ (by omega)), sh_f a9 (f _ _ (by omega)) (f _ _ (by omega)) (fun b _ _ => f _ _ (by omega)), a10.trans (f 0 17 (by omega)).symm, a11⟩
theorem iv_XF {rd' cc' : S2} (h : IVm M P mo G) (f : XF mo mo') (hr : RR mo' rd' M P) (ht : cc' 0 0 = mo' 0 17) : IVm M P mo' (gset (gset G 0 cc') 3 rd') := by
  obtain ⟨a1, a2, a3, a4, a5, a6, a7, a8, a9, a10, a11⟩ := h
  have f : ∀ a b, (a ≠ 1 ∨ 46 ≤ b) ∧ a ≠ 16 ∧ (a ≠ 0 ∨ b ≠ 17) → mo' a b = mo a b := fun a b h => f a b h.1 h.2.1 h.2.2
  exact ⟨hr, tp_f a2 (fun b => f 5 b (by omega)) (f 0 7 (by omega)) (f 0 12 (by omega)), (by
    obtain ⟨n, r1, r2, r3, r4⟩ := a3
    exact ⟨n, r1, (f _ _ (by omega)).trans r2, r3, fun i hi => by rw [f 1 _ (by omega), f 1 _ (by omega)]; exact r4 i hi⟩), im_f a4 a1.m8 a1.p4 (f _ _ (by omega)) (fun b _ _ => f _ _ (by omega)), im_f a5 a1.m8 a1.p4 (f _ _ (by omega)) (fun b _ _ => f _ _ (by omega)), sh_f a6 (f _ _ (by omega)) (f _ _ (by omega)) (fun b _ _ => f _ _ (by omega)), sh_f a7 (f _ _ (by omega)) (f _ _ (by omega)) (fun b _ _ => f _ _ (by omega)), sh_f a8 (f _ _ (by omega)) (f _ _ (by omega)) (fun b _ _ => f _ _ (by omega)), sh_f a9 (f _ _ (by omega)) (f _ _ (by omega)) (fun b _ _ => f _ _ (by omega)), ht, a11⟩
theorem iv_FF {tp' : S2} (h : IVm M P mo G) (f : FF mo mo') (hr : TP mo' tp') : IVm M P mo' (gset G 1 tp') := by
  obtain ⟨a1, a2, a3, a4, a5, a6, a7, a8, a9, a10, a11⟩ := h
  have f : ∀ a b, a ≠ 5 ∧ (a ≠ 0 ∨ b ≠ 7) → mo' a b = mo a b := fun a b h => f a b h.1 h.2
  exact ⟨rr_f a1 (fun b _ => f _ _ (by omega)) (f 0 0 (by omega)) (f 0 1 (by omega)), hr, sn_f a3 (fun b _ _ => f _ _ (by omega)), im_f a4 a1.m8 a1.p4 (f _ _ (by omega)) (fun b _ _ => f _ _ (by omega)), im_f a5 a1.m8 a1.p4 (f _ _ (by omega)) (fun b _ _ => f _ _ (by omega)), sh_f a6 (f _ _ (by omega)) (f _ _ (by omega)) (fun b _ _ => f _ _ (by omega)), sh_f a7 (f _ _ (by omega)) (f _ _ (by omega)) (fun b _ _ => f _ _ (by omega)), sh_f a8 (f _ _ (by omega)) (f _ _ (by omega)) (fun b _ _ => f _ _ (by omega)), sh_f a9 (f _ _ (by omega)) (f _ _ (by omega)) (fun b _ _ => f _ _ (by omega)), a10.trans (f 0 17 (by omega)).symm, a11⟩
theorem iv_NF {sn' : S2} (h : IVm M P mo G) (f : NF mo mo') (hr : SN mo' sn' 0 P) : IVm M P mo' (gset G 7 sn') := by
  obtain ⟨a1, a2, a3, a4, a5, a6, a7, a8, a9, a10, a11⟩ := h
  exact ⟨rr_f a1 (fun b _ => f _ _ (by omega)) (f 0 0 (by omega)) (f 0 1 (by omega)), tp_f a2 (fun b => f 5 b (by omega)) (f 0 7 (by omega)) (f 0 12 (by omega)), hr, im_f a4 a1.m8 a1.p4 (f _ _ (by omega)) (fun b _ _ => f _ _ (by omega)), im_f a5 a1.m8 a1.p4 (f _ _ (by omega)) (fun b _ _ => f _ _ (by omega)), sh_f a6 (f _ _ (by omega)) (f _ _ (by omega)) (fun b _ _ => f _ _ (by omega)), sh_f a7 (f _ _ (by omega)) (f _ _ (by omega)) (fun b _ _ => f _ _ (by omega)), sh_f a8 (f _ _ (by omega)) (f _ _ (by omega)) (fun b _ _ => f _ _ (by omega)), sh_f a9 (f _ _ (by omega)) (f _ _ (by omega)) (fun b _ _ => f _ _ (by omega)), a10.trans (f 0 17 (by omega)).symm, a11⟩
theorem iv_BF {rd' sn' : S2} (h : IVm M P mo G) (f : BF mo mo') (hr : RR mo' rd' M P) (hs : SN mo' sn' 0 P) : IVm M P mo' (gset (gset G 3 rd') 7 sn') := by
  obtain ⟨a1, a2, a3, a4, a5, a6, a7, a8, a9, a10, a11⟩ := h
  exact ⟨hr, tp_f a2 (fun b => f 5 b (by omega)) (f 0 7 (by omega)) (f 0 12 (by omega)), hs, im_f a4 a1.m8 a1.p4 (f _ _ (by omega)) (fun b _ _ => f _ _ (by omega)), im_f a5 a1.m8 a1.p4 (f _ _ (by omega)) (fun b _ _ => f _ _ (by omega)), sh_f a6 (f _ _ (by omega)) (f _ _ (by omega)) (fun b _ _ => f _ _ (by omega)), sh_f a7 (f _ _ (by omega)) (f _ _ (by omega)) (fun b _ _ => f _ _ (by omega)), sh_f a8 (f _ _ (by omega)) (f _ _ (by omega)) (fun b _ _ => f _ _ (by omega)), sh_f a9 (f _ _ (by omega)) (f _ _ (by omega)) (fun b _ _ => f _ _ (by omega)), a10.trans (f 0 17 (by omega)).symm, a11⟩
theorem iv_K0 {im' ir' is' : S2} (h : IVm M P mo G) (f : KF 0 mo mo') (hr : IM mo' im' ir' is' 0 M P) : IVm M P mo' (gset (gset (gset G 9 im') 10 ir') 11 is') := by
  obtain ⟨a1, a2, a3, a4, a5, a6, a7, a8, a9, a10, a11⟩ := h
  exact ⟨rr_f a1 (fun b _ => f _ _ (by omega)) (f 0 0 (by omega)) (f 0 1 (by omega)), tp_f a2 (fun b => f 5 b (by omega)) (f 0 7 (by omega)) (f 0 12 (by omega)), sn_f a3 (fun b _ _ => f _ _ (by omega)), hr, im_f a5 a1.m8 a1.p4 (f _ _ (by omega)) (fun b _ _ => f _ _ (by omega)), sh_f a6 (f _ _ (by omega)) (f _ _ (by omega)) (fun b _ _ => f _ _ (by omega)), sh_f a7 (f _ _ (by omega)) (f _ _ (by omega)) (fun b _ _ => f _ _ (by omega)), sh_f a8 (f _ _ (by omega)) (f _ _ (by omega)) (fun b _ _ => f _ _ (by omega)), sh_f a9 (f _ _ (by omega)) (f _ _ (by omega)) (fun b _ _ => f _ _ (by omega)), a10.trans (f 0 17 (by omega)).symm, a11⟩
theorem iv_K1 {im' ir' is' : S2} (h : IVm M P mo G) (f : KF 1 mo mo') (hr : IM mo' im' ir' is' 1 M P) : IVm M P mo' (gset (gset (gset G 12 im') 13 ir') 14 is') := by
  obtain ⟨a1, a2, a3, a4, a5, a6, a7, a8, a9, a10, a11⟩ := h
  exact ⟨rr_f a1 (fun b _ => f _ _ (by omega)) (f 0 0 (by omega)) (f 0 1 (by omega)), tp_f a2 (fun b => f 5 b (by omega)) (f 0 7 (by omega)) (f 0 12 (by omega)), sn_f a3 (fun b _ _ => f _ _ (by omega)), im_f a4 a1.m8 a1.p4 (f _ _ (by omega)) (fun b _ _ => f _ _ (by omega)), hr, sh_f a6 (f _ _ (by omega)) (f _ _ (by omega)) (fun b _ _ => f _ _ (by omega)), sh_f a7 (f _ _ (by omega)) (f _ _ (by omega)) (fun b _ _ => f _ _ (by omega)), sh_f a8 (f _ _ (by omega)) (f _ _ (by omega)) (fun b _ _ => f _ _ (by omega)), sh_f a9 (f _ _ (by omega)) (f _ _ (by omega)) (fun b _ _ => f _ _ (by omega)), a10.trans (f 0 17 (by omega)).symm, a11⟩
theorem iv_H {k : Nat} {sh' : S2} (hk : k < 4) (h : IVm M P mo G) (f : HF k mo mo') (hr : SH mo' sh' k) : IVm M P mo' (gset G (16 + k) sh') := by
  obtain ⟨a1, a2, a3, a4, a5, a6, a7, a8, a9, a10, a11⟩ := h
  have b1 : RR mo' (G 3) M P := rr_f a1 (fun b _ => f _ _ (by omega)) (f 0 0 (by omega)) (f 0 1 (by omega))
  have b2 : TP mo' (G 1) := tp_f a2 (fun b => f 5 b (by omega)) (f 0 7 (by omega)) (f 0 12 (by omega))
  have b3 : SN mo' (G 7) 0 P := sn_f a3 (fun b _ _ => f _ _ (by omega))
  have b4 : IM mo' (G 9) (G 10) (G 11) 0 M P := im_f a4 a1.m8 a1.p4 (f _ _ (by omega)) (fun b _ _ => f _ _ (by omega))
  have b5 : IM mo' (G 12) (G 13) (G 14) 1 M P := im_f a5 a1.m8 a1.p4 (f _ _ (by omega)) (fun b _ _ => f _ _ (by omega))
  have b10 : G 0 0 0 = mo' 0 17 := a10.trans (f 0 17 (by omega)).symm
  have s : ∀ j sh, j ≠ k → SH mo sh j → SH mo' sh j := fun j sh hj hs => sh_f hs (f _ _ (by omega)) (f _ _ (by omega)) (fun b _ _ => f _ _ (by omega))
  rcases (show k = 0 ∨ k = 1 ∨ k = 2 ∨ k = 3 by omega) with rfl | rfl | rfl | rfl
  · exact ⟨b1, b2, b3, b4, b5, hr, s 1 _ (by omega) a7, s 2 _ (by omega) a8, s 3 _ (by omega) a9, b10, a11⟩
  · exact ⟨b1, b2, b3, b4, b5, s 0 _ (by omega) a6, hr, s 2 _ (by omega) a8, s 3 _ (by omega) a9, b10, a11⟩
  · exact ⟨b1, b2, b3, b4, b5, s 0 _ (by omega) a6, s 1 _ (by omega) a7, hr, s 3 _ (by omega) a9, b10, a11⟩
  · exact ⟨b1, b2, b3, b4, b5, s 0 _ (by omega) a6, s 1 _ (by omega) a7, s 2 _ (by omega) a8, hr, b10, a11⟩
theorem iv_text {M' P' : Nat} {tp' tl' rd' td' sn' im0' im1' : S2} (h : IVm M P mo G) (hr : RR mo' rd' M' P') (ht : TP mo' tp') (f : QF mo mo') (hc : (M' = M ∧ P' = P ∧ sn' = G 7 ∧ im0' = G 9 ∧ im1' = G 12 ∧ (∀ b, mo' 1 b = mo 1 b) ∧ ∀ b, mo' 3 b = mo 3 b) ∨ (SN mo' sn' 0 P' ∧ im0' 0 0 = 0 ∧ mo' 3 0 = 0 ∧ im1' 0 0 = 0 ∧ mo' 3 1 = 0)) : IVm M' P' mo' (gset (gset (gset (gset (gset (gset (gset G 1 tp') 2 tl') 3 rd') 4 td') 7 sn') 9 im0') 12 im1') := by
  obtain ⟨a1, a2, a3, a4, a5, a6, a7, a8, a9, a10, a11⟩ := h
  have b6 : SH mo' (G 16) 0 := sh_f a6 (f _ _ (by omega)) (f _ _ (by omega)) (fun b _ _ => f _ _ (by omega))
  have b7 : SH mo' (G 17) 1 := sh_f a7 (f _ _ (by omega)) (f _ _ (by omega)) (fun b _ _ => f _ _ (by omega))
  have b8 : SH mo' (G 18) 2 := sh_f a8 (f _ _ (by omega)) (f _ _ (by omega)) (fun b _ _ => f _ _ (by omega))
  have b9 : SH mo' (G 19) 3 := sh_f a9 (f _ _ (by omega)) (f _ _ (by omega)) (fun b _ _ => f _ _ (by omega))
  have b10 : G 0 0 0 = mo' 0 17 := a10.trans (f 0 17 (by omega)).symm
  rcases hc with ⟨rfl, rfl, rfl, rfl, rfl, g1, g3⟩ | ⟨c1, c2, c3, c4, c5⟩
  · exact ⟨hr, ht, sn_f a3 (fun b _ _ => g1 b), im_f a4 a1.m8 a1.p4 (g3 _) (fun b _ _ => g1 b), im_f a5 a1.m8 a1.p4 (g3 _) (fun b _ _ => g1 b), b6, b7, b8, b9, b10, a11⟩
  · exact ⟨hr, ht, c1, Or.inl ⟨c2, c3⟩, Or.inl ⟨c4, c5⟩, b6, b7, b8, b9, b10, a11⟩
end
