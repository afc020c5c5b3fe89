/-! PURE: keep, back -/
/-- image k in both -/
def IM (mo im ir is : S2) (k M P : Nat) : Prop := (im 0 0 = 0 ∧ mo 3 k = 0) ∨ (im 0 0 = 1 ∧ mo 3 k = 1 ∧ RA mo ir (59 * (k + 1)) M P ∧ RG ir M P ∧ ir 0 0 = nI M ∧ ir 0 1 = nI P ∧ SN mo is (59 * (k + 1)) P)
/-- all but image k -/
def KF (k : Nat) (mo mo' : S2) : Prop := ∀ a b, ((a ≠ 1 ∧ a ≠ 3) ∨ (a = 3 ∧ b ≠ k) ∨ (a = 1 ∧ (b < 59 * (k + 1) ∨ 59 * (k + 1) + 59 ≤ b))) → mo' a b = mo a b
theorem m59 : ∀ k, k < 2 → (59 : Int32) * (nI k + (1 : Int32)) = nI (59 * (k + 1)) := by decide
theorem win_1 : ∀ k, k < 2 → win (nI k) 0 1 = true := by decide
theorem sim_keep_bad {mo rd sn im ir is cc : S2} {p1 : Int32} (hb : win p1 0 1 = false) : fX8_keep cc rd sn im ir is p1 = some (-1, im, ir, is) ∧ fX9_keep mo p1 = some (-1, mo) := by
  unfold fX8_keep fX9_keep
  rw [w8, bd_s, w9 (lo := 0) (hi := 1) (by decide) (by decide), bd_s, hb]
  exact ⟨rfl, rfl⟩
theorem sim_keep {mo rd sn im ir is cc : S2} {k M P : Nat} (hk : k < 2) (h : RR mo rd M P) (hs : SN mo sn 0 P) (hi : IM mo im ir is k M P) : ∃ v im' ir' is' mo', fX8_keep cc rd sn im ir is (nI k) = some (v, im', ir', is') ∧ fX9_keep mo (nI k) = some (v, mo') ∧ IM mo' im' ir' is' k M P ∧ KF k mo mo' := by
  obtain ⟨ra, rg, hM, hP, m0, m1, r0, r1⟩ := id h
  obtain ⟨d, e1, hc⟩ := pX2_copy (rd := ir) (ro := rd)
  obtain ⟨t, e2, t0, t1⟩ := pX5_copy (sn := is) (so := sn)
  have b1 : vp_nar .boolean (1 : Int32) = 1 := by decide
  have E9 : ∀ f, fX9_flag (mo 3 k) = some f → ∃ mo', fX9_keep mo (nI k) = some (f, mo') ∧ IM mo' (sE im 0 0 1) d t k M P ∧ KF k mo mo' := by
    intro f hf
    obtain ⟨s', e3, q⟩ := pX9_copies (mo := sE mo 3 k 1) (d := 59 * (k + 1)) (s := 0) (by omega) (by omega) (by omega)
    refine ⟨s', ?_, Or.inr ⟨by rw [sE_e], ?_, ?_, RG_cp rg hM hP hc, by rw [hc.2.2.1, r0], by rw [hc.2.2.2.1, r1], ?_⟩, fun a b hab => ?_⟩
    · unfold fX9_keep
      rw [w9 (lo := 0) (hi := 1) (by decide) (by decide), bd_s, win_1 k hk, it_t, gd_n hk (by decide), cl_n (by omega), hf, bd_s, nm_u, b1, m59 k hk, show (0 : Int32) = nI 0 from rfl, e3, bd_s]
    · rw [q, if_neg (by omega), sE_e]
    · refine RA_mv (RA_cp ra hM hP hc) hM hP (fun b hb => ?_)
      rw [q, if_pos ⟨rfl, by omega, by omega⟩, sE_v, if_neg (by omega), show 59 * (k + 1) + b - 59 * (k + 1) = b by omega]
    · refine SN_mv hs (fun b hb => ?_) t0 t1
      rw [q, if_pos ⟨rfl, by omega, by omega⟩, sE_v, if_neg (by omega), show 59 * (k + 1) + b - 59 * (k + 1) = b by omega]
    · rw [q, if_neg (by omega), sE_v, if_neg (by omega)]
  have E8 : fX8_keep cc rd sn im ir is (nI k) = if im 0 0 = 0 then some (0, sE im 0 0 1, d, t) else some (1, sE im 0 0 1, d, t) := by
    unfold fX8_keep fX8_keep_30
    rw [w8, bd_s, win_1 k hk, it_t, gd_n hk (by decide), nm_u, nm_u, e1, bd_s, bd_s, e2, bd_s, bd_s]
  rw [E8]
  rcases hi with ⟨i0, i3⟩ | ⟨i0, i3, _⟩
  · obtain ⟨mo', e, x, y⟩ := E9 0 (by rw [i3]; rfl)
    rw [if_pos i0]
    exact ⟨_, _, _, _, _, rfl, e, x, y⟩
  · obtain ⟨mo', e, x, y⟩ := E9 1 (by rw [i3]; rfl)
    rw [if_neg (by rw [i0]; decide)]
    exact ⟨_, _, _, _, _, rfl, e, x, y⟩
theorem sim_back_bad {mo rd dr sn im ir is cc : S2} {p1 : Int32} (hb : win p1 0 1 = false) : fX8_back cc rd dr sn im ir is p1 = some (-1, rd, dr, sn) ∧ fX9_back mo p1 = some (-1, mo) := by
  unfold fX8_back fX9_back
  rw [w8, bd_s, w9 (lo := 0) (hi := 1) (by decide) (by decide), bd_s, hb]
  exact ⟨rfl, rfl⟩
/-- all but the road and the sightings of now, and what a question may change -/
def BF (mo mo' : S2) : Prop := ∀ a b, ((a = 1 ∧ 59 ≤ b) ∨ a = 3 ∨ a = 5 ∨ (13 ≤ a ∧ a ≤ 15) ∨ (a = 0 ∧ (b ≤ 1 ∨ b = 7 ∨ b = 12 ∨ b = 17))) → mo' a b = mo a b
theorem sim_back {mo rd dr sn im ir is cc : S2} {k M P : Nat} (hk : k < 2) (h : RR mo rd M P) (hs : SN mo sn 0 P) (hi : IM mo im ir is k M P) : ∃ v rd' dr' sn' mo', fX8_back cc rd dr sn im ir is (nI k) = some (v, rd', dr', sn') ∧ fX9_back mo (nI k) = some (v, mo') ∧ RR mo' rd' M P ∧ SN mo' sn' 0 P ∧ BF mo mo' := by
  obtain ⟨ra, rg, hM, hP, m0, m1, r0, r1⟩ := id h
  unfold fX8_back fX9_back
  rw [w8, bd_s, w9 (lo := 0) (hi := 1) (by decide) (by decide), bd_s, win_1 k hk, it_t, it_t, gd_n hk (by decide), gd_n hk (by decide), cl_n (by omega)]
  rcases hi with ⟨i0, i3⟩ | ⟨i0, i3, ja, jg, j0, j1, js⟩
  · rw [if_pos i0, if_pos i3]
    exact ⟨_, _, _, _, _, rfl, rfl, h, hs, fun _ _ _ => rfl⟩
  · obtain ⟨d, e1, hc⟩ := pX2_copy (rd := rd) (ro := ir)
    obtain ⟨t, e2, t0, t1⟩ := pX5_copy (sn := sn) (so := is)
    obtain ⟨s1, e3, q⟩ := pX9_copies (mo := mo) (d := 0) (s := 59 * (k + 1)) (by omega) (by omega) (by omega)
    have hv : ∀ b, b < 59 → s1 1 (0 + b) = mo 1 (59 * (k + 1) + b) := fun b hb => by
      rw [q, if_pos ⟨rfl, by omega, by omega⟩, show 0 + b - 0 = b by omega]
    have R1 : RR s1 d M P := ⟨RA_mv (RA_cp ja hM hP hc) hM hP (fun b hb => hv b (by omega)), RG_cp jg hM hP hc, hM, hP, by rw [q, if_neg (by omega), m0], by rw [q, if_neg (by omega), m1], by rw [hc.2.2.1, j0], by rw [hc.2.2.2.1, j1]⟩
    have N1 : SN s1 t 0 P := SN_mv js hv t0 t1
    obtain ⟨s2, e4, R2, f2⟩ := pX9_startsR R1
    obtain ⟨s3, e5, R3, ⟨_, p3, _⟩, f3⟩ := pX9_howMany R2 hM hP
    obtain ⟨d', e6, d0, _, d3, _⟩ := pX0_runR (dr := dr) R1
    have F3 : SF s1 s3 := SF_t f2 (fun a b hab => f3 a b (by omega) (by omega))
    have x1 : mk4 (d' 1) P = mk4 (s3 6) P := mk4_c P (fun q hq => by rw [(d3 q hq).1, (p3 q hq).2.1])
    rw [if_neg (by rw [i0]; decide), if_neg (by rw [i3]; decide), m59 k hk, e1, bd_s, e2, bd_s, e6, bd_s, pX0_verdicts d0 hP, bd_s, x1, show (0 : Int32) = nI 0 from rfl, e3, bd_s, e4, bd_s, e5, bd_s]
    refine ⟨_, _, _, _, _, rfl, rfl, RR_SF R1 F3, SN_mv N1 (fun b hb => F3 1 (0 + b) (by omega)) rfl (fun i _ => ⟨rfl, rfl⟩), fun a b hab => ?_⟩
    dsimp only
    rw [F3 a b (by omega), q, if_neg (by omega)]
