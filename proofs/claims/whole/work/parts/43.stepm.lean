/-! ===== a step of the reference ===== -/
section SM
variable {S A Q : rb_S} {x y z t v px py pz : Int32} {K0 : rb_S → Prop} {a i n o : Nat}
theorem ru_id (S : rb_S) (g j : Nat) : rb_u S g j (S g j) = S := by
  funext g' j'
  by_cases hg : g' = g
  · subst hg
    by_cases hj : j' = j
    · rw [hj, ru_s]
    · rw [ru_j hj]
  · rw [ru_g hg]
theorem pv_nle {x y : Int32} : ¬ y ≤ x ↔ x < y := by
  rw [Int32.le_iff_toInt_le, Int32.lt_iff_toInt_lt]
  omega
theorem am_ld05 (p : Int32) (A : rb_S) : am_ld p A 0 5 = A 0 5 := by
  unfold am_ld
  by_cases e : 16 ≤ p
  · rw [if_pos e]; rfl
  · rw [if_neg e]
theorem am_ld0 (p : Int32) (A : rb_S) : am_ld p A 0 0 = A 0 0 := by
  unfold am_ld
  by_cases e : 16 ≤ p
  · rw [if_pos e]; rfl
  · rw [if_neg e]

theorem rM_s0 (h : rM Q A i S) (ha : a < 64) (ea : A 0 0 = nI a) (c0 : Q 24 (4 * a) = 0) (c1 : Q 24 (4 * a + 1) = x) (c2 : Q 24 (4 * a + 2) = y) (c3 : Q 24 (4 * a + 3) = z) (hx : ¬ x < 0 ∧ ¬ 16 ≤ x) (ex : Q 31 x.toNatClampNeg = px) (lx : iv_pl px) (hK : ∀ S' : rb_S, rM Q (am_put px y (am_n A)) (i + 1) S' → K0 S') : mo_step_p_0 K0 S := by
  have g24 : S 24 = Q 24 := h.1 24 (by decide) (by decide) (by decide) (by decide) (by decide) (by decide)
  have e6 : S 1 6 = nI a := h.2.2.1.1.trans ea
  have i0 : (4 * S 1 6 : Int32) = nI (4 * a) := by rw [e6, show (4 : Int32) = nI 4 from rfl, pk_mul]
  have i1 : (4 * S 1 6 + 1 : Int32) = nI (4 * a + 1) := by rw [i0, nI_succ]
  have i2 : (4 * S 1 6 + 2 : Int32) = nI (4 * a + 2) := by rw [i0, show (2 : Int32) = nI 2 from rfl, nI_add]
  have i3 : (4 * S 1 6 + 3 : Int32) = nI (4 * a + 3) := by rw [i0, show (3 : Int32) = nI 3 from rfl, nI_add]
  unfold mo_step_p_0
  rw [i1, i2, i3, i0, nI_clamp (by omega), nI_clamp (by omega), nI_clamp (by omega), nI_clamp (by omega), g24, c0, c1, c2, c3]
  refine ⟨vp_in_nI (by omega) (by decide), fun v11 q11 => ⟨vp_in_nI (by omega) (by decide), fun v25 q25 => ⟨vp_in_nI (by omega) (by decide), fun v39 q39 => ⟨vp_in_nI (by omega) (by decide), fun v53 q53 S62 q62 S72 q72 => ?_⟩⟩⟩⟩
  subst q11 q25 q39 q53
  have h1 : rM Q (am_n A) (i + 1) S72 := by
    subst q72 q62
    unfold am_n
    rw [← h.2.2.1.1]
    exact rM_u7 (rM_u6 h _)
  exact ⟨fun _ => ⟨fun e => absurd e (by decide), fun _ => ⟨fun e => absurd rfl e, fun _ => rM_bring h1 hx ex lx (fun S9 r9 => hK S9 r9)⟩⟩, fun e => absurd e (by decide)⟩

theorem rM_s1 (h : rM Q A i S) (ha : a < 64) (ea : A 0 0 = nI a) (c0 : Q 24 (4 * a) = 1) (c1 : Q 24 (4 * a + 1) = x) (c2 : Q 24 (4 * a + 2) = y) (c3 : Q 24 (4 * a + 3) = z) (hx : ¬ x < 0 ∧ ¬ 16 ≤ x) (ex : Q 31 x.toNatClampNeg = px) (lx : iv_pl px) (hy : ¬ y < 0 ∧ ¬ 16 ≤ y) (ey : Q 31 y.toNatClampNeg = py) (ly : iv_pl py) (hz : ¬ z < 0 ∧ ¬ 16 ≤ z) (ez : Q 31 z.toNatClampNeg = pz) (lz : iv_pl pz) (hK : ∀ S' : rb_S, rM Q (am_ar 1 px py pz (am_n A)) (i + 1) S' → K0 S') : mo_step_p_0 K0 S := by
  have g24 : S 24 = Q 24 := h.1 24 (by decide) (by decide) (by decide) (by decide) (by decide) (by decide)
  have e6 : S 1 6 = nI a := h.2.2.1.1.trans ea
  have i0 : (4 * S 1 6 : Int32) = nI (4 * a) := by rw [e6, show (4 : Int32) = nI 4 from rfl, pk_mul]
  have i1 : (4 * S 1 6 + 1 : Int32) = nI (4 * a + 1) := by rw [i0, nI_succ]
  have i2 : (4 * S 1 6 + 2 : Int32) = nI (4 * a + 2) := by rw [i0, show (2 : Int32) = nI 2 from rfl, nI_add]
  have i3 : (4 * S 1 6 + 3 : Int32) = nI (4 * a + 3) := by rw [i0, show (3 : Int32) = nI 3 from rfl, nI_add]
  unfold mo_step_p_0
  rw [i1, i2, i3, i0, nI_clamp (by omega), nI_clamp (by omega), nI_clamp (by omega), nI_clamp (by omega), g24, c0, c1, c2, c3]
  refine ⟨vp_in_nI (by omega) (by decide), fun v11 q11 => ⟨vp_in_nI (by omega) (by decide), fun v25 q25 => ⟨vp_in_nI (by omega) (by decide), fun v39 q39 => ⟨vp_in_nI (by omega) (by decide), fun v53 q53 S62 q62 S72 q72 => ?_⟩⟩⟩⟩
  subst q11 q25 q39 q53
  have h1 : rM Q (am_n A) (i + 1) S72 := by
    subst q72 q62
    unfold am_n
    rw [← h.2.2.1.1]
    exact rM_u7 (rM_u6 h _)
  exact ⟨fun _ => ⟨fun e => absurd e (by decide), fun _ => ⟨fun _ => ⟨fun _ => rM_get h1 hy ey ly (fun S2 r1 => ⟨fun _ => rM_get r1 hz ez lz (fun S3 r2 => ⟨fun e => absurd rfl e, fun _ => rM_bring r2 hx ex lx (fun S9 r9 => hK S9 r9)⟩), fun e => absurd e (by decide)⟩), fun e => absurd e (by decide)⟩, fun e => absurd e (by decide)⟩⟩, fun e => absurd e (by decide)⟩

theorem rM_s2 (h : rM Q A i S) (ha : a < 64) (ea : A 0 0 = nI a) (c0 : Q 24 (4 * a) = 2) (c1 : Q 24 (4 * a + 1) = x) (c2 : Q 24 (4 * a + 2) = y) (c3 : Q 24 (4 * a + 3) = z) (hx : ¬ x < 0 ∧ ¬ 16 ≤ x) (ex : Q 31 x.toNatClampNeg = px) (lx : iv_pl px) (hy : ¬ y < 0 ∧ ¬ 16 ≤ y) (ey : Q 31 y.toNatClampNeg = py) (ly : iv_pl py) (hz : ¬ z < 0 ∧ ¬ 16 ≤ z) (ez : Q 31 z.toNatClampNeg = pz) (lz : iv_pl pz) (hK : ∀ S' : rb_S, rM Q (am_ar 2 px py pz (am_n A)) (i + 1) S' → K0 S') : mo_step_p_0 K0 S := by
  have g24 : S 24 = Q 24 := h.1 24 (by decide) (by decide) (by decide) (by decide) (by decide) (by decide)
  have e6 : S 1 6 = nI a := h.2.2.1.1.trans ea
  have i0 : (4 * S 1 6 : Int32) = nI (4 * a) := by rw [e6, show (4 : Int32) = nI 4 from rfl, pk_mul]
  have i1 : (4 * S 1 6 + 1 : Int32) = nI (4 * a + 1) := by rw [i0, nI_succ]
  have i2 : (4 * S 1 6 + 2 : Int32) = nI (4 * a + 2) := by rw [i0, show (2 : Int32) = nI 2 from rfl, nI_add]
  have i3 : (4 * S 1 6 + 3 : Int32) = nI (4 * a + 3) := by rw [i0, show (3 : Int32) = nI 3 from rfl, nI_add]
  unfold mo_step_p_0
  rw [i1, i2, i3, i0, nI_clamp (by omega), nI_clamp (by omega), nI_clamp (by omega), nI_clamp (by omega), g24, c0, c1, c2, c3]
  refine ⟨vp_in_nI (by omega) (by decide), fun v11 q11 => ⟨vp_in_nI (by omega) (by decide), fun v25 q25 => ⟨vp_in_nI (by omega) (by decide), fun v39 q39 => ⟨vp_in_nI (by omega) (by decide), fun v53 q53 S62 q62 S72 q72 => ?_⟩⟩⟩⟩
  subst q11 q25 q39 q53
  have h1 : rM Q (am_n A) (i + 1) S72 := by
    subst q72 q62
    unfold am_n
    rw [← h.2.2.1.1]
    exact rM_u7 (rM_u6 h _)
  exact ⟨fun _ => ⟨fun e => absurd e (by decide), fun _ => ⟨fun _ => ⟨fun _ => rM_get h1 hy ey ly (fun S2 r1 => ⟨fun _ => rM_get r1 hz ez lz (fun S3 r2 => ⟨fun _ => ⟨fun e => absurd rfl e, fun _ => rM_bring r2 hx ex lx (fun S9 r9 => hK S9 r9)⟩, fun e => absurd e (by decide)⟩), fun e => absurd e (by decide)⟩), fun e => absurd e (by decide)⟩, fun e => absurd e (by decide)⟩⟩, fun e => absurd e (by decide)⟩

theorem rM_s3 (h : rM Q A i S) (ha : a < 64) (ea : A 0 0 = nI a) (c0 : Q 24 (4 * a) = 3) (c1 : Q 24 (4 * a + 1) = x) (c2 : Q 24 (4 * a + 2) = y) (c3 : Q 24 (4 * a + 3) = z) (hx : ¬ x < 0 ∧ ¬ 16 ≤ x) (ex : Q 31 x.toNatClampNeg = px) (lx : iv_pl px) (hy : ¬ y < 0 ∧ ¬ 16 ≤ y) (ey : Q 31 y.toNatClampNeg = py) (ly : iv_pl py) (hz : ¬ z < 0 ∧ ¬ 16 ≤ z) (ez : Q 31 z.toNatClampNeg = pz) (lz : iv_pl pz) (hK : ∀ S' : rb_S, rM Q (am_ar 3 px py pz (am_n A)) (i + 1) S' → K0 S') : mo_step_p_0 K0 S := by
  have g24 : S 24 = Q 24 := h.1 24 (by decide) (by decide) (by decide) (by decide) (by decide) (by decide)
  have e6 : S 1 6 = nI a := h.2.2.1.1.trans ea
  have i0 : (4 * S 1 6 : Int32) = nI (4 * a) := by rw [e6, show (4 : Int32) = nI 4 from rfl, pk_mul]
  have i1 : (4 * S 1 6 + 1 : Int32) = nI (4 * a + 1) := by rw [i0, nI_succ]
  have i2 : (4 * S 1 6 + 2 : Int32) = nI (4 * a + 2) := by rw [i0, show (2 : Int32) = nI 2 from rfl, nI_add]
  have i3 : (4 * S 1 6 + 3 : Int32) = nI (4 * a + 3) := by rw [i0, show (3 : Int32) = nI 3 from rfl, nI_add]
  unfold mo_step_p_0
  rw [i1, i2, i3, i0, nI_clamp (by omega), nI_clamp (by omega), nI_clamp (by omega), nI_clamp (by omega), g24, c0, c1, c2, c3]
  refine ⟨vp_in_nI (by omega) (by decide), fun v11 q11 => ⟨vp_in_nI (by omega) (by decide), fun v25 q25 => ⟨vp_in_nI (by omega) (by decide), fun v39 q39 => ⟨vp_in_nI (by omega) (by decide), fun v53 q53 S62 q62 S72 q72 => ?_⟩⟩⟩⟩
  subst q11 q25 q39 q53
  have h1 : rM Q (am_n A) (i + 1) S72 := by
    subst q72 q62
    unfold am_n
    rw [← h.2.2.1.1]
    exact rM_u7 (rM_u6 h _)
  exact ⟨fun _ => ⟨fun e => absurd e (by decide), fun _ => ⟨fun _ => ⟨fun _ => rM_get h1 hy ey ly (fun S2 r1 => ⟨fun _ => rM_get r1 hz ez lz (fun S3 r2 => ⟨fun _ => ⟨fun _ => rM_bring r2 hx ex lx (fun S9 r9 => hK S9 r9), fun e => absurd e (by decide)⟩, fun e => absurd e (by decide)⟩), fun e => absurd e (by decide)⟩), fun e => absurd e (by decide)⟩, fun e => absurd e (by decide)⟩⟩, fun e => absurd e (by decide)⟩

theorem rM_s4 (h : rM Q A i S) (ha : a < 64) (ea : A 0 0 = nI a) (c0 : Q 24 (4 * a) = 4) (c1 : Q 24 (4 * a + 1) = x) (c2 : Q 24 (4 * a + 2) = y) (c3 : Q 24 (4 * a + 3) = z) (hx : ¬ x < 0 ∧ ¬ 16 ≤ x) (ex : Q 31 x.toNatClampNeg = px) (lx : iv_pl px) (hy : ¬ y < 0 ∧ ¬ 16 ≤ y) (ey : Q 31 y.toNatClampNeg = py) (ly : iv_pl py) (hK : ∀ S' : rb_S, rM Q (am_cp px py (am_n A)) (i + 1) S' → K0 S') : mo_step_p_0 K0 S := by
  have g24 : S 24 = Q 24 := h.1 24 (by decide) (by decide) (by decide) (by decide) (by decide) (by decide)
  have e6 : S 1 6 = nI a := h.2.2.1.1.trans ea
  have i0 : (4 * S 1 6 : Int32) = nI (4 * a) := by rw [e6, show (4 : Int32) = nI 4 from rfl, pk_mul]
  have i1 : (4 * S 1 6 + 1 : Int32) = nI (4 * a + 1) := by rw [i0, nI_succ]
  have i2 : (4 * S 1 6 + 2 : Int32) = nI (4 * a + 2) := by rw [i0, show (2 : Int32) = nI 2 from rfl, nI_add]
  have i3 : (4 * S 1 6 + 3 : Int32) = nI (4 * a + 3) := by rw [i0, show (3 : Int32) = nI 3 from rfl, nI_add]
  unfold mo_step_p_0
  rw [i1, i2, i3, i0, nI_clamp (by omega), nI_clamp (by omega), nI_clamp (by omega), nI_clamp (by omega), g24, c0, c1, c2, c3]
  refine ⟨vp_in_nI (by omega) (by decide), fun v11 q11 => ⟨vp_in_nI (by omega) (by decide), fun v25 q25 => ⟨vp_in_nI (by omega) (by decide), fun v39 q39 => ⟨vp_in_nI (by omega) (by decide), fun v53 q53 S62 q62 S72 q72 => ?_⟩⟩⟩⟩
  subst q11 q25 q39 q53
  have h1 : rM Q (am_n A) (i + 1) S72 := by
    subst q72 q62
    unfold am_n
    rw [← h.2.2.1.1]
    exact rM_u7 (rM_u6 h _)
  have g31 : S72 31 = Q 31 := h1.1 31 (by decide) (by decide) (by decide) (by decide) (by decide) (by decide)
  have cp : ¬ (px = py ∧ ¬ 16 ≤ px) → mo_copy_p_37 (fun S83 => mo_step_p_236 K0 4 v25 v39 v53 S83) v25 v39 S72 := by
    intro q
    unfold am_cp at hK
    rw [if_neg q] at hK
    exact rM_get h1 hy ey ly (fun S2 r1 => rM_bring r1 hx ex lx (fun S9 r9 => hK S9 r9))
  refine ⟨fun e => absurd rfl e, fun _ => ⟨pv_in16 hx.1 hx.2, pv_in16 hy.1 hy.2, ?_⟩⟩
  rw [g31, ex, ey]
  refine ⟨fun e => cp (fun q => e q.1), fun e => ⟨pv_in16 hx.1 hx.2, fun q => cp (fun w => w.2 q), fun q S33 q33 => ?_⟩⟩
  unfold am_cp at hK
  rw [if_pos ⟨e, q⟩] at hK
  rw [h1.2.2.1.2.2.2.2.1] at q33
  subst q33
  exact hK _ (rM_u10 h1 _)

theorem rM_s5 (h : rM Q A i S) (ha : a < 64) (ea : A 0 0 = nI a) (c0 : Q 24 (4 * a) = 5) (c1 : Q 24 (4 * a + 1) = x) (c2 : Q 24 (4 * a + 2) = y) (c3 : Q 24 (4 * a + 3) = z) (hx : ¬ x < 0 ∧ ¬ 16 ≤ x) (ex : Q 31 x.toNatClampNeg = px) (lx : iv_pl px) (hK : ∀ S' : rb_S, rM Q (am_put px (am_inv (am_n A)) (am_in (am_n A))) (i + 1) S' → K0 S') : mo_step_p_0 K0 S := by
  have g24 : S 24 = Q 24 := h.1 24 (by decide) (by decide) (by decide) (by decide) (by decide) (by decide)
  have e6 : S 1 6 = nI a := h.2.2.1.1.trans ea
  have i0 : (4 * S 1 6 : Int32) = nI (4 * a) := by rw [e6, show (4 : Int32) = nI 4 from rfl, pk_mul]
  have i1 : (4 * S 1 6 + 1 : Int32) = nI (4 * a + 1) := by rw [i0, nI_succ]
  have i2 : (4 * S 1 6 + 2 : Int32) = nI (4 * a + 2) := by rw [i0, show (2 : Int32) = nI 2 from rfl, nI_add]
  have i3 : (4 * S 1 6 + 3 : Int32) = nI (4 * a + 3) := by rw [i0, show (3 : Int32) = nI 3 from rfl, nI_add]
  unfold mo_step_p_0
  rw [i1, i2, i3, i0, nI_clamp (by omega), nI_clamp (by omega), nI_clamp (by omega), nI_clamp (by omega), g24, c0, c1, c2, c3]
  refine ⟨vp_in_nI (by omega) (by decide), fun v11 q11 => ⟨vp_in_nI (by omega) (by decide), fun v25 q25 => ⟨vp_in_nI (by omega) (by decide), fun v39 q39 => ⟨vp_in_nI (by omega) (by decide), fun v53 q53 S62 q62 S72 q72 => ?_⟩⟩⟩⟩
  subst q11 q25 q39 q53
  have h1 : rM Q (am_n A) (i + 1) S72 := by
    subst q72 q62
    unfold am_n
    rw [← h.2.2.1.1]
    exact rM_u7 (rM_u6 h _)
  exact ⟨fun _ => ⟨fun e => absurd e (by decide), fun _ => ⟨fun _ => ⟨fun e => absurd rfl e, fun _ => rM_next h1 (fun S2 r1 => rM_bring r1 hx ex lx (fun S9 r9 => hK S9 r9))⟩, fun e => absurd e (by decide)⟩⟩, fun e => absurd e (by decide)⟩

theorem rM_s6 (h : rM Q A i S) (ha : a < 64) (ea : A 0 0 = nI a) (c0 : Q 24 (4 * a) = 6) (c1 : Q 24 (4 * a + 1) = x) (c2 : Q 24 (4 * a + 2) = y) (c3 : Q 24 (4 * a + 3) = z) (hx : ¬ x < 0 ∧ ¬ 16 ≤ x) (ex : Q 31 x.toNatClampNeg = px) (lx : iv_pl px) (hy : ¬ y < 0 ∧ ¬ 16 ≤ y) (ey : Q 31 y.toNatClampNeg = py) (ly : iv_pl py) (hK : ∀ S' : rb_S, rM Q (am_lo px py (am_n A)) (i + 1) S' → K0 S') : mo_step_p_0 K0 S := by
  have g24 : S 24 = Q 24 := h.1 24 (by decide) (by decide) (by decide) (by decide) (by decide) (by decide)
  have e6 : S 1 6 = nI a := h.2.2.1.1.trans ea
  have i0 : (4 * S 1 6 : Int32) = nI (4 * a) := by rw [e6, show (4 : Int32) = nI 4 from rfl, pk_mul]
  have i1 : (4 * S 1 6 + 1 : Int32) = nI (4 * a + 1) := by rw [i0, nI_succ]
  have i2 : (4 * S 1 6 + 2 : Int32) = nI (4 * a + 2) := by rw [i0, show (2 : Int32) = nI 2 from rfl, nI_add]
  have i3 : (4 * S 1 6 + 3 : Int32) = nI (4 * a + 3) := by rw [i0, show (3 : Int32) = nI 3 from rfl, nI_add]
  unfold mo_step_p_0
  rw [i1, i2, i3, i0, nI_clamp (by omega), nI_clamp (by omega), nI_clamp (by omega), nI_clamp (by omega), g24, c0, c1, c2, c3]
  refine ⟨vp_in_nI (by omega) (by decide), fun v11 q11 => ⟨vp_in_nI (by omega) (by decide), fun v25 q25 => ⟨vp_in_nI (by omega) (by decide), fun v39 q39 => ⟨vp_in_nI (by omega) (by decide), fun v53 q53 S62 q62 S72 q72 => ?_⟩⟩⟩⟩
  subst q11 q25 q39 q53
  have h1 : rM Q (am_n A) (i + 1) S72 := by
    subst q72 q62
    unfold am_n
    rw [← h.2.2.1.1]
    exact rM_u7 (rM_u6 h _)
  exact ⟨fun _ => ⟨fun e => absurd e (by decide), fun _ => ⟨fun _ => ⟨fun _ => rM_get h1 hy ey ly (fun S2 r1 => ⟨fun e => absurd rfl e, fun _ => ⟨pv_in15 _, by
    rw [r1.2.2.2.2.2.1 _ (pv_lt15 _)]
    exact rM_bring r1 hx ex lx (fun S9 r9 => hK S9 r9)⟩⟩), fun e => absurd e (by decide)⟩, fun e => absurd e (by decide)⟩⟩, fun e => absurd e (by decide)⟩

theorem rM_s7 (h : rM Q A i S) (ha : a < 64) (ea : A 0 0 = nI a) (c0 : Q 24 (4 * a) = 7) (c1 : Q 24 (4 * a + 1) = x) (c2 : Q 24 (4 * a + 2) = y) (c3 : Q 24 (4 * a + 3) = z) (hx : ¬ x < 0 ∧ ¬ 16 ≤ x) (ex : Q 31 x.toNatClampNeg = px) (lx : iv_pl px) (hy : ¬ y < 0 ∧ ¬ 16 ≤ y) (ey : Q 31 y.toNatClampNeg = py) (ly : iv_pl py) (hK : ∀ S' : rb_S, rM Q (am_st px py (am_n A)) (i + 1) S' → K0 S') : mo_step_p_0 K0 S := by
  have g24 : S 24 = Q 24 := h.1 24 (by decide) (by decide) (by decide) (by decide) (by decide) (by decide)
  have e6 : S 1 6 = nI a := h.2.2.1.1.trans ea
  have i0 : (4 * S 1 6 : Int32) = nI (4 * a) := by rw [e6, show (4 : Int32) = nI 4 from rfl, pk_mul]
  have i1 : (4 * S 1 6 + 1 : Int32) = nI (4 * a + 1) := by rw [i0, nI_succ]
  have i2 : (4 * S 1 6 + 2 : Int32) = nI (4 * a + 2) := by rw [i0, show (2 : Int32) = nI 2 from rfl, nI_add]
  have i3 : (4 * S 1 6 + 3 : Int32) = nI (4 * a + 3) := by rw [i0, show (3 : Int32) = nI 3 from rfl, nI_add]
  unfold mo_step_p_0
  rw [i1, i2, i3, i0, nI_clamp (by omega), nI_clamp (by omega), nI_clamp (by omega), nI_clamp (by omega), g24, c0, c1, c2, c3]
  refine ⟨vp_in_nI (by omega) (by decide), fun v11 q11 => ⟨vp_in_nI (by omega) (by decide), fun v25 q25 => ⟨vp_in_nI (by omega) (by decide), fun v39 q39 => ⟨vp_in_nI (by omega) (by decide), fun v53 q53 S62 q62 S72 q72 => ?_⟩⟩⟩⟩
  subst q11 q25 q39 q53
  have h1 : rM Q (am_n A) (i + 1) S72 := by
    subst q72 q62
    unfold am_n
    rw [← h.2.2.1.1]
    exact rM_u7 (rM_u6 h _)
  exact ⟨fun _ => ⟨fun _ => ⟨fun _ => ⟨fun _ => rM_get h1 hx ex lx (fun S2 r1 => rM_get r1 hy ey ly (fun S3 r2 => ⟨fun e => absurd rfl e, fun _ => ⟨pv_in15 _, fun S4 q4 => by
    subst q4
    exact hK _ (rM_m r2 _ _)⟩⟩)), fun e => absurd e (by decide)⟩, fun e => absurd e (by decide)⟩, fun e => absurd (by decide) e⟩, fun e => absurd e (by decide)⟩

theorem rM_s8 (h : rM Q A i S) (ha : a < 64) (ea : A 0 0 = nI a) (c0 : Q 24 (4 * a) = 8) (c1 : Q 24 (4 * a + 1) = x) (c2 : Q 24 (4 * a + 2) = y) (c3 : Q 24 (4 * a + 3) = z) (hx : ¬ x < 0 ∧ ¬ 16 ≤ x) (ex : Q 31 x.toNatClampNeg = px) (lx : iv_pl px) (ho : o < 2 ^ 30) (eo : A 0 5 = nI o) (hK : ∀ S' : rb_S, rM Q (am_wr px (am_n A)) (i + 1) S' → K0 S') : mo_step_p_0 K0 S := by
  have g24 : S 24 = Q 24 := h.1 24 (by decide) (by decide) (by decide) (by decide) (by decide) (by decide)
  have e6 : S 1 6 = nI a := h.2.2.1.1.trans ea
  have i0 : (4 * S 1 6 : Int32) = nI (4 * a) := by rw [e6, show (4 : Int32) = nI 4 from rfl, pk_mul]
  have i1 : (4 * S 1 6 + 1 : Int32) = nI (4 * a + 1) := by rw [i0, nI_succ]
  have i2 : (4 * S 1 6 + 2 : Int32) = nI (4 * a + 2) := by rw [i0, show (2 : Int32) = nI 2 from rfl, nI_add]
  have i3 : (4 * S 1 6 + 3 : Int32) = nI (4 * a + 3) := by rw [i0, show (3 : Int32) = nI 3 from rfl, nI_add]
  unfold mo_step_p_0
  rw [i1, i2, i3, i0, nI_clamp (by omega), nI_clamp (by omega), nI_clamp (by omega), nI_clamp (by omega), g24, c0, c1, c2, c3]
  refine ⟨vp_in_nI (by omega) (by decide), fun v11 q11 => ⟨vp_in_nI (by omega) (by decide), fun v25 q25 => ⟨vp_in_nI (by omega) (by decide), fun v39 q39 => ⟨vp_in_nI (by omega) (by decide), fun v53 q53 S62 q62 S72 q72 => ?_⟩⟩⟩⟩
  subst q11 q25 q39 q53
  have h1 : rM Q (am_n A) (i + 1) S72 := by
    subst q72 q62
    unfold am_n
    rw [← h.2.2.1.1]
    exact rM_u7 (rM_u6 h _)
  have eo' : am_n A 0 5 = nI o := eo
  have e11 : S72 1 11 = nI o := h1.2.2.1.2.2.2.2.2.trans eo'
  have rem : (nI o : Int32) - nI o / 16 * 16 = nI (o % 16) := by
    rw [show (16 : Int32) = nI 16 from rfl]
    exact pk_rem (by omega) (by decide) (by decide)
  have an : (nI o : Int32) &&& 15 = nI (o % 16) := pk_andN (by omega) (m := 15) 4 (by decide)
  refine ⟨fun _ => ⟨fun _ => ⟨fun _ => ⟨fun e => absurd rfl e, fun _ => rM_get h1 hx ex lx (fun S2 r1 => ?_)⟩, fun e => absurd e (by decide)⟩, fun e => absurd (by decide) e⟩, fun e => absurd e (by decide)⟩
  rw [e11, rem]
  refine ⟨vp_in_nI (by omega) (by decide), fun S151 q151 S159 q159 => ?_⟩
  have e2 : S2 1 11 = am_ld px (am_n A) 0 5 := r1.2.2.1.2.2.2.2.2
  have e1 : S151 1 11 = am_ld px (am_n A) 0 5 := by
    rw [q151, ru_g (by decide)]
    exact e2
  rw [e1] at q159
  have ix : (nI (o % 16)).toNatClampNeg = (am_ld px (am_n A) 0 5 &&& 15).toNatClampNeg := by rw [am_ld05, eo', an]
  rw [ix] at q151
  subst q159 q151
  exact hK _ (rM_u11 (rM_o r1 _ _) _)

theorem rM_s9 (h : rM Q A i S) (ha : a < 64) (ea : A 0 0 = nI a) (c0 : Q 24 (4 * a) = 9) (c1 : Q 24 (4 * a + 1) = x) (c2 : Q 24 (4 * a + 2) = y) (c3 : Q 24 (4 * a + 3) = z)  (hK : ∀ S' : rb_S, rM Q (rb_u (am_n A) 0 0 x) (i + 1) S' → K0 S') : mo_step_p_0 K0 S := by
  have g24 : S 24 = Q 24 := h.1 24 (by decide) (by decide) (by decide) (by decide) (by decide) (by decide)
  have e6 : S 1 6 = nI a := h.2.2.1.1.trans ea
  have i0 : (4 * S 1 6 : Int32) = nI (4 * a) := by rw [e6, show (4 : Int32) = nI 4 from rfl, pk_mul]
  have i1 : (4 * S 1 6 + 1 : Int32) = nI (4 * a + 1) := by rw [i0, nI_succ]
  have i2 : (4 * S 1 6 + 2 : Int32) = nI (4 * a + 2) := by rw [i0, show (2 : Int32) = nI 2 from rfl, nI_add]
  have i3 : (4 * S 1 6 + 3 : Int32) = nI (4 * a + 3) := by rw [i0, show (3 : Int32) = nI 3 from rfl, nI_add]
  unfold mo_step_p_0
  rw [i1, i2, i3, i0, nI_clamp (by omega), nI_clamp (by omega), nI_clamp (by omega), nI_clamp (by omega), g24, c0, c1, c2, c3]
  refine ⟨vp_in_nI (by omega) (by decide), fun v11 q11 => ⟨vp_in_nI (by omega) (by decide), fun v25 q25 => ⟨vp_in_nI (by omega) (by decide), fun v39 q39 => ⟨vp_in_nI (by omega) (by decide), fun v53 q53 S62 q62 S72 q72 => ?_⟩⟩⟩⟩
  subst q11 q25 q39 q53
  have h1 : rM Q (am_n A) (i + 1) S72 := by
    subst q72 q62
    unfold am_n
    rw [← h.2.2.1.1]
    exact rM_u7 (rM_u6 h _)
  exact ⟨fun _ => ⟨fun _ => ⟨fun e => absurd rfl e, fun _ S8 q8 => by
    subst q8
    exact hK _ (rM_u6 h1 _)⟩, fun e => absurd (by decide) e⟩, fun e => absurd e (by decide)⟩

theorem rM_s10 (h : rM Q A i S) (ha : a < 64) (ea : A 0 0 = nI a) (c0 : Q 24 (4 * a) = 10) (c1 : Q 24 (4 * a + 1) = x) (c2 : Q 24 (4 * a + 2) = y) (c3 : Q 24 (4 * a + 3) = z) (hx : ¬ x < 0 ∧ ¬ 16 ≤ x) (ex : Q 31 x.toNatClampNeg = px) (lx : iv_pl px) (hy : ¬ y < 0 ∧ ¬ 16 ≤ y) (ey : Q 31 y.toNatClampNeg = py) (ly : iv_pl py) (hK : ∀ S' : rb_S, rM Q (am_ju 10 px py z (am_n A)) (i + 1) S' → K0 S') : mo_step_p_0 K0 S := by
  have g24 : S 24 = Q 24 := h.1 24 (by decide) (by decide) (by decide) (by decide) (by decide) (by decide)
  have e6 : S 1 6 = nI a := h.2.2.1.1.trans ea
  have i0 : (4 * S 1 6 : Int32) = nI (4 * a) := by rw [e6, show (4 : Int32) = nI 4 from rfl, pk_mul]
  have i1 : (4 * S 1 6 + 1 : Int32) = nI (4 * a + 1) := by rw [i0, nI_succ]
  have i2 : (4 * S 1 6 + 2 : Int32) = nI (4 * a + 2) := by rw [i0, show (2 : Int32) = nI 2 from rfl, nI_add]
  have i3 : (4 * S 1 6 + 3 : Int32) = nI (4 * a + 3) := by rw [i0, show (3 : Int32) = nI 3 from rfl, nI_add]
  unfold mo_step_p_0
  rw [i1, i2, i3, i0, nI_clamp (by omega), nI_clamp (by omega), nI_clamp (by omega), nI_clamp (by omega), g24, c0, c1, c2, c3]
  refine ⟨vp_in_nI (by omega) (by decide), fun v11 q11 => ⟨vp_in_nI (by omega) (by decide), fun v25 q25 => ⟨vp_in_nI (by omega) (by decide), fun v39 q39 => ⟨vp_in_nI (by omega) (by decide), fun v53 q53 S62 q62 S72 q72 => ?_⟩⟩⟩⟩
  subst q11 q25 q39 q53
  have h1 : rM Q (am_n A) (i + 1) S72 := by
    subst q72 q62
    unfold am_n
    rw [← h.2.2.1.1]
    exact rM_u7 (rM_u6 h _)
  exact ⟨fun _ => ⟨fun _ => ⟨fun _ => ⟨fun _ => rM_get h1 hx ex lx (fun S2 r1 => rM_get r1 hy ey ly (fun S3 r2 => ⟨fun _ => ⟨fun e => absurd rfl e, fun _ => ⟨fun e S5 q5 => hK S5 (by
    rw [ru_id] at q5
    subst q5
    unfold am_ju
    rw [if_neg (fun w => w.elim (fun w => pv_nle.mpr w.2 e) (fun w => absurd w.1 (by decide)))]
    exact r2), fun e S5 q5 => hK S5 (by
    subst q5
    unfold am_ju
    rw [if_pos (Or.inl ⟨rfl, pv_nle.mp e⟩)]
    exact rM_u6 r2 _)⟩⟩, fun e => absurd e (by decide)⟩)), fun e => absurd e (by decide)⟩, fun e => absurd e (by decide)⟩, fun e => absurd (by decide) e⟩, fun e => absurd e (by decide)⟩

theorem rM_s11 (h : rM Q A i S) (ha : a < 64) (ea : A 0 0 = nI a) (c0 : Q 24 (4 * a) = 11) (c1 : Q 24 (4 * a + 1) = x) (c2 : Q 24 (4 * a + 2) = y) (c3 : Q 24 (4 * a + 3) = z) (hx : ¬ x < 0 ∧ ¬ 16 ≤ x) (ex : Q 31 x.toNatClampNeg = px) (lx : iv_pl px) (hy : ¬ y < 0 ∧ ¬ 16 ≤ y) (ey : Q 31 y.toNatClampNeg = py) (ly : iv_pl py) (hK : ∀ S' : rb_S, rM Q (am_ju 11 px py z (am_n A)) (i + 1) S' → K0 S') : mo_step_p_0 K0 S := by
  have g24 : S 24 = Q 24 := h.1 24 (by decide) (by decide) (by decide) (by decide) (by decide) (by decide)
  have e6 : S 1 6 = nI a := h.2.2.1.1.trans ea
  have i0 : (4 * S 1 6 : Int32) = nI (4 * a) := by rw [e6, show (4 : Int32) = nI 4 from rfl, pk_mul]
  have i1 : (4 * S 1 6 + 1 : Int32) = nI (4 * a + 1) := by rw [i0, nI_succ]
  have i2 : (4 * S 1 6 + 2 : Int32) = nI (4 * a + 2) := by rw [i0, show (2 : Int32) = nI 2 from rfl, nI_add]
  have i3 : (4 * S 1 6 + 3 : Int32) = nI (4 * a + 3) := by rw [i0, show (3 : Int32) = nI 3 from rfl, nI_add]
  unfold mo_step_p_0
  rw [i1, i2, i3, i0, nI_clamp (by omega), nI_clamp (by omega), nI_clamp (by omega), nI_clamp (by omega), g24, c0, c1, c2, c3]
  refine ⟨vp_in_nI (by omega) (by decide), fun v11 q11 => ⟨vp_in_nI (by omega) (by decide), fun v25 q25 => ⟨vp_in_nI (by omega) (by decide), fun v39 q39 => ⟨vp_in_nI (by omega) (by decide), fun v53 q53 S62 q62 S72 q72 => ?_⟩⟩⟩⟩
  subst q11 q25 q39 q53
  have h1 : rM Q (am_n A) (i + 1) S72 := by
    subst q72 q62
    unfold am_n
    rw [← h.2.2.1.1]
    exact rM_u7 (rM_u6 h _)
  exact ⟨fun _ => ⟨fun _ => ⟨fun _ => ⟨fun _ => rM_get h1 hx ex lx (fun S2 r1 => rM_get r1 hy ey ly (fun S3 r2 => ⟨fun _ => ⟨fun _ => ⟨fun e S5 q5 => hK S5 (by
    rw [ru_id] at q5
    subst q5
    unfold am_ju
    rw [if_neg (fun w => w.elim (fun w => absurd w.1 (by decide)) (fun w => e w.2))]
    exact r2), fun e S5 q5 => hK S5 (by
    subst q5
    unfold am_ju
    rw [if_pos (Or.inr ⟨rfl, e⟩)]
    exact rM_u6 r2 _)⟩, fun e => absurd e (by decide)⟩, fun e => absurd e (by decide)⟩)), fun e => absurd e (by decide)⟩, fun e => absurd e (by decide)⟩, fun e => absurd (by decide) e⟩, fun e => absurd e (by decide)⟩

end SM
