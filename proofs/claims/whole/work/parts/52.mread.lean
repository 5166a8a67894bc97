/-! ===== the reference: reads, sets ===== -/
section MR
variable {S A Q S0 : rb_S} {x y z t : Int32} {K : Int32 → rb_S → Prop} {K0 : rb_S → Prop} {i n v : Nat}
theorem ro_all {P : Int32 → Prop} (h1 : ¬ t < 0) (h2 : ¬ 12 ≤ t) (h : P 0 ∧ P 1 ∧ P 2 ∧ P 3 ∧ P 4 ∧ P 5 ∧ P 6 ∧ P 7 ∧ P 8 ∧ P 9 ∧ P 10 ∧ P 11) : P t := by
  obtain ⟨p0, p1, p2, p3, p4, p5, p6, p7, p8, p9, p10, p11⟩ := h
  rcases pv_sort t with q | q
  · rcases pv_out q with q | q
    · exact absurd q h1
    · exact absurd q h2
  · rcases q with e | e | e | e | e | e | e | e | e | e | e | e
    · rw [e]; exact p0
    · rw [e]; exact p1
    · rw [e]; exact p2
    · rw [e]; exact p3
    · rw [e]; exact p4
    · rw [e]; exact p5
    · rw [e]; exact p6
    · rw [e]; exact p7
    · rw [e]; exact p8
    · rw [e]; exact p9
    · rw [e]; exact p10
    · rw [e]; exact p11
theorem ro_x3 (h1 : ¬ t < 0) (h2 : ¬ 12 ≤ t) : rb_rx t.toNatClampNeg = 3 ↔ (t = 7 ∨ t = 8 ∨ t = 10 ∨ t = 11) := ro_all (P := fun t => rb_rx t.toNatClampNeg = 3 ↔ (t = 7 ∨ t = 8 ∨ t = 10 ∨ t = 11)) h1 h2 ⟨by decide, by decide, by decide, by decide, by decide, by decide, by decide, by decide, by decide, by decide, by decide, by decide⟩
theorem ro_y3 (h1 : ¬ t < 0) (h2 : ¬ 12 ≤ t) : rb_ry t.toNatClampNeg = 3 ↔ (t = 1 ∨ t = 2 ∨ t = 3 ∨ t = 4 ∨ t = 6 ∨ t = 7 ∨ t = 10 ∨ t = 11) := ro_all (P := fun t => rb_ry t.toNatClampNeg = 3 ↔ (t = 1 ∨ t = 2 ∨ t = 3 ∨ t = 4 ∨ t = 6 ∨ t = 7 ∨ t = 10 ∨ t = 11)) h1 h2 ⟨by decide, by decide, by decide, by decide, by decide, by decide, by decide, by decide, by decide, by decide, by decide, by decide⟩
theorem ro_z3 (h1 : ¬ t < 0) (h2 : ¬ 12 ≤ t) : rb_rz t.toNatClampNeg = 3 ↔ (t = 1 ∨ t = 2 ∨ t = 3) := ro_all (P := fun t => rb_rz t.toNatClampNeg = 3 ↔ (t = 1 ∨ t = 2 ∨ t = 3)) h1 h2 ⟨by decide, by decide, by decide, by decide, by decide, by decide, by decide, by decide, by decide, by decide, by decide, by decide⟩
theorem ro_x2 (h1 : ¬ t < 0) (h2 : ¬ 12 ≤ t) : rb_rx t.toNatClampNeg = 2 ↔ ¬ 6 < t := ro_all (P := fun t => rb_rx t.toNatClampNeg = 2 ↔ ¬ 6 < t) h1 h2 ⟨by decide, by decide, by decide, by decide, by decide, by decide, by decide, by decide, by decide, by decide, by decide, by decide⟩
theorem pt_rdi : pt_rd S v i = true ↔ (rb_rx (S 6 i).toNatClampNeg = 3 ∧ S 7 i = nI v) ∨ (rb_ry (S 6 i).toNatClampNeg = 3 ∧ S 8 i = nI v) ∨ (rb_rz (S 6 i).toNatClampNeg = 3 ∧ S 9 i = nI v) := by
  unfold pt_rd
  rw [Bool.or_eq_true, Bool.or_eq_true, decide_eq_true_iff, decide_eq_true_iff, decide_eq_true_iff, or_assoc]
theorem mr_111 {x3 x4 x5 y0 : Int32} (hi : i < 64) (c1 : S 24 (4 * i + 1) = S 7 i) (c2 : S 24 (4 * i + 2) = S 8 i) (c3 : S 24 (4 * i + 3) = S 9 i) (g4 : ¬ x4 = 0 ↔ rb_rx (S 6 i).toNatClampNeg = 3) (g5 : ¬ x5 = 0 ↔ rb_ry (S 6 i).toNatClampNeg = 3) (g6 : ¬ y0 = 0 ↔ rb_rz (S 6 i).toNatClampNeg = 3) (h1 : pt_rd S v i = true → K 1 S) (h0 : ¬ pt_rd S v i = true → K 0 S) : mo_reads_p_111 K (nI i) (nI v) x3 x4 x5 y0 S := by
  rw [pt_rdi, ← g4, ← g5, ← g6] at h1 h0
  have j1 : (4 * nI i + 1 : Int32) = nI (4 * i + 1) := by rw [show (4 : Int32) = nI 4 from rfl, pk_mul, nI_succ]
  have j2 : (4 * nI i + 2 : Int32) = nI (4 * i + 2) := by rw [show (4 : Int32) = nI 4 from rfl, pk_mul, show (2 : Int32) = nI 2 from rfl, nI_add]
  have j3 : (4 * nI i + 3 : Int32) = nI (4 * i + 3) := by rw [show (4 : Int32) = nI 4 from rfl, pk_mul, show (3 : Int32) = nI 3 from rfl, nI_add]
  have yes : (¬ x4 = 0 ∧ S 7 i = nI v) ∨ (¬ x5 = 0 ∧ S 8 i = nI v) ∨ (¬ y0 = 0 ∧ S 9 i = nI v) → mo_reads_p_170 K (nI i) (nI v) x3 x4 x5 y0 S := fun q => ⟨pv_n1, h1 q⟩
  have k151 : ¬ (¬ x4 = 0 ∧ S 7 i = nI v) → ¬ (¬ x5 = 0 ∧ S 8 i = nI v) → mo_reads_p_151 K (nI i) (nI v) x3 x4 x5 y0 S := by
    intro n1 n2
    unfold mo_reads_p_151
    rw [j3, nI_clamp (by omega), c3]
    refine ⟨fun q => ⟨pv_n0, h0 ?_⟩, fun q => ⟨vp_in_nI (by omega) (by decide), fun q2 => ⟨pv_n0, h0 ?_⟩, fun q2 => yes (Or.inr (Or.inr ⟨q, q2⟩))⟩⟩
    · rintro (w | w | w)
      · exact n1 w
      · exact n2 w
      · exact w.1 q
    · rintro (w | w | w)
      · exact n1 w
      · exact n2 w
      · exact q2 w.2
  have k132 : ¬ (¬ x4 = 0 ∧ S 7 i = nI v) → mo_reads_p_132 K (nI i) (nI v) x3 x4 x5 y0 S := by
    intro n1
    unfold mo_reads_p_132
    rw [j2, nI_clamp (by omega), c2]
    exact ⟨fun q => k151 n1 (fun w => w.1 q), fun q => ⟨vp_in_nI (by omega) (by decide), fun q2 => yes (Or.inr (Or.inl ⟨q, q2⟩)), fun q2 => k151 n1 (fun w => q2 w.2)⟩⟩
  unfold mo_reads_p_111
  rw [j1, nI_clamp (by omega), c1]
  exact ⟨fun q => k132 (fun w => w.1 q), fun q => ⟨vp_in_nI (by omega) (by decide), fun q2 => yes (Or.inl ⟨q, q2⟩), fun q2 => k132 (fun w => q2 w.2)⟩⟩
theorem mr_read (hi : i < 64) (ok : pv_ok (S 6 i) (S 7 i) (S 8 i) (S 9 i)) (c0 : S 24 (4 * i) = S 6 i) (c1 : S 24 (4 * i + 1) = S 7 i) (c2 : S 24 (4 * i + 2) = S 8 i) (c3 : S 24 (4 * i + 3) = S 9 i) (h1 : pt_rd S v i = true → K 1 S) (h0 : ¬ pt_rd S v i = true → K 0 S) : mo_reads_p_0 K (nI i) (nI v) S := by
  have j0 : (4 * nI i : Int32) = nI (4 * i) := by rw [show (4 : Int32) = nI 4 from rfl, pk_mul]
  have rx := ro_x3 ok.1 ok.2.1
  have ry := ro_y3 ok.1 ok.2.1
  have rz := ro_z3 ok.1 ok.2.1
  have k111 : ∀ x4 x5 y0 : Int32, (¬ x4 = 0 ↔ rb_rx (S 6 i).toNatClampNeg = 3) → (¬ x5 = 0 ↔ rb_ry (S 6 i).toNatClampNeg = 3) → (¬ y0 = 0 ↔ rb_rz (S 6 i).toNatClampNeg = 3) → mo_reads_p_111 K (nI i) (nI v) (S 6 i) x4 x5 y0 S := fun x4 x5 y0 g4 g5 g6 => mr_111 hi c1 c2 c3 g4 g5 g6 h1 h0
  have one : ∀ {P : Prop}, P → (¬ (1 : Int32) = 0 ↔ P) := fun p => ⟨fun _ => p, fun _ => by decide⟩
  have zer : ∀ {P : Prop}, ¬ P → (¬ (0 : Int32) = 0 ↔ P) := fun p => ⟨fun q => absurd rfl q, fun q => absurd q p⟩
  have k89 : ∀ x4 x5 : Int32, (¬ x4 = 0 ↔ rb_rx (S 6 i).toNatClampNeg = 3) → (¬ x5 = 0 ↔ rb_ry (S 6 i).toNatClampNeg = 3) → mo_reads_p_89 K (nI i) (nI v) (S 6 i) x4 x5 S := by
    intro x4 x5 g4 g5
    refine ⟨fun q => k111 _ _ 1 g4 g5 (one (rz.mpr (Or.inl q))), fun n1 => ⟨fun q => k111 _ _ 1 g4 g5 (one (rz.mpr (Or.inr (Or.inl q)))), fun n2 => ⟨fun n3 => k111 _ _ 0 g4 g5 (zer (fun w => ?_)), fun q => k111 _ _ 1 g4 g5 (one (rz.mpr (Or.inr (Or.inr q))))⟩⟩⟩
    rcases rz.mp w with w | w | w
    · exact n1 w
    · exact n2 w
    · exact n3 w
  have k38 : ∀ x4 : Int32, (¬ x4 = 0 ↔ rb_rx (S 6 i).toNatClampNeg = 3) → mo_reads_p_38 K (nI i) (nI v) (S 6 i) x4 S := by
    intro x4 g4
    have y : rb_ry (S 6 i).toNatClampNeg = 3 → mo_reads_p_84 K (nI i) (nI v) (S 6 i) x4 S := fun q => k89 _ 1 g4 (one q)
    refine ⟨fun q => y (ry.mpr (by simp [q])), fun n1 => ⟨fun q => y (ry.mpr (by simp [q])), fun n2 => ⟨fun q => y (ry.mpr (by simp [q])), fun n3 => ⟨fun q => y (ry.mpr (by simp [q])), fun n4 => ⟨fun q => y (ry.mpr (by simp [q])), fun n6 => ⟨fun q => y (ry.mpr (by simp [q])), fun n7 => ⟨fun q => y (ry.mpr (by simp [q])), fun n10 => ⟨fun n11 => k89 _ 0 g4 (zer (fun w => ?_)), fun q => y (ry.mpr (by simp [q]))⟩⟩⟩⟩⟩⟩⟩⟩
    rcases ry.mp w with w | w | w | w | w | w | w | w
    · exact n1 w
    · exact n2 w
    · exact n3 w
    · exact n4 w
    · exact n6 w
    · exact n7 w
    · exact n10 w
    · exact n11 w
  unfold mo_reads_p_0
  rw [j0, nI_clamp (by omega), c0]
  refine ⟨vp_in_nI (by omega) (by decide), fun v8 q8 => ?_⟩
  subst q8
  refine ⟨fun q => k38 1 (one (rx.mpr (by simp [q]))), fun n7 => ⟨fun q => k38 1 (one (rx.mpr (by simp [q]))), fun n8 => ⟨fun q => k38 1 (one (rx.mpr (by simp [q]))), fun n10 => ⟨fun n11 => k38 0 (zer (fun w => ?_)), fun q => k38 1 (one (rx.mpr (by simp [q])))⟩⟩⟩⟩
  rcases rx.mp w with w | w | w | w
  · exact n7 w
  · exact n8 w
  · exact n10 w
  · exact n11 w
theorem mr_set (hi : i < 64) (ok : pv_ok (S 6 i) (S 7 i) (S 8 i) (S 9 i)) (c0 : S 24 (4 * i) = S 6 i) (c1 : S 24 (4 * i + 1) = S 7 i) (h1 : pt_st S v i = true → K 1 S) (h0 : ¬ pt_st S v i = true → K 0 S) : mo_sets_p_0 K (nI i) (nI v) S := by
  have j0 : (4 * nI i : Int32) = nI (4 * i) := by rw [show (4 : Int32) = nI 4 from rfl, pk_mul]
  have rx := ro_x2 ok.1 ok.2.1
  unfold pt_st at h1 h0
  rw [decide_eq_true_iff, rx] at h1 h0
  unfold mo_sets_p_0
  rw [j0, nI_clamp (by omega), c0, ← nI_succ, nI_clamp (by omega), c1]
  exact ⟨vp_in_nI (by omega) (by decide), fun q => ⟨pv_n0, h0 (fun w => w.1 q)⟩, fun q => ⟨vp_in_nI (by omega) (by decide), fun q2 => ⟨pv_n0, h0 (fun w => q2 w.2)⟩, fun q2 => ⟨pv_n1, h1 ⟨q, q2⟩⟩⟩⟩
end MR
