theorem pv_f0 (x : Int32) : pv_fit 0 x ↔ x = 0 := by
  unfold pv_fit
  constructor
  · rintro (h | ⟨h, -⟩ | ⟨h, -⟩ | ⟨-, h⟩)
    · exact absurd h (by decide)
    · exact absurd h (by decide)
    · exact absurd h (by decide)
    · exact h
  · exact fun h => Or.inr (Or.inr (Or.inr ⟨rfl, h⟩))
theorem pv_f1 (x : Int32) : pv_fit 1 x ↔ True := ⟨fun _ => trivial, fun _ => Or.inl rfl⟩
theorem pv_f2 (x : Int32) : pv_fit 2 x ↔ (¬ x < 0 ∧ ¬ 16 ≤ x) := by
  unfold pv_fit
  constructor
  · rintro (h | ⟨-, h⟩ | ⟨h, -⟩ | ⟨h, -⟩)
    · exact absurd h (by decide)
    · exact h
    · exact absurd h (by decide)
    · exact absurd h (by decide)
  · exact fun h => Or.inr (Or.inl ⟨Or.inl rfl, h⟩)
theorem pv_f3 (x : Int32) : pv_fit 3 x ↔ (¬ x < 0 ∧ ¬ 16 ≤ x) := by
  unfold pv_fit
  constructor
  · rintro (h | ⟨-, h⟩ | ⟨h, -⟩ | ⟨h, -⟩)
    · exact absurd h (by decide)
    · exact h
    · exact absurd h (by decide)
    · exact absurd h (by decide)
  · exact fun h => Or.inr (Or.inl ⟨Or.inr rfl, h⟩)
theorem pv_f4 (x : Int32) : pv_fit 4 x ↔ (¬ x < 0 ∧ ¬ 64 < x) := by
  unfold pv_fit
  constructor
  · rintro (h | ⟨h, -⟩ | ⟨-, h⟩ | ⟨h, -⟩)
    · exact absurd h (by decide)
    · exact absurd h (by decide)
    · exact h
    · exact absurd h (by decide)
  · exact fun h => Or.inr (Or.inr (Or.inl ⟨rfl, h⟩))
/-- what a sort's operands must be -/
theorem pv_okc (t x y z rx ry rz : Int32) (h1 : ¬ t < 0) (h2 : ¬ 12 ≤ t) (ex : rb_rx t.toNatClampNeg = rx) (ey : rb_ry t.toNatClampNeg = ry) (ez : rb_rz t.toNatClampNeg = rz) : pv_ok t x y z ↔ (pv_fit rx x ∧ pv_fit ry y ∧ pv_fit rz z) := by
  unfold pv_ok
  rw [ex, ey, ez]
  exact ⟨fun h => h.2.2, fun h => ⟨h1, h2, h⟩⟩
section IR
variable {K : Int32 → rb_S → Prop} {t x y z : Int32} {S : rb_S}
theorem pv_r_set (hk : pv_ok t x y z ↔ ((¬ x < 0 ∧ ¬ 16 ≤ x) ∧ z = 0)) (h1 : pv_ok t x y z → K 1 S) (h0 : ¬ pv_ok t x y z → K 0 S) : mo_isValue_p_0 (fun r65 S65 => (r65 = 0 → mo_isRight_p_79 K t x y z S65) ∧ (¬ r65 = 0 → (¬ z = 0 → mo_isRight_p_79 K t x y z S65) ∧ (z = 0 → mo_isRight_p_80 K t x y z 1 S65))) x S := by
  refine pv_moValue (fun a b => ⟨fun e => absurd e (by decide), fun _ => ⟨fun c => ⟨pv_n0, h0 (fun q => c (hk.mp q).2)⟩, fun c => ⟨pv_n1, h1 (hk.mpr ⟨⟨a, b⟩, c⟩)⟩⟩⟩) (fun q => ⟨fun _ => ⟨pv_n0, h0 (fun w => q (hk.mp w).1)⟩, fun e => absurd rfl e⟩)
theorem pv_r_add (hk : pv_ok t x y z ↔ ((¬ x < 0 ∧ ¬ 16 ≤ x) ∧ (¬ y < 0 ∧ ¬ 16 ≤ y) ∧ (¬ z < 0 ∧ ¬ 16 ≤ z))) (h1 : pv_ok t x y z → K 1 S) (h0 : ¬ pv_ok t x y z → K 0 S) : mo_isValue_p_0 (fun r82 S82 => (r82 = 0 → mo_isRight_p_106 K t x y z S82) ∧ (¬ r82 = 0 → mo_isValue_p_0 (fun r89 S89 => (r89 = 0 → mo_isRight_p_106 K t x y z S89) ∧ (¬ r89 = 0 → mo_isValue_p_0 (fun r96 S96 => (r96 = 0 → mo_isRight_p_106 K t x y z S96) ∧ (¬ r96 = 0 → mo_isRight_p_107 K t x y z 1 S96)) z S89)) y S82)) x S := by
  refine pv_moValue (fun a1 b1 => ⟨fun e => absurd e (by decide), fun _ => ?_⟩) (fun q => ⟨fun _ => ⟨pv_n0, h0 (fun w => q (hk.mp w).1)⟩, fun e => absurd rfl e⟩)
  refine pv_moValue (fun a2 b2 => ⟨fun e => absurd e (by decide), fun _ => ?_⟩) (fun q => ⟨fun _ => ⟨pv_n0, h0 (fun w => q (hk.mp w).2.1)⟩, fun e => absurd rfl e⟩)
  exact pv_moValue (fun a3 b3 => ⟨fun e => absurd e (by decide), fun _ => ⟨pv_n1, h1 (hk.mpr ⟨⟨a1, b1⟩, ⟨a2, b2⟩, ⟨a3, b3⟩⟩)⟩⟩) (fun q => ⟨fun _ => ⟨pv_n0, h0 (fun w => q (hk.mp w).2.2)⟩, fun e => absurd rfl e⟩)
theorem pv_r_copy (hk : pv_ok t x y z ↔ ((¬ x < 0 ∧ ¬ 16 ≤ x) ∧ (¬ y < 0 ∧ ¬ 16 ≤ y) ∧ z = 0)) (h1 : pv_ok t x y z → K 1 S) (h0 : ¬ pv_ok t x y z → K 0 S) : mo_isValue_p_0 (fun r109 S109 => (r109 = 0 → mo_isRight_p_130 K t x y z S109) ∧ (¬ r109 = 0 → mo_isValue_p_0 (fun r116 S116 => (r116 = 0 → mo_isRight_p_130 K t x y z S116) ∧ (¬ r116 = 0 → (¬ z = 0 → mo_isRight_p_130 K t x y z S116) ∧ (z = 0 → mo_isRight_p_131 K t x y z 1 S116))) y S109)) x S := by
  refine pv_moValue (fun a1 b1 => ⟨fun e => absurd e (by decide), fun _ => ?_⟩) (fun q => ⟨fun _ => ⟨pv_n0, h0 (fun w => q (hk.mp w).1)⟩, fun e => absurd rfl e⟩)
  exact pv_moValue (fun a2 b2 => ⟨fun e => absurd e (by decide), fun _ => ⟨fun c => ⟨pv_n0, h0 (fun w => c (hk.mp w).2.2)⟩, fun c => ⟨pv_n1, h1 (hk.mpr ⟨⟨a1, b1⟩, ⟨a2, b2⟩, c⟩)⟩⟩⟩) (fun q => ⟨fun _ => ⟨pv_n0, h0 (fun w => q (hk.mp w).2.1)⟩, fun e => absurd rfl e⟩)
theorem pv_r_read (hk : pv_ok t x y z ↔ ((¬ x < 0 ∧ ¬ 16 ≤ x) ∧ y = 0 ∧ z = 0)) (h1 : pv_ok t x y z → K 1 S) (h0 : ¬ pv_ok t x y z → K 0 S) : mo_isValue_p_0 (fun r133 S133 => (r133 = 0 → mo_isRight_p_151 K t x y z S133) ∧ (¬ r133 = 0 → (¬ y = 0 → mo_isRight_p_151 K t x y z S133) ∧ (y = 0 → (¬ z = 0 → mo_isRight_p_151 K t x y z S133) ∧ (z = 0 → mo_isRight_p_152 K t x y z 1 S133)))) x S :=
  pv_moValue (fun a1 b1 => ⟨fun e => absurd e (by decide), fun _ => ⟨fun c => ⟨pv_n0, h0 (fun w => c (hk.mp w).2.1)⟩, fun c => ⟨fun d => ⟨pv_n0, h0 (fun w => d (hk.mp w).2.2)⟩, fun d => ⟨pv_n1, h1 (hk.mpr ⟨⟨a1, b1⟩, c, d⟩)⟩⟩⟩⟩) (fun q => ⟨fun _ => ⟨pv_n0, h0 (fun w => q (hk.mp w).1)⟩, fun e => absurd rfl e⟩)
theorem pv_r_go (hk : pv_ok t x y z ↔ ((¬ x < 0 ∧ ¬ 64 < x) ∧ y = 0 ∧ z = 0)) (h1 : pv_ok t x y z → K 1 S) (h0 : ¬ pv_ok t x y z → K 0 S) : mo_isTarget_p_0 (fun r154 S154 => (r154 = 0 → mo_isRight_p_172 K t x y z S154) ∧ (¬ r154 = 0 → (¬ y = 0 → mo_isRight_p_172 K t x y z S154) ∧ (y = 0 → (¬ z = 0 → mo_isRight_p_172 K t x y z S154) ∧ (z = 0 → mo_isRight_p_173 K t x y z 1 S154)))) x S :=
  pv_moTarget (fun a1 b1 => ⟨fun e => absurd e (by decide), fun _ => ⟨fun c => ⟨pv_n0, h0 (fun w => c (hk.mp w).2.1)⟩, fun c => ⟨fun d => ⟨pv_n0, h0 (fun w => d (hk.mp w).2.2)⟩, fun d => ⟨pv_n1, h1 (hk.mpr ⟨⟨a1, b1⟩, c, d⟩)⟩⟩⟩⟩) (fun q => ⟨fun _ => ⟨pv_n0, h0 (fun w => q (hk.mp w).1)⟩, fun e => absurd rfl e⟩)
theorem pv_r_less (hk : pv_ok t x y z ↔ ((¬ x < 0 ∧ ¬ 16 ≤ x) ∧ (¬ y < 0 ∧ ¬ 16 ≤ y) ∧ (¬ z < 0 ∧ ¬ 64 < z))) (h1 : pv_ok t x y z → K 1 S) (h0 : ¬ pv_ok t x y z → K 0 S) : mo_isValue_p_0 (fun r175 S175 => (r175 = 0 → mo_isRight_p_199 K t x y z S175) ∧ (¬ r175 = 0 → mo_isValue_p_0 (fun r182 S182 => (r182 = 0 → mo_isRight_p_199 K t x y z S182) ∧ (¬ r182 = 0 → mo_isTarget_p_0 (fun r189 S189 => (r189 = 0 → mo_isRight_p_199 K t x y z S189) ∧ (¬ r189 = 0 → mo_isRight_p_200 K t x y z 1 S189)) z S182)) y S175)) x S := by
  refine pv_moValue (fun a1 b1 => ⟨fun e => absurd e (by decide), fun _ => ?_⟩) (fun q => ⟨fun _ => ⟨pv_n0, h0 (fun w => q (hk.mp w).1)⟩, fun e => absurd rfl e⟩)
  refine pv_moValue (fun a2 b2 => ⟨fun e => absurd e (by decide), fun _ => ?_⟩) (fun q => ⟨fun _ => ⟨pv_n0, h0 (fun w => q (hk.mp w).2.1)⟩, fun e => absurd rfl e⟩)
  exact pv_moTarget (fun a3 b3 => ⟨fun e => absurd e (by decide), fun _ => ⟨pv_n1, h1 (hk.mpr ⟨⟨a1, b1⟩, ⟨a2, b2⟩, ⟨a3, b3⟩⟩)⟩⟩) (fun q => ⟨fun _ => ⟨pv_n0, h0 (fun w => q (hk.mp w).2.2)⟩, fun e => absurd rfl e⟩)
end IR
theorem pv_isRight {K : Int32 → rb_S → Prop} {t x y z : Int32} {S : rb_S} (h1 : pv_ok t x y z → K 1 S) (h0 : ¬ pv_ok t x y z → K 0 S) : mo_isRight_p_0 K t x y z S := by
  unfold mo_isRight_p_0
  refine ⟨fun e => ?_, fun e => ?_, fun e => ?_, fun e => ?_, fun e => ?_, fun e => ?_, fun e => ?_, fun e => ?_, fun e => ?_, fun e => ?_, fun e => ?_, fun e => ?_, fun e => ⟨pv_n0, h0 (fun q => ?_)⟩⟩
  · refine pv_r_set ?_ h1 h0
    rw [pv_okc t x y z 2 1 0 (by rw [e]; decide) (by rw [e]; decide) (by rw [e]; rfl) (by rw [e]; rfl) (by rw [e]; rfl)]
    simp only [pv_f2, pv_f1, pv_f0, true_and]
  · refine pv_r_add ?_ h1 h0
    rw [pv_okc t x y z 2 3 3 (by rw [e]; decide) (by rw [e]; decide) (by rw [e]; rfl) (by rw [e]; rfl) (by rw [e]; rfl)]
    simp only [pv_f2, pv_f3]
  · refine pv_r_add ?_ h1 h0
    rw [pv_okc t x y z 2 3 3 (by rw [e]; decide) (by rw [e]; decide) (by rw [e]; rfl) (by rw [e]; rfl) (by rw [e]; rfl)]
    simp only [pv_f2, pv_f3]
  · refine pv_r_add ?_ h1 h0
    rw [pv_okc t x y z 2 3 3 (by rw [e]; decide) (by rw [e]; decide) (by rw [e]; rfl) (by rw [e]; rfl) (by rw [e]; rfl)]
    simp only [pv_f2, pv_f3]
  · refine pv_r_copy ?_ h1 h0
    rw [pv_okc t x y z 2 3 0 (by rw [e]; decide) (by rw [e]; decide) (by rw [e]; rfl) (by rw [e]; rfl) (by rw [e]; rfl)]
    simp only [pv_f2, pv_f3, pv_f0]
  · refine pv_r_read ?_ h1 h0
    rw [pv_okc t x y z 2 0 0 (by rw [e]; decide) (by rw [e]; decide) (by rw [e]; rfl) (by rw [e]; rfl) (by rw [e]; rfl)]
    simp only [pv_f2, pv_f0]
  · refine pv_r_copy ?_ h1 h0
    rw [pv_okc t x y z 2 3 0 (by rw [e]; decide) (by rw [e]; decide) (by rw [e]; rfl) (by rw [e]; rfl) (by rw [e]; rfl)]
    simp only [pv_f2, pv_f3, pv_f0]
  · refine pv_r_copy ?_ h1 h0
    rw [pv_okc t x y z 3 3 0 (by rw [e]; decide) (by rw [e]; decide) (by rw [e]; rfl) (by rw [e]; rfl) (by rw [e]; rfl)]
    simp only [pv_f3, pv_f0]
  · refine pv_r_read ?_ h1 h0
    rw [pv_okc t x y z 3 0 0 (by rw [e]; decide) (by rw [e]; decide) (by rw [e]; rfl) (by rw [e]; rfl) (by rw [e]; rfl)]
    simp only [pv_f3, pv_f0]
  · refine pv_r_go ?_ h1 h0
    rw [pv_okc t x y z 4 0 0 (by rw [e]; decide) (by rw [e]; decide) (by rw [e]; rfl) (by rw [e]; rfl) (by rw [e]; rfl)]
    simp only [pv_f4, pv_f0]
  · refine pv_r_less ?_ h1 h0
    rw [pv_okc t x y z 3 3 4 (by rw [e]; decide) (by rw [e]; decide) (by rw [e]; rfl) (by rw [e]; rfl) (by rw [e]; rfl)]
    simp only [pv_f3, pv_f4]
  · refine pv_r_less ?_ h1 h0
    rw [pv_okc t x y z 3 3 4 (by rw [e]; decide) (by rw [e]; decide) (by rw [e]; rfl) (by rw [e]; rfl) (by rw [e]; rfl)]
    simp only [pv_f3, pv_f4]
  · rcases pv_out e with w | w
    · exact q.1 w
    · exact q.2.1 w
