/-! ===== level 2: numbers alone. What an instruction must be ===== -/
def pv_fit (r x : Int32) : Prop := (r = 1) ∨ ((r = 2 ∨ r = 3) ∧ ¬ x < 0 ∧ ¬ 16 ≤ x) ∨ (r = 4 ∧ ¬ x < 0 ∧ ¬ 64 < x) ∨ (r = 0 ∧ x = 0)
def pv_ok (t x y z : Int32) : Prop := ¬ t < 0 ∧ ¬ 12 ≤ t ∧ pv_fit (rb_rx t.toNatClampNeg) x ∧ pv_fit (rb_ry t.toNatClampNeg) y ∧ pv_fit (rb_rz t.toNatClampNeg) z
theorem pv_n0 : narrow .boolean (.int 0) = .int 0 := rfl
theorem pv_n1 : narrow .boolean (.int 1) = .int 1 := rfl
theorem pv_isValue {K : Int32 → rb_S → Prop} {x : Int32} {S : rb_S} (h1 : ¬ x < 0 → ¬ 16 ≤ x → K 1 S) (h0 : ¬ (¬ x < 0 ∧ ¬ 16 ≤ x) → K 0 S) : rm_isValue_p_0 K x S := by
  unfold rm_isValue_p_0
  refine ⟨fun a => ?_, fun a => ⟨fun b => ?_, fun b => ?_⟩⟩
  · exact ⟨pv_n0, h0 (fun q => q.1 a)⟩
  · exact ⟨pv_n0, h0 (fun q => q.2 b)⟩
  · exact ⟨pv_n1, h1 a b⟩
theorem pv_moValue {K : Int32 → rb_S → Prop} {x : Int32} {S : rb_S} (h1 : ¬ x < 0 → ¬ 16 ≤ x → K 1 S) (h0 : ¬ (¬ x < 0 ∧ ¬ 16 ≤ x) → K 0 S) : mo_isValue_p_0 K x S := by
  unfold mo_isValue_p_0
  refine ⟨fun a => ?_, fun a => ⟨fun b => ?_, fun b => ?_⟩⟩
  · exact ⟨pv_n0, h0 (fun q => q.1 a)⟩
  · exact ⟨pv_n0, h0 (fun q => q.2 b)⟩
  · exact ⟨pv_n1, h1 a b⟩
theorem pv_moTarget {K : Int32 → rb_S → Prop} {x : Int32} {S : rb_S} (h1 : ¬ x < 0 → ¬ 64 < x → K 1 S) (h0 : ¬ (¬ x < 0 ∧ ¬ 64 < x) → K 0 S) : mo_isTarget_p_0 K x S := by
  unfold mo_isTarget_p_0
  refine ⟨fun a => ?_, fun a => ⟨fun b => ?_, fun b => ?_⟩⟩
  · exact ⟨pv_n0, h0 (fun q => q.1 a)⟩
  · exact ⟨pv_n0, h0 (fun q => q.2 b)⟩
  · exact ⟨pv_n1, h1 a b⟩
/-- a number between 0 and 11, or not -/
theorem pv_sort (t : Int32) : (t.toInt < 0 ∨ 11 < t.toInt) ∨ (t = 0 ∨ t = 1 ∨ t = 2 ∨ t = 3 ∨ t = 4 ∨ t = 5 ∨ t = 6 ∨ t = 7 ∨ t = 8 ∨ t = 9 ∨ t = 10 ∨ t = 11) := by
  by_cases h : t.toInt < 0 ∨ 11 < t.toInt
  · exact Or.inl h
  · refine Or.inr ?_
    have e : ∀ k : Int32, t.toInt = k.toInt → t = k := fun k q => Int32.toInt_inj.mp q
    have h1 : 0 ≤ t.toInt := by omega
    have h2 : t.toInt ≤ 11 := by omega
    have : t.toInt = 0 ∨ t.toInt = 1 ∨ t.toInt = 2 ∨ t.toInt = 3 ∨ t.toInt = 4 ∨ t.toInt = 5 ∨ t.toInt = 6 ∨ t.toInt = 7 ∨ t.toInt = 8 ∨ t.toInt = 9 ∨ t.toInt = 10 ∨ t.toInt = 11 := by omega
    rcases this with q | q | q | q | q | q | q | q | q | q | q | q
    · exact Or.inl (e 0 q)
    · exact Or.inr (Or.inl (e 1 q))
    · exact Or.inr (Or.inr (Or.inl (e 2 q)))
    · exact Or.inr (Or.inr (Or.inr (Or.inl (e 3 q))))
    · exact Or.inr (Or.inr (Or.inr (Or.inr (Or.inl (e 4 q)))))
    · exact Or.inr (Or.inr (Or.inr (Or.inr (Or.inr (Or.inl (e 5 q))))))
    · exact Or.inr (Or.inr (Or.inr (Or.inr (Or.inr (Or.inr (Or.inl (e 6 q)))))))
    · exact Or.inr (Or.inr (Or.inr (Or.inr (Or.inr (Or.inr (Or.inr (Or.inl (e 7 q))))))))
    · exact Or.inr (Or.inr (Or.inr (Or.inr (Or.inr (Or.inr (Or.inr (Or.inr (Or.inl (e 8 q)))))))))
    · exact Or.inr (Or.inr (Or.inr (Or.inr (Or.inr (Or.inr (Or.inr (Or.inr (Or.inr (Or.inl (e 9 q))))))))))
    · exact Or.inr (Or.inr (Or.inr (Or.inr (Or.inr (Or.inr (Or.inr (Or.inr (Or.inr (Or.inr (Or.inl (e 10 q)))))))))))
    · exact Or.inr (Or.inr (Or.inr (Or.inr (Or.inr (Or.inr (Or.inr (Or.inr (Or.inr (Or.inr (Or.inr (e 11 q)))))))))))
theorem pv_out {t : Int32} (h : t.toInt < 0 ∨ 11 < t.toInt) : t < 0 ∨ 12 ≤ t := by
  rcases h with h | h
  · exact Or.inl (Int32.lt_iff_toInt_lt.mpr h)
  · refine Or.inr (Int32.le_iff_toInt_le.mpr ?_)
    show (12 : Int32).toInt ≤ t.toInt
    have : (12 : Int32).toInt = 12 := by decide
    omega
/-- Program.fits -/
theorem pv_fits {K : Int32 → rb_S → Prop} {r x : Int32} {S : rb_S} (hr : r = 0 ∨ r = 1 ∨ r = 2 ∨ r = 3 ∨ r = 4) (h1 : pv_fit r x → K 1 S) (h0 : ¬ pv_fit r x → K 0 S) : pg_fits_p_0 K r x S := by
  unfold pg_fits_p_0
  unfold pv_fit at h1 h0
  refine ⟨fun e => ?_, fun e => ?_, fun e => ?_, fun e => ?_, fun e => ?_⟩
  · exact ⟨pv_n1, h1 (Or.inl e)⟩
  · subst e
    exact pv_isValue (fun a b => ⟨pv_n1, h1 (Or.inr (Or.inl ⟨Or.inl rfl, a, b⟩))⟩) (fun q => ⟨pv_n0, h0 (fun z => by
      rcases z with z | ⟨-, z⟩ | ⟨z, -⟩ | ⟨z, -⟩
      · exact absurd z (by decide)
      · exact q z
      · exact absurd z (by decide)
      · exact absurd z (by decide))⟩)
  · subst e
    exact pv_isValue (fun a b => ⟨pv_n1, h1 (Or.inr (Or.inl ⟨Or.inr rfl, a, b⟩))⟩) (fun q => ⟨pv_n0, h0 (fun z => by
      rcases z with z | ⟨-, z⟩ | ⟨z, -⟩ | ⟨z, -⟩
      · exact absurd z (by decide)
      · exact q z
      · exact absurd z (by decide)
      · exact absurd z (by decide))⟩)
  · subst e
    refine ⟨fun a => ?_, fun a => ⟨fun b => ?_, fun b => ?_⟩⟩
    · exact ⟨pv_n0, h0 (fun z => by
        rcases z with z | ⟨z, -⟩ | ⟨-, z, -⟩ | ⟨z, -⟩
        · exact absurd z (by decide)
        · exact absurd z (by decide)
        · exact z a
        · exact absurd z (by decide))⟩
    · exact ⟨pv_n0, h0 (fun z => by
        rcases z with z | ⟨z, -⟩ | ⟨-, -, z⟩ | ⟨z, -⟩
        · exact absurd z (by decide)
        · exact absurd z (by decide)
        · exact z b
        · exact absurd z (by decide))⟩
    · exact ⟨pv_n1, h1 (Or.inr (Or.inr (Or.inl ⟨rfl, a, b⟩)))⟩
  · have hr0 : r = 0 := by
      rcases hr with rfl | rfl | rfl | rfl | rfl
      · rfl
      · exact absurd e (by decide)
      · exact absurd e (by decide)
      · exact absurd e (by decide)
      · exact absurd e (by decide)
    subst hr0
    refine ⟨fun a => ?_, fun a => ?_⟩
    · exact ⟨pv_n0, h0 (fun z => by
        rcases z with z | ⟨z, -⟩ | ⟨z, -⟩ | ⟨-, z⟩
        · exact absurd z (by decide)
        · exact absurd z (by decide)
        · exact absurd z (by decide)
        · exact a z)⟩
    · exact ⟨pv_n1, h1 (Or.inr (Or.inr (Or.inr ⟨rfl, a⟩)))⟩
theorem pv_role (f : Nat → Int32) (hf : f = rb_rx ∨ f = rb_ry ∨ f = rb_rz) (k : Nat) : f k = 0 ∨ f k = 1 ∨ f k = 2 ∨ f k = 3 ∨ f k = 4 := by
  rcases hf with rfl | rfl | rfl
  · unfold rb_rx; split <;> decide
  · unfold rb_ry; split <;> decide
  · unfold rb_rz; split <;> decide
theorem pv_in12 {t : Int32} (h1 : ¬ t < 0) (h2 : ¬ 12 ≤ t) : vp_in t 12 := by
  rw [vp_in_iff]
  have a1 : ¬ t.toInt < 0 := fun q => h1 (Int32.lt_iff_toInt_lt.mpr q)
  have a2 : ¬ 12 ≤ t.toInt := fun q => h2 (Int32.le_iff_toInt_le.mpr (by
    show (12 : Int32).toInt ≤ t.toInt
    have : (12 : Int32).toInt = 12 := by decide
    omega))
  omega
/-- Program.allows -/
theorem pv_allows {K : Int32 → rb_S → Prop} {t x y z : Int32} {S : rb_S} (h1 : pv_ok t x y z → K 1 S) (h0 : ¬ pv_ok t x y z → K 0 S) : pg_allows_p_0 K t x y z S := by
  unfold pg_allows_p_0
  unfold pv_ok at h1 h0
  refine ⟨fun a => ⟨pv_n0, h0 (fun q => q.1 a)⟩, fun a => ⟨fun b => ⟨pv_n0, h0 (fun q => q.2.1 b)⟩, fun b => ⟨pv_in12 a b, ?_⟩⟩⟩
  refine pv_fits (pv_role _ (Or.inl rfl) _) (fun f1 => ⟨fun e => absurd e (by decide), fun _ => ⟨pv_in12 a b, ?_⟩⟩) (fun f1 => ⟨fun _ => ⟨pv_n0, h0 (fun q => f1 q.2.2.1)⟩, fun e => absurd rfl e⟩)
  refine pv_fits (pv_role _ (Or.inr (Or.inl rfl)) _) (fun f2 => ⟨fun e => absurd e (by decide), fun _ => ⟨pv_in12 a b, ?_⟩⟩) (fun f2 => ⟨fun _ => ⟨pv_n0, h0 (fun q => f2 q.2.2.2.1)⟩, fun e => absurd rfl e⟩)
  exact pv_fits (pv_role _ (Or.inr (Or.inr rfl)) _) (fun f3 => ⟨fun e => absurd e (by decide), fun _ => ⟨pv_n1, h1 ⟨a, b, f1, f2, f3⟩⟩⟩) (fun f3 => ⟨fun _ => ⟨pv_n0, h0 (fun q => f3 q.2.2.2.2)⟩, fun e => absurd rfl e⟩)
