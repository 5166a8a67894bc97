/-! ===== the law's loop ===== -/
section LP
theorem lp_cmp (x : Int64) : lg_cmp x x = 0 := by
  unfold lg_cmp
  rw [if_neg (Int64.lt_irrefl), if_pos rfl]
theorem lp_15 (x : Int32) : (∃ k : Nat, k < 13 ∧ x &&& 15 = nI k) ∨ 12 < (x &&& 15).toInt := by
  obtain ⟨j, hj, e⟩ := pk_andE x (m := 15) 4 (by decide)
  by_cases h : j < 13
  · exact Or.inl ⟨j, h, e⟩
  · right
    rw [e, nI_toInt (by omega)]
    omega
theorem la_loop (L : Nat) (xs : Nat → Int32) (hL : L ≤ 2560) : ∀ (m j : Nat) (S : rb_S) (kc ks : Nat), 5 * (j + m) ≤ L → L < 5 * (j + m) + 5 → iv S j → kc ≤ 37 + j → ks ≤ 3677 + 6 * j → la_law_p_23 L xs (m + 1) (nI (5 * j)) kc ks S := by
  intro m
  induction m with
  | zero =>
    intro j S kc ks h1 h2 hv hc hs
    refine ⟨fun _ => ⟨by omega, by omega⟩, fun q => absurd ?_ q⟩
    rw [Int32.lt_iff_toInt_lt, show (Int32.ofNat L - 5) = nI L - nI 5 from rfl, pk_sub_toInt (by omega) (by omega), nI_toInt (by omega)]
    omega
  | succ m ih =>
    intro j S kc ks h1 h2 hv hc hs
    have v0 : vp_in (nI (5 * j)) L := vp_in_nI (by omega) (by omega)
    have v1 : vp_in (nI (5 * j) + 1) L := by rw [← nI_succ]; exact vp_in_nI (by omega) (by omega)
    have v2 : vp_in (nI (5 * j) + 2) L := by rw [show (2 : Int32) = nI 2 from rfl, nI_add]; exact vp_in_nI (by omega) (by omega)
    have v3 : vp_in (nI (5 * j) + 3) L := by rw [show (3 : Int32) = nI 3 from rfl, nI_add]; exact vp_in_nI (by omega) (by omega)
    have v4 : vp_in (nI (5 * j) + 4) L := by rw [show (4 : Int32) = nI 4 from rfl, nI_add]; exact vp_in_nI (by omega) (by omega)
    have hj : j ≤ 512 := by omega
    have a1 : kc + 1 ≤ 1072 := by omega
    have a2 : ks + 6 ≤ 11935 := by omega
    have a3 : kc ≤ 1072 := by omega
    have a4 : ks ≤ 11935 := by omega
    have nx : ∀ (kc' ks' : Nat) (S' : rb_S), kc' ≤ 37 + (j + 1) → ks' ≤ 3677 + 6 * (j + 1) → iv S' (j + 1) → la_law_p_693 L xs (fun a0 kc ks T => la_law_p_23 L xs (m + 1) a0 kc ks T) (nI (5 * j)) kc' ks' S' := by
      intro kc' ks' S' b1 b2 b3 v693 q693
      rw [show (5 : Int32) = nI 5 from rfl, nI_add, show 5 * j + 5 = 5 * (j + 1) by omega] at q693
      subst q693
      exact ih (j + 1) S' kc' ks' (by omega) (by omega) b3 b1 b2
    have nx0 : ∀ S' : rb_S, iv S' (j + 1) → la_law_p_693 L xs (fun a0 kc ks T => la_law_p_23 L xs (m + 1) a0 kc ks T) (nI (5 * j)) kc ks S' := fun S' h => nx _ _ S' (by omega) (by omega) h
    have nx1 : ∀ S' : rb_S, iv S' (j + 1) → la_law_p_693 L xs (fun a0 kc ks T => la_law_p_23 L xs (m + 1) a0 kc ks T) (nI (5 * j)) (kc + 1) (ks + 6) S' := fun S' h => nx _ _ S' (by omega) (by omega) h
    refine ⟨fun q => ?_, fun _ => ⟨v0, ?_⟩⟩
    · rw [Int32.lt_iff_toInt_lt, show (Int32.ofNat L - 5) = nI L - nI 5 from rfl, pk_sub_toInt (by omega) (by omega), nI_toInt (by omega)] at q
      omega
    refine ⟨fun _ => ?_, fun _ => ?_, fun _ => ?_, fun _ => ?_, fun _ => ?_, fun _ => ?_, fun _ => ?_, fun _ => ?_, fun _ => ?_, fun _ => ?_, fun _ => ?_, fun _ => ?_, fun _ => ?_, fun _ => nx0 S (iv_more hv (by omega))⟩
    · simp only [v1, v2, v3, v4, a1, a2, a3, a4, true_and, and_self]
      exact pp_put hv (fun k b S2 e1 e2 i2 => ⟨fun _ => ⟨fun _ => nx1 S2 i2, fun e => ⟨fun _ => nx1 S2 i2, fun q => absurd (by rw [e2 e]; exact lp_cmp _) q⟩⟩, fun q => absurd e1 q⟩)
    · simp only [v1, v2, v3, v4, a1, a2, a3, a4, true_and, and_self]
      exact pp_clear hv (fun r S2 i2 => ⟨fun _ => nx0 S2 i2, fun q => absurd rfl q⟩)
    · simp only [v1, v2, v3, v4, a1, a2, a3, a4, true_and, and_self]
      exact pp_give hv (fun r S2 i2 => ⟨fun _ => nx0 S2 i2, fun q => absurd rfl q⟩)
    · simp only [v1, v2, v3, v4, a1, a2, a3, a4, true_and, and_self]
      exact pp_build hv (fun k b S2 e1 e2 i2 => ⟨fun _ => ⟨fun _ => nx1 S2 i2, fun e => ⟨fun _ => nx1 S2 i2, fun q => absurd (by rw [e2 e]; exact lp_cmp _) q⟩⟩, fun q => absurd e1 q⟩)
    · refine ⟨v1, v2, fun q0 => ?_, fun q0 => ?_⟩
      · unfold la_law_p_311 la_law_p_338
        simp only [v1, v2, v3, v4, a1, a2, a3, a4, q0, true_and, and_self, eq_self, true_implies, not_true_eq_false, false_implies, and_true]
        exact pp_span Iff.rfl hv (fun k b S2 e1 e2 i2 => ⟨fun _ => ⟨fun _ => nx1 S2 i2, fun e => ⟨fun _ => nx1 S2 i2, fun q => absurd (by rw [e2 e]; exact lp_cmp _) q⟩⟩, fun q => absurd e1 q⟩)
      · unfold la_law_p_311 la_law_p_338
        simp only [v1, v2, v3, v4, a1, a2, a3, a4, q0, true_and, and_self, true_implies, not_false_eq_true, false_implies, and_true]
        exact pp_span Iff.rfl hv (fun k b S2 e1 e2 i2 => ⟨fun _ => ⟨fun _ => nx1 S2 i2, fun e => ⟨fun _ => nx1 S2 i2, fun q => absurd (by rw [e2 e]; exact lp_cmp _) q⟩⟩, fun q => absurd e1 q⟩)
    · simp only [v1, v2, v3, v4, a1, a2, a3, a4, true_and, and_self]
      exact pp_lives hv (fun k b S2 e1 e2 i2 hb => ⟨fun _ => ⟨fun _ => nx1 S2 i2, fun e => ⟨fun q0 => ⟨fun _ => nx1 S2 i2, fun q => absurd (by rw [e2 e, q0]; exact lp_cmp _) q⟩, fun q0 => ⟨fun _ => nx1 S2 i2, fun q => absurd (by rw [e2 e, hb.resolve_left q0]; exact lp_cmp _) q⟩⟩⟩, fun q => absurd e1 q⟩)
    · simp only [v1, v2, v3, v4, a1, a2, a3, a4, true_and, and_self]
      exact pp_place hv (fun k b S2 e1 e2 i2 => ⟨fun _ => ⟨fun _ => nx1 S2 i2, fun e => ⟨fun _ => nx1 S2 i2, fun q => absurd (by rw [e2 e]; exact lp_cmp _) q⟩⟩, fun q => absurd e1 q⟩)
    · simp only [v1, v2, v3, v4, a1, a2, a3, a4, true_and, and_self]
      exact pp_pressure hv (fun r S2 i2 => ⟨fun _ => nx0 S2 i2, fun q => absurd rfl q⟩)
    · simp only [v1, v2, v3, v4, a1, a2, a3, a4, true_and, and_self]
      exact pp_run hj hv (fun k b S2 e1 e2 i2 => ⟨fun _ => ⟨fun _ => nx1 S2 i2, fun e => ⟨fun _ => nx1 S2 i2, fun q => absurd (by rw [e2 e]; exact lp_cmp _) q⟩⟩, fun q => absurd e1 q⟩)
    · simp only [v1, v2, v3, v4, a1, a2, a3, a4, true_and, and_self]
      exact pp_restart hv (fun r S2 i2 => ⟨fun _ => nx0 S2 i2, fun q => absurd rfl q⟩)
    · simp only [v1, v2, v3, v4, a1, a2, a3, a4, true_and, and_self]
      exact pp_value hv (fun k b S2 e1 e2 i2 => ⟨fun _ => ⟨fun _ => nx1 S2 i2, fun e => ⟨fun _ => nx1 S2 i2, fun q => absurd (by rw [e2 e]; exact lp_cmp _) q⟩⟩, fun q => absurd e1 q⟩)
    · simp only [v1, v2, v3, v4, a1, a2, a3, a4, true_and, and_self]
      exact pp_output hj hv (fun r S2 i2 => ⟨fun _ => nx0 S2 i2, fun q => absurd rfl q⟩)
    · simp only [v1, v2, v3, v4, a1, a2, a3, a4, true_and, and_self]
      exact pp_count hv (fun r S2 i2 => ⟨fun _ => nx0 S2 i2, fun q => absurd rfl q⟩)
theorem la_pure (L : Nat) (xs : Nat → Int32) (hL : L ≤ 2560) : ∃ n : Nat, la_law_p_23 L xs n 0 37 3677 (fun _ _ => 0) :=
  ⟨L / 5 + 1, la_loop L xs hL (L / 5) 0 _ _ _ (by omega) (by omega) iv_0 (by omega) (by omega)⟩
end LP
