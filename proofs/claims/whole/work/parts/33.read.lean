/-! ===== the calls that only read ===== -/
theorem pv_nat {x : Int32} {N : Nat} {M : Int32} (hM : M.toInt = N) (h1 : ¬ x < 0) (h2 : ¬ M ≤ x) : ∃ k : Nat, k < N ∧ x = nI k := by
  have a1 : ¬ x.toInt < 0 := fun q => h1 (Int32.lt_iff_toInt_lt.mpr q)
  have a2 : ¬ (N : Int) ≤ x.toInt := fun q => h2 (Int32.le_iff_toInt_le.mpr (by omega))
  obtain ⟨j, hj, e⟩ := nI_of h1
  have : x.toInt = j := by rw [e]; exact nI_toInt hj
  exact ⟨j, by omega, e⟩
theorem pv_in16 {x : Int32} (h1 : ¬ x < 0) (h2 : ¬ 16 ≤ x) : vp_in x 16 := by
  obtain ⟨k, hk, rfl⟩ := pv_nat (N := 16) (by decide) h1 h2
  exact vp_in_nI hk (by decide)
theorem ps_moSpan {K : Int32 → rb_S → Prop} {x y : Int32} {S : rb_S} (a : ¬ x < 0) (b : ¬ 16 ≤ x) (h : K (if S 1 3 = 0 then -1 else if y = 0 then S 29 x.toNatClampNeg else S 30 x.toNatClampNeg) (rb_u S 1 0 0)) : mo_span_p_0 K x y S := by
  refine pv_moValue (fun _ _ => ⟨fun e => absurd e (by decide), fun _ => ?_⟩) (fun q => absurd ⟨a, b⟩ q)
  intro S1 e1
  subst e1
  refine ⟨fun _ => ⟨fun e => ⟨fun e2 => ⟨pv_in16 a b, ?_⟩, fun e2 => ⟨pv_in16 a b, ?_⟩⟩, fun e => ?_⟩, fun e => absurd (by rw [ru_s]; decide) e⟩
  · have e' : ¬ S 1 3 = 0 := e
    rw [if_neg e', if_pos e2] at h
    exact h
  · have e' : ¬ S 1 3 = 0 := e
    rw [if_neg e', if_neg e2] at h
    exact h
  · have e' : S 1 3 = 0 := e
    rw [if_pos e'] at h
    exact h
theorem ps_moSpanX {K : Int32 → rb_S → Prop} {x y : Int32} {S : rb_S} (a : ¬ (¬ x < 0 ∧ ¬ 16 ≤ x)) (h : K 0 (rb_u S 1 0 1)) : mo_span_p_0 K x y S := by
  refine pv_moValue (fun q1 q2 => absurd ⟨q1, q2⟩ a) (fun _ => ⟨fun _ => ?_, fun e => absurd rfl e⟩)
  intro S1 e1
  subst e1
  exact ⟨fun e => absurd e (by rw [ru_s]; decide), fun _ => h⟩
/-- what a compared call leaves: what the reference threw, what it answers -/
theorem pp_span {G : Int32 → Int32 → rb_S → Prop} {S : rb_S} {c : Nat} {x y y' : Int32} (hy : y = 0 ↔ y' = 0) (h : iv S c) (hG : ∀ (k b : Int32) (S2 : rb_S), S2 1 0 = k → (k = 0 → S2 36 0 = b) → iv S2 (c + 1) → G k b S2) : la_span_p_0 (fun k S1 => mo_span_p_0 (fun b S2 => G k b S2) x y' S1) x y S := by
  have hb : S 1 3 = S 0 0 := by obtain ⟨n, w, hd, -, -, -, -, -, -, -, -, hb, -⟩ := h; exact hb
  have hV : ¬ S 0 0 = 0 → ∀ v : Nat, v < 16 → S 12 v = S 29 v ∧ S 13 v = S 30 v := by
    intro e v hv
    obtain ⟨n, w, hd, -, -, -, -, -, -, -, -, -, hc⟩ := h
    rcases hc with ⟨q, -⟩ | ⟨-, hC, -⟩
    · exact absurd q e
    · exact ⟨(hC.2.2.2.2 v hv).1, (hC.2.2.2.2 v hv).2.1⟩
  refine pv_isValue (fun a b => ⟨fun _ => ⟨fun e => ⟨fun e2 => ⟨pv_in16 a b, ?_⟩, fun e2 => ⟨pv_in16 a b, ?_⟩⟩, fun e => ?_⟩, fun e => absurd e (by decide)⟩) (fun q => ⟨fun e => absurd rfl e, fun _ => ⟨rfl, ps_moSpanX q (hG _ _ _ (ru_s _ _ _ _) (fun e => absurd e (by decide)) (iv_same h (iv_zu0 _ _)))⟩⟩)
  · intro S9 e9
    subst e9
    refine ps_moSpan a b (hG _ _ _ (ru_s _ _ _ _) (fun _ => ?_) (iv_same h ((iv_zu0 _ _).trans (iv_zu36 _ _ _))))
    obtain ⟨v, hv, rfl⟩ := pv_nat (N := 16) (by decide) a b
    rw [show rb_u S 36 0 (S 12 (nI v).toNatClampNeg) 1 3 = S 1 3 from rfl, hb, if_neg e, if_pos (hy.mp e2), nI_clamp (by omega)]
    exact (hV e v hv).1
  · intro S9 e9
    subst e9
    refine ps_moSpan a b (hG _ _ _ (ru_s _ _ _ _) (fun _ => ?_) (iv_same h ((iv_zu0 _ _).trans (iv_zu36 _ _ _))))
    obtain ⟨v, hv, rfl⟩ := pv_nat (N := 16) (by decide) a b
    rw [show rb_u S 36 0 (S 13 (nI v).toNatClampNeg) 1 3 = S 1 3 from rfl, hb, if_neg e, if_neg (fun q => e2 (hy.mpr q)), nI_clamp (by omega)]
    exact (hV e v hv).2
  · intro S9 e9
    subst e9
    refine ps_moSpan a b (hG _ _ _ (ru_s _ _ _ _) (fun _ => ?_) (iv_same h ((iv_zu0 _ _).trans (iv_zu36 _ _ _))))
    rw [show rb_u S 36 0 (-1) 1 3 = S 1 3 from rfl, hb, if_pos e]
    rfl
theorem pp_place {G : Int32 → Int32 → rb_S → Prop} {S : rb_S} {c : Nat} {x : Int32} (h : iv S c) (hG : ∀ (k b : Int32) (S2 : rb_S), S2 1 0 = k → (k = 0 → S2 36 0 = b) → iv S2 (c + 1) → G k b S2) : la_place_p_0 (fun k S1 => mo_place_p_0 (fun b S2 => G k b S2) x S1) x S := by
  have hb : S 1 3 = S 0 0 := by obtain ⟨n, w, hd, -, -, -, -, -, -, -, -, hb, -⟩ := h; exact hb
  have hV : ¬ S 0 0 = 0 → ∀ v : Nat, v < 16 → S 14 v = S 31 v := by
    intro e v hv
    obtain ⟨n, w, hd, -, -, -, -, -, -, -, -, -, hc⟩ := h
    rcases hc with ⟨q, -⟩ | ⟨-, hC, -⟩
    · exact absurd q e
    · exact (hC.2.2.2.2 v hv).2.2.1
  refine pv_isValue (fun a b => ⟨fun _ => ⟨fun e => ?_, fun e => ⟨pv_in16 a b, ?_⟩⟩, fun e => absurd e (by decide)⟩) (fun q => ⟨fun e => absurd rfl e, fun _ => ⟨rfl, ?_⟩⟩)
  · intro S9 e9
    subst e9
    refine pv_moValue (fun _ _ => ⟨fun e => absurd e (by decide), fun _ => ?_⟩) (fun q => absurd ⟨a, b⟩ q)
    intro S1 e1
    subst e1
    refine ⟨fun _ => ⟨fun e2 => ?_, fun e2 => absurd ((show S 1 3 = 0 from hb.trans e)) e2⟩, fun e => absurd (by rw [ru_s]; decide) e⟩
    exact hG _ _ _ (ru_s _ _ _ _) (fun _ => rfl) (iv_same h ((iv_zu0 _ _).trans (iv_zu36 _ _ _)))
  · intro S9 e9
    subst e9
    refine pv_moValue (fun _ _ => ⟨fun e => absurd e (by decide), fun _ => ?_⟩) (fun q => absurd ⟨a, b⟩ q)
    intro S1 e1
    subst e1
    refine ⟨fun _ => ⟨fun e2 => absurd (hb.symm.trans (show S 1 3 = 0 from e2)) e, fun e2 => ⟨pv_in16 a b, ?_⟩⟩, fun e => absurd (by rw [ru_s]; decide) e⟩
    refine hG _ _ _ (ru_s _ _ _ _) (fun _ => ?_) (iv_same h ((iv_zu0 _ _).trans (iv_zu36 _ _ _)))
    obtain ⟨v, hv, rfl⟩ := pv_nat (N := 16) (by decide) a b
    show S 14 (nI v).toNatClampNeg = S 31 (nI v).toNatClampNeg
    rw [nI_clamp (by omega)]
    exact hV e v hv
  · refine pv_moValue (fun q1 q2 => absurd ⟨q1, q2⟩ q) (fun _ => ⟨fun _ => ?_, fun e => absurd rfl e⟩)
    intro S1 e1
    subst e1
    exact ⟨fun e => absurd e (by rw [ru_s]; decide), fun _ => hG _ _ _ (ru_s _ _ _ _) (fun e => absurd e (by decide)) (iv_same h (iv_zu0 _ _))⟩
