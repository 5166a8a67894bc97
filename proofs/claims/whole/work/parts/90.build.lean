/-! ===== build ===== -/
section BU
variable {G : Int32 → Int32 → rb_S → Prop} {S : rb_S} {c : Nat} {x : Int32}
theorem pt_inQ {S Q : rb_S} {n : Nat} (h6 : S 6 = Q 6) (h7 : S 7 = Q 7) (h9 : S 9 = Q 9) : pt_in S n n ↔ pt_in Q n n := by
  have a : pt_tg S = pt_tg Q := by funext i; unfold pt_tg; rw [h6, h7, h9]
  unfold pt_in
  rw [a]
/-- what an instruction names has a span -/
theorem lv_rd {S : rb_S} {n v i : Nat} (hi : i < n) (h : pt_rd S v i = true) : lv_T S n v (2 * i) = true := by
  unfold lv_T lv_L lv_A
  rw [if_pos (by omega), show 2 * i / 2 = i by omega, lm_A_eq n _ _ _ i hi]
  unfold lm_F
  rw [h, Bool.true_or, Bool.true_or]
theorem lv_st {S : rb_S} {n v i : Nat} (h : pt_st S v i = true) : lv_T S n v (2 * i + 1) = true := by
  unfold lv_T
  rw [show (2 * i + 1) / 2 = i by omega, h, decide_eq_true (by omega), Bool.true_and, Bool.or_true]
theorem pp_build (h : iv S c) (hG : ∀ (k b : Int32) (S2 : rb_S), S2 1 0 = k → (k = 0 → S2 36 0 = b) → iv S2 (c + 1) → G k b S2) : la_build_p_0 (fun k S1 => mo_build_p_0 (fun b S2 => G k b S2) x S1) x S := by
  have hv := h
  obtain ⟨n, w, hd, hn, hw, hh, e1, e2, hP, hI, hO, hb, -⟩ := h
  have thr : ∀ k : Int32, ¬ k ≤ 0 → ¬ k = 0 → mo_build_p_28 (fun b S2 => G k b S2) x k S := by
    intro k hk hk0 S28 q28
    subst q28
    refine ⟨fun q => absurd q (by rw [ru_s]; exact hk), fun _ => hG _ _ _ (ru_s _ _ _ _) (fun e => absurd e hk0) (iv_same hv (iv_zu0 _ _))⟩
  refine ⟨fun c1 => Or.inl ⟨rfl, fun _ => thr 1 (by decide) (by decide), fun q => absurd c1 q⟩, fun c1 => ⟨fun c2 => ?_, fun c2 => Or.inl ⟨rfl, fun q => absurd q c1, fun _ => ⟨fun q => absurd q c2, fun _ => thr 1 (by decide) (by decide)⟩⟩⟩⟩
  refine pt_astray hn e1 hP (fun hin => ⟨fun _ => ?_, fun q => absurd rfl q⟩) (fun hin => ⟨fun q => absurd q (by decide), fun _ => Or.inr ⟨rfl, fun q => absurd q c1, fun _ => ⟨fun _ => pt_nowhere hn e2 hP (fun q => absurd q hin) (fun _ => ⟨fun q => absurd q (by decide), fun _ => thr 2 (by decide) (by decide)⟩), fun q => absurd c2 q⟩⟩⟩)
  obtain ⟨r, hr, rfl⟩ : ∃ r : Nat, r ≤ 8 ∧ x = nI r := by
    have p0 : ¬ x < 0 := by
      intro q
      refine c1 ?_
      rw [Int32.lt_iff_toInt_lt] at q ⊢
      have : (0 : Int32).toInt = 0 := rfl
      have : (1 : Int32).toInt = 1 := rfl
      omega
    obtain ⟨r, hr, e⟩ := nI_of2 (n := 8) (by decide) p0 c2
    exact ⟨r, hr, e⟩
  -- the spans
  have hff : ∀ u : Nat, u < 16 → sf (lv_T S n u) (2 * n) = -1 ∨ ∃ b : Nat, b < 128 ∧ sf (lv_T S n u) (2 * n) = nI b := by
    intro u _
    rcases sf_c (lv_T S n u) (2 * n) with q | ⟨k, hk, q⟩
    · exact Or.inl q
    · exact Or.inr ⟨k, by omega, q⟩
  refine ps_find hn e1 hP hin (fun S1 a1 a2 a3 a4 a5 => ?_)
  refine sh_share (f := fun u => sf (lv_T S n u) (2 * n)) (l := fun u => sl (lv_T S n u) (2 * n)) hn hr a3 (fun u hu => (a5 u hu).1) (fun u hu => (a5 u hu).2) hff (fun S2 b1 b2 b3 b4 => ?_)
  generalize hA : al_it (fun u => sf (lv_T S n u) (2 * n)) (fun u => sl (lv_T S n u) (2 * n)) r (16 * (2 * n)) = A at b3 b4
  have wf : al_wf (fun u => sf (lv_T S n u) (2 * n)) r (16 * (2 * n)) A := by
    rw [← hA]
    exact al_wfi hr hff _ (by omega)
  have bS : ∀ g : Nat, g ≠ 0 → (g < 11 ∨ 15 < g) → S2 g = S g := fun g g0 hg => (b1 g g0 (by omega) (by omega)).trans (a1 g g0 (by omega) (by omega) (by omega))
  have hP2 : iv_P S2 n := iv_Pof (bS 6 (by decide) (by decide)) (bS 7 (by decide) (by decide)) (bS 8 (by decide) (by decide)) (bS 9 (by decide) (by decide)) (bS 24 (by decide) (by decide)) hP
  refine tk_take hn (by rw [b2 1 (by decide) (by decide), a2 1 (by decide), e1]) hP2 (fun S3 d1 d2 d3 d4 => ?_)
  refine pf_maBegin (fun S4 f4 => ?_)
  intro S5 q5 S6 q6
  have f40 : ∀ j : Nat, j < 8 → S4 0 j = S3 0 j := f4.2.1
  -- the class's state
  have g6 : ∀ g : Nat, g ≠ 0 → g ≠ 20 → g ≠ 21 → g ≠ 36 → S6 g = S3 g := by
    intro g g0 g1 g2 g3
    rw [q6, ru_g g3, q5, ru_g g0, f4.1 g g0 g1 g2]
  have j6 : ∀ j : Nat, j ≠ 0 → S6 0 j = S4 0 j := by
    intro j hj
    rw [q6, ru_g (by decide), q5, ru_j hj]
  have z6 : S6 0 0 = 1 := by rw [q6, ru_g (by decide), q5, ru_s]
  have s36 : S6 36 0 = nI A.2 := by
    rw [q6, ru_s, q5, ru_j (by decide), f40 6 (by decide), d2 6 (by decide), b4]
  have gS : ∀ g : Nat, g ≠ 0 → (g < 11 ∨ 22 ≤ g) → g ≠ 36 → S6 g = S g := by
    intro g g0 hg g3
    rw [g6 g g0 (by omega) (by omega) g3, d1 g g0 (by omega), bS g g0 (by omega)]
  have m6 : S6 1 = S 1 := gS 1 (by decide) (by decide) (by decide)
  have hP6 : iv_P S6 n := iv_Pof (gS 6 (by decide) (by decide) (by decide)) (gS 7 (by decide) (by decide) (by decide)) (gS 8 (by decide) (by decide) (by decide)) (gS 9 (by decide) (by decide) (by decide)) (gS 24 (by decide) (by decide) (by decide)) hP
  have hin6 : pt_in S6 n n := (pt_inQ (gS 6 (by decide) (by decide) (by decide)) (gS 7 (by decide) (by decide) (by decide)) (gS 9 (by decide) (by decide) (by decide))).mpr hin
  refine ⟨fun q => absurd q c1, fun _ => ⟨fun _ => pt_nowhere hn (by rw [m6]; exact e2) hP6 (fun _ => ⟨fun _ => ?_, fun q => absurd rfl q⟩) (fun q => absurd hin6 q), fun q => absurd c2 q⟩⟩
  intro S7 q7
  have g7 : ∀ g : Nat, g ≠ 1 → S7 g = S6 g := by
    intro g hg
    rw [q7, ru_g hg]
  have j7 : ∀ j : Nat, j ≠ 0 → S7 1 j = S 1 j := by
    intro j hj
    rw [q7, ru_j hj, m6]
  have z7 : S7 1 0 = 0 := by rw [q7, ru_s]
  refine ⟨fun _ => ?_, fun q => absurd (by rw [z7]; decide) q⟩
  obtain ⟨eL, eT, -, -⟩ := lv_Q (S := S7) (Q := S) ((g7 6 (by decide)).trans (gS 6 (by decide) (by decide) (by decide))) ((g7 7 (by decide)).trans (gS 7 (by decide) (by decide) (by decide))) ((g7 8 (by decide)).trans (gS 8 (by decide) (by decide) (by decide))) ((g7 9 (by decide)).trans (gS 9 (by decide) (by decide) (by decide)))
  have hP7 : iv_P S7 n := iv_Pof (g7 6 (by decide)) (g7 7 (by decide)) (g7 8 (by decide)) (g7 9 (by decide)) (g7 24 (by decide)) hP6
  have hin7 : pt_in S7 n n := (pt_inQ (g7 6 (by decide)) (g7 7 (by decide)) (g7 9 (by decide))).mpr hin6
  refine ms_spans hn (by rw [j7 1 (by decide)]; exact e2) hP7 hin7 (fun S8 h8 => ?_)
  obtain ⟨k1, k2, k3, k4⟩ := h8
  rw [eL] at k3
  rw [eT] at k4
  intro S9 q9
  have g9 : ∀ g : Nat, g ≠ 1 → S9 g = S8 g := by
    intro g hg
    rw [q9, ru_g hg]
  have hfN : ∀ u a : Nat, u < 16 → a < 128 → sf (lv_T S n u) (2 * n) = nI a → 16 * a + u < 16 * (2 * n) := by
    intro u a hu ha e
    rcases sf_c (lv_T S n u) (2 * n) with q | ⟨k, hk, q⟩
    · rw [e] at q
      exact absurd q (nI_m1 (by omega))
    · rw [e, nI_eq (by omega) (by omega)] at q
      omega
  refine ⟨17, mb_51 (Q := S9) (f := fun u => sf (lv_T S n u) (2 * n)) (l := fun u => sl (lv_T S n u) (2 * n)) (N := 16 * (2 * n)) (by omega) hr hfN hff (fun u hu => by rw [g9 29 (by decide)]; exact (k4 u hu).1) (fun u hu => by rw [g9 30 (by decide)]; exact (k4 u hu).2) (by rw [q9, ru_s]) (fun y S10 h10 => ?_) 16 0 S9 (by omega) (fun _ _ => rfl) (fun u' hu' => absurd hu' (by omega))⟩
  obtain ⟨l1, l2, l3, l4⟩ := h10
  rw [hA] at l3 l4
  intro S11 q11
  refine pf_moBegin (fun V hV => ?_)
  -- the whole way, by group
  have v7 : ∀ g : Nat, g ≠ 1 → (g < 26 ∨ 30 < g) → g ≠ 31 → g ≠ 32 → g ≠ 33 → g ≠ 34 → V g = S6 g := by
    intro g g1 gg g2 g3 g4 g5
    rw [hV.1 g g1 g3 g4 g5, q11, ru_g g1, l1 g g1 g2, g9 g g1, k1 g g1 gg, g7 g g1]
  have v8 : ∀ g : Nat, g = 26 ∨ g = 29 ∨ g = 30 → V g = S8 g := by
    intro g hg
    rw [hV.1 g (by omega) (by omega) (by omega) (by omega), q11, ru_g (by omega), l1 g (by omega) (by omega), g9 g (by omega)]
  have v31 : V 31 = S10 31 := by rw [hV.1 31 (by decide) (by decide) (by decide) (by decide), q11, ru_g (by decide)]
  have v0 : V 0 = S6 0 := v7 0 (by decide) (by decide) (by decide) (by decide) (by decide) (by decide)
  have v1 : ∀ j : Nat, j < 3 → j ≠ 0 → V 1 j = S 1 j := by
    intro j hj h0
    rw [hV.2.1 j (by omega), q11, ru_j (by omega), l2 j (by omega), q9, ru_j (by omega), k2 j (by omega), j7 j h0]
  have v10 : V 1 0 = 0 := by
    rw [hV.2.1 0 (by omega), q11, ru_j (by omega), l2 0 (by omega), q9, ru_j (by omega), k2 0 (by omega), z7]
  have v13 : V 1 3 = 1 := by rw [hV.2.1 3 (by omega), q11, ru_s]
  have v15 : V 1 5 = nI A.2 := by rw [hV.2.1 5 (by omega), q11, ru_j (by omega), l4]
  have vS : ∀ g : Nat, g ≠ 0 → g ≠ 1 → (g < 11 ∨ 22 ≤ g ∧ g < 26 ∨ g = 35) → V g = S g := by
    intro g g0 g1 hg
    rw [v7 g g1 (by omega) (by omega) (by omega) (by omega) (by omega), gS g g0 (by omega) (by omega)]
  have v3 : ∀ g : Nat, 11 ≤ g → g < 20 → V g = S3 g := by
    intro g g0 g1
    rw [v7 g (by omega) (by omega) (by omega) (by omega) (by omega) (by omega), g6 g (by omega) (by omega) (by omega) (by omega)]
  have v2 : ∀ g : Nat, 11 ≤ g → g < 16 → V g = S2 g := fun g g0 g1 => (v3 g g0 (by omega)).trans (d1 g (by omega) (by omega))
  have vv1 : ∀ g : Nat, 11 ≤ g → g < 14 → V g = S1 g := fun g g0 g1 => (v2 g g0 (by omega)).trans (b1 g (by omega) (by omega) (by omega))
  have w0 : ∀ j : Nat, j ≠ 0 → V 0 j = S4 0 j := fun j hj => (congrFun v0 j).trans (j6 j hj)
  have w03 : ∀ j : Nat, j ≠ 0 → j < 8 → V 0 j = S3 0 j := fun j hj h8 => (w0 j hj).trans (f40 j h8)
  have w0S : ∀ j : Nat, j ≠ 0 → j < 4 → V 0 j = S 0 j := by
    intro j h0 h4
    rw [w03 j h0 (by omega), d2 j (by omega), b2 j (by omega) (by omega), a2 j (by omega)]
  -- who has a place
  have plc : ∀ u : Nat, u < 16 → (∃ p : Nat, p < 2 * n ∧ lv_T S n u p = true) → iv_pl (V 14 u) := by
    intro u hu ⟨p, hp, e⟩
    have e14 : V 14 u = A.1 u := by rw [v2 14 (by decide) (by decide), b3 u hu]
    rw [e14]
    rcases al_plc hr (wf.1 u hu) with q | q
    · exfalso
      obtain ⟨a, ha, ea⟩ : ∃ b : Nat, b < 128 ∧ sf (lv_T S n u) (2 * n) = nI b := by
        rcases hff u hu with y | y
        · exact absurd y (sf_ex (lv_T S n u) e (2 * n) (by omega) hp)
        · exact y
      exact (wf.2.1 u hu).mpr ⟨a, ha, ea, hfN u a hu ha ea⟩ q
    · exact q
  have s6 : V 6 = S 6 := vS 6 (by decide) (by decide) (by decide)
  have s7 : V 7 = S 7 := vS 7 (by decide) (by decide) (by decide)
  have s8 : V 8 = S 8 := vS 8 (by decide) (by decide) (by decide)
  have s9 : V 9 = S 9 := vS 9 (by decide) (by decide) (by decide)
  refine hG 0 _ V v10 (fun _ => ?_) ⟨n, w, hd, hn, hw, hh, ?_, ?_, ?_, ?_, ?_, ?_, Or.inr ⟨?_, ⟨?_, ?_, fun i hi => ⟨?_, ?_, ?_⟩, fun v p hv hp => ?_, fun v hv => ?_⟩, ?_⟩⟩
  · rw [v7 36 (by decide) (by decide) (by decide) (by decide) (by decide) (by decide), s36, v15]
  · rw [w0S 1 (by decide) (by decide), e1]
  · rw [v1 1 (by decide) (by decide), e2]
  · exact iv_Pof s6 s7 s8 s9 (vS 24 (by decide) (by decide) (by decide)) hP
  · exact iv_Iof (w0S 2 (by decide) (by decide)) (w0S 3 (by decide) (by decide)) (v1 2 (by decide) (by decide)) (vS 10 (by decide) (by decide) (by decide)) (vS 25 (by decide) (by decide) (by decide)) hI
  · exact iv_Oof (vS 22 (by decide) (by decide) (by decide)) (vS 35 (by decide) (by decide) (by decide)) hO
  · rw [v13, v0, z6]
  · rw [v0, z6]
  · rw [w03 4 (by decide) (by decide), d2 4 (by decide), b2 4 (by decide) (by decide), a3]
  · rw [w03 7 (by decide) (by decide), d3]
  · have := pt_T hn hi (hP i hi).1 hin
    unfold iv_T at this ⊢
    rw [s6, s7, s9]
    exact this
  · have ok := (hP i hi).1
    unfold iv_U
    rw [s6, s7, s8, s9]
    refine ⟨fun q => ?_, fun q => ?_, fun q => ?_⟩
    · have hx := pv_fitv q ok.2.2.1
      obtain ⟨u, hu, e⟩ := pv_nat (N := 16) (by decide) hx.1 hx.2
      rw [e, nI_clamp (by omega)]
      rcases q with q | q
      · exact plc u hu ⟨2 * i + 1, by omega, lv_st (decide_eq_true ⟨q, e⟩)⟩
      · exact plc u hu ⟨2 * i, by omega, lv_rd hi (pt_rdi.mpr (Or.inl ⟨q, e⟩))⟩
    · have hx := pv_fitv (Or.inr q) ok.2.2.2.1
      obtain ⟨u, hu, e⟩ := pv_nat (N := 16) (by decide) hx.1 hx.2
      rw [e, nI_clamp (by omega)]
      exact plc u hu ⟨2 * i, by omega, lv_rd hi (pt_rdi.mpr (Or.inr (Or.inl ⟨q, e⟩)))⟩
    · have hx := pv_fitv (Or.inr q) ok.2.2.2.2
      obtain ⟨u, hu, e⟩ := pv_nat (N := 16) (by decide) hx.1 hx.2
      rw [e, nI_clamp (by omega)]
      exact plc u hu ⟨2 * i, by omega, lv_rd hi (pt_rdi.mpr (Or.inr (Or.inr ⟨q, e⟩)))⟩
  · refine iv_Mof ?_ ?_ ?_ ?_ (v3 14 (by decide) (by decide)) (congrFun (v3 16 (by decide) (by decide)) i) (congrFun (v3 17 (by decide) (by decide)) i) (congrFun (v3 18 (by decide) (by decide)) i) (congrFun (v3 19 (by decide) (by decide)) i) (d4 i hi)
    · rw [s6, d1 6 (by decide) (by decide), bS 6 (by decide) (by decide)]
    · rw [s7, d1 7 (by decide) (by decide), bS 7 (by decide) (by decide)]
    · rw [s8, d1 8 (by decide) (by decide), bS 8 (by decide) (by decide)]
    · rw [s9, d1 9 (by decide) (by decide), bS 9 (by decide) (by decide)]
  · rw [v8 26 (by omega), k3 v p hv hp (Or.inl hv), zb_iv hv, vv1 11 (by decide) (by decide)]
    have : zb (S1 11 p) v = lv_L S n v p := by
      unfold lv_L
      by_cases e : p % 2 = 0
      · have := (a4 v (p / 2) hv (by omega)).1
        rw [show 2 * (p / 2) = p by omega] at this
        rw [if_pos e, this]
      · have := (a4 v (p / 2) hv (by omega)).2
        rw [show 2 * (p / 2) + 1 = p by omega] at this
        rw [if_neg e, this]
    rw [this]
  · have e12 : V 12 v = sf (lv_T S n v) (2 * n) := by rw [vv1 12 (by decide) (by decide), (a5 v hv).1]
    have e13 : V 13 v = sl (lv_T S n v) (2 * n) := by rw [vv1 13 (by decide) (by decide), (a5 v hv).2]
    have e14 : V 14 v = A.1 v := by rw [v2 14 (by decide) (by decide), b3 v hv]
    refine ⟨?_, ?_, ?_, ?_, ?_⟩
    · rw [e12, v8 29 (by omega), (k4 v hv).1]
    · rw [e13, v8 30 (by omega), (k4 v hv).2]
    · rw [e14, v31, l3 v hv]
    · rw [e12, e13]
      exact sfl (lv_T S n v) (2 * n)
    · rw [e14]
      exact al_plc hr (wf.1 v hv)
  · refine iv_Rb2 f4 hV (fun j hj => w0 j (by omega)) ?_ ?_
    · rw [v7 20 (by decide) (by decide) (by decide) (by decide) (by decide) (by decide), q6, ru_g (by decide), q5, ru_g (by decide)]
    · rw [v7 21 (by decide) (by decide) (by decide) (by decide) (by decide) (by decide), q6, ru_g (by decide), q5, ru_g (by decide)]
end BU
