/-! ===== filling, beginning, restart ===== -/
section BG
variable {G : Int32 → Int32 → rb_S → Prop} {S : rb_S} {c : Nat} {x y z t : Int32}
theorem pf_fill5 {g gn : Nat} {K : rb_S → Prop} {v : Int32} (hn : gn < 2 ^ 30) : ∀ (m i : Nat) (S : rb_S), i + m = gn → (∀ S' : rb_S, (∀ a : Nat, a ≠ g → S' a = S a) → (∀ j : Nat, j < gn → (i ≤ j → S' g j = v) ∧ (j < i → S' g j = S g j)) → K S') → ar_fill_p_5 g gn K (m + 1) v (nI i) (nI gn) S := by
  intro m
  induction m with
  | zero =>
    intro i S hi h
    refine ⟨fun _ => h S (fun _ _ => rfl) (fun j hj => ⟨fun q => absurd q (by omega), fun _ => rfl⟩), fun q => absurd ?_ q⟩
    rw [nI_leI (by omega) (by omega)]
    omega
  | succ m ih =>
    intro i S hi h
    refine ⟨fun q => ?_, fun _ => ⟨vp_in_nI (by omega) (by omega), fun S13 q13 v14 q14 => ?_⟩⟩
    · rw [nI_leI (by omega) (by omega)] at q
      omega
    · rw [← nI_succ] at q14
      rw [nI_clamp (by omega)] at q13
      subst q14
      refine ih (i + 1) S13 (by omega) (fun S' hf hj => h S' (fun a ha => ?_) (fun j hjn => ⟨fun q => ?_, fun q => ?_⟩))
      · rw [hf a ha, q13, ru_g ha]
      · by_cases e : j = i
        · rw [(hj j hjn).2 (by omega), q13, e, ru_s]
        · exact (hj j hjn).1 (by omega)
      · rw [(hj j hjn).2 (by omega), q13, ru_j (by omega)]
theorem pf_fill {g gn : Nat} {K : rb_S → Prop} {v : Int32} (hn : gn < 2 ^ 30) (h : ∀ S' : rb_S, (∀ a : Nat, a ≠ g → S' a = S a) → (∀ j : Nat, j < gn → S' g j = v) → K S') : ar_fill_p_0 g gn K v S := by
  intro v4 q4
  subst q4
  exact ⟨gn + 1, pf_fill5 hn gn 0 S (by omega) (fun S' hf hj => h S' hf (fun j hjn => (hj j hjn).1 (by omega)))⟩
/-- the class's run, begun anew -/
def pf_bC (S S' : rb_S) : Prop := (∀ a : Nat, a ≠ 0 → a ≠ 20 → a ≠ 21 → S' a = S a) ∧ (∀ j : Nat, j < 8 → S' 0 j = S 0 j) ∧ (∀ j : Nat, j < 32 → S' 20 j = 0) ∧ (∀ j : Nat, j < 16 → S' 21 j = 0) ∧ S' 0 8 = 0 ∧ S' 0 9 = 0 ∧ S' 0 10 = 0 ∧ S' 0 11 = 0 ∧ S' 0 12 = 0 ∧ S' 0 13 = 0
def pf_bM (S S' : rb_S) : Prop := (∀ a : Nat, a ≠ 1 → a ≠ 32 → a ≠ 33 → a ≠ 34 → S' a = S a) ∧ (∀ j : Nat, j < 6 → S' 1 j = S 1 j) ∧ (∀ j : Nat, j < 8 → S' 32 j = 0) ∧ (∀ j : Nat, j < 16 → S' 33 j = 0) ∧ (∀ j : Nat, j < 16 → S' 34 j = 0) ∧ S' 1 6 = 0 ∧ S' 1 7 = 0 ∧ S' 1 8 = 0 ∧ S' 1 9 = 0 ∧ S' 1 10 = 0 ∧ S' 1 11 = 0
theorem pf_maBegin {K : rb_S → Prop} (h : ∀ S' : rb_S, pf_bC S S' → K S') : ma_begin_p_0 K S := by
  refine pf_fill (by decide) (fun S5 f5 z5 => pf_fill (by decide) (fun S13 f13 z13 => ?_))
  intro S18 q18 S23 q23 S28 q28 S33 q33 S38 q38 S43 q43
  have e : ∀ a : Nat, a ≠ 0 → S43 a = S13 a := by
    intro a ha
    rw [q43, ru_g ha, q38, ru_g ha, q33, ru_g ha, q28, ru_g ha, q23, ru_g ha, q18, ru_g ha]
  refine h S43 ⟨fun a h0 h1 h2 => ?_, fun j hj => ?_, fun j hj => ?_, fun j hj => ?_, ?_⟩
  · rw [e a h0, f13 a h2, f5 a h1]
  · rw [q43, ru_j (by omega), q38, ru_j (by omega), q33, ru_j (by omega), q28, ru_j (by omega), q23, ru_j (by omega), q18, ru_j (by omega), f13 0 (by decide), f5 0 (by decide)]
  · rw [e 20 (by decide), f13 20 (by decide), z5 j hj]
  · rw [e 21 (by decide), z13 j hj]
  · subst q43 q38 q33 q28 q23 q18
    exact ⟨rfl, rfl, rfl, rfl, rfl, rfl⟩
theorem pf_moBegin2 {K : rb_S → Prop} : ∀ (m i : Nat) (S : rb_S), i + m = 16 → (∀ S' : rb_S, (∀ a : Nat, a ≠ 1 → a ≠ 32 → a ≠ 33 → a ≠ 34 → S' a = S a) → (∀ j : Nat, j < 6 → S' 1 j = S 1 j) → (∀ j : Nat, j < 16 → (i ≤ j → S' 33 j = 0 ∧ S' 34 j = 0 ∧ (j < 8 → S' 32 j = 0)) ∧ (j < i → S' 33 j = S 33 j ∧ S' 34 j = S 34 j ∧ S' 32 j = S 32 j)) → (S' 1 6 = 0 ∧ S' 1 7 = 0 ∧ S' 1 8 = 0 ∧ S' 1 9 = 0 ∧ S' 1 10 = 0 ∧ S' 1 11 = 0) → K S') → mo_begin_p_2 K (m + 1) (nI i) S := by
  intro m
  induction m with
  | zero =>
    intro i S hi h
    refine ⟨fun _ => ?_, fun q => absurd ?_ q⟩
    · intro S43 q43 S48 q48 S53 q53 S58 q58 S63 q63 S68 q68
      have e : ∀ a : Nat, a ≠ 1 → S68 a = S a := by
        intro a ha
        rw [q68, ru_g ha, q63, ru_g ha, q58, ru_g ha, q53, ru_g ha, q48, ru_g ha, q43, ru_g ha]
      refine h S68 (fun a h1 _ _ _ => e a h1) (fun j hj => ?_) (fun j hj => ⟨fun q => absurd q (by omega), fun _ => ?_⟩) ?_
      · rw [q68, ru_j (by omega), q63, ru_j (by omega), q58, ru_j (by omega), q53, ru_j (by omega), q48, ru_j (by omega), q43, ru_j (by omega)]
      · rw [e 33 (by decide), e 34 (by decide), e 32 (by decide)]
        exact ⟨rfl, rfl, rfl⟩
      · subst q68 q63 q58 q53 q48 q43
        exact ⟨rfl, rfl, rfl, rfl, rfl, rfl⟩
    · rw [show (16 : Int32) = nI 16 from rfl, nI_leI (by omega) (by omega)]
      omega
  | succ m ih =>
    intro i S hi h
    refine ⟨fun q => ?_, fun _ => ⟨vp_in_nI (by omega) (by decide), fun S14 q14 => ⟨vp_in_nI (by omega) (by decide), fun S21 q21 => ⟨fun q8 v35 q35 => ?_, fun q8 => ⟨?_, fun S34 q34 v35 q35 => ?_⟩⟩⟩⟩⟩
    · rw [show (16 : Int32) = nI 16 from rfl, nI_leI (by omega) (by omega)] at q
      omega
    · rw [show (8 : Int32) = nI 8 from rfl, nI_leI (by omega) (by omega)] at q8
      rw [nI_clamp (by omega)] at q14 q21
      rw [← nI_succ] at q35
      subst q35
      refine ih (i + 1) S21 (by omega) (fun S' hf h1 hj hz => h S' (fun a g1 g2 g3 g4 => ?_) (fun j hj6 => ?_) (fun j hjn => ⟨fun q => ?_, fun q => ?_⟩) hz)
      · rw [hf a g1 g2 g3 g4, q21, ru_g g4, q14, ru_g g3]
      · rw [h1 j hj6, q21, ru_g (by decide), q14, ru_g (by decide)]
      · by_cases e : j = i
        · obtain ⟨a1, a2, a3⟩ := (hj j hjn).2 (by omega)
          subst e
          refine ⟨?_, ?_, fun h8 => absurd h8 (by omega)⟩
          · rw [a1, q21, ru_g (by decide), q14, ru_s]
          · rw [a2, q21, ru_s]
        · exact (hj j hjn).1 (by omega)
      · obtain ⟨a1, a2, a3⟩ := (hj j hjn).2 (by omega)
        refine ⟨?_, ?_, ?_⟩
        · rw [a1, q21, ru_g (by decide), q14, ru_j (by omega)]
        · rw [a2, q21, ru_j (by omega), q14, ru_g (by decide)]
        · rw [a3, q21, ru_g (by decide), q14, ru_g (by decide)]
    · rw [show (8 : Int32) = nI 8 from rfl, nI_leI (by omega) (by omega)] at q8
      exact vp_in_nI (by omega) (by decide)
    · rw [show (8 : Int32) = nI 8 from rfl, nI_leI (by omega) (by omega)] at q8
      rw [nI_clamp (by omega)] at q14 q21 q34
      rw [← nI_succ] at q35
      subst q35
      refine ih (i + 1) S34 (by omega) (fun S' hf h1 hj hz => h S' (fun a g1 g2 g3 g4 => ?_) (fun j hj6 => ?_) (fun j hjn => ⟨fun q => ?_, fun q => ?_⟩) hz)
      · rw [hf a g1 g2 g3 g4, q34, ru_g g2, q21, ru_g g4, q14, ru_g g3]
      · rw [h1 j hj6, q34, ru_g (by decide), q21, ru_g (by decide), q14, ru_g (by decide)]
      · by_cases e : j = i
        · obtain ⟨a1, a2, a3⟩ := (hj j hjn).2 (by omega)
          subst e
          refine ⟨?_, ?_, fun h8 => ?_⟩
          · rw [a1, q34, ru_g (by decide), q21, ru_g (by decide), q14, ru_s]
          · rw [a2, q34, ru_g (by decide), q21, ru_s]
          · rw [a3, q34, ru_s]
        · exact (hj j hjn).1 (by omega)
      · obtain ⟨a1, a2, a3⟩ := (hj j hjn).2 (by omega)
        refine ⟨?_, ?_, ?_⟩
        · rw [a1, q34, ru_g (by decide), q21, ru_g (by decide), q14, ru_j (by omega)]
        · rw [a2, q34, ru_g (by decide), q21, ru_j (by omega), q14, ru_g (by decide)]
        · rw [a3, q34, ru_j (by omega), q21, ru_g (by decide), q14, ru_g (by decide)]
theorem pf_moBegin {K : rb_S → Prop} (h : ∀ S' : rb_S, pf_bM S S' → K S') : mo_begin_p_0 K S := by
  refine ⟨17, pf_moBegin2 16 0 S (by omega) (fun S' hf h1 hj hz => h S' ⟨hf, h1, fun j q => ((hj j (by omega)).1 (by omega)).2.2 q, fun j q => ((hj j q).1 (by omega)).1, fun j q => ((hj j q).1 (by omega)).2.1, hz⟩)⟩
/-- what was built is the same where these are the same -/
theorem iv_Cof {S' : rb_S} {n : Nat} (h4 : S' 0 4 = S 0 4) (h7 : S' 0 7 = S 0 7) (hg : ∀ g : Nat, (6 ≤ g ∧ g ≤ 9) ∨ (11 ≤ g ∧ g ≤ 14) ∨ (16 ≤ g ∧ g ≤ 19) ∨ g = 26 ∨ (29 ≤ g ∧ g ≤ 31) → S' g = S g) (h : iv_C S n) : iv_C S' n := by
  unfold iv_C iv_T iv_U iv_M iv_V iv_op at h ⊢
  rw [h4, h7, hg 6 (by omega), hg 7 (by omega), hg 8 (by omega), hg 9 (by omega), hg 11 (by omega), hg 12 (by omega), hg 13 (by omega), hg 14 (by omega), hg 16 (by omega), hg 17 (by omega), hg 18 (by omega), hg 19 (by omega), hg 26 (by omega), hg 29 (by omega), hg 30 (by omega), hg 31 (by omega)]
  exact h
theorem iv_Pof {S' : rb_S} {n : Nat} (h6 : S' 6 = S 6) (h7 : S' 7 = S 7) (h8 : S' 8 = S 8) (h9 : S' 9 = S 9) (h24 : S' 24 = S 24) (h : iv_P S n) : iv_P S' n := by
  unfold iv_P at h ⊢
  rw [h6, h7, h8, h9, h24]
  exact h
theorem iv_Iof {S' : rb_S} {w hd : Nat} (h2 : S' 0 2 = S 0 2) (h3 : S' 0 3 = S 0 3) (hm : S' 1 2 = S 1 2) (h10 : S' 10 = S 10) (h25 : S' 25 = S 25) (h : iv_I S w hd) : iv_I S' w hd := by
  unfold iv_I at h ⊢
  rw [h2, h3, hm, h10, h25]
  exact h
theorem iv_Oof {S' : rb_S} (h22 : S' 22 = S 22) (h35 : S' 35 = S 35) (h : iv_O S) : iv_O S' := by
  unfold iv_O at h ⊢
  rw [h22, h35]
  exact h
/-- both runs begun anew -/
theorem iv_Rbegin {S1 S2 S3 : rb_S} {n c : Nat} (h1 : pf_bC S S1) (h2 : ∀ a : Nat, a ≠ 1 → S2 a = S1 a) (h3 : pf_bM S2 S3) : iv_R S3 n c := by
  obtain ⟨a1, a2, a3, a4, a5, a6, a7, a8, a9, a10⟩ := h1
  obtain ⟨b1, b2, b3, b4, b5, b6, b7, b8, b9, b10, b11⟩ := h3
  have e0 : S3 0 = S1 0 := by rw [b1 0 (by decide) (by decide) (by decide) (by decide), h2 0 (by decide)]
  have e20 : S3 20 = S1 20 := by rw [b1 20 (by decide) (by decide) (by decide) (by decide), h2 20 (by decide)]
  have e21 : S3 21 = S1 21 := by rw [b1 21 (by decide) (by decide) (by decide) (by decide), h2 21 (by decide)]
  refine ⟨fun p hp => ?_, fun p hp => ?_, fun k hk => ?_, ⟨0, by omega, ?_, b6⟩, ⟨?_, ?_, ?_, ?_⟩, 0, by omega, ?_, b11⟩
  · rw [e20, a3 p (by omega), b3 p hp]
  · rw [e20, a3 (16 + p) (by omega), b4 p hp]
  · rw [e21, a4 k hk, b5 k hk]
  · rw [e0, a5]; rfl
  · rw [e0, a6, b7]
  · rw [e0, a7, b8]
  · rw [e0, a8, b9]
  · rw [e0, a9, b10]
  · rw [e0, a10]; rfl
theorem pv_nar01 {x : Int32} (h : x = 0 ∨ x = 1) : narrow .boolean (.int x) = .int x := by
  rcases h with rfl | rfl
  · rfl
  · rfl
theorem pp_restart (h : iv S c) (hG : ∀ (r : Int32) (S2 : rb_S), iv S2 (c + 1) → G r r S2) : rm_restart_p_0 (fun r S1 => mo_restart_p_0 (fun r' S2 => G r r' S2) S1) S := by
  have h' := h
  obtain ⟨n, w, hd, hn, hw, hh, e1, e2, hP, hI, hO, hb, hc⟩ := h
  refine ⟨fun e => ⟨pv_nar01 (Or.inl e), ?_⟩, fun e => pf_maBegin (fun S1 b1 => ?_)⟩
  · intro S2 q2
    subst q2
    refine ⟨fun _ => ⟨pv_nar01 (Or.inl (hb.trans e)), ?_⟩, fun q => absurd (show S 1 3 = 0 from hb.trans e) q⟩
    rw [show rb_u S 1 0 0 1 3 = S 0 0 from hb]
    exact hG _ _ (iv_same h' (iv_zu0 _ _))
  · rcases hc with ⟨q, -⟩ | ⟨hb1, hC, hR⟩
    · exact absurd q e
    · have z0 : S1 0 0 = S 0 0 := b1.2.1 0 (by decide)
      have z1 : S1 1 = S 1 := b1.1 1 (by decide) (by decide) (by decide)
      refine ⟨pv_nar01 (Or.inr (z0.trans hb1)), ?_⟩
      intro S2 q2
      refine ⟨fun q => ?_, fun _ => pf_moBegin (fun S3 b3 => ?_)⟩
      · have : S 1 3 = 0 := by rw [← z1]; subst q2; exact q
        exact absurd (hb.symm.trans this) e
      · have m3 : S3 1 3 = 1 := by
          rw [b3.2.1 3 (by decide)]
          subst q2
          rw [ru_j (by decide), z1, hb, hb1]
        refine ⟨pv_nar01 (Or.inr m3), ?_⟩
        rw [z0, hb1, m3]
        have ef : ∀ a : Nat, a ≠ 0 → a ≠ 1 → a ≠ 20 → a ≠ 21 → a ≠ 32 → a ≠ 33 → a ≠ 34 → S3 a = S a := by
          intro a k0 k1 k2 k3 k4 k5 k6
          rw [b3.1 a k1 k4 k5 k6, q2, ru_g k1, b1.1 a k0 k2 k3]
        have e0 : ∀ j : Nat, j < 8 → S3 0 j = S 0 j := by
          intro j hj
          rw [b3.1 0 (by decide) (by decide) (by decide) (by decide), q2, ru_g (by decide), b1.2.1 j hj]
        have em : ∀ j : Nat, j < 6 → j ≠ 0 → S3 1 j = S 1 j := by
          intro j hj h0
          rw [b3.2.1 j hj, q2, ru_j h0, z1]
        refine hG _ _ ⟨n, w, hd, hn, hw, hh, ?_, ?_, ?_, ?_, ?_, ?_, Or.inr ⟨?_, ?_, ?_⟩⟩
        · rw [e0 1 (by decide), e1]
        · rw [em 1 (by decide) (by decide), e2]
        · exact iv_Pof (ef 6 (by decide) (by decide) (by decide) (by decide) (by decide) (by decide) (by decide)) (ef 7 (by decide) (by decide) (by decide) (by decide) (by decide) (by decide) (by decide)) (ef 8 (by decide) (by decide) (by decide) (by decide) (by decide) (by decide) (by decide)) (ef 9 (by decide) (by decide) (by decide) (by decide) (by decide) (by decide) (by decide)) (ef 24 (by decide) (by decide) (by decide) (by decide) (by decide) (by decide) (by decide)) hP
        · exact iv_Iof (e0 2 (by decide)) (e0 3 (by decide)) (em 2 (by decide) (by decide)) (ef 10 (by decide) (by decide) (by decide) (by decide) (by decide) (by decide) (by decide)) (ef 25 (by decide) (by decide) (by decide) (by decide) (by decide) (by decide) (by decide)) hI
        · exact iv_Oof (ef 22 (by decide) (by decide) (by decide) (by decide) (by decide) (by decide) (by decide)) (ef 35 (by decide) (by decide) (by decide) (by decide) (by decide) (by decide) (by decide)) hO
        · rw [m3, e0 0 (by decide), hb1]
        · rw [e0 0 (by decide), hb1]
        · exact iv_Cof (e0 4 (by decide)) (e0 7 (by decide)) (fun g hg => ef g (by omega) (by omega) (by omega) (by omega) (by omega) (by omega) (by omega)) hC
        · exact iv_Rbegin b1 (fun a ha => by rw [q2, ru_g ha]) b3
end BG
