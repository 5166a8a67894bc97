/-! ===== a step, whatever the instruction ===== -/
section SA
variable {S A Q : rb_S} {x y z t v px py pz : Int32} {K0 : rb_S → Prop} {a i n o : Nat}
theorem iv_opr {r : Int32} (h : r = 2 ∨ r = 3) : iv_op Q r x = Q 14 x.toNatClampNeg := if_pos h
theorem iv_opn {r : Int32} (h : ¬ (r = 2 ∨ r = 3)) : iv_op Q r x = x := if_neg h
theorem pv_c16 {x : Int32} (h : ¬ x < 0 ∧ ¬ 16 ≤ x) : x.toNatClampNeg < 16 := by
  obtain ⟨k, hk, rfl⟩ := pv_nat (N := 16) (by decide) h.1 h.2
  rw [nI_clamp (by omega)]
  exact hk

theorem am_do0 : am_do 0 x y z px py pz A = am_put px y A := rfl
theorem am_do1 : am_do 1 x y z px py pz A = am_ar 1 px py pz A := rfl
theorem am_do2 : am_do 2 x y z px py pz A = am_ar 2 px py pz A := rfl
theorem am_do3 : am_do 3 x y z px py pz A = am_ar 3 px py pz A := rfl
theorem am_do4 : am_do 4 x y z px py pz A = am_cp px py A := rfl
theorem am_do5 : am_do 5 x y z px py pz A = am_put px (am_inv A) (am_in A) := rfl
theorem am_do6 : am_do 6 x y z px py pz A = am_lo px py A := rfl
theorem am_do7 : am_do 7 x y z px py pz A = am_st px py A := rfl
theorem am_do8 : am_do 8 x y z px py pz A = am_wr px A := rfl
theorem am_do9 : am_do 9 x y z px py pz A = rb_u A 0 0 x := rfl
theorem am_do10 : am_do 10 x y z px py pz A = am_ju 10 px py z A := rfl
theorem am_do11 : am_do 11 x y z px py pz A = am_ju 11 px py z A := rfl
theorem am_step0 (ea : A 0 0 = nI a) (ha : a < 64) (e : Q 6 a = 0) : am_step Q A = am_do 0 (Q 7 a) (Q 8 a) (Q 9 a) (Q 14 (Q 7 a).toNatClampNeg) (Q 14 (Q 8 a).toNatClampNeg) (Q 14 (Q 9 a).toNatClampNeg) (am_n A) := by
  unfold am_step
  rw [ea, nI_clamp (by omega), e]
theorem am_step1 (ea : A 0 0 = nI a) (ha : a < 64) (e : Q 6 a = 1) : am_step Q A = am_do 1 (Q 7 a) (Q 8 a) (Q 9 a) (Q 14 (Q 7 a).toNatClampNeg) (Q 14 (Q 8 a).toNatClampNeg) (Q 14 (Q 9 a).toNatClampNeg) (am_n A) := by
  unfold am_step
  rw [ea, nI_clamp (by omega), e]
theorem am_step2 (ea : A 0 0 = nI a) (ha : a < 64) (e : Q 6 a = 2) : am_step Q A = am_do 2 (Q 7 a) (Q 8 a) (Q 9 a) (Q 14 (Q 7 a).toNatClampNeg) (Q 14 (Q 8 a).toNatClampNeg) (Q 14 (Q 9 a).toNatClampNeg) (am_n A) := by
  unfold am_step
  rw [ea, nI_clamp (by omega), e]
theorem am_step3 (ea : A 0 0 = nI a) (ha : a < 64) (e : Q 6 a = 3) : am_step Q A = am_do 3 (Q 7 a) (Q 8 a) (Q 9 a) (Q 14 (Q 7 a).toNatClampNeg) (Q 14 (Q 8 a).toNatClampNeg) (Q 14 (Q 9 a).toNatClampNeg) (am_n A) := by
  unfold am_step
  rw [ea, nI_clamp (by omega), e]
theorem am_step4 (ea : A 0 0 = nI a) (ha : a < 64) (e : Q 6 a = 4) : am_step Q A = am_do 4 (Q 7 a) (Q 8 a) (Q 9 a) (Q 14 (Q 7 a).toNatClampNeg) (Q 14 (Q 8 a).toNatClampNeg) (Q 14 (Q 9 a).toNatClampNeg) (am_n A) := by
  unfold am_step
  rw [ea, nI_clamp (by omega), e]
theorem am_step5 (ea : A 0 0 = nI a) (ha : a < 64) (e : Q 6 a = 5) : am_step Q A = am_do 5 (Q 7 a) (Q 8 a) (Q 9 a) (Q 14 (Q 7 a).toNatClampNeg) (Q 14 (Q 8 a).toNatClampNeg) (Q 14 (Q 9 a).toNatClampNeg) (am_n A) := by
  unfold am_step
  rw [ea, nI_clamp (by omega), e]
theorem am_step6 (ea : A 0 0 = nI a) (ha : a < 64) (e : Q 6 a = 6) : am_step Q A = am_do 6 (Q 7 a) (Q 8 a) (Q 9 a) (Q 14 (Q 7 a).toNatClampNeg) (Q 14 (Q 8 a).toNatClampNeg) (Q 14 (Q 9 a).toNatClampNeg) (am_n A) := by
  unfold am_step
  rw [ea, nI_clamp (by omega), e]
theorem am_step7 (ea : A 0 0 = nI a) (ha : a < 64) (e : Q 6 a = 7) : am_step Q A = am_do 7 (Q 7 a) (Q 8 a) (Q 9 a) (Q 14 (Q 7 a).toNatClampNeg) (Q 14 (Q 8 a).toNatClampNeg) (Q 14 (Q 9 a).toNatClampNeg) (am_n A) := by
  unfold am_step
  rw [ea, nI_clamp (by omega), e]
theorem am_step8 (ea : A 0 0 = nI a) (ha : a < 64) (e : Q 6 a = 8) : am_step Q A = am_do 8 (Q 7 a) (Q 8 a) (Q 9 a) (Q 14 (Q 7 a).toNatClampNeg) (Q 14 (Q 8 a).toNatClampNeg) (Q 14 (Q 9 a).toNatClampNeg) (am_n A) := by
  unfold am_step
  rw [ea, nI_clamp (by omega), e]
theorem am_step9 (ea : A 0 0 = nI a) (ha : a < 64) (e : Q 6 a = 9) : am_step Q A = am_do 9 (Q 7 a) (Q 8 a) (Q 9 a) (Q 14 (Q 7 a).toNatClampNeg) (Q 14 (Q 8 a).toNatClampNeg) (Q 14 (Q 9 a).toNatClampNeg) (am_n A) := by
  unfold am_step
  rw [ea, nI_clamp (by omega), e]
theorem am_step10 (ea : A 0 0 = nI a) (ha : a < 64) (e : Q 6 a = 10) : am_step Q A = am_do 10 (Q 7 a) (Q 8 a) (Q 9 a) (Q 14 (Q 7 a).toNatClampNeg) (Q 14 (Q 8 a).toNatClampNeg) (Q 14 (Q 9 a).toNatClampNeg) (am_n A) := by
  unfold am_step
  rw [ea, nI_clamp (by omega), e]
theorem am_step11 (ea : A 0 0 = nI a) (ha : a < 64) (e : Q 6 a = 11) : am_step Q A = am_do 11 (Q 7 a) (Q 8 a) (Q 9 a) (Q 14 (Q 7 a).toNatClampNeg) (Q 14 (Q 8 a).toNatClampNeg) (Q 14 (Q 9 a).toNatClampNeg) (am_n A) := by
  unfold am_step
  rw [ea, nI_clamp (by omega), e]
theorem rC_step (hn : n ≤ 64) (ha : a < n) (ea : A 0 0 = nI a) (hP : iv_P Q n) (hC : iv_C Q n) (h : rC Q A S) (hK : ∀ S' : rb_S, rC Q (am_step Q A) S' → K0 S') : ma_step_p_0 K0 S := by
  have ok := (hP a ha).1
  obtain ⟨hT, hU, hM⟩ := hC.2.2.1 a ha
  unfold iv_M at hM
  unfold iv_U at hU
  rcases pv_sort (Q 6 a) with q | q
  · rcases pv_out q with q | q
    · exact absurd q ok.1
    · exact absurd q ok.2.1
  rcases q with e | e | e | e | e | e | e | e | e | e | e | e
  · rw [am_step0 ea (by omega) e, am_do0] at hK
    rw [e] at hM hU
    exact rC_s0 h (by omega) ea (hM.2.2.2.trans (if_neg (fun q => absurd q.1 (by decide)))) (hM.1.trans (iv_opr (by decide))) (hU.1 (by decide)) (hM.2.1.trans (iv_opn (by decide))) hK
  · rw [am_step1 ea (by omega) e, am_do1] at hK
    rw [e] at hM hU
    exact rC_s1 h (by omega) ea (hM.2.2.2.trans (if_neg (fun q => absurd q.1 (by decide)))) (hM.1.trans (iv_opr (by decide))) (hU.1 (by decide)) (hM.2.1.trans (iv_opr (by decide))) (hU.2.1 (by decide)) (hM.2.2.1.trans (iv_opr (by decide))) (hU.2.2 (by decide)) hK
  · rw [am_step2 ea (by omega) e, am_do2] at hK
    rw [e] at hM hU
    exact rC_s2 h (by omega) ea (hM.2.2.2.trans (if_neg (fun q => absurd q.1 (by decide)))) (hM.1.trans (iv_opr (by decide))) (hU.1 (by decide)) (hM.2.1.trans (iv_opr (by decide))) (hU.2.1 (by decide)) (hM.2.2.1.trans (iv_opr (by decide))) (hU.2.2 (by decide)) hK
  · rw [am_step3 ea (by omega) e, am_do3] at hK
    rw [e] at hM hU
    exact rC_s3 h (by omega) ea (hM.2.2.2.trans (if_neg (fun q => absurd q.1 (by decide)))) (hM.1.trans (iv_opr (by decide))) (hU.1 (by decide)) (hM.2.1.trans (iv_opr (by decide))) (hU.2.1 (by decide)) (hM.2.2.1.trans (iv_opr (by decide))) (hU.2.2 (by decide)) hK
  · rw [am_step4 ea (by omega) e, am_do4] at hK
    rw [e] at hM hU
    by_cases q : Q 17 a = Q 18 a ∧ Q 17 a < 16
    · have es : Q 16 a = 12 := hM.2.2.2.trans (if_pos ⟨rfl, q.1, q.2⟩)
      have ex := (hM.1.trans (iv_opr (by decide)))
      have ey := (hM.2.1.trans (iv_opr (by decide)))
      refine rC_s12 h (by omega) ea es (fun S9 r => hK S9 ?_)
      unfold am_cp
      rw [← ex, ← ey, if_pos ⟨q.1, fun w => absurd q.2 (by rw [← pv_nle]; exact fun u => u w)⟩]
      exact r
    · have es : Q 16 a = 4 := hM.2.2.2.trans (if_neg (fun w => q w.2))
      have ex := (hM.1.trans (iv_opr (by decide)))
      have ey := (hM.2.1.trans (iv_opr (by decide)))
      refine rC_s4 h (by omega) ea es ex (hU.1 (by decide)) ey (hU.2.1 (by decide)) (fun S9 r => hK S9 ?_)
      unfold am_cp
      rw [if_neg]
      · exact r
      · rw [← ex, ← ey]
        exact fun w => q ⟨w.1, pv_nle.mp w.2⟩
  · rw [am_step5 ea (by omega) e, am_do5] at hK
    rw [e] at hM hU
    exact rC_s5 h (by omega) ea (hM.2.2.2.trans (if_neg (fun q => absurd q.1 (by decide)))) (hM.1.trans (iv_opr (by decide))) (hU.1 (by decide)) hK
  · rw [am_step6 ea (by omega) e, am_do6] at hK
    rw [e] at hM hU
    exact rC_s6 h (by omega) ea (hM.2.2.2.trans (if_neg (fun q => absurd q.1 (by decide)))) (hM.1.trans (iv_opr (by decide))) (hU.1 (by decide)) (hM.2.1.trans (iv_opr (by decide))) (hU.2.1 (by decide)) hK
  · rw [am_step7 ea (by omega) e, am_do7] at hK
    rw [e] at hM hU
    exact rC_s7 h (by omega) ea (hM.2.2.2.trans (if_neg (fun q => absurd q.1 (by decide)))) (hM.1.trans (iv_opr (by decide))) (hU.1 (by decide)) (hM.2.1.trans (iv_opr (by decide))) (hU.2.1 (by decide)) hK
  · rw [am_step8 ea (by omega) e, am_do8] at hK
    rw [e] at hM hU
    exact rC_s8 h (by omega) ea (hM.2.2.2.trans (if_neg (fun q => absurd q.1 (by decide)))) (hM.1.trans (iv_opr (by decide))) (hU.1 (by decide)) hK
  · rw [am_step9 ea (by omega) e, am_do9] at hK
    rw [e] at hM hU
    exact rC_s9 h (by omega) ea (hM.2.2.2.trans (if_neg (fun q => absurd q.1 (by decide)))) (hM.1.trans (iv_opn (by decide))) hK
  · rw [am_step10 ea (by omega) e, am_do10] at hK
    rw [e] at hM hU
    exact rC_s10 h (by omega) ea (hM.2.2.2.trans (if_neg (fun q => absurd q.1 (by decide)))) (hM.1.trans (iv_opr (by decide))) (hU.1 (by decide)) (hM.2.1.trans (iv_opr (by decide))) (hU.2.1 (by decide)) (hM.2.2.1.trans (iv_opn (by decide))) hK
  · rw [am_step11 ea (by omega) e, am_do11] at hK
    rw [e] at hM hU
    exact rC_s11 h (by omega) ea (hM.2.2.2.trans (if_neg (fun q => absurd q.1 (by decide)))) (hM.1.trans (iv_opr (by decide))) (hU.1 (by decide)) (hM.2.1.trans (iv_opr (by decide))) (hU.2.1 (by decide)) (hM.2.2.1.trans (iv_opn (by decide))) hK
theorem rM_step (hn : n ≤ 64) (ha : a < n) (ea : A 0 0 = nI a) (ho : o < 2 ^ 30) (eo : A 0 5 = nI o) (hP : iv_P Q n) (hC : iv_C Q n) (h : rM Q A i S) (hK : ∀ S' : rb_S, rM Q (am_step Q A) (i + 1) S' → K0 S') : mo_step_p_0 K0 S := by
  obtain ⟨ok, c0, c1, c2, c3⟩ := hP a ha
  obtain ⟨hT, hU, hM⟩ := hC.2.2.1 a ha
  have hV : ∀ u : Int32, (¬ u < 0 ∧ ¬ 16 ≤ u) → Q 31 u.toNatClampNeg = Q 14 u.toNatClampNeg := fun u hu => ((hC.2.2.2.2 _ (pv_c16 hu)).2.2.1).symm
  unfold iv_U at hU
  unfold pv_ok at ok
  rcases pv_sort (Q 6 a) with q | q
  · rcases pv_out q with q | q
    · exact absurd q ok.1
    · exact absurd q ok.2.1
  rcases q with e | e | e | e | e | e | e | e | e | e | e | e
  · rw [am_step0 ea (by omega) e, am_do0] at hK
    rw [e] at hU ok c0
    have hx := (pv_f2 _).mp ok.2.2.1
    exact rM_s0 h (by omega) ea c0 c1 c2 c3 hx (hV _ hx) (hU.1 (by decide)) hK
  · rw [am_step1 ea (by omega) e, am_do1] at hK
    rw [e] at hU ok c0
    have hx := (pv_f2 _).mp ok.2.2.1
    have hy := (pv_f3 _).mp ok.2.2.2.1
    have hz := (pv_f3 _).mp ok.2.2.2.2
    exact rM_s1 h (by omega) ea c0 c1 c2 c3 hx (hV _ hx) (hU.1 (by decide)) hy (hV _ hy) (hU.2.1 (by decide)) hz (hV _ hz) (hU.2.2 (by decide)) hK
  · rw [am_step2 ea (by omega) e, am_do2] at hK
    rw [e] at hU ok c0
    have hx := (pv_f2 _).mp ok.2.2.1
    have hy := (pv_f3 _).mp ok.2.2.2.1
    have hz := (pv_f3 _).mp ok.2.2.2.2
    exact rM_s2 h (by omega) ea c0 c1 c2 c3 hx (hV _ hx) (hU.1 (by decide)) hy (hV _ hy) (hU.2.1 (by decide)) hz (hV _ hz) (hU.2.2 (by decide)) hK
  · rw [am_step3 ea (by omega) e, am_do3] at hK
    rw [e] at hU ok c0
    have hx := (pv_f2 _).mp ok.2.2.1
    have hy := (pv_f3 _).mp ok.2.2.2.1
    have hz := (pv_f3 _).mp ok.2.2.2.2
    exact rM_s3 h (by omega) ea c0 c1 c2 c3 hx (hV _ hx) (hU.1 (by decide)) hy (hV _ hy) (hU.2.1 (by decide)) hz (hV _ hz) (hU.2.2 (by decide)) hK
  · rw [am_step4 ea (by omega) e, am_do4] at hK
    rw [e] at hU ok c0
    have hx := (pv_f2 _).mp ok.2.2.1
    have hy := (pv_f3 _).mp ok.2.2.2.1
    exact rM_s4 h (by omega) ea c0 c1 c2 c3 hx (hV _ hx) (hU.1 (by decide)) hy (hV _ hy) (hU.2.1 (by decide)) hK
  · rw [am_step5 ea (by omega) e, am_do5] at hK
    rw [e] at hU ok c0
    have hx := (pv_f2 _).mp ok.2.2.1
    exact rM_s5 h (by omega) ea c0 c1 c2 c3 hx (hV _ hx) (hU.1 (by decide)) hK
  · rw [am_step6 ea (by omega) e, am_do6] at hK
    rw [e] at hU ok c0
    have hx := (pv_f2 _).mp ok.2.2.1
    have hy := (pv_f3 _).mp ok.2.2.2.1
    exact rM_s6 h (by omega) ea c0 c1 c2 c3 hx (hV _ hx) (hU.1 (by decide)) hy (hV _ hy) (hU.2.1 (by decide)) hK
  · rw [am_step7 ea (by omega) e, am_do7] at hK
    rw [e] at hU ok c0
    have hx := (pv_f3 _).mp ok.2.2.1
    have hy := (pv_f3 _).mp ok.2.2.2.1
    exact rM_s7 h (by omega) ea c0 c1 c2 c3 hx (hV _ hx) (hU.1 (by decide)) hy (hV _ hy) (hU.2.1 (by decide)) hK
  · rw [am_step8 ea (by omega) e, am_do8] at hK
    rw [e] at hU ok c0
    have hx := (pv_f3 _).mp ok.2.2.1
    exact rM_s8 h (by omega) ea c0 c1 c2 c3 hx (hV _ hx) (hU.1 (by decide)) ho eo hK
  · rw [am_step9 ea (by omega) e, am_do9] at hK
    rw [e] at hU ok c0
    exact rM_s9 h (by omega) ea c0 c1 c2 c3  hK
  · rw [am_step10 ea (by omega) e, am_do10] at hK
    rw [e] at hU ok c0
    have hx := (pv_f3 _).mp ok.2.2.1
    have hy := (pv_f3 _).mp ok.2.2.2.1
    exact rM_s10 h (by omega) ea c0 c1 c2 c3 hx (hV _ hx) (hU.1 (by decide)) hy (hV _ hy) (hU.2.1 (by decide)) hK
  · rw [am_step11 ea (by omega) e, am_do11] at hK
    rw [e] at hU ok c0
    have hx := (pv_f3 _).mp ok.2.2.1
    have hy := (pv_f3 _).mp ok.2.2.2.1
    exact rM_s11 h (by omega) ea c0 c1 c2 c3 hx (hV _ hx) (hU.1 (by decide)) hy (hV _ hy) (hU.2.1 (by decide)) hK
theorem am_put00 (p v : Int32) (A : rb_S) : am_put p v A 0 0 = A 0 0 ∧ am_put p v A 0 5 = A 0 5 := by
  unfold am_put
  by_cases e : 16 ≤ p
  · rw [if_pos e]
    exact ⟨rfl, rfl⟩
  · rw [if_neg e]
    exact ⟨rfl, rfl⟩
theorem am_in00 (A : rb_S) : am_in A 0 0 = A 0 0 ∧ am_in A 0 5 = A 0 5 := by
  unfold am_in
  by_cases e : A 0 6 = 0
  · rw [if_pos e]
    exact ⟨rfl, rfl⟩
  · rw [if_neg e]
    exact ⟨rfl, rfl⟩
theorem am_keep (hn : n ≤ 64) (ha : a < n) (ea : A 0 0 = nI a) (hP : iv_P Q n) (hC : iv_C Q n) : (∃ a' : Nat, a' ≤ n ∧ am_step Q A 0 0 = nI a') ∧ (am_step Q A 0 5 = A 0 5 ∨ am_step Q A 0 5 = A 0 5 + 1) := by
  have ok := (hP a ha).1
  obtain ⟨hT, hU, hM⟩ := hC.2.2.1 a ha
  unfold iv_T at hT
  have en : am_n A 0 0 = nI (a + 1) := by
    unfold am_n
    rw [ru_s, ea, nI_succ]
  have eo : am_n A 0 5 = A 0 5 := rfl
  rcases pv_sort (Q 6 a) with q | q
  · rcases pv_out q with q | q
    · exact absurd q ok.1
    · exact absurd q ok.2.1
  rcases q with e | e | e | e | e | e | e | e | e | e | e | e
  · rw [am_step0 ea (by omega) e, am_do0]
    exact ⟨⟨a + 1, by omega, (am_put00 _ _ _).1.trans en⟩, Or.inl (am_put00 _ _ _).2⟩
  · rw [am_step1 ea (by omega) e, am_do1]
    unfold am_ar
    exact ⟨⟨a + 1, by omega, (am_put00 _ _ _).1.trans ((am_ld0 _ _).trans ((am_ld0 _ _).trans en))⟩, Or.inl ((am_put00 _ _ _).2.trans ((am_ld05 _ _).trans (am_ld05 _ _)))⟩
  · rw [am_step2 ea (by omega) e, am_do2]
    unfold am_ar
    exact ⟨⟨a + 1, by omega, (am_put00 _ _ _).1.trans ((am_ld0 _ _).trans ((am_ld0 _ _).trans en))⟩, Or.inl ((am_put00 _ _ _).2.trans ((am_ld05 _ _).trans (am_ld05 _ _)))⟩
  · rw [am_step3 ea (by omega) e, am_do3]
    unfold am_ar
    exact ⟨⟨a + 1, by omega, (am_put00 _ _ _).1.trans ((am_ld0 _ _).trans ((am_ld0 _ _).trans en))⟩, Or.inl ((am_put00 _ _ _).2.trans ((am_ld05 _ _).trans (am_ld05 _ _)))⟩
  · rw [am_step4 ea (by omega) e, am_do4]
    unfold am_cp
    by_cases q : Q 14 (Q 7 a).toNatClampNeg = Q 14 (Q 8 a).toNatClampNeg ∧ ¬ 16 ≤ Q 14 (Q 7 a).toNatClampNeg
    · rw [if_pos q]
      exact ⟨⟨a + 1, by omega, en⟩, Or.inl rfl⟩
    · rw [if_neg q]
      exact ⟨⟨a + 1, by omega, (am_put00 _ _ _).1.trans ((am_ld0 _ _).trans en)⟩, Or.inl ((am_put00 _ _ _).2.trans (am_ld05 _ _))⟩
  · rw [am_step5 ea (by omega) e, am_do5]
    exact ⟨⟨a + 1, by omega, (am_put00 _ _ _).1.trans ((am_in00 _).1.trans en)⟩, Or.inl ((am_put00 _ _ _).2.trans (am_in00 _).2)⟩
  · rw [am_step6 ea (by omega) e, am_do6]
    unfold am_lo
    exact ⟨⟨a + 1, by omega, (am_put00 _ _ _).1.trans ((am_ld0 _ _).trans en)⟩, Or.inl ((am_put00 _ _ _).2.trans (am_ld05 _ _))⟩
  · rw [am_step7 ea (by omega) e, am_do7]
    unfold am_st
    exact ⟨⟨a + 1, by omega, (am_ld0 _ _).trans ((am_ld0 _ _).trans en)⟩, Or.inl ((am_ld05 _ _).trans (am_ld05 _ _))⟩
  · rw [am_step8 ea (by omega) e, am_do8]
    unfold am_wr
    refine ⟨⟨a + 1, by omega, (am_ld0 _ _).trans en⟩, Or.inr ?_⟩
    rw [ru_s, am_ld05, eo]
  · rw [am_step9 ea (by omega) e, am_do9]
    obtain ⟨j, hj, ej⟩ := hT.1 (by rw [e]; decide)
    exact ⟨⟨j, hj, ej⟩, Or.inl rfl⟩
  · rw [am_step10 ea (by omega) e, am_do10]
    obtain ⟨j, hj, ej⟩ := hT.2 (by rw [e]; decide)
    unfold am_ju
    refine ⟨?_, ?_⟩
    · split
      · exact ⟨j, hj, ej⟩
      · exact ⟨a + 1, by omega, (am_ld0 _ _).trans ((am_ld0 _ _).trans en)⟩
    · left
      split
      · exact (am_ld05 _ _).trans (am_ld05 _ _)
      · exact (am_ld05 _ _).trans (am_ld05 _ _)
  · rw [am_step11 ea (by omega) e, am_do11]
    obtain ⟨j, hj, ej⟩ := hT.2 (by rw [e]; decide)
    unfold am_ju
    refine ⟨?_, ?_⟩
    · split
      · exact ⟨j, hj, ej⟩
      · exact ⟨a + 1, by omega, (am_ld0 _ _).trans ((am_ld0 _ _).trans en)⟩
    · left
      split
      · exact (am_ld05 _ _).trans (am_ld05 _ _)
      · exact (am_ld05 _ _).trans (am_ld05 _ _)
end SA
