/-! ===== run ===== -/
section RN
variable {S A Q : rb_S} {x y z t v : Int32} {K : Int32 → rb_S → Prop} {G : Int32 → Int32 → rb_S → Prop} {a i n o c : Nat}
def am_it (Q A : rb_S) : Nat → rb_S
  | 0 => A
  | i + 1 => am_step Q (am_it Q A i)
theorem am_stop (P : Nat → Prop) : ∀ N : Nat, ∃ k : Nat, k ≤ N ∧ (∀ i : Nat, i < k → P i) ∧ (k = N ∨ ¬ P k)
  | 0 => ⟨0, Nat.le_refl 0, fun i hi => absurd hi (by omega), Or.inl rfl⟩
  | N + 1 => by
    obtain ⟨k, h1, h2, h3⟩ := am_stop P N
    rcases h3 with h3 | h3
    · by_cases h : P k
      · refine ⟨k + 1, by omega, fun i hi => ?_, Or.inl (by omega)⟩
        by_cases e : i = k
        · rw [e]; exact h
        · exact h2 i (by omega)
      · exact ⟨k, by omega, h2, Or.inr h⟩
    · exact ⟨k, by omega, h2, Or.inr h3⟩
/-- where the machine is, and how many outputs it has made -/
def am_ok (n B i : Nat) (A : rb_S) : Prop := (∃ a : Nat, a ≤ n ∧ A 0 0 = nI a) ∧ ∃ o : Nat, o ≤ B + i ∧ A 0 5 = nI o
theorem am_oks {B : Nat} (hn : n ≤ 64) (hP : iv_P Q n) (hC : iv_C Q n) (h : am_ok n B i A) (e : ¬ A 0 0 = nI n) : am_ok n B (i + 1) (am_step Q A) := by
  obtain ⟨⟨a, ha, ea⟩, o, ho, eo⟩ := h
  have ha' : a < n := by
    rcases Nat.lt_or_eq_of_le ha with q | q
    · exact q
    · exact absurd (by rw [ea, q]) e
  obtain ⟨h1, h2⟩ := am_keep hn ha' ea hP hC
  refine ⟨h1, ?_⟩
  rcases h2 with h2 | h2
  · exact ⟨o, by omega, h2.trans eo⟩
  · exact ⟨o + 1, by omega, by rw [h2, eo, nI_succ]⟩
theorem am_okit {B k : Nat} (hn : n ≤ 64) (hP : iv_P Q n) (hC : iv_C Q n) (h : am_ok n B 0 A) (hk : ∀ j : Nat, j < k → ¬ am_it Q A j 0 0 = nI n) : ∀ j : Nat, j ≤ k → am_ok n B j (am_it Q A j)
  | 0, _ => h
  | j + 1, hj => am_oks hn hP hC (am_okit hn hP hC h hk j (by omega)) (hk j (by omega))
theorem rC_adv {B k N : Nat} (hn : n ≤ 64) (hN : N ≤ 5000) (hP : iv_P Q n) (hC : iv_C Q n) (h0 : am_ok n B 0 A) (hk : ∀ j : Nat, j < k → ¬ am_it Q A j 0 0 = nI n) (hkN : k ≤ N) (hs : k = N ∨ ¬ ¬ am_it Q A k 0 0 = nI n) (hK : ∀ S' : rb_S, rC Q (am_it Q A k) S' → K (nI k) (rb_u S' 0 9 (S' 0 9 + nI k))) : ∀ (m j : Nat) (S : rb_S), j + m = k → rC Q (am_it Q A j) S → ma_advance_p_2 K (m + 1) (nI N) (nI j) S := by
  intro m
  induction m with
  | zero =>
    intro j S hj r
    have : j = k := by omega
    subst this
    have ed : ma_advance_p_25 K (nI N) (nI j) S := by
      intro S32 q32
      subst q32
      exact hK S r
    refine ⟨fun _ => ed, fun e => ?_⟩
    rw [nI_leI (by omega) (by omega)] at e
    rcases hs with hs | hs
    · omega
    · have e8 : S 0 8 = nI n := r.2.2.1.1.trans (Decidable.of_not_not hs)
      have e7 : S 0 7 = nI n := (r.2.1 7 (by omega)).trans hC.2.1
      refine ⟨fun q => ?_, fun _ => ⟨pv_n1, fun _ => ed, fun q => absurd q (by decide)⟩⟩
      rw [e8, e7, nI_ltI (by omega) (by omega)] at q
      omega
  | succ m ih =>
    intro j S hj r
    obtain ⟨⟨a, ha, ea⟩, o, ho, eo⟩ := am_okit hn hP hC h0 hk j (by omega)
    have ne := hk j (by omega)
    have ha' : a < n := by
      rcases Nat.lt_or_eq_of_le ha with q | q
      · exact q
      · exact absurd (by rw [ea, q]) ne
    have e8 : S 0 8 = nI a := r.2.2.1.1.trans ea
    have e7 : S 0 7 = nI n := (r.2.1 7 (by omega)).trans hC.2.1
    refine ⟨fun q => ?_, fun _ => ⟨fun _ => ⟨pv_n0, fun q => absurd rfl q, fun _ => ?_⟩, fun q => absurd ?_ q⟩⟩
    · rw [nI_leI (by omega) (by omega)] at q
      omega
    · refine rC_step hn ha' ea hP hC r (fun S' r' v19 q19 => ?_)
      rw [← nI_succ] at q19
      subst q19
      exact ih (j + 1) S' (by omega) r'
    · rw [e8, e7, nI_ltI (by omega) (by omega)]
      exact ha'
theorem rM_run {B k N : Nat} (hn : n ≤ 64) (hN : N ≤ 5000) (hB : B + 5000 < 2 ^ 30) (hP : iv_P Q n) (hC : iv_C Q n) (e0 : Q 1 0 = 0) (e1 : Q 1 1 = nI n) (h0 : am_ok n B 0 A) (hk : ∀ j : Nat, j < k → ¬ am_it Q A j 0 0 = nI n) (hkN : k ≤ N) (hs : k = N ∨ ¬ ¬ am_it Q A k 0 0 = nI n) (hK : ∀ S' : rb_S, rM Q (am_it Q A k) k S' → K (nI k) S') : ∀ (m j : Nat) (S : rb_S), j + m = k → rM Q (am_it Q A j) j S → mo_run_p_45 K (m + 1) (nI N) (nI j) S := by
  intro m
  induction m with
  | zero =>
    intro j S hj r
    have : j = k := by omega
    subst this
    have s0 : S 1 0 = 0 := (r.2.1 0 (by omega)).trans e0
    refine ⟨fun q => absurd s0 q, fun _ => ⟨fun _ => hK S r, fun e => ?_⟩⟩
    rw [nI_leI (by omega) (by omega)] at e
    rcases hs with hs | hs
    · omega
    · have e6 : S 1 6 = nI n := r.2.2.1.1.trans (Decidable.of_not_not hs)
      have e1' : S 1 1 = nI n := (r.2.1 1 (by omega)).trans e1
      refine ⟨fun _ => hK S r, fun q => absurd ?_ q⟩
      rw [e6, e1', nI_leI (by omega) (by omega)]
      exact Nat.le_refl _
  | succ m ih =>
    intro j S hj r
    obtain ⟨⟨a, ha, ea⟩, o, ho, eo⟩ := am_okit hn hP hC h0 hk j (by omega)
    have ne := hk j (by omega)
    have ha' : a < n := by
      rcases Nat.lt_or_eq_of_le ha with q | q
      · exact q
      · exact absurd (by rw [ea, q]) ne
    have s0 : S 1 0 = 0 := (r.2.1 0 (by omega)).trans e0
    have e6 : S 1 6 = nI a := r.2.2.1.1.trans ea
    have e1' : S 1 1 = nI n := (r.2.1 1 (by omega)).trans e1
    refine ⟨fun q => absurd s0 q, fun _ => ⟨fun q => ?_, fun _ => ⟨fun q => ?_, fun _ => ?_⟩⟩⟩
    · rw [nI_leI (by omega) (by omega)] at q
      omega
    · rw [e6, e1', nI_leI (by omega) (by omega)] at q
      omega
    · refine rM_step hn ha' ea (by omega) eo hP hC r (fun S' r' v72 q72 => ?_)
      rw [← nI_succ] at q72
      subst q72
      exact ih (j + 1) S' (by omega) r'
theorem am_Q {Q' : rb_S} (h6 : Q' 6 = Q 6) (h7 : Q' 7 = Q 7) (h8 : Q' 8 = Q 8) (h9 : Q' 9 = Q 9) (h14 : Q' 14 = Q 14) : ∀ k : Nat, am_it Q' A k = am_it Q A k
  | 0 => rfl
  | k + 1 => by
    show am_step Q' (am_it Q' A k) = am_step Q (am_it Q A k)
    rw [am_Q h6 h7 h8 h9 h14 k]
    unfold am_step
    rw [h6, h7, h8, h9, h14]
/-- the machine in between, at a call's start -/
def am_0 (S : rb_S) : rb_S := fun g => if g = 0 then (fun j => if j = 0 then S 0 8 else if j = 6 then S 0 3 else S 0 (8 + j)) else if g = 1 then S 20 else if g = 2 then S 21 else if g = 3 then S 22 else S 25
theorem rC_0 {w hd : Nat} (hw : w ≤ 32) (hh : hd < 32) (hI : iv_I S w hd) : rC S (am_0 S) S :=
  ⟨fun _ _ _ _ _ => rfl, fun _ _ => rfl, ⟨rfl, rfl, rfl, rfl, rfl⟩, fun _ _ => rfl, fun _ _ => rfl, fun _ _ => rfl, w, hd, hw, hh, hI.1, hI.2.1, hI.2.1, hI.2.2.2⟩
theorem rM_0 {S1 : rb_S} {w hd : Nat} (hw : w ≤ 32) (hI : iv_I S w hd) (hO : iv_O S) (hR : iv_R S n c) (h1 : ∀ g : Nat, 25 ≤ g → g ≤ 35 → S1 g = S g) (h2 : ∀ j : Nat, 0 < j → S1 1 j = S 1 j) : rM S1 (am_0 S) 0 S1 := by
  obtain ⟨r1, r2, r3, ⟨a, ha, ea, ea'⟩, ⟨s1, s2, s3, s4⟩, o, ho, eo, eo'⟩ := hR
  refine ⟨fun _ _ _ _ _ _ _ => rfl, fun _ _ => rfl, ⟨?_, ?_, ?_, ?_, ?_, ?_⟩, fun p hp => ?_, fun p hp => ?_, fun k hk => ?_, fun k hk => ?_, w, hw, ?_, hI.2.1, fun k hk => ?_⟩
  · rw [h2 6 (by decide), ea', ← ea]; rfl
  · rw [show nI 0 = (0 : Int32) from rfl, Int32.add_zero]
  · rw [h2 8 (by decide), ← s2]; rfl
  · rw [h2 9 (by decide), ← s3]; rfl
  · rw [h2 10 (by decide), ← s4]; rfl
  · rw [h2 11 (by decide), eo', ← eo]; rfl
  · rw [h1 32 (by decide) (by decide), ← r1 p hp]; rfl
  · rw [h1 33 (by decide) (by decide), ← r2 p hp]; rfl
  · rw [h1 34 (by decide) (by decide), ← r3 k hk]; rfl
  · rw [h1 35 (by decide) (by decide), ← hO k hk]; rfl
  · rw [h2 2 (by decide), hI.2.2.1]
  · rw [h1 25 (by decide) (by decide)]; rfl
theorem pp_run (hc : c ≤ 512) (h : iv S c) (hG : ∀ (k b : Int32) (S2 : rb_S), S2 1 0 = k → (k = 0 → S2 36 0 = b) → iv S2 (c + 1) → G k b S2) : la_run_p_0 (fun k S1 => mo_run_p_0 (fun b S2 => G k b S2) x S1) x S := by
  have hb := iv_b h
  -- what the reference does when it throws
  have thr : ∀ k : Int32, ¬ k = 0 → mo_run_p_40 (fun b S2 => G k b S2) x k S := by
    intro k hk S40 q40
    subst q40
    refine ⟨1, fun _ => hG _ _ _ (ru_s _ _ _ _) (fun e => absurd e hk) (iv_same h (iv_zu0 _ _)), fun q => absurd q ?_⟩
    rw [ru_s]
    exact hk
  refine ⟨fun e => Or.inl ⟨rfl, ?_⟩, fun e => ?_⟩
  · exact ⟨fun _ => thr 1 (by decide), fun q => absurd (hb.trans e) q⟩
  · have hv := h
    obtain ⟨n, w, hd, hn, hw, hh, e1, e2, hP, hI, hO, -, hcc⟩ := h
    rcases hcc with ⟨q, -⟩ | ⟨hb1, hC, hR⟩
    · exact absurd q e
    have hR' := hR
    obtain ⟨-, -, -, ⟨a, ha, ea, ea'⟩, ⟨s1, s2, s3, s4⟩, o, ho, eo, eo'⟩ := hR
    have nb : ¬ S 1 3 = 0 := by rw [hb]; exact e
    refine ⟨fun lt => ⟨pv_n0, fun _ => ?_, fun q => absurd rfl q⟩, fun ge => ⟨pv_n1, fun q => absurd q (by decide), fun _ => Or.inl ⟨rfl, ?_⟩⟩⟩
    · rw [ea, hC.2.1, nI_ltI (by omega) (by omega)] at lt
      have na : ¬ S 1 6 = S 1 1 := by
        rw [ea', e2, nI_eq (by omega) (by omega)]
        omega
      refine ⟨fun q1 => Or.inr ⟨rfl, fun q => absurd q nb, fun _ => ⟨fun _ => ⟨fun _ => thr 2 (by decide), fun q => absurd q1 q⟩, fun q => absurd q na⟩⟩, fun q1 => ⟨fun q2 => ?_, fun q2 => Or.inr ⟨rfl, fun q => absurd q nb, fun _ => ⟨fun _ => ⟨fun q => absurd q q1, fun _ => ⟨fun q => absurd q q2, fun _ => thr 2 (by decide)⟩⟩, fun q => absurd q na⟩⟩⟩⟩
      have p0 : ¬ x < 0 := by
        intro q
        refine q1 ?_
        rw [Int32.lt_iff_toInt_lt] at q ⊢
        have : (0 : Int32).toInt = 0 := rfl
        have : (1 : Int32).toInt = 1 := rfl
        omega
      obtain ⟨N, hN, rfl⟩ := nI_of2 (n := 5000) (by decide) p0 q2
      -- the machine in between
      have h0 : am_ok n (5000 * c) 0 (am_0 S) := ⟨⟨a, ha, ea⟩, o, by omega, eo⟩
      obtain ⟨k, hkN, hk, hs⟩ := am_stop (fun j => ¬ am_it S (am_0 S) j 0 0 = nI n) N
      have okk := am_okit hn hP hC h0 hk k (Nat.le_refl _)
      refine ⟨k + 1, rC_adv hn hN hP hC h0 hk hkN hs (fun T r => ?_) k 0 S (by omega) (rC_0 hw hh hI)⟩
      intro S8 q8
      -- what the class left
      have f8 : ∀ g : Nat, g ≠ 0 → g ≠ 20 → g ≠ 21 → g ≠ 22 → g ≠ 36 → S8 g = S g := by
        intro g g0 g1 g2 g3 g4
        rw [q8, ru_g g4, ru_g g0, r.1 g g0 g1 g2 g3]
      have m1 : S8 1 = S 1 := f8 1 (by decide) (by decide) (by decide) (by decide) (by decide)
      refine ⟨fun q => absurd (by rw [← m1]; exact q) nb, fun _ => ⟨fun _ => ⟨fun q => absurd q q1, fun _ => ⟨fun _ => ?_, fun q => absurd q2 q⟩⟩, fun q => absurd (by rw [← m1]; exact q) na⟩⟩
      intro S40 q40
      have f40 : ∀ g : Nat, g ≠ 1 → S40 g = S8 g := by
        intro g hg
        rw [q40, ru_g hg]
      have fS : ∀ g : Nat, g ≠ 0 → g ≠ 1 → g ≠ 20 → g ≠ 21 → g ≠ 22 → g ≠ 36 → S40 g = S g := fun g g0 g5 g1 g2 g3 g4 => (f40 g g5).trans (f8 g g0 g1 g2 g3 g4)
      have m40 : ∀ j : Nat, 0 < j → S40 1 j = S 1 j := by
        intro j hj
        rw [q40, ru_j (by omega), m1]
      have z40 : S40 1 0 = 0 := by rw [q40, ru_s]
      have c0 : ∀ j : Nat, j ≠ 9 → S40 0 j = T 0 j := by
        intro j hj
        rw [f40 0 (by decide), q8, ru_g (by decide), ru_j hj]
      have hP4 : iv_P S40 n := iv_Pof (fS 6 (by decide) (by decide) (by decide) (by decide) (by decide) (by decide)) (fS 7 (by decide) (by decide) (by decide) (by decide) (by decide) (by decide)) (fS 8 (by decide) (by decide) (by decide) (by decide) (by decide) (by decide)) (fS 9 (by decide) (by decide) (by decide) (by decide) (by decide) (by decide)) (fS 24 (by decide) (by decide) (by decide) (by decide) (by decide) (by decide)) hP
      have hC4 : iv_C S40 n := iv_Cof ((c0 4 (by decide)).trans (r.2.1 4 (by omega))) ((c0 7 (by decide)).trans (r.2.1 7 (by omega))) (fun g hg => fS g (by omega) (by omega) (by omega) (by omega) (by omega) (by omega)) hC
      have hit : ∀ j : Nat, am_it S40 (am_0 S) j = am_it S (am_0 S) j := am_Q (fS 6 (by decide) (by decide) (by decide) (by decide) (by decide) (by decide)) (fS 7 (by decide) (by decide) (by decide) (by decide) (by decide) (by decide)) (fS 8 (by decide) (by decide) (by decide) (by decide) (by decide) (by decide)) (fS 9 (by decide) (by decide) (by decide) (by decide) (by decide) (by decide)) (fS 14 (by decide) (by decide) (by decide) (by decide) (by decide) (by decide))
      have rm0 : rM S40 (am_0 S) 0 S40 := rM_0 hw hI hO hR' (fun g g1 g2 => fS g (by omega) (by omega) (by omega) (by omega) (by omega) (by omega)) m40
      refine ⟨k + 1, rM_run (B := 5000 * c) hn hN (by omega) hP4 hC4 z40 ((m40 1 (by decide)).trans e2) h0 (fun j hj => by rw [hit j]; exact hk j hj) hkN (by rw [hit k]; exact hs) (fun S2 r2 => ?_) k 0 S40 (by omega) rm0⟩
      rw [hit k] at r2
      have fM : ∀ g : Nat, g ≠ 1 → g ≠ 25 → g ≠ 32 → g ≠ 33 → g ≠ 34 → g ≠ 35 → S2 g = S40 g := r2.1
      have g2 : S2 0 = S40 0 := fM 0 (by decide) (by decide) (by decide) (by decide) (by decide) (by decide)
      have d0 : ∀ j : Nat, j ≠ 9 → S2 0 j = T 0 j := fun j hj => (congrFun g2 j).trans (c0 j hj)
      have d9 : S2 0 9 = S 0 9 + nI k := by
        rw [g2, f40 0 (by decide), q8, ru_g (by decide), ru_s, r.2.1 9 (by omega)]
      have m2 : ∀ j : Nat, j = 1 ∨ (3 ≤ j ∧ j < 6) → S2 1 j = S 1 j := fun j hj => (r2.2.1 j (by omega)).trans (m40 j (by omega))
      have dg : ∀ g : Nat, g = 20 ∨ g = 21 ∨ g = 22 → S2 g = T g := by
        intro g hg
        rw [fM g (by omega) (by omega) (by omega) (by omega) (by omega) (by omega), f40 g (by omega), q8, ru_g (by omega), ru_g (by omega)]
      have dS : ∀ g : Nat, g ≠ 0 → g ≠ 1 → g ≠ 20 → g ≠ 21 → g ≠ 22 → g ≠ 36 → g ≠ 25 → g ≠ 32 → g ≠ 33 → g ≠ 34 → g ≠ 35 → S2 g = S g := fun g g0 g5 g1 g2 g3 g4 b1 b2 b3 b4 b5 => (fM g g5 b1 b2 b3 b4 b5).trans (fS g g0 g5 g1 g2 g3 g4)
      obtain ⟨t1, t2, ⟨u1, u2, u3, u4, u5⟩, t4, t5, t6, w', hd', hw', hh', i1, i2, i3, i4⟩ := r
      obtain ⟨v1, v2, ⟨y1, y2, y3, y4, y5, y6⟩, v4, v5, v6, v7, w2, hw2, j1, j2, j3⟩ := r2
      have ww : w2 = w' := by
        have := j2.symm.trans i3
        rw [nI_eq (by omega) (by omega)] at this
        exact this
      subst ww
      obtain ⟨⟨a9, ha9, ea9⟩, o9, ho9, eo9⟩ := okk
      refine hG _ _ S2 ((v2 0 (by omega)).trans z40) (fun _ => ?_) ⟨n, w2, hd', hn, hw', hh', ?_, ?_, ?_, ⟨?_, ?_, j1, fun k hk => ?_⟩, fun k hk => ?_, ?_, Or.inr ⟨?_, ?_, ⟨fun p hp => ?_, fun p hp => ?_, fun k hk => ?_, ⟨a9, ha9, ?_, y1.trans ea9⟩, ⟨?_, ?_, ?_, ?_⟩, o9, by omega, ?_, y6.trans eo9⟩⟩⟩
      · rw [fM 36 (by decide) (by decide) (by decide) (by decide) (by decide) (by decide), f40 36 (by decide), q8, ru_s]
      · rw [d0 1 (by decide), t2 1 (by omega), e1]
      · rw [m2 1 (by omega), e2]
      · exact iv_Pof (dS 6 (by decide) (by decide) (by decide) (by decide) (by decide) (by decide) (by decide) (by decide) (by decide) (by decide) (by decide)) (dS 7 (by decide) (by decide) (by decide) (by decide) (by decide) (by decide) (by decide) (by decide) (by decide) (by decide) (by decide)) (dS 8 (by decide) (by decide) (by decide) (by decide) (by decide) (by decide) (by decide) (by decide) (by decide) (by decide) (by decide)) (dS 9 (by decide) (by decide) (by decide) (by decide) (by decide) (by decide) (by decide) (by decide) (by decide) (by decide) (by decide)) (dS 24 (by decide) (by decide) (by decide) (by decide) (by decide) (by decide) (by decide) (by decide) (by decide) (by decide) (by decide)) hP
      · rw [d0 2 (by decide), i1]
      · rw [d0 3 (by decide), i2]
      · rw [dS 10 (by decide) (by decide) (by decide) (by decide) (by decide) (by decide) (by decide) (by decide) (by decide) (by decide) (by decide), j3 k hk, ← i4 k hk, t1 10 (by decide) (by decide) (by decide) (by decide)]
      · rw [dg 22 (by omega), t6 k hk, v7 k hk]
      · rw [m2 3 (by omega), d0 0 (by decide), t2 0 (by omega), hb]
      · rw [d0 0 (by decide), t2 0 (by omega), hb1]
      · exact iv_Cof ((d0 4 (by decide)).trans (t2 4 (by omega))) ((d0 7 (by decide)).trans (t2 7 (by omega))) (fun g hg => dS g (by omega) (by omega) (by omega) (by omega) (by omega) (by omega) (by omega) (by omega) (by omega) (by omega) (by omega)) hC
      · rw [dg 20 (by omega), t4 p (by omega), v4 p hp]
      · rw [dg 20 (by omega), t4 (16 + p) (by omega), v5 p hp]
      · rw [dg 21 (by omega), t5 k hk, v6 k hk]
      · rw [d0 8 (by decide), u1, ea9]
      · rw [d9, y2, m40 7 (by decide), s1]
      · rw [d0 10 (by decide), u2, y3]
      · rw [d0 11 (by decide), u3, y4]
      · rw [d0 12 (by decide), u4, y5]
      · rw [d0 13 (by decide), u5, eo9]
    · have na : S 1 6 = S 1 1 := by
        rw [ea, hC.2.1, nI_ltI (by omega) (by omega)] at ge
        rw [ea', e2, nI_eq (by omega) (by omega)]
        omega
      exact ⟨fun q => absurd q nb, fun _ => ⟨fun q => absurd na q, fun _ => thr 1 (by decide)⟩⟩
end RN
