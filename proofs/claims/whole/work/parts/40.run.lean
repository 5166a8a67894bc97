/-! ===== the run: a machine in between ===== -/
section RU
variable {S A Q : rb_S} {x y z t v p : Int32}
/-- A 0: 0 next, 2 loads, 3 stores, 4 left out, 5 outputs made, 6 waiting; A 1 contents, A 2 cells, A 3 outputs, A 4 inputs -/
def am_ld (p : Int32) (A : rb_S) : rb_S := if 16 ≤ p then rb_u A 0 2 (A 0 2 + 1) else A
def am_put (p v : Int32) (A : rb_S) : rb_S := rb_u (if 16 ≤ p then rb_u A 0 3 (A 0 3 + 1) else A) 1 p.toNatClampNeg v
def am_sh (A : rb_S) : rb_S := fun g => if g = 4 then (fun k => A 4 (k + 1)) else rb_u A 0 6 (A 0 6 - 1) g
def am_in (A : rb_S) : rb_S := if A 0 6 = 0 then A else am_sh A
def am_inv (A : rb_S) : Int32 := if A 0 6 = 0 then 0 else A 4 0
def rC (Q A S : rb_S) : Prop := (∀ g : Nat, g ≠ 0 → g ≠ 20 → g ≠ 21 → g ≠ 22 → S g = Q g) ∧ (∀ j : Nat, j < 2 ∨ (4 ≤ j ∧ j < 8) ∨ j = 9 → S 0 j = Q 0 j) ∧ (S 0 8 = A 0 0 ∧ S 0 10 = A 0 2 ∧ S 0 11 = A 0 3 ∧ S 0 12 = A 0 4 ∧ S 0 13 = A 0 5) ∧ (∀ p : Nat, p < 32 → S 20 p = A 1 p) ∧ (∀ k : Nat, k < 16 → S 21 k = A 2 k) ∧ (∀ k : Nat, k < 16 → S 22 k = A 3 k) ∧ ∃ w hd : Nat, w ≤ 32 ∧ hd < 32 ∧ S 0 2 = nI hd ∧ S 0 3 = nI w ∧ A 0 6 = nI w ∧ ∀ k : Nat, k < w → S 10 ((hd + k) % 32) = A 4 k
def rM (Q A : rb_S) (i : Nat) (S : rb_S) : Prop := (∀ g : Nat, g ≠ 1 → g ≠ 25 → g ≠ 32 → g ≠ 33 → g ≠ 34 → g ≠ 35 → S g = Q g) ∧ (∀ j : Nat, j < 2 ∨ (3 ≤ j ∧ j < 6) → S 1 j = Q 1 j) ∧ (S 1 6 = A 0 0 ∧ S 1 7 = Q 1 7 + nI i ∧ S 1 8 = A 0 2 ∧ S 1 9 = A 0 3 ∧ S 1 10 = A 0 4 ∧ S 1 11 = A 0 5) ∧ (∀ p : Nat, p < 8 → S 32 p = A 1 p) ∧ (∀ p : Nat, p < 16 → S 33 p = A 1 (16 + p)) ∧ (∀ k : Nat, k < 16 → S 34 k = A 2 k) ∧ (∀ k : Nat, k < 16 → S 35 k = A 3 k) ∧ ∃ w : Nat, w ≤ 32 ∧ S 1 2 = nI w ∧ A 0 6 = nI w ∧ ∀ k : Nat, k < w → S 25 k = A 4 k
theorem rC_u8 (h : rC Q A S) (v : Int32) : rC Q (rb_u A 0 0 v) (rb_u S 0 8 v) := by
  obtain ⟨h1, h2, ⟨a, b, c, d, e⟩, h4, h5, h6, hq⟩ := h
  exact ⟨fun g g0 g1 g2 g3 => (ru_g g0).trans (h1 g g0 g1 g2 g3), fun j hj => (ru_j (by omega)).trans (h2 j hj), ⟨rfl, b, c, d, e⟩, h4, h5, h6, hq⟩
theorem rC_u10 (h : rC Q A S) (v : Int32) : rC Q (rb_u A 0 2 v) (rb_u S 0 10 v) := by
  obtain ⟨h1, h2, ⟨a, b, c, d, e⟩, h4, h5, h6, hq⟩ := h
  exact ⟨fun g g0 g1 g2 g3 => (ru_g g0).trans (h1 g g0 g1 g2 g3), fun j hj => (ru_j (by omega)).trans (h2 j hj), ⟨a, rfl, c, d, e⟩, h4, h5, h6, hq⟩
theorem rC_u11 (h : rC Q A S) (v : Int32) : rC Q (rb_u A 0 3 v) (rb_u S 0 11 v) := by
  obtain ⟨h1, h2, ⟨a, b, c, d, e⟩, h4, h5, h6, hq⟩ := h
  exact ⟨fun g g0 g1 g2 g3 => (ru_g g0).trans (h1 g g0 g1 g2 g3), fun j hj => (ru_j (by omega)).trans (h2 j hj), ⟨a, b, rfl, d, e⟩, h4, h5, h6, hq⟩
theorem rC_u12 (h : rC Q A S) (v : Int32) : rC Q (rb_u A 0 4 v) (rb_u S 0 12 v) := by
  obtain ⟨h1, h2, ⟨a, b, c, d, e⟩, h4, h5, h6, hq⟩ := h
  exact ⟨fun g g0 g1 g2 g3 => (ru_g g0).trans (h1 g g0 g1 g2 g3), fun j hj => (ru_j (by omega)).trans (h2 j hj), ⟨a, b, c, rfl, e⟩, h4, h5, h6, hq⟩
theorem rC_u13 (h : rC Q A S) (v : Int32) : rC Q (rb_u A 0 5 v) (rb_u S 0 13 v) := by
  obtain ⟨h1, h2, ⟨a, b, c, d, e⟩, h4, h5, h6, hq⟩ := h
  exact ⟨fun g g0 g1 g2 g3 => (ru_g g0).trans (h1 g g0 g1 g2 g3), fun j hj => (ru_j (by omega)).trans (h2 j hj), ⟨a, b, c, d, rfl⟩, h4, h5, h6, hq⟩
theorem ru_two {S A : rb_S} {g g' j k : Nat} {v : Int32} (h : S g k = A g' k) : rb_u S g j v g k = rb_u A g' j v g' k := by
  by_cases e : k = j
  · rw [e, ru_s, ru_s]
  · rw [ru_j e, ru_j e, h]
theorem rC_c (h : rC Q A S) (q : Nat) (v : Int32) : rC Q (rb_u A 1 q v) (rb_u S 20 q v) := by
  obtain ⟨h1, h2, h3, h4, h5, h6, hq⟩ := h
  exact ⟨fun g g0 g1 g2 g3 => (ru_g g1).trans (h1 g g0 g1 g2 g3), h2, h3, fun p hp => ru_two (h4 p hp), h5, h6, hq⟩
theorem rC_m (h : rC Q A S) (q : Nat) (v : Int32) : rC Q (rb_u A 2 q v) (rb_u S 21 q v) := by
  obtain ⟨h1, h2, h3, h4, h5, h6, hq⟩ := h
  exact ⟨fun g g0 g1 g2 g3 => (ru_g g2).trans (h1 g g0 g1 g2 g3), h2, h3, h4, fun p hp => ru_two (h5 p hp), h6, hq⟩
theorem rC_o (h : rC Q A S) (q : Nat) (v : Int32) : rC Q (rb_u A 3 q v) (rb_u S 22 q v) := by
  obtain ⟨h1, h2, h3, h4, h5, h6, hq⟩ := h
  exact ⟨fun g g0 g1 g2 g3 => (ru_g g3).trans (h1 g g0 g1 g2 g3), h2, h3, h4, h5, fun p hp => ru_two (h6 p hp), hq⟩
theorem am_nsh {w : Nat} (h : A 0 6 = nI w) (hw : w ≤ 32) (h0 : ¬ w = 0) : am_sh A 0 6 = nI (w - 1) := by
  show A 0 6 - 1 = _
  rw [h, show (1 : Int32) = nI 1 from rfl, pk_sub (by omega)]
theorem rC_next {K : Int32 → rb_S → Prop} (h : rC Q A S) (hK : ∀ S' : rb_S, rC Q (am_in A) S' → K (am_inv A) S') : ip_next_p_0 K S := by
  have h' := h
  obtain ⟨h1, h2, h3, h4, h5, h6, w, hd, hw, hh, q2, q3, q6, hr⟩ := h
  unfold am_in am_inv at hK
  refine ⟨fun e => ?_, fun e => ?_⟩
  · have e' : ¬ A 0 6 = 0 := by rw [q6, ← q3]; exact e
    have hw0 : ¬ w = 0 := by
      intro q
      exact e (by rw [q3, q]; rfl)
    rw [if_neg e', if_neg e'] at hK
    rw [q2, nI_clamp (by omega)]
    refine ⟨vp_in_nI hh (by decide), fun v18 q18 S29 q29 S39 q39 => ?_⟩
    have e0 := hr 0 (by omega)
    rw [Nat.add_zero, Nat.mod_eq_of_lt hh] at e0
    rw [q18, e0]
    have n1 : (nI hd + 1) - (nI hd + 1) / 32 * 32 = nI ((hd + 1) % 32) := by
      rw [← nI_succ, show (32 : Int32) = nI 32 from rfl]
      exact pk_rem (by omega) (by decide) (by decide)
    have n2 : S29 0 3 - 1 = nI (w - 1) := by
      subst q29
      show S 0 3 - 1 = _
      rw [q3, show (1 : Int32) = nI 1 from rfl, pk_sub (by omega)]
    rw [n1] at q29
    rw [n2] at q39
    refine hK S39 ⟨fun g g0 g1 g2 g3 => ?_, fun j hj => ?_, ?_, ?_, ?_, ?_, w - 1, (hd + 1) % 32, by omega, by omega, ?_, ?_, am_nsh q6 hw hw0, fun k hk => ?_⟩
    · rw [q39, ru_g g0, q29, ru_g g0, h1 g g0 g1 g2 g3]
    · rw [q39, ru_j (by omega), q29, ru_j (by omega), h2 j hj]
    · subst q39 q29; exact h3
    · subst q39 q29; exact h4
    · subst q39 q29; exact h5
    · subst q39 q29; exact h6
    · subst q39 q29; rfl
    · subst q39; rfl
    · have := hr (k + 1) (by omega)
      rw [q39, ru_g (by decide), q29, ru_g (by decide)]
      show _ = A 4 (k + 1)
      rw [← this]
      congr 1
      omega
  · have e' : A 0 6 = 0 := by rw [q6, ← q3]; exact e
    rw [if_pos e', if_pos e'] at hK
    exact hK S h'
theorem rM_u6 {i : Nat} (h : rM Q A i S) (v : Int32) : rM Q (rb_u A 0 0 v) i (rb_u S 1 6 v) := by
  obtain ⟨h1, h2, ⟨a, b, c, d, e, f⟩, h4, h5, h6, h7, hq⟩ := h
  exact ⟨fun g g0 g1 g2 g3 g4 g5 => (ru_g g0).trans (h1 g g0 g1 g2 g3 g4 g5), fun j hj => (ru_j (by omega)).trans (h2 j hj), ⟨rfl, b, c, d, e, f⟩, h4, h5, h6, h7, hq⟩
theorem rM_u8 {i : Nat} (h : rM Q A i S) (v : Int32) : rM Q (rb_u A 0 2 v) i (rb_u S 1 8 v) := by
  obtain ⟨h1, h2, ⟨a, b, c, d, e, f⟩, h4, h5, h6, h7, hq⟩ := h
  exact ⟨fun g g0 g1 g2 g3 g4 g5 => (ru_g g0).trans (h1 g g0 g1 g2 g3 g4 g5), fun j hj => (ru_j (by omega)).trans (h2 j hj), ⟨a, b, rfl, d, e, f⟩, h4, h5, h6, h7, hq⟩
theorem rM_u9 {i : Nat} (h : rM Q A i S) (v : Int32) : rM Q (rb_u A 0 3 v) i (rb_u S 1 9 v) := by
  obtain ⟨h1, h2, ⟨a, b, c, d, e, f⟩, h4, h5, h6, h7, hq⟩ := h
  exact ⟨fun g g0 g1 g2 g3 g4 g5 => (ru_g g0).trans (h1 g g0 g1 g2 g3 g4 g5), fun j hj => (ru_j (by omega)).trans (h2 j hj), ⟨a, b, c, rfl, e, f⟩, h4, h5, h6, h7, hq⟩
theorem rM_u10 {i : Nat} (h : rM Q A i S) (v : Int32) : rM Q (rb_u A 0 4 v) i (rb_u S 1 10 v) := by
  obtain ⟨h1, h2, ⟨a, b, c, d, e, f⟩, h4, h5, h6, h7, hq⟩ := h
  exact ⟨fun g g0 g1 g2 g3 g4 g5 => (ru_g g0).trans (h1 g g0 g1 g2 g3 g4 g5), fun j hj => (ru_j (by omega)).trans (h2 j hj), ⟨a, b, c, d, rfl, f⟩, h4, h5, h6, h7, hq⟩
theorem rM_u11 {i : Nat} (h : rM Q A i S) (v : Int32) : rM Q (rb_u A 0 5 v) i (rb_u S 1 11 v) := by
  obtain ⟨h1, h2, ⟨a, b, c, d, e, f⟩, h4, h5, h6, h7, hq⟩ := h
  exact ⟨fun g g0 g1 g2 g3 g4 g5 => (ru_g g0).trans (h1 g g0 g1 g2 g3 g4 g5), fun j hj => (ru_j (by omega)).trans (h2 j hj), ⟨a, b, c, d, e, rfl⟩, h4, h5, h6, h7, hq⟩
theorem rM_u7 {i : Nat} (h : rM Q A i S) : rM Q A (i + 1) (rb_u S 1 7 (S 1 7 + 1)) := by
  obtain ⟨h1, h2, ⟨a, b, c, d, e, f⟩, h4, h5, h6, h7, hq⟩ := h
  refine ⟨fun g g0 g1 g2 g3 g4 g5 => (ru_g g0).trans (h1 g g0 g1 g2 g3 g4 g5), fun j hj => (ru_j (by omega)).trans (h2 j hj), ⟨a, ?_, c, d, e, f⟩, h4, h5, h6, h7, hq⟩
  rw [ru_s, b, nI_succ, Int32.add_assoc]
theorem rM_r {i : Nat} (h : rM Q A i S) {q : Nat} (hq : q < 8) (v : Int32) : rM Q (rb_u A 1 q v) i (rb_u S 32 q v) := by
  obtain ⟨h1, h2, h3, h4, h5, h6, h7, hw⟩ := h
  refine ⟨fun g g0 g1 g2 g3 g4 g5 => (ru_g g2).trans (h1 g g0 g1 g2 g3 g4 g5), h2, h3, fun p hp => ru_two (h4 p hp), fun p hp => ?_, h6, h7, hw⟩
  rw [ru_g (by decide), ru_j (by omega)]
  exact h5 p hp
theorem rM_t {i : Nat} (h : rM Q A i S) {q : Nat} (v : Int32) : rM Q (rb_u A 1 (16 + q) v) i (rb_u S 33 q v) := by
  obtain ⟨h1, h2, h3, h4, h5, h6, h7, hw⟩ := h
  refine ⟨fun g g0 g1 g2 g3 g4 g5 => (ru_g g3).trans (h1 g g0 g1 g2 g3 g4 g5), h2, h3, fun p hp => ?_, fun p hp => ?_, h6, h7, hw⟩
  · rw [ru_g (by decide), ru_j (by omega)]
    exact h4 p hp
  · by_cases e : p = q
    · rw [e, ru_s, ru_s]
    · rw [ru_j e, ru_j (by omega)]
      exact h5 p hp
theorem rM_m {i : Nat} (h : rM Q A i S) (q : Nat) (v : Int32) : rM Q (rb_u A 2 q v) i (rb_u S 34 q v) := by
  obtain ⟨h1, h2, h3, h4, h5, h6, h7, hw⟩ := h
  exact ⟨fun g g0 g1 g2 g3 g4 g5 => (ru_g g4).trans (h1 g g0 g1 g2 g3 g4 g5), h2, h3, h4, h5, fun p hp => ru_two (h6 p hp), h7, hw⟩
theorem rM_o {i : Nat} (h : rM Q A i S) (q : Nat) (v : Int32) : rM Q (rb_u A 3 q v) i (rb_u S 35 q v) := by
  obtain ⟨h1, h2, h3, h4, h5, h6, h7, hw⟩ := h
  exact ⟨fun g g0 g1 g2 g3 g4 g5 => (ru_g g5).trans (h1 g g0 g1 g2 g3 g4 g5), h2, h3, h4, h5, h6, fun p hp => ru_two (h7 p hp), hw⟩
/-- the reference's inputs move up -/
theorem pr_in28 {K : Int32 → rb_S → Prop} {w : Nat} (hw : w < 32) : ∀ (m i : Nat) (S : rb_S), i + m = w → S 1 2 = nI w → (∀ S' : rb_S, (∀ g : Nat, g ≠ 25 → S' g = S g) → (∀ k : Nat, k < w → (i ≤ k → S' 25 k = S 25 (k + 1)) ∧ (k < i → S' 25 k = S 25 k)) → K x S') → mo_input_p_28 K (m + 1) x (nI i) S := by
  intro m
  induction m with
  | zero =>
    intro i S hi e h
    refine ⟨fun _ => h S (fun _ _ => rfl) (fun k hk => ⟨fun q => absurd q (by omega), fun _ => rfl⟩), fun q => absurd ?_ q⟩
    rw [e, nI_leI (by omega) (by omega)]
    omega
  | succ m ih =>
    intro i S hi e h
    refine ⟨fun q => ?_, fun _ => ⟨?_, vp_in_nI (by omega) (by decide), fun S49 q49 v50 q50 => ?_⟩⟩
    · rw [e, nI_leI (by omega) (by omega)] at q
      omega
    · rw [← nI_succ]
      exact vp_in_nI (by omega) (by decide)
    · rw [← nI_succ, nI_clamp (by omega), nI_clamp (by omega)] at q49
      rw [← nI_succ] at q50
      subst q50
      refine ih (i + 1) S49 (by omega) (by subst q49; exact e) (fun S' hf hk => h S' (fun g hg => ?_) (fun k hkw => ⟨fun q => ?_, fun q => ?_⟩))
      · rw [hf g hg, q49, ru_g hg]
      · by_cases ek : k = i
        · rw [(hk k hkw).2 (by omega), q49, ek, ru_s]
        · rw [(hk k hkw).1 (by omega), q49, ru_j (by omega)]
      · rw [(hk k hkw).2 (by omega), q49, ru_j (by omega)]
theorem rM_next {K : Int32 → rb_S → Prop} {i : Nat} (h : rM Q A i S) (hK : ∀ S' : rb_S, rM Q (am_in A) i S' → K (am_inv A) S') : mo_input_p_0 K S := by
  have h' := h
  obtain ⟨h1, h2, h3, h4, h5, h6, h7, w, hw, q2, q6, hr⟩ := h
  unfold am_in am_inv at hK
  refine ⟨fun e => ?_, fun e => ?_⟩
  · have e' : ¬ A 0 6 = 0 := by rw [q6, ← q2]; exact e
    have hw0 : ¬ w = 0 := by
      intro q
      exact e (by rw [q2, q]; rfl)
    rw [if_neg e', if_neg e'] at hK
    refine ⟨vp_in_nI (n := 0) (by decide) (by decide), fun v15 q15 S23 q23 => ?_⟩
    have e15 : v15 = A 4 0 := by rw [q15]; exact hr 0 (by omega)
    have n2 : S 1 2 - 1 = nI (w - 1) := by rw [q2, show (1 : Int32) = nI 1 from rfl, pk_sub (by omega)]
    rw [n2] at q23
    rw [e15]
    refine ⟨w - 1 + 1, pr_in28 (w := w - 1) (by omega) (w - 1) 0 S23 (by omega) (by subst q23; rfl) (fun S' hf hk => hK S' ⟨fun g g0 g1 g2 g3 g4 g5 => ?_, fun j hj => ?_, ?_, ?_, ?_, ?_, ?_, w - 1, by omega, ?_, am_nsh q6 hw hw0, fun k hkw => ?_⟩)⟩
    · rw [hf g g1, q23, ru_g g0, h1 g g0 g1 g2 g3 g4 g5]
    · rw [hf 1 (by decide), q23, ru_j (by omega), h2 j hj]
    · rw [hf 1 (by decide)]
      subst q23
      exact h3
    · rw [hf 32 (by decide)]
      subst q23
      exact h4
    · rw [hf 33 (by decide)]
      subst q23
      exact h5
    · rw [hf 34 (by decide)]
      subst q23
      exact h6
    · rw [hf 35 (by decide)]
      subst q23
      exact h7
    · rw [hf 1 (by decide)]
      subst q23
      rfl
    · rw [(hk k hkw).1 (by omega), q23, ru_g (by decide)]
      exact hr (k + 1) (by omega)
  · have e' : A 0 6 = 0 := by rw [q6, ← q2]; exact e
    rw [if_pos e', if_pos e'] at hK
    exact hK S h'
end RU
