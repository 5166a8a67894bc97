/-! ===== what lives, in the class ===== -/
section PB
variable {S A Q S0 : rb_S} {x y z t : Int32} {K : Int32 → rb_S → Prop} {K0 : rb_S → Prop} {i n : Nat}
theorem lm_any_c {f g : Nat → Bool} (h : ∀ j : Nat, j < n → f j = g j) : lm_any n f = lm_any n g := by
  rw [Bool.eq_iff_iff, lm_any_iff, lm_any_iff]
  constructor
  · rintro ⟨j, hj, e⟩
    exact ⟨j, hj, by rw [← h j hj]; exact e⟩
  · rintro ⟨j, hj, e⟩
    exact ⟨j, hj, by rw [h j hj]; exact e⟩
theorem ps_ahead {j : Nat} (hn : n ≤ 64) (e4 : S 0 4 = nI (2 * n)) (hj : j ≤ n) (h : K (if j < n then S 11 (2 * j) else 0) S) : sp_livingAhead_p_0 K (nI j) S := by
  have e2 : (2 * nI j : Int32) = nI (2 * j) := by rw [show (2 : Int32) = nI 2 from rfl, pk_mul]
  unfold sp_livingAhead_p_0
  rw [e2, e4, nI_leI (by omega) (by omega), nI_clamp (by omega)]
  refine ⟨fun q => ?_, fun _ => ⟨fun q => ?_, fun q => ⟨vp_in_nI (by omega) (by decide), ?_⟩⟩⟩
  · rw [show (0 : Int32) = nI 0 from rfl, nI_ltI (by omega) (by omega)] at q
    omega
  · rw [if_neg (by omega)] at h
    exact h
  · rw [if_pos (by omega)] at h
    exact h
theorem ps_ahead1 (h : K 0 S) : sp_livingAhead_p_0 K (-1) S := ⟨fun _ => h, fun q => absurd (by decide) q⟩
theorem ps_behind (hn : n ≤ 64) (e4 : S 0 4 = nI (2 * n)) (hi : i < n) (hP : iv_P S n) (hin : pt_in S n n) (h : ∀ b : Int32, (∀ v : Nat, v < 16 → zb b v = lm_any n (fun j => pt_sc S i j && zb (S 11 (2 * j)) v)) → K b S) : sp_livingBehind_p_0 K (nI i) S := by
  have ok := (hP i hi).1
  have hv64 : vp_in (nI i) 64 := vp_in_nI (by omega) (by decide)
  have go : ∀ y0 : Int32, y0 = (if ¬ S 6 i = 9 ∧ i + 1 < n then S 11 (2 * (i + 1)) else 0) → sp_livingBehind_p_19 K (nI i) y0 S := by
    intro y0 hy
    refine pt_target (by omega) (pv_in12 ok.1 ok.2.1) ?_
    have fin : ∀ r : Int32, (∀ v : Nat, v < 16 → (zb r v = true ↔ ∃ j : Nat, j < n ∧ pt_tg S i = nI j ∧ zb (S 11 (2 * j)) v = true)) → K (y0 ||| r) S := by
      intro r hr
      refine h _ (fun v hv => ?_)
      rw [Bool.eq_iff_iff, zb_or, Bool.or_eq_true, hr v hv, lm_any_iff, hy]
      constructor
      · rintro (q | ⟨j, hj, q1, q2⟩)
        · by_cases c : ¬ S 6 i = 9 ∧ i + 1 < n
          · rw [if_pos c] at q
            refine ⟨i + 1, c.2, ?_⟩
            rw [Bool.and_eq_true]
            exact ⟨decide_eq_true (Or.inl ⟨c.1, rfl⟩), q⟩
          · rw [if_neg c, zb_0] at q
            exact absurd q (by decide)
        · refine ⟨j, hj, ?_⟩
          rw [Bool.and_eq_true]
          exact ⟨decide_eq_true (Or.inr q1), q2⟩
      · rintro ⟨j, hj, q⟩
        rw [Bool.and_eq_true] at q
        rcases of_decide_eq_true q.1 with ⟨c1, c2⟩ | c
        · left
          rw [if_pos ⟨c1, by omega⟩, ← c2]
          exact q.2
        · exact Or.inr ⟨j, hj, c, q.2⟩
    rcases pt_tgj hn hi ok hin with e | ⟨j, hj, e⟩
    · rw [e]
      refine ps_ahead1 (fin 0 (fun v hv => ?_))
      rw [zb_0]
      constructor
      · intro q
        exact absurd q (by decide)
      · rintro ⟨j, hj, q, -⟩
        rw [e] at q
        have : (nI j).toInt = j := nI_toInt (by omega)
        rw [← q] at this
        have h1 : (-1 : Int32).toInt = -1 := rfl
        omega
    · rw [e]
      refine ps_ahead hn e4 hj (fin _ (fun v hv => ?_))
      constructor
      · intro q
        by_cases c : j < n
        · rw [if_pos c] at q
          exact ⟨j, c, e, q⟩
        · rw [if_neg c, zb_0] at q
          exact absurd q (by decide)
      · rintro ⟨j', hj', q, q2⟩
        rw [e, nI_eq (by omega) (by omega)] at q
        rw [q, if_pos hj']
        exact q2
  unfold sp_livingBehind_p_0 pg_goesOn_p_0
  rw [nI_clamp (by omega)]
  refine ⟨hv64, fun e => ⟨pv_n0, fun _ => go 0 ?_, fun q => absurd rfl q⟩, fun e => ⟨pv_n1, fun q => absurd q (by decide), fun _ => ?_⟩⟩
  · rw [if_neg (fun q => q.1 e)]
  · rw [← nI_succ]
    refine ps_ahead hn e4 (by omega) (go _ ?_)
    by_cases c : i + 1 < n
    · rw [if_pos c, if_pos ⟨e, c⟩]
    · rw [if_neg c, if_neg (fun q => c q.2)]
/-- a pass back, from S0: what the instructions from m on have got -/
def ps_R (Q S0 S : rb_S) (n m : Nat) : Prop := (∀ g : Nat, g ≠ 11 → S g = Q g) ∧ (∀ j : Nat, j < m → S 11 (2 * j) = S0 11 (2 * j)) ∧ ∀ i : Nat, m ≤ i → i < n → ∀ v : Nat, v < 16 → zb (S 11 (2 * i + 1)) v = lm_any n (fun j => pt_sc Q i j && zb (if i < j then S 11 (2 * j) else S0 11 (2 * j)) v) ∧ zb (S 11 (2 * i)) v = (pt_rd Q v i || (!pt_st Q v i && zb (S 11 (2 * i + 1)) v))
theorem pt_scQ (h : ∀ g : Nat, g ≠ 11 → S g = Q g) : pt_sc S = pt_sc Q ∧ pt_rd S = pt_rd Q ∧ pt_st S = pt_st Q ∧ pt_tg S = pt_tg Q := by
  refine ⟨?_, ?_, ?_, ?_⟩
  · funext i j
    unfold pt_sc pt_tg
    rw [h 6 (by decide), h 7 (by decide), h 9 (by decide)]
  · funext v i
    unfold pt_rd
    rw [h 6 (by decide), h 7 (by decide), h 8 (by decide), h 9 (by decide)]
  · funext v i
    unfold pt_st
    rw [h 6 (by decide), h 7 (by decide)]
  · funext i
    unfold pt_tg
    rw [h 6 (by decide), h 7 (by decide), h 9 (by decide)]
theorem ps_pass9 (hn : n ≤ 64) (e4 : Q 0 4 = nI (2 * n)) (hP : iv_P Q n) (hin : pt_in Q n n) (hK : ∀ (r : Int32) (S' : rb_S), ps_R Q S0 S' n 0 → (r = 0 ∧ (∀ i : Nat, i < n → S' 11 (2 * i) = S0 11 (2 * i)) ∨ r = 1) → K r S') : ∀ (m : Nat) (x2 : Int32) (S : rb_S), m ≤ n → ps_R Q S0 S n m → (x2 = 0 ∧ (∀ i : Nat, i < n → S 11 (2 * i) = S0 11 (2 * i)) ∨ x2 = 1) → sp_passBack_p_9 K (m + 1) x2 (nI m - 1) S := by
  intro m
  induction m with
  | zero =>
    intro x2 S hm r f
    refine ⟨fun _ => ⟨?_, hK _ _ r f⟩, fun q => absurd (by decide) q⟩
    rcases f with ⟨e, _⟩ | e
    · exact pv_nar01 (Or.inl e)
    · exact pv_nar01 (Or.inr e)
  | succ k ih =>
    intro x2 S hm r f
    have ek : (nI (k + 1) - 1 : Int32) = nI k := by rw [show (1 : Int32) = nI 1 from rfl, pk_sub (by omega)]; rfl
    rw [ek]
    have eQ := pt_scQ r.1
    have hP' : iv_P S n := iv_Pof (r.1 6 (by decide)) (r.1 7 (by decide)) (r.1 8 (by decide)) (r.1 9 (by decide)) (r.1 24 (by decide)) hP
    have hin' : pt_in S n n := by
      unfold pt_in
      rw [eQ.2.2.2]
      exact hin
    have ok := (hP' k (by omega)).1
    have e2 : (2 * nI k : Int32) = nI (2 * k) := by rw [show (2 : Int32) = nI 2 from rfl, pk_mul]
    refine ⟨fun q => ?_, fun _ => ps_behind hn (by rw [r.1 0 (by decide)]; exact e4) (by omega) hP' hin' (fun b hb => pt_read (by omega) ok (fun c hc => pt_set (by omega) ok (fun d hd v37 q37 => ?_)))⟩
    · rw [show (0 : Int32) = nI 0 from rfl, nI_ltI (by omega) (by omega)] at q
      omega
    · have go : ∀ y0 : Int32, (y0 = 0 ∧ x2 = 0 ∧ S 11 (2 * k) = v37 ∨ y0 = 1) → sp_passBack_p_61 K (fun a0 a1 T => sp_passBack_p_9 K (k + 1) a0 a1 T) x2 (nI k) b v37 y0 S := by
        intro y0 hy
        unfold sp_passBack_p_61
        rw [e2, ← nI_succ, nI_clamp (by omega), nI_clamp (by omega)]
        refine ⟨vp_in_nI (by omega) (by decide), fun S71 q71 => ⟨vp_in_nI (by omega) (by decide), fun S83 q83 v84 q84 => ?_⟩⟩
        have : v84 = nI k - 1 := by rw [q84, Int32.sub_eq_add_neg]
        rw [this]
        have w0 : S83 11 (2 * k) = v37 := by rw [q83, ru_j (by omega), q71, ru_s]
        have w1 : S83 11 (2 * k + 1) = b := by rw [q83, ru_s]
        have w2 : ∀ j : Nat, j ≠ 2 * k → j ≠ 2 * k + 1 → S83 11 j = S 11 j := by
          intro j h1 h2
          rw [q83, ru_j h2, q71, ru_j h1]
        have w3 : ∀ g : Nat, g ≠ 11 → S83 g = Q g := by
          intro g hg
          rw [q83, ru_g hg, q71, ru_g hg, r.1 g hg]
        refine ih y0 S83 (by omega) ⟨w3, fun j hj => ?_, fun i h1 h2 v hv => ?_⟩ ?_
        · rw [w2 _ (by omega) (by omega)]
          exact r.2.1 j (by omega)
        · by_cases e : i = k
          · subst e
            rw [w0, w1, q37]
            constructor
            · rw [hb v hv, eQ.1]
              refine lm_any_c (fun j hj => ?_)
              by_cases c : i < j
              · rw [if_pos c, w2 _ (by omega) (by omega)]
              · rw [if_neg c, r.2.1 j (by omega)]
            · rw [zb_or, zb_and, zb_not _ hv, hc v hv, hd v hv, eQ.2.1, eQ.2.2.1, Bool.and_comm]
          · rw [w2 (2 * i) (by omega) (by omega), w2 (2 * i + 1) (by omega) (by omega)]
            have := r.2.2 i (by omega) h2 v hv
            refine ⟨?_, this.2⟩
            rw [this.1]
            refine lm_any_c (fun j hj => ?_)
            by_cases c : i < j
            · rw [if_pos c, if_pos c, w2 _ (by omega) (by omega)]
            · rw [if_neg c, if_neg c]
        · rcases hy with ⟨h1, h2, h3⟩ | h1
          · left
            refine ⟨h1, fun i hi => ?_⟩
            rcases f with ⟨_, f⟩ | f
            · by_cases e : i = k
              · rw [e, w0, ← h3, f k (by omega)]
              · rw [w2 _ (by omega) (by omega), f i hi]
            · rw [h2] at f
              exact absurd f (by decide)
          · exact Or.inr h1
      refine ⟨fun _ => go 1 (Or.inr rfl), fun q => ?_⟩
      rw [e2, nI_clamp (by omega)]
      exact ⟨vp_in_nI (by omega) (by decide), fun w => go 0 (Or.inl ⟨rfl, q, w⟩), fun _ => go 1 (Or.inr rfl)⟩
theorem ps_pass (hn : n ≤ 64) (e1 : Q 0 1 = nI n) (e4 : Q 0 4 = nI (2 * n)) (hP : iv_P Q n) (hin : pt_in Q n n) (hS : ∀ g : Nat, g ≠ 11 → S g = Q g) (hK : ∀ (r : Int32) (S' : rb_S), ps_R Q S S' n 0 → (r = 0 ∧ (∀ i : Nat, i < n → S' 11 (2 * i) = S 11 (2 * i)) ∨ r = 1) → K r S') : sp_passBack_p_0 K S := by
  intro v8 q8
  rw [hS 0 (by decide), e1] at q8
  subst q8
  exact ⟨n + 1, ps_pass9 (S0 := S) hn e4 hP hin hK n 0 S (Nat.le_refl _) ⟨hS, fun _ _ => rfl, fun i h1 h2 => absurd h1 (by omega)⟩ (Or.inl ⟨rfl, fun _ _ => rfl⟩)⟩
end PB
