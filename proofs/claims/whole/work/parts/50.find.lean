/-! ===== what lives, found ===== -/
section FD
variable {S A Q S0 : rb_S} {x y z t : Int32} {K : Int32 → rb_S → Prop} {K0 : rb_S → Prop} {i n : Nat}
def lv_A (Q : rb_S) (n v i : Nat) : Bool := lm_A n (pt_rd Q v) (pt_st Q v) (pt_sc Q) i
def lv_B (Q : rb_S) (n v i : Nat) : Bool := lm_B n (pt_rd Q v) (pt_st Q v) (pt_sc Q) i
def lv_D (Q : rb_S) (n v k i : Nat) : Bool := lm_D n (pt_rd Q v) (pt_st Q v) (pt_sc Q) k i
/-- nothing too much -/
def ps_so (Q S : rb_S) (n : Nat) : Prop := ∀ v i : Nat, v < 16 → i < n → zb (S 11 (2 * i)) v = true → lv_A Q n v i = true
/-- what k passes have brought -/
def ps_pr (Q S : rb_S) (n k : Nat) : Prop := ∀ v i : Nat, v < 16 → i < n → lv_D Q n v k i = true → zb (S 11 (2 * i)) v = true
/-- found -/
def ps_fi (Q S : rb_S) (n : Nat) : Prop := ∀ v i : Nat, v < 16 → i < n → zb (S 11 (2 * i)) v = lv_A Q n v i ∧ zb (S 11 (2 * i + 1)) v = lv_B Q n v i
theorem ps_so1 (h : ps_R Q S0 S n 0) (h0 : ps_so Q S0 n) : ps_so Q S n := by
  intro v i0 hv hi0
  have key : ∀ m i : Nat, i + m = n → i < n → zb (S 11 (2 * i)) v = true → lv_A Q n v i = true := by
    intro m
    induction m using Nat.strongRecOn with
    | _ m ih =>
      intro i hm hi e
      have := h.2.2 i (by omega) hi v hv
      rw [this.2, this.1] at e
      unfold lv_A
      rw [lm_A_eq n _ _ _ i hi]
      unfold lm_F
      rw [Bool.or_eq_true, Bool.and_eq_true, lm_any_iff] at e ⊢
      rcases e with e | ⟨e1, j, hj, e2⟩
      · exact Or.inl e
      · refine Or.inr ⟨e1, j, hj, ?_⟩
        rw [Bool.and_eq_true] at e2 ⊢
        refine ⟨e2.1, ?_⟩
        by_cases c : i < j
        · rw [if_pos c] at e2
          exact ih (n - j) (by omega) j (by omega) hj e2.2
        · rw [if_neg c] at e2
          exact h0 v j hv hj e2.2
  exact key (n - i0) i0 (by omega) hi0
theorem ps_pr1 {k : Nat} (h : ps_R Q S0 S n 0) (h0 : ps_pr Q S0 n k) : ps_pr Q S n (k + 1) := by
  intro v i0 hv hi0
  have key : ∀ m i : Nat, i + m = n → i < n → lv_D Q n v (k + 1) i = true → zb (S 11 (2 * i)) v = true := by
    intro m
    induction m using Nat.strongRecOn with
    | _ m ih =>
      intro i hm hi e
      have := h.2.2 i (by omega) hi v hv
      rw [this.2, this.1]
      unfold lv_D at e
      rw [lm_D_succ] at e
      unfold lm_F at e
      rw [Bool.or_eq_true, Bool.and_eq_true, lm_any_iff] at e ⊢
      rcases e with e | ⟨e1, j, hj, e2⟩
      · exact Or.inl e
      · refine Or.inr ⟨e1, j, hj, ?_⟩
        rw [Bool.and_eq_true] at e2 ⊢
        refine ⟨e2.1, ?_⟩
        by_cases c : i < j
        · rw [if_pos c]
          exact ih (n - j) (by omega) j (by omega) hj (lm_D_mono1 n _ _ _ k j e2.2)
        · rw [if_neg c]
          exact h0 v j hv hj e2.2
  exact key (n - i0) i0 (by omega) hi0
theorem ps_fi1 (h : ps_R Q S0 S n 0) (h0 : ps_so Q S0 n) (he : ∀ v i : Nat, v < 16 → i < n → zb (S 11 (2 * i)) v = zb (S0 11 (2 * i)) v) : ps_fi Q S n := by
  intro v i hv hi
  have h1 := ps_so1 h h0
  have mix : ∀ i : Nat, i < n → zb (S 11 (2 * i + 1)) v = lm_any n (fun j => pt_sc Q i j && zb (S 11 (2 * j)) v) := by
    intro i hi
    rw [(h.2.2 i (by omega) hi v hv).1]
    refine lm_any_c (fun j hj => ?_)
    by_cases c : i < j
    · rw [if_pos c]
    · rw [if_neg c, he v j hv hj]
  have ea : ∀ i : Nat, i < n → zb (S 11 (2 * i)) v = lv_A Q n v i := by
    intro i hi
    rw [Bool.eq_iff_iff]
    refine ⟨h1 v i hv hi, fun q => ?_⟩
    refine lm_A_least n (pt_rd Q v) (pt_st Q v) (pt_sc Q) (a := fun i => zb (S 11 (2 * i)) v) (fun j hj q => ?_) i hi q
    show zb (S 11 (2 * j)) v = true
    rw [(h.2.2 j (by omega) hj v hv).2, mix j hj]
    exact q
  refine ⟨ea i hi, ?_⟩
  rw [mix i hi]
  unfold lv_B lm_B
  refine lm_any_c (fun j hj => ?_)
  rw [ea j hj]
  rfl
theorem ps_find22 (hn : n ≤ 64) (e1 : Q 0 1 = nI n) (e4 : Q 0 4 = nI (2 * n)) (hP : iv_P Q n) (hin : pt_in Q n n) (hK : ∀ S' : rb_S, (∀ g : Nat, g ≠ 11 → S' g = Q g) → ps_fi Q S' n → ∀ x2 x3 : Int32, sp_find_p_46 K0 x2 x3 S') : ∀ (m k : Nat) (x2 : Int32) (S : rb_S), k + m = n + 1 → (∀ g : Nat, g ≠ 11 → S g = Q g) → ps_so Q S n → ps_pr Q S n k → (x2 = 0 → ps_fi Q S n) → (k = n + 1 → ps_fi Q S n) → sp_find_p_22 K0 (m + 1) x2 (nI k) S := by
  intro m
  induction m with
  | zero =>
    intro k x2 S hk hS so pr f0 fk
    refine ⟨fun _ => hK S hS (fk (by omega)) _ _, fun q => absurd ?_ q⟩
    rw [hS 0 (by decide), e1, nI_ltI (by omega) (by omega)]
    omega
  | succ m ih =>
    intro k x2 S hk hS so pr f0 fk
    refine ⟨fun q => ?_, fun _ => ⟨fun q => hK S hS (f0 q) _ _, fun _ => ps_pass hn e1 e4 hP hin hS (fun r S' hR hr v40 q40 => ?_)⟩⟩
    · rw [hS 0 (by decide), e1, nI_ltI (by omega) (by omega)] at q
      omega
    · rw [← nI_succ] at q40
      subst q40
      have so' := ps_so1 hR so
      have pr' := ps_pr1 hR pr
      refine ih (k + 1) r S' (by omega) hR.1 so' pr' (fun q => ?_) (fun q => ?_)
      · rcases hr with ⟨_, hr⟩ | hr
        · exact ps_fi1 hR so (fun v i hv hi => by rw [hr i hi])
        · rw [q] at hr
          exact absurd hr (by decide)
      · have hkn : k = n := by omega
        subst hkn
        refine ps_fi1 hR so (fun v i hv hi => ?_)
        rw [Bool.eq_iff_iff]
        constructor
        · intro q
          exact pr v i hv hi (so' v i hv hi q)
        · intro q
          exact pr' v i hv hi (lm_D_mono1 _ _ _ _ _ i (so v i hv hi q))
end FD
