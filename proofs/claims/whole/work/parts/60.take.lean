/-! ===== the code is taken over ===== -/
section TK
variable {S Q : rb_S} {K : Int32 → rb_S → Prop} {K0 : rb_S → Prop} {n i : Nat} {x t : Int32}
theorem tk_oper {role : Int32} (h : (role = 2 ∨ role = 3) → ¬ x < 0 ∧ ¬ 16 ≤ x) (hK : K (iv_op S role x) S) : ma_operand_p_0 K role x S := by
  refine ⟨fun e => ?_, fun n2 => ⟨fun n3 => ?_, fun e => ?_⟩⟩
  · have := h (Or.inl e)
    refine ⟨pv_in16 this.1 this.2, ?_⟩
    rw [iv_opr (Or.inl e)] at hK
    exact hK
  · rw [iv_opn (fun w => w.elim n2 n3)] at hK
    exact hK
  · have := h (Or.inr e)
    refine ⟨pv_in16 this.1 this.2, ?_⟩
    rw [iv_opr (Or.inr e)] at hK
    exact hK
theorem iv_Mof {S' : rb_S} {i : Nat} (h6 : S' 6 = S 6) (h7 : S' 7 = S 7) (h8 : S' 8 = S 8) (h9 : S' 9 = S 9) (h14 : S' 14 = S 14) (h16 : S' 16 i = S 16 i) (h17 : S' 17 i = S 17 i) (h18 : S' 18 i = S 18 i) (h19 : S' 19 i = S 19 i) (h : iv_M S i) : iv_M S' i := by
  unfold iv_M iv_op at h ⊢
  rw [h6, h7, h8, h9, h14, h16, h17, h18, h19]
  exact h
theorem tk_10 (hn : n ≤ 64) (hP : iv_P Q n) (e7 : Q 0 7 = nI n) (hK : ∀ S' : rb_S, (∀ g : Nat, (g < 16 ∨ 19 < g) → S' g = Q g) → (∀ i : Nat, i < n → iv_M S' i) → K0 S') : ∀ (m i : Nat) (S : rb_S), i + m = n → (∀ g : Nat, (g < 16 ∨ 19 < g) → S g = Q g) → (∀ i' : Nat, i' < i → iv_M S i') → ma_take_p_10 K0 (m + 1) (nI i) S := by
  intro m
  induction m with
  | zero =>
    intro i S hi hS hM
    have : i = n := by omega
    subst this
    refine ⟨fun _ => hK S hS hM, fun q => absurd ?_ q⟩
    rw [hS 0 (by decide), e7, nI_leI (by omega) (by omega)]
    exact Nat.le_refl _
  | succ m ih =>
    intro i S hi hS hM
    have ok := (hP i (by omega)).1
    have hin : vp_in (nI i) 64 := vp_in_nI (by omega) (by decide)
    have ht : vp_in (S 6 i) 12 := by rw [hS 6 (by decide)]; exact pv_in12 ok.1 ok.2.1
    have o1 : (rb_rx (S 6 i).toNatClampNeg = 2 ∨ rb_rx (S 6 i).toNatClampNeg = 3) → ¬ S 7 i < 0 ∧ ¬ 16 ≤ S 7 i := by
      rw [hS 6 (by decide), hS 7 (by decide)]
      exact fun w => pv_fitv w ok.2.2.1
    have o2 : (rb_ry (S 6 i).toNatClampNeg = 2 ∨ rb_ry (S 6 i).toNatClampNeg = 3) → ¬ S 8 i < 0 ∧ ¬ 16 ≤ S 8 i := by
      rw [hS 6 (by decide), hS 8 (by decide)]
      exact fun w => pv_fitv w ok.2.2.2.1
    have o3 : (rb_rz (S 6 i).toNatClampNeg = 2 ∨ rb_rz (S 6 i).toNatClampNeg = 3) → ¬ S 9 i < 0 ∧ ¬ 16 ≤ S 9 i := by
      rw [hS 6 (by decide), hS 9 (by decide)]
      exact fun w => pv_fitv w ok.2.2.2.2
    refine ⟨fun q => ?_, fun _ => ?_⟩
    · rw [hS 0 (by decide), e7, nI_leI (by omega) (by omega)] at q
      omega
    · rw [nI_clamp (by omega)]
      refine ⟨hin, fun v24 q24 => ?_⟩
      subst q24
      refine ⟨ht, hin, tk_oper o1 ⟨hin, fun S47 q47 => ⟨ht, hin, ?_⟩⟩⟩
      have a8 : S47 8 = S 8 := by rw [q47, ru_g (by decide)]
      have a9 : S47 9 = S 9 := by rw [q47, ru_g (by decide)]
      have a14 : S47 14 = S 14 := by rw [q47, ru_g (by decide)]
      refine tk_oper (by rw [a8]; exact o2) ⟨hin, fun S69 q69 => ⟨ht, hin, ?_⟩⟩
      have b9 : S69 9 = S 9 := by rw [q69, ru_g (by decide), a9]
      have b14 : S69 14 = S 14 := by rw [q69, ru_g (by decide), a14]
      refine tk_oper (by rw [b9]; exact o3) ⟨hin, fun S91 q91 => ?_⟩
      have p2 : iv_op S47 (rb_ry (S 6 i).toNatClampNeg) (S47 8 i) = iv_op S (rb_ry (S 6 i).toNatClampNeg) (S 8 i) := by
        unfold iv_op
        rw [a8, a14]
      have p3 : iv_op S69 (rb_rz (S 6 i).toNatClampNeg) (S69 9 i) = iv_op S (rb_rz (S 6 i).toNatClampNeg) (S 9 i) := by
        unfold iv_op
        rw [b9, b14]
      rw [p2] at q69
      rw [p3] at q91
      have c17 : S91 17 i = iv_op S (rb_rx (S 6 i).toNatClampNeg) (S 7 i) := by rw [q91, ru_g (by decide), q69, ru_g (by decide), q47, ru_s]
      have c18 : S91 18 i = iv_op S (rb_ry (S 6 i).toNatClampNeg) (S 8 i) := by rw [q91, ru_g (by decide), q69, ru_s]
      have c19 : S91 19 i = iv_op S (rb_rz (S 6 i).toNatClampNeg) (S 9 i) := by rw [q91, ru_s]
      have cg : ∀ g : Nat, (g < 17 ∨ 19 < g) → S91 g = S g := by
        intro g hg
        rw [q91, ru_g (by omega), q69, ru_g (by omega), q47, ru_g (by omega)]
      have cj : ∀ g j : Nat, j ≠ i → S91 g j = S g j := by
        intro g j hj
        have e1 : S91 g j = S69 g j := by
          rw [q91]
          by_cases w : g = 19
          · rw [w, ru_j hj]
          · rw [ru_g w]
        have e2 : S69 g j = S47 g j := by
          rw [q69]
          by_cases w : g = 18
          · rw [w, ru_j hj]
          · rw [ru_g w]
        have e3 : S47 g j = S g j := by
          rw [q47]
          by_cases w : g = 17
          · rw [w, ru_j hj]
          · rw [ru_g w]
        rw [e1, e2, e3]
      have go : ∀ (x5 y0 : Int32), y0 = (if S 6 i = 4 ∧ S91 17 i = S91 18 i ∧ S91 17 i < 16 then 12 else S 6 i) → ma_take_p_148 K0 (fun a0 T => ma_take_p_10 K0 (m + 1) a0 T) (nI i) (S 6 i) x5 y0 (nI i) S91 := by
        intro x5 y0 hy
        refine ⟨hin, fun S148 q148 v149 q149 => ?_⟩
        rw [← nI_succ] at q149
        subst q149
        rw [nI_clamp (by omega)] at q148
        have dg : ∀ g : Nat, g ≠ 16 → S148 g = S91 g := by
          intro g hg
          rw [q148, ru_g hg]
        refine ih (i + 1) S148 (by omega) (fun g hg => ?_) (fun i' hi' => ?_)
        · rw [dg g (by omega), cg g (by omega), hS g hg]
        · by_cases c : i' = i
          · subst c
            unfold iv_M iv_op
            rw [dg 17 (by decide), dg 18 (by decide), dg 19 (by decide), dg 6 (by decide), dg 7 (by decide), dg 8 (by decide), dg 9 (by decide), dg 14 (by decide), cg 6 (by decide), cg 7 (by decide), cg 8 (by decide), cg 9 (by decide), cg 14 (by decide)]
            refine ⟨c17, c18, c19, ?_⟩
            rw [q148, ru_s, hy]
          · refine iv_Mof ?_ ?_ ?_ ?_ ?_ ?_ ?_ ?_ ?_ (hM i' (by omega))
            · rw [dg 6 (by decide), cg 6 (by decide)]
            · rw [dg 7 (by decide), cg 7 (by decide)]
            · rw [dg 8 (by decide), cg 8 (by decide)]
            · rw [dg 9 (by decide), cg 9 (by decide)]
            · rw [dg 14 (by decide), cg 14 (by decide)]
            · rw [q148, ru_j c, cj 16 i' c]
            · rw [dg 17 (by decide), cj 17 i' c]
            · rw [dg 18 (by decide), cj 18 i' c]
            · rw [dg 19 (by decide), cj 19 i' c]
      have stay : ¬ (S 6 i = 4 ∧ S91 17 i = S91 18 i ∧ S91 17 i < 16) → ma_take_p_128 K0 (fun a0 T => ma_take_p_10 K0 (m + 1) a0 T) (nI i) (S 6 i) S91 := fun w => ⟨fun _ => go _ _ (by rw [if_neg w]), fun q => absurd rfl q⟩
      refine ⟨fun w => stay (fun q => w q.1), fun e => ⟨hin, hin, fun w => stay (fun q => w q.2.1), fun w => ⟨hin, fun w2 => stay (fun q => ?_), fun w2 => ⟨fun q => absurd q (by decide), fun _ => go _ _ ?_⟩⟩⟩⟩
      · have := q.2.2
        rw [Int32.lt_iff_toInt_lt] at this
        rw [Int32.le_iff_toInt_le] at w2
        omega
      · rw [if_pos ⟨e, w, pv_nle.mp w2⟩]
theorem tk_take (hn : n ≤ 64) (e1 : S 0 1 = nI n) (hP : iv_P S n) (hK : ∀ S' : rb_S, (∀ g : Nat, g ≠ 0 → (g < 16 ∨ 19 < g) → S' g = S g) → (∀ j : Nat, j ≠ 7 → S' 0 j = S 0 j) → S' 0 7 = nI n → (∀ i : Nat, i < n → iv_M S' i) → K0 S') : ma_take_p_0 K0 S := by
  intro S5 q5
  rw [e1] at q5
  refine ⟨n + 1, tk_10 (Q := S5) hn (by subst q5; exact hP) (by subst q5; rfl) (fun S' h1 h2 => hK S' (fun g g0 hg => ?_) (fun j hj => ?_) ?_ h2) n 0 S5 (by omega) (fun _ _ => rfl) (fun i' hi' => absurd hi' (by omega))⟩
  · rw [h1 g hg, q5, ru_g g0]
  · rw [h1 0 (by decide), q5, ru_j hj]
  · rw [h1 0 (by decide), q5, ru_s]
/-- spans, and what has one -/
theorem sfl (T : Nat → Bool) : ∀ m : Nat, (sf T m = -1 ∧ sl T m = -1) ∨ ∃ a b : Nat, a ≤ b ∧ b < m ∧ sf T m = nI a ∧ sl T m = nI b
  | 0 => Or.inl ⟨rfl, rfl⟩
  | m + 1 => by
    have e1 : sf T (m + 1) = if T m = true then (if sf T m = -1 then nI m else sf T m) else sf T m := rfl
    have e2 : sl T (m + 1) = if T m = true then nI m else sl T m := rfl
    rw [e1, e2]
    by_cases c : T m = true
    · rw [if_pos c, if_pos c]
      right
      rcases sfl T m with ⟨h1, h2⟩ | ⟨a, b, hab, hb, h1, h2⟩
      · rw [if_pos h1]
        exact ⟨m, m, Nat.le_refl _, by omega, rfl, rfl⟩
      · by_cases d : sf T m = -1
        · rw [if_pos d]
          exact ⟨m, m, Nat.le_refl _, by omega, rfl, rfl⟩
        · rw [if_neg d]
          exact ⟨a, m, by omega, by omega, h1, rfl⟩
    · rw [if_neg c, if_neg c]
      rcases sfl T m with h | ⟨a, b, hab, hb, h1, h2⟩
      · exact Or.inl h
      · exact Or.inr ⟨a, b, hab, by omega, h1, h2⟩
theorem sf_ex (T : Nat → Bool) {p : Nat} (hp : T p = true) : ∀ m : Nat, m < 2 ^ 30 → p < m → ¬ sf T m = -1
  | 0, _, h => absurd h (by omega)
  | m + 1, hm, h => by
    have e1 : sf T (m + 1) = if T m = true then (if sf T m = -1 then nI m else sf T m) else sf T m := rfl
    rw [e1]
    by_cases c : p = m
    · rw [← c, if_pos hp]
      by_cases d : sf T p = -1
      · rw [if_pos d]
        exact nI_m1 (by omega)
      · rw [if_neg d]
        exact d
    · have ih := sf_ex T hp m (by omega) (by omega)
      by_cases d : T m = true
      · rw [if_pos d, if_neg ih]
        exact ih
      · rw [if_neg d]
        exact ih
theorem al_plc {r : Nat} (hr : r ≤ 8) {y : Int32} (h : al_ok r y) : y = -1 ∨ iv_pl y := by
  rcases h with h | ⟨k, hk, e⟩ | ⟨k, hk, e⟩
  · exact Or.inl h
  · exact Or.inr ⟨k, e, Or.inl (by omega)⟩
  · exact Or.inr ⟨16 + k, e, Or.inr (by omega)⟩
/-- both runs begun anew, seen from the end -/
theorem iv_Rb2 {S3 S4 U V : rb_S} {n c : Nat} (h1 : pf_bC S3 S4) (h3 : pf_bM U V) (e0 : ∀ j : Nat, 8 ≤ j → V 0 j = S4 0 j) (e20 : V 20 = S4 20) (e21 : V 21 = S4 21) : iv_R V n c := by
  obtain ⟨a1, a2, a3, a4, a5, a6, a7, a8, a9, a10⟩ := h1
  obtain ⟨b1, b2, b3, b4, b5, b6, b7, b8, b9, b10, b11⟩ := h3
  refine ⟨fun p hp => ?_, fun p hp => ?_, fun k hk => ?_, ⟨0, by omega, ?_, b6⟩, ⟨?_, ?_, ?_, ?_⟩, 0, by omega, ?_, b11⟩
  · rw [e20, a3 p (by omega), b3 p hp]
  · rw [e20, a3 (16 + p) (by omega), b4 p hp]
  · rw [e21, a4 k hk, b5 k hk]
  · rw [e0 8 (by decide), a5]; rfl
  · rw [e0 9 (by decide), a6, b7]
  · rw [e0 10 (by decide), a7, b8]
  · rw [e0 11 (by decide), a8, b9]
  · rw [e0 12 (by decide), a9, b10]
  · rw [e0 13 (by decide), a10]; rfl
end TK
