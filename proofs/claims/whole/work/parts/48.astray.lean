/-! ===== does it lead astray ===== -/
section AS
variable {S A Q : rb_S} {x y z t : Int32} {K : Int32 → rb_S → Prop} {K0 : rb_S → Prop} {i n : Nat}
def pt_in (S : rb_S) (n k : Nat) : Prop := ∀ i : Nat, i < k → pt_tg S i ≤ nI n
theorem pt_in1 {k : Nat} (h : pt_in S n k) (h2 : pt_tg S k ≤ nI n) : pt_in S n (k + 1) := by
  intro i hi
  by_cases e : i = k
  · rw [e]; exact h2
  · exact h i (by omega)
theorem pt_astray2 (hn : n ≤ 64) (e1 : S 0 1 = nI n) (hP : iv_P S n) (h0 : pt_in S n n → K 0 S) (h1 : ¬ pt_in S n n → K 1 S) : ∀ m i : Nat, i + m = n → pt_in S n i → pg_leadsAstray_p_2 K (m + 1) (nI i) S := by
  intro m
  induction m with
  | zero =>
    intro i hi h
    have : i = n := by omega
    subst this
    refine ⟨fun _ => ⟨pv_n0, h0 h⟩, fun q => absurd ?_ q⟩
    rw [e1, nI_leI (by omega) (by omega)]
    exact Nat.le_refl _
  | succ m ih =>
    intro i hi h
    have ok := (hP i (by omega)).1
    refine ⟨fun q => ?_, fun _ => pt_target (by omega) (pv_in12 ok.1 ok.2.1) ⟨fun q v24 q24 => ?_, fun q => ⟨pv_n1, h1 (fun w => q ?_)⟩⟩⟩
    · rw [e1, nI_leI (by omega) (by omega)] at q
      omega
    · rw [← nI_succ] at q24
      subst q24
      rw [e1] at q
      exact ih (i + 1) (by omega) (pt_in1 h q)
    · rw [e1]
      exact w i (by omega)
theorem pt_astray (hn : n ≤ 64) (e1 : S 0 1 = nI n) (hP : iv_P S n) (h0 : pt_in S n n → K 0 S) (h1 : ¬ pt_in S n n → K 1 S) : pg_leadsAstray_p_0 K S :=
  ⟨n + 1, pt_astray2 hn e1 hP h0 h1 n 0 (by omega) (fun i hi => absurd hi (by omega))⟩
/-- the target, by the sort -/
theorem pt_tgs (ok : pv_ok (S 6 i) (S 7 i) (S 8 i) (S 9 i)) : (S 6 i = 9 → pt_tg S i = S 7 i) ∧ ((S 6 i = 10 ∨ S 6 i = 11) → pt_tg S i = S 9 i) ∧ (¬ S 6 i = 9 → ¬ S 6 i = 10 → ¬ S 6 i = 11 → pt_tg S i = -1) := by
  unfold pt_tg
  refine ⟨fun e => by rw [e]; rfl, fun e => ?_, fun n1 n2 n3 => ?_⟩
  · rcases e with e | e
    · rw [e]; rfl
    · rw [e]; rfl
  · rcases pv_sort (S 6 i) with q | q
    · rcases pv_out q with q | q
      · exact absurd q ok.1
      · exact absurd q ok.2.1
    · rcases q with e | e | e | e | e | e | e | e | e | e | e | e
      · rw [e]; rfl
      · rw [e]; rfl
      · rw [e]; rfl
      · rw [e]; rfl
      · rw [e]; rfl
      · rw [e]; rfl
      · rw [e]; rfl
      · rw [e]; rfl
      · rw [e]; rfl
      · exact absurd e n1
      · exact absurd e n2
      · exact absurd e n3
theorem pt_nowhere4 (hn : n ≤ 64) (e1 : S 1 1 = nI n) (hP : iv_P S n) (h0 : pt_in S n n → K 0 S) (h1 : ¬ pt_in S n n → K 1 S) : ∀ (m i : Nat) (f : Int32), i + m = n → (f = 0 ∧ pt_in S n i ∨ f = 1 ∧ ¬ pt_in S n i) → mo_goesNowhere_p_4 K (m + 1) f (nI i) S := by
  intro m
  induction m with
  | zero =>
    intro i f hi h
    have : i = n := by omega
    subst this
    refine ⟨fun _ => ?_, fun q => absurd ?_ q⟩
    · rcases h with ⟨rfl, h⟩ | ⟨rfl, h⟩
      · exact ⟨pv_n0, h0 h⟩
      · exact ⟨pv_n1, h1 h⟩
    · rw [e1, nI_leI (by omega) (by omega)]
      exact Nat.le_refl _
  | succ m ih =>
    intro i f hi h
    obtain ⟨ok, c0, c1, c2, c3⟩ := hP i (by omega)
    obtain ⟨t1, t2, t3⟩ := pt_tgs ok
    have i0 : (4 * nI i : Int32) = nI (4 * i) := by rw [show (4 : Int32) = nI 4 from rfl, pk_mul]
    have go : ∀ (x3 y : Int32), (y ≤ nI n ↔ pt_tg S i ≤ nI n) → mo_goesNowhere_p_66 K (fun a0 a1 T => mo_goesNowhere_p_4 K (m + 1) a0 a1 T) f (nI i) x3 y S := by
      intro x3 y hy
      rw [← e1] at hy
      refine ⟨fun q => ?_, fun q => ⟨fun q2 => ?_, fun q2 => ?_⟩⟩
      · intro v87 q87
        rw [← nI_succ] at q87
        subst q87
        refine ih (i + 1) 1 (by omega) (Or.inr ⟨rfl, fun w => ?_⟩)
        rcases h with ⟨e, _⟩ | ⟨_, h⟩
        · exact q e
        · exact h (fun j hj => w j (by omega))
      · intro v87 q87
        rw [← nI_succ] at q87
        subst q87
        refine ih (i + 1) 0 (by omega) (Or.inl ⟨rfl, ?_⟩)
        rcases h with ⟨_, h⟩ | ⟨e, _⟩
        · exact pt_in1 h (by rw [← e1]; exact hy.mp q2)
        · rw [q] at e
          exact absurd e (by decide)
      · intro v87 q87
        rw [← nI_succ] at q87
        subst q87
        refine ih (i + 1) 1 (by omega) (Or.inr ⟨rfl, fun w => q2 (hy.mpr ?_)⟩)
        rw [e1]
        exact w i (by omega)
    have go3 : (S 6 i = 10 ∨ S 6 i = 11) → ∀ x3 : Int32, mo_goesNowhere_p_52 K (fun a0 a1 T => mo_goesNowhere_p_4 K (m + 1) a0 a1 T) f (nI i) x3 S := by
      intro e x3
      unfold mo_goesNowhere_p_52
      rw [show (4 * nI i + 3 : Int32) = nI (4 * i + 3) by rw [i0, show (3 : Int32) = nI 3 from rfl, nI_add], nI_clamp (by omega), c3]
      exact ⟨vp_in_nI (by omega) (by decide), go _ _ (by rw [t2 e])⟩
    refine ⟨fun q => ?_, fun _ => ?_⟩
    · rw [e1, nI_leI (by omega) (by omega)] at q
      omega
    · rw [i0, nI_clamp (by omega), c0]
      refine ⟨vp_in_nI (by omega) (by decide), fun v20 q20 => ?_⟩
      subst q20
      refine ⟨fun n9 => ⟨fun e => go3 (Or.inl e) _, fun n10 => ⟨fun n11 => go _ _ ?_, fun e => go3 (Or.inr e) _⟩⟩, fun e => ?_⟩
      · rw [t3 n9 n10 n11]
        constructor
        · intro _
          rw [Int32.le_iff_toInt_le, nI_toInt (by omega)]
          have : (-1 : Int32).toInt = -1 := rfl
          omega
        · intro _
          rw [show (0 : Int32) = nI 0 from rfl, nI_leI (by omega) (by omega)]
          omega
      · rw [show (nI (4 * i) + 1 : Int32) = nI (4 * i + 1) by rw [nI_succ], nI_clamp (by omega), c1]
        exact ⟨vp_in_nI (by omega) (by decide), go _ _ (by rw [t1 e])⟩
theorem pt_nowhere (hn : n ≤ 64) (e1 : S 1 1 = nI n) (hP : iv_P S n) (h0 : pt_in S n n → K 0 S) (h1 : ¬ pt_in S n n → K 1 S) : mo_goesNowhere_p_0 K S :=
  ⟨n + 1, pt_nowhere4 hn e1 hP h0 h1 n 0 0 (by omega) (Or.inl ⟨rfl, fun i hi => absurd hi (by omega)⟩)⟩
/-- the target is none, or in the program, or its end -/
theorem pt_tgj (hn : n ≤ 64) (hi : i < n) (ok : pv_ok (S 6 i) (S 7 i) (S 8 i) (S 9 i)) (h : pt_in S n n) : pt_tg S i = -1 ∨ ∃ j : Nat, j ≤ n ∧ pt_tg S i = nI j := by
  have h' := h i hi
  obtain ⟨-, -, o1, o2, o3⟩ := ok
  have dn : ∀ x : Int32, (¬ x < 0 ∧ ¬ 64 < x) → x ≤ nI n → ∃ j : Nat, j ≤ n ∧ x = nI j := by
    intro x hx hl
    obtain ⟨j, hj, rfl⟩ := nI_of hx.1
    rw [nI_leI (by omega) (by omega)] at hl
    exact ⟨j, hl, rfl⟩
  unfold pt_tg at h' ⊢
  by_cases e : rb_rx (S 6 i).toNatClampNeg = 4
  · rw [if_pos e] at h' ⊢
    rw [e] at o1
    exact Or.inr (dn _ ((pv_f4 _).mp o1) h')
  · rw [if_neg e] at h' ⊢
    by_cases e2 : rb_rz (S 6 i).toNatClampNeg = 4
    · rw [if_pos e2] at h' ⊢
      rw [e2] at o3
      exact Or.inr (dn _ ((pv_f4 _).mp o3) h')
    · rw [if_neg e2]
      exact Or.inl rfl
theorem pt_T (hn : n ≤ 64) (hi : i < n) (ok : pv_ok (S 6 i) (S 7 i) (S 8 i) (S 9 i)) (h : pt_in S n n) : iv_T S n i := by
  have hr : rb_rx (S 6 i).toNatClampNeg = 4 → ¬ rb_rz (S 6 i).toNatClampNeg = 4 := by
    rcases pv_sort (S 6 i) with q | q
    · rcases pv_out q with q | q
      · exact absurd q ok.1
      · exact absurd q ok.2.1
    · rcases q with e | e | e | e | e | e | e | e | e | e | e | e <;> rw [e] <;> decide
  have h2 := pt_tgj hn hi ok h
  have h' := h i hi
  refine ⟨fun e => ?_, fun e => ?_⟩
  · unfold pt_tg at h2
    rw [if_pos e] at h2
    rcases h2 with h2 | h2
    · have o1 := ok.2.2.1
      rw [e] at o1
      rw [h2] at o1
      exact absurd (by decide) ((pv_f4 _).mp o1).1
    · exact h2
  · unfold pt_tg at h2
    rw [if_neg (fun q => hr q e), if_pos e] at h2
    rcases h2 with h2 | h2
    · have o1 := ok.2.2.2.2
      rw [e] at o1
      rw [h2] at o1
      exact absurd (by decide) ((pv_f4 _).mp o1).1
    · exact h2
end AS
