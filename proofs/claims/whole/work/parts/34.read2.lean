theorem iv_b {S : rb_S} {c : Nat} (h : iv S c) : S 1 3 = S 0 0 := by obtain ⟨n, w, hd, -, -, -, -, -, -, -, -, hb, -⟩ := h; exact hb
/-- what holds when it is built -/
theorem iv_built {S : rb_S} {c : Nat} (h : iv S c) (e : ¬ S 0 0 = 0) : ∃ n : Nat, n ≤ 64 ∧ S 0 1 = nI n ∧ S 1 1 = nI n ∧ S 0 0 = 1 ∧ iv_P S n ∧ iv_C S n ∧ iv_R S n c := by
  obtain ⟨n, w, hd, h1, -, -, h4, h5, h6, -, -, -, hc⟩ := h
  rcases hc with ⟨q, -⟩ | ⟨q, hC, hR⟩
  · exact absurd q e
  · exact ⟨n, h1, h4, h5, q, h6, hC, hR⟩
theorem iv_bit01 (x : Int32) (v : Nat) : iv_bit x v = 0 ∨ iv_bit x v = 1 := by
  unfold iv_bit
  obtain ⟨j, hj, e⟩ := pk_andE (x >>> (nI v &&& 31)) (m := 1) 1 (by decide)
  rw [e]
  have : j = 0 ∨ j = 1 := by omega
  rcases this with rfl | rfl
  · exact Or.inl rfl
  · exact Or.inr rfl
section LV2
variable {G : Int32 → Int32 → rb_S → Prop} {S : rb_S} {c : Nat} {x y : Int32}
theorem pp_lives (h : iv S c) (hG : ∀ (k b : Int32) (S2 : rb_S), S2 1 0 = k → (k = 0 → S2 36 0 = b) → iv S2 (c + 1) → (b = 0 ∨ b = 1) → G k b S2) : la_lives_p_0 (fun k S1 => mo_lives_p_0 (fun b S2 => G k b S2) x y S1) x y S := by
  have hb := iv_b h
  -- the reference's side, at a state that differs in the law's cell alone
  have bad : ∀ S1 : rb_S, iv_z S1 = iv_z S → ¬ (¬ x < 0 ∧ ¬ 16 ≤ x) → mo_lives_p_0 (fun b S2 => G 1 b S2) x y S1 := by
    intro S1 e1 q
    refine pv_moValue (fun q1 q2 => absurd ⟨q1, q2⟩ q) (fun _ => ⟨fun _ => ?_, fun e => absurd rfl e⟩)
    intro S2 e2
    subst e2
    exact ⟨fun _ => ⟨pv_n0, hG _ _ _ (ru_s _ _ _ _) (fun e => absurd e (by decide)) (iv_same h ((iv_zu0 _ _).trans e1)) (Or.inl rfl)⟩, fun e => absurd e (by rw [ru_s]; decide)⟩
  refine pv_isValue (fun a b => ⟨fun _ => ⟨fun e => ?_, fun e => ⟨pv_n0, ⟨fun _ => ?_, fun e => absurd rfl e⟩⟩⟩, fun e => absurd e (by decide)⟩) (fun q => ⟨fun e => absurd rfl e, fun _ => ⟨rfl, bad S rfl q⟩⟩)
  · obtain ⟨n, hn, e1, e2, e3, -, hC, -⟩ := iv_built h e
    have hpt : S 0 4 = nI (2 * n) := hC.1
    have h2n : 2 * S 1 1 = nI (2 * n) := by rw [e2, show (2 : Int32) = nI 2 from rfl, pk_mul]
    have out : y < 0 ∨ ¬ y < S 0 4 → mo_lives_p_0 (fun b S2 => G 1 b S2) x y S := by
      intro ho
      refine pv_moValue (fun _ _ => ⟨fun e => absurd e (by decide), fun _ => ⟨fun q => absurd (hb.symm.trans q) e, fun _ => ?_⟩⟩) (fun q => absurd ⟨a, b⟩ q)
      have fin : mo_lives_p_34 (fun b S2 => G 1 b S2) x y 1 S := by
        intro S2 e2
        subst e2
        exact ⟨fun _ => ⟨pv_n0, hG _ _ _ (ru_s _ _ _ _) (fun e => absurd e (by decide)) (iv_same h (iv_zu0 _ _)) (Or.inl rfl)⟩, fun e => absurd e (by rw [ru_s]; decide)⟩
      refine ⟨fun _ => fin, fun p1 => ⟨fun p2 => ?_, fun _ => fin⟩⟩
      rcases ho with ho | ho
      · exact absurd ho p1
      · rw [h2n, ← hpt] at p2
        exact absurd p2 ho
    refine ⟨fun p1 => ⟨rfl, out (Or.inl p1)⟩, fun p1 => ⟨fun p2 => ?_, fun p2 => ⟨rfl, out (Or.inr p2)⟩⟩⟩
    obtain ⟨p, hp, rfl⟩ : ∃ p : Nat, p < 2 * n ∧ y = nI p := by
      obtain ⟨p, hp, rfl⟩ := nI_of p1
      rw [hpt, nI_ltI hp (by omega)] at p2
      exact ⟨p, p2, rfl⟩
    obtain ⟨v, hv, rfl⟩ := pv_nat (N := 16) (by decide) a b
    have hbit := hC.2.2.2.1 v p hv hp
    have hidx : (128 * nI v + nI p).toNatClampNeg = 128 * v + p := by
      rw [show (128 : Int32) = nI 128 from rfl, pk_mul, nI_add, nI_clamp (by omega)]
    have good : ∀ (k9 : Int32) (S1 : rb_S), S1 36 0 = k9 → iv_z S1 = iv_z S → (k9 = iv_bit (S 11 p) v) → mo_lives_p_0 (fun b S2 => G 0 b S2) (nI v) (nI p) S1 := by
      intro k9 S1 h9 ez hk
      have z3 : S1 1 3 = S 1 3 := congrFun (congrFun ez 1) 3
      have z1 : S1 1 1 = S 1 1 := congrFun (congrFun ez 1) 1
      have z26 : S1 26 (128 * v + p) = S 26 (128 * v + p) := congrFun (congrFun ez 26) (128 * v + p)
      refine pv_moValue (fun _ _ => ⟨fun e => absurd e (by decide), fun _ => ⟨fun q => absurd (hb.symm.trans (z3.symm.trans q)) e, fun _ => ⟨fun q => absurd q p1, fun _ => ⟨fun _ => ?_, fun q => absurd (by rw [z1, h2n, ← hpt]; exact p2) q⟩⟩⟩⟩) (fun q => absurd ⟨a, b⟩ q)
      intro S2 e2
      subst e2
      refine ⟨fun q => absurd (ru_s _ _ _ _) q, fun _ => ⟨fun q => absurd (hb.symm.trans (z3.symm.trans q)) e, fun _ => ⟨?_, ?_, ?_⟩⟩⟩
      · rw [show (128 : Int32) = nI 128 from rfl, pk_mul, nI_add]
        exact vp_in_nI (by omega) (by decide)
      · intro q
        rw [hidx] at q
        have q' : S1 26 (128 * v + p) = 0 := q
        refine ⟨pv_n0, hG _ _ _ (ru_s _ _ _ _) (fun _ => ?_) (iv_same h ((iv_zu0 _ _).trans ez)) (Or.inl rfl)⟩
        show S1 36 0 = 0
        rw [h9, hk, ← hbit, ← z26]
        exact q'
      · intro q
        rw [hidx] at q
        have q' : ¬ S1 26 (128 * v + p) = 0 := q
        refine ⟨pv_n1, hG _ _ _ (ru_s _ _ _ _) (fun _ => ?_) (iv_same h ((iv_zu0 _ _).trans ez)) (Or.inr rfl)⟩
        show S1 36 0 = 1
        rw [z26, hbit] at q'
        rw [h9, hk]
        rcases iv_bit01 (S 11 p) v with w | w
        · exact absurd w q'
        · exact w
    refine ⟨vp_in_nI (by omega) (by decide), ?_, ?_⟩
    · intro q
      refine ⟨pv_n0, ⟨fun _ => ?_, fun e => absurd rfl e⟩⟩
      intro S9 e9
      subst e9
      refine good 0 _ (ru_s _ _ _ _) (iv_zu36 _ _ _) ?_
      rw [nI_clamp (by omega)] at q
      rcases iv_bit01 (S 11 p) v with w | w
      · exact w.symm
      · exact absurd w q
    · intro q
      refine ⟨pv_n1, ⟨fun e => absurd e (by decide), fun _ => ?_⟩⟩
      intro S9 e9
      subst e9
      refine good 1 _ (ru_s _ _ _ _) (iv_zu36 _ _ _) ?_
      rw [nI_clamp (by omega)] at q
      exact q.symm
  · intro S9 e9
    subst e9
    refine pv_moValue (fun _ _ => ⟨fun e => absurd e (by decide), fun _ => ⟨fun _ => ?_, fun q => absurd (hb.trans e) q⟩⟩) (fun q => absurd ⟨a, b⟩ q)
    intro S2 e2
    subst e2
    exact ⟨fun q => absurd (ru_s _ _ _ _) q, fun _ => ⟨fun _ => ⟨pv_n0, hG _ _ _ (ru_s _ _ _ _) (fun _ => rfl) (iv_same h ((iv_zu0 _ _).trans (iv_zu36 _ _ _))) (Or.inl rfl)⟩, fun q => absurd (hb.trans e) q⟩⟩
end LV2
