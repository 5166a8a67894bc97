section RD3
variable {G : Int32 → Int32 → rb_S → Prop} {S : rb_S} {c : Nat} {x y : Int32}
theorem pp_value (h : iv S c) (hG : ∀ (k b : Int32) (S2 : rb_S), S2 1 0 = k → (k = 0 → S2 36 0 = b) → iv S2 (c + 1) → G k b S2) : la_value_p_0 (fun k S1 => mo_value_p_0 (fun b S2 => G k b S2) x S1) x S := by
  have hb := iv_b h
  refine ⟨fun e => ?_, fun e => Or.inl ⟨rfl, ⟨fun q => absurd (hb.trans e) q, fun _ => ?_⟩⟩⟩
  · obtain ⟨n, hn, e1, e2, e3, -, hC, hR⟩ := iv_built h e
    have bad : x < 0 ∨ ¬ x < 32 → mo_value_p_0 (fun b S2 => G 2 b S2) x S := by
      intro ho
      refine ⟨fun _ => ?_, fun q => absurd (hb.symm.trans q) e⟩
      have fin : mo_value_p_27 (fun b S2 => G 2 b S2) x 2 S := by
        intro S2 e2
        subst e2
        exact ⟨fun q => absurd q (by rw [ru_s]; decide), fun _ => hG _ _ _ (ru_s _ _ _ _) (fun e => absurd e (by decide)) (iv_same h (iv_zu0 _ _))⟩
      refine ⟨fun _ => fin, fun p1 => ⟨fun p2 => ?_, fun _ => fin⟩⟩
      rcases ho with ho | ho
      · exact absurd ho p1
      · exact absurd p2 ho
    refine ⟨fun p1 => Or.inr ⟨rfl, bad (Or.inl p1)⟩, fun p1 => ⟨fun p2 => ?_, fun p2 => Or.inr ⟨rfl, bad (Or.inr p2)⟩⟩⟩
    obtain ⟨v, hv, rfl⟩ : ∃ v : Nat, v < 32 ∧ x = nI v := by
      obtain ⟨v, hv, rfl⟩ := nI_of p1
      rw [show (32 : Int32) = nI 32 from rfl, nI_ltI hv (by decide)] at p2
      exact ⟨v, p2, rfl⟩
    -- the reference's side
    have mo : ∀ (r : Int32), (16 ≤ v → r = S 34 (v - 16)) → (v < 16 → S 14 v = -1 → r = 0) → (∀ p : Nat, v < 16 → S 14 v = nI p → p < 8 → r = S 32 p) → (∀ p : Nat, v < 16 → S 14 v = nI p → 16 ≤ p → p < 32 → r = S 33 (p - 16)) → mo_value_p_0 (fun b S2 => G 0 b S2) (nI v) (rb_u S 36 0 r) := by
      intro r r1 r2 r3 r4
      refine ⟨fun _ => ⟨fun q => absurd q p1, fun _ => ⟨fun _ => ?_, fun q => absurd p2 q⟩⟩, fun q => absurd (hb.symm.trans q) e⟩
      intro S2 e2
      subst e2
      refine ⟨fun _ => ⟨fun q => ?_, fun q => ?_⟩, fun q => absurd (by rw [ru_s]; decide) q⟩
      · rw [show (16 : Int32) = nI 16 from rfl, nI_ltI (by omega) (by decide)] at q
        refine ⟨vp_in_nI q (by decide), ?_⟩
        intro u hu
        have hu' : u = S 31 (nI v).toNatClampNeg := hu
        rw [nI_clamp (by omega), ← (hC.2.2.2.2 v q).2.2.1] at hu'
        have fin : ∀ b : Int32, r = b → G 0 b (rb_u (rb_u S 36 0 r) 1 0 0) := fun b hb9 => hG _ _ _ (ru_s _ _ _ _) (fun _ => hb9) (iv_same h ((iv_zu0 _ _).trans (iv_zu36 _ _ _)))
        refine ⟨fun g => ⟨fun g2 => ?_, fun g2 => ?_⟩, fun g => ?_⟩
        · rcases (hC.2.2.2.2 v q).2.2.2.2 with w | ⟨p, hp, hp2⟩
          · rw [hu', w] at g
            exact absurd g (by decide)
          · rw [hu', hp] at g2 ⊢
            rw [show (16 : Int32) = nI 16 from rfl, nI_leI (by decide) (by omega)] at g2
            have hp3 : 16 ≤ p ∧ p < 32 := by omega
            rw [show (16 : Int32) = nI 16 from rfl, pk_sub g2]
            refine ⟨vp_in_nI (by omega) (by decide), ?_⟩
            rw [nI_clamp (by omega)]
            exact fin _ (r4 p q hp hp3.1 hp3.2)
        · rcases (hC.2.2.2.2 v q).2.2.2.2 with w | ⟨p, hp, hp2⟩
          · rw [hu', w] at g
            exact absurd g (by decide)
          · rw [hu', hp] at g2 ⊢
            rw [show (16 : Int32) = nI 16 from rfl, nI_leI (by decide) (by omega)] at g2
            have hp3 : p < 8 := by omega
            refine ⟨vp_in_nI hp3 (by decide), ?_⟩
            rw [nI_clamp (by omega)]
            exact fin _ (r3 p q hp hp3)
        · rcases (hC.2.2.2.2 v q).2.2.2.2 with w | ⟨p, hp, hp2⟩
          · exact fin _ (r2 q w)
          · rw [hu', hp] at g
            exact absurd (nI_pos' (by omega)) g
      · rw [show (16 : Int32) = nI 16 from rfl, nI_ltI (by omega) (by decide)] at q
        rw [show (16 : Int32) = nI 16 from rfl, pk_sub (by omega)]
        refine ⟨vp_in_nI (by omega) (by decide), hG _ _ _ (ru_s _ _ _ _) (fun _ => ?_) (iv_same h ((iv_zu0 _ _).trans (iv_zu36 _ _ _)))⟩
        rw [nI_clamp (by omega)]
        exact r1 (by omega)
    refine ⟨fun q => ?_, fun q => ?_⟩
    · rw [show (16 : Int32) = nI 16 from rfl, nI_leI (by decide) (by omega)] at q
      rw [show (16 : Int32) = nI 16 from rfl, pk_sub q]
      refine ⟨vp_in_nI (by omega) (by decide), ?_⟩
      intro S9 e9
      subst e9
      rw [nI_clamp (by omega)]
      exact mo _ (fun _ => hR.2.2.1 _ (by omega)) (fun w => absurd w (by omega)) (fun p w => absurd w (by omega)) (fun p w => absurd w (by omega))
    · rw [show (16 : Int32) = nI 16 from rfl, nI_leI (by decide) (by omega)] at q
      have q : v < 16 := by omega
      refine ⟨vp_in_nI q (by decide), ?_⟩
      rw [nI_clamp (by omega)]
      rcases (hC.2.2.2.2 v q).2.2.2.2 with w | ⟨p, hp, hp2⟩
      · rw [w]
        refine ⟨fun _ => ?_, fun g => absurd (by decide) g⟩
        intro S9 e9
        subst e9
        exact mo 0 (fun z => absurd z (by omega)) (fun _ _ => rfl) (fun p _ z h8 => absurd (congrArg Int32.toInt (w.symm.trans z)) (fun z2 => by
          rw [nI_toInt (by omega)] at z2
          have : (-1 : Int32).toInt = -1 := by decide
          omega)) (fun p _ z h1 h2 => absurd (congrArg Int32.toInt (w.symm.trans z)) (fun z2 => by
          rw [nI_toInt (by omega)] at z2
          have : (-1 : Int32).toInt = -1 := by decide
          omega))
      · rw [hp]
        have hp32 : p < 32 := by omega
        refine ⟨fun g => absurd g (nI_pos (by omega)), fun _ => ⟨fun g => ?_, fun _ => ⟨vp_in_nI hp32 (by decide), ?_⟩⟩⟩
        · rw [show (32 : Int32) = nI 32 from rfl, nI_leI (by decide) (by omega)] at g
          omega
        · intro S9 e9
          subst e9
          rw [nI_clamp (by omega)]
          refine mo _ (fun z => absurd z (by omega)) (fun _ z => ?_) (fun p' _ z h8 => ?_) (fun p' _ z h8 h9 => ?_)
          · have z2 := congrArg Int32.toInt (hp.symm.trans z)
            rw [nI_toInt (by omega)] at z2
            have : (-1 : Int32).toInt = -1 := by decide
            omega
          · have z2 := hp.symm.trans z
            rw [nI_eq (by omega) (by omega)] at z2
            subst z2
            exact hR.1 p h8
          · have z2 := hp.symm.trans z
            rw [nI_eq (by omega) (by omega)] at z2
            subst z2
            have := hR.2.1 (p - 16) (by omega)
            rw [show 16 + (p - 16) = p by omega] at this
            exact this
  · intro S2 e2
    subst e2
    exact ⟨fun q => absurd q (by rw [ru_s]; decide), fun _ => hG _ _ _ (ru_s _ _ _ _) (fun e => absurd e (by decide)) (iv_same h (iv_zu0 _ _))⟩
end RD3
