section RD4
variable {G : Int32 → Int32 → rb_S → Prop} {S : rb_S} {c : Nat} {x y z t : Int32}
theorem iv_nb {S : rb_S} {c : Nat} (h : iv S c) (e : S 0 0 = 0) : S 1 11 = 0 := by
  obtain ⟨n, w, hd, -, -, -, -, -, -, -, -, -, hc⟩ := h
  rcases hc with ⟨-, q⟩ | ⟨q, -⟩
  · exact q
  · rw [e] at q
    exact absurd q (by decide)
theorem pp_output (hc : c ≤ 512) (h : iv S c) (hG : ∀ (r : Int32) (S2 : rb_S), iv S2 (c + 1) → G r r S2) : rm_output_p_0 (fun r S1 => mo_output_p_0 (fun r' S2 => G r r' S2) x S1) x S := by
  have hb := iv_b h
  have fin : ∀ r : Int32, G r r (rb_u S 1 0 0) := fun r => hG r _ (iv_same h (iv_zu0 _ _))
  have none : (∀ o : Nat, S 1 11 = nI o → o < 2 ^ 31 → x < 0 ∨ ¬ x < 16 ∨ ¬ x < S 1 11) → (∃ o : Nat, S 1 11 = nI o ∧ o < 2 ^ 31) → mo_output_p_0 (fun r' S2 => G 0 r' S2) x S := by
    intro ho ⟨o, ho1, ho2⟩ S2 e2
    subst e2
    have q := ho o ho1 ho2
    refine ⟨fun _ => fin 0, fun p1 => ⟨fun _ => fin 0, fun p2 => ⟨fun p3 => ?_, fun _ => fin 0⟩⟩⟩
    rcases q with q | q | q
    · exact absurd q p1
    · obtain ⟨j, hj, rfl⟩ := nI_of p1
      rw [show (16 : Int32) = nI 16 from rfl, nI_ltI hj (by decide)] at q
      rw [show (15 : Int32) = nI 15 from rfl, nI_ltI (by decide) hj] at p2
      omega
    · exact absurd p3 q
  refine ⟨fun e => none (fun o _ _ => ?_) ⟨0, iv_nb h e, by decide⟩, fun e => ?_⟩
  · rw [iv_nb h e]
    by_cases p : x < 0
    · exact Or.inl p
    · exact Or.inr (Or.inr p)
  · obtain ⟨n, hn, e1, e2, e3, -, hC, hR⟩ := iv_built h e
    obtain ⟨-, -, -, -, -, o, ho, ho1, ho2⟩ := hR
    have hO : ∀ k : Nat, k < 16 → S 22 k = S 35 k := by obtain ⟨_, _, _, -, -, -, -, -, -, -, hO, -⟩ := h; exact hO
    refine ⟨fun p1 => none (fun _ _ _ => Or.inl p1) ⟨o, ho2, by omega⟩, fun p1 => ⟨fun p2 => none (fun _ _ _ => Or.inr (Or.inl (fun q => ?_))) ⟨o, ho2, by omega⟩, fun p2 => ⟨fun p3 => ?_, fun p3 => none (fun _ _ _ => Or.inr (Or.inr (fun q => p3 (by rw [ho1, ← ho2]; exact q)))) ⟨o, ho2, by omega⟩⟩⟩⟩
    · obtain ⟨j, hj, rfl⟩ := nI_of p1
      rw [show (16 : Int32) = nI 16 from rfl] at q p2
      rw [nI_ltI hj (by decide)] at q
      rw [nI_leI (by decide) hj] at p2
      omega
    · obtain ⟨k, hk, rfl⟩ := pv_nat (N := 16) (by decide) p1 p2
      rw [ho1, nI_ltI (by omega) (by omega)] at p3
      have hsub : S 0 13 - 1 - nI k = nI (o - 1 - k) := by rw [ho1, show (1 : Int32) = nI 1 from rfl, pk_sub (by omega), pk_sub (by omega)]
      have hand : (S 0 13 - 1 - nI k) &&& 15 = nI ((o - 1 - k) % 16) := by rw [hsub]; exact pk_andN (by omega) (m := 15) 4 (by decide)
      rw [hand, nI_clamp (by omega)]
      refine ⟨vp_in_nI (by omega) (by decide), ?_⟩
      intro S2 e2
      subst e2
      have hrem : (S 1 11 - 1 - nI k) - (S 1 11 - 1 - nI k) / 16 * 16 = nI ((o - 1 - k) % 16) := by
        rw [ho2, ← ho1, hsub, show (16 : Int32) = nI 16 from rfl]
        exact pk_rem (by omega) (by decide) (by decide)
      refine ⟨fun q => absurd q p1, fun _ => ⟨fun q => ?_, fun _ => ⟨fun _ => ?_, fun q => absurd ?_ q⟩⟩⟩
      · rw [show (15 : Int32) = nI 15 from rfl, nI_ltI (by decide) (by omega)] at q
        omega
      · show vp_in ((S 1 11 - 1 - nI k) - (S 1 11 - 1 - nI k) / 16 * 16) 16 ∧ G _ (S 35 ((S 1 11 - 1 - nI k) - (S 1 11 - 1 - nI k) / 16 * 16).toNatClampNeg) _
        rw [hrem, nI_clamp (by omega), hO _ (by omega)]
        exact ⟨vp_in_nI (by omega) (by decide), fin _⟩
      · show nI k < S 1 11
        rw [ho2, nI_ltI (by omega) (by omega)]
        exact p3
theorem pp_count (h : iv S c) (hG : ∀ (r : Int32) (S2 : rb_S), iv S2 (c + 1) → G r r S2) : rm_count_p_0 (fun r S1 => mo_count_p_0 (fun r' S2 => G r r' S2) x S1) x S := by
  have hb := iv_b h
  have fin : ∀ r : Int32, G r r (rb_u S 1 0 0) := fun r => hG r _ (iv_same h (iv_zu0 _ _))
  have fin' : ∀ r r' : Int32, r = r' → G r r' (rb_u S 1 0 0) := fun r r' e => e ▸ fin r
  have hsz : S 0 1 = S 1 1 := by obtain ⟨n, w, hd, -, -, -, h4, h5, -⟩ := h; rw [h4, h5]
  have hwt : S 0 3 = S 1 2 := by obtain ⟨n, w, hd, -, -, -, -, -, -, hI, -⟩ := h; rw [hI.2.1, hI.2.2.1]
  refine ⟨fun p0 => ⟨fun p8 => ⟨fun e => ?_, fun e => ?_⟩, fun p8 => ?_⟩, fun p0 => ?_⟩
  · intro S2 e2
    subst e2
    exact ⟨fun _ => ⟨fun _ => ⟨fun q => absurd (hb.trans e) q, fun _ => fin _⟩, fun q => absurd q p8⟩, fun q => absurd q p0⟩
  · obtain ⟨n, hn, e1, e2, e3, -, hC, hR⟩ := iv_built h e
    obtain ⟨-, -, -, ⟨a, ha, ha1, ha2⟩, ⟨r1, r2, r3, r4⟩, o, ho, ho1, ho2⟩ := hR
    have mo : ∀ r : Int32, (x = 1 → r = S 1 6) → (x = 2 → r = S 1 7) → (x = 3 → r = S 1 8) → (x = 4 → r = S 1 9) → (x = 5 → r = S 1 10) → (x = 6 → r = S 1 11) → (x = 7 → ¬ S 1 6 = S 1 1 → r = 0) → (x = 7 → S 1 6 = S 1 1 → r = 1) → (x.toInt < 1 ∨ 7 < x.toInt → r = -1) → mo_count_p_0 (fun r' S2 => G r r' S2) x S := by
      intro r q1 q2 q3 q4 q5 q6 q7 q8 q9 S2 e2
      subst e2
      exact ⟨fun _ => ⟨fun _ => ⟨fun _ => ⟨fun w => fin' _ _ (q1 w), fun w => fin' _ _ (q2 w), fun w => fin' _ _ (q3 w), fun w => fin' _ _ (q4 w), fun w => fin' _ _ (q5 w), fun w => fin' _ _ (q6 w), fun w => ⟨fun u => fin' _ _ (q7 w u), fun u => fin' _ _ (q8 w u)⟩, fun w => fin' _ _ (q9 w)⟩, fun q => absurd (hb.symm.trans q) e⟩, fun q => absurd q p8⟩, fun q => absurd q p0⟩
    have ne : ∀ {a b : Int32} {P : Prop}, x = a → x = b → a ≠ b → P := fun h1 h2 h3 => absurd (h1.symm.trans h2) h3
    have no : ∀ {a : Int32} {P : Prop}, x = a → (x.toInt < 1 ∨ 7 < x.toInt) → ¬ (a.toInt < 1 ∨ 7 < a.toInt) → P := fun h1 h2 h3 => absurd (h1 ▸ h2) h3
    refine ⟨fun w => ?_, fun w => ?_, fun w => ?_, fun w => ?_, fun w => ?_, fun w => ?_, fun w => ?_, fun w => ?_⟩
    · exact mo _ (fun _ => ha1.trans ha2.symm) (fun v => ne w v (by decide)) (fun v => ne w v (by decide)) (fun v => ne w v (by decide)) (fun v => ne w v (by decide)) (fun v => ne w v (by decide)) (fun v => ne w v (by decide)) (fun v => ne w v (by decide)) (fun v => no w v (by decide))
    · exact mo _ (fun v => ne w v (by decide)) (fun _ => r1) (fun v => ne w v (by decide)) (fun v => ne w v (by decide)) (fun v => ne w v (by decide)) (fun v => ne w v (by decide)) (fun v => ne w v (by decide)) (fun v => ne w v (by decide)) (fun v => no w v (by decide))
    · exact mo _ (fun v => ne w v (by decide)) (fun v => ne w v (by decide)) (fun _ => r2) (fun v => ne w v (by decide)) (fun v => ne w v (by decide)) (fun v => ne w v (by decide)) (fun v => ne w v (by decide)) (fun v => ne w v (by decide)) (fun v => no w v (by decide))
    · exact mo _ (fun v => ne w v (by decide)) (fun v => ne w v (by decide)) (fun v => ne w v (by decide)) (fun _ => r3) (fun v => ne w v (by decide)) (fun v => ne w v (by decide)) (fun v => ne w v (by decide)) (fun v => ne w v (by decide)) (fun v => no w v (by decide))
    · exact mo _ (fun v => ne w v (by decide)) (fun v => ne w v (by decide)) (fun v => ne w v (by decide)) (fun v => ne w v (by decide)) (fun _ => r4) (fun v => ne w v (by decide)) (fun v => ne w v (by decide)) (fun v => ne w v (by decide)) (fun v => no w v (by decide))
    · exact mo _ (fun v => ne w v (by decide)) (fun v => ne w v (by decide)) (fun v => ne w v (by decide)) (fun v => ne w v (by decide)) (fun v => ne w v (by decide)) (fun _ => ho1.trans ho2.symm) (fun v => ne w v (by decide)) (fun v => ne w v (by decide)) (fun v => no w v (by decide))
    · have hlt : S 0 8 < S 0 7 ↔ ¬ S 1 6 = S 1 1 := by
        rw [ha1, hC.2.1, ha2, e2, nI_ltI (by omega) (by omega), nI_eq (by omega) (by omega)]
        omega
      refine ⟨fun q => ⟨pv_n0, ⟨fun _ => ?_, fun e => absurd rfl e⟩⟩, fun q => ⟨pv_n1, ⟨fun e => absurd e (by decide), fun _ => ?_⟩⟩⟩
      · exact mo _ (fun v => ne w v (by decide)) (fun v => ne w v (by decide)) (fun v => ne w v (by decide)) (fun v => ne w v (by decide)) (fun v => ne w v (by decide)) (fun v => ne w v (by decide)) (fun _ _ => rfl) (fun _ u => absurd u (hlt.mp q)) (fun v => no w v (by decide))
      · exact mo _ (fun v => ne w v (by decide)) (fun v => ne w v (by decide)) (fun v => ne w v (by decide)) (fun v => ne w v (by decide)) (fun v => ne w v (by decide)) (fun v => ne w v (by decide)) (fun _ u => absurd (hlt.mpr u) q) (fun _ _ => rfl) (fun v => no w v (by decide))
    · exact mo _ (fun v => no v w (by decide)) (fun v => no v w (by decide)) (fun v => no v w (by decide)) (fun v => no v w (by decide)) (fun v => no v w (by decide)) (fun v => no v w (by decide)) (fun v => no v w (by decide)) (fun v => no v w (by decide)) (fun _ => rfl)
  · intro S2 e2
    subst e2
    exact ⟨fun _ => ⟨fun q => absurd p8 q, fun _ => fin' _ _ hwt⟩, fun q => absurd q p0⟩
  · intro S2 e2
    subst e2
    exact ⟨fun q => absurd p0 q, fun _ => fin' _ _ hsz⟩
end RD4
