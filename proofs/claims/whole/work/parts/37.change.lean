/-! ===== put, clear, give ===== -/
section CH
variable {G : Int32 → Int32 → rb_S → Prop} {S : rb_S} {c : Nat} {x y z t : Int32}
theorem up_s (f : Nat → Int32) (j : Nat) (v : Int32) : upd f j v j = v := by simp [upd]
theorem up_n {f : Nat → Int32} {j j' : Nat} {v : Int32} (h : j' ≠ j) : upd f j v j' = f j' := by simp [upd, h]
theorem pp_put (h : iv S c) (hG : ∀ (k b : Int32) (S2 : rb_S), S2 1 0 = k → (k = 0 → S2 36 0 = b) → iv S2 (c + 1) → G k b S2) : la_put_p_0 (fun k S1 => mo_put_p_0 (fun b S2 => G k b S2) t x y z S1) t x y z S := by
  refine pv_allows (fun ok => ⟨fun _ => ?_, fun e => absurd e (by decide)⟩) (fun no => ⟨fun e => absurd rfl e, fun _ => ⟨rfl, ?_⟩⟩)
  · obtain ⟨n, w, hd, hn, hw, hh, e1, e2, hP, hI, hO, hb, hc⟩ := h
    intro S0 q0
    subst q0
    have cl : (S 0 1).toNatClampNeg = n := by rw [e1, nI_clamp (by omega)]
    refine ⟨fun lt => ?_, fun lt => ?_⟩
    · have hn' : n < 64 := by
        have lt' : S 0 1 < 64 := lt
        rw [e1, show (64 : Int32) = nI 64 from rfl, nI_ltI (by omega) (by decide)] at lt'
        exact lt'
      have hin : vp_in (S 0 1) 64 := by rw [e1]; exact vp_in_nI hn' (by decide)
      refine ⟨hin, fun S20 q20 => ⟨by subst q20; exact hin, fun S30 q30 => ⟨by subst q30; subst q20; exact hin, fun S40 q40 => ⟨by subst q40; subst q30; subst q20; exact hin, fun S51 q51 S59 q59 S13 q13 => ?_⟩⟩⟩⟩
      have e30 : S20 0 1 = S 0 1 := by subst q20; rfl
      have e40 : S30 0 1 = S 0 1 := by subst q30; exact e30
      have e51 : S40 0 1 = S 0 1 := by subst q40; exact e40
      have e59 : S51 0 1 = S 0 1 := by subst q51; exact e51
      rw [e30, cl] at q30
      rw [e40, cl] at q40
      rw [e51, cl] at q51
      rw [e59, e1, ← nI_succ] at q59
      have q20' : S20 = rb_u (rb_u S 0 0 0) 6 n t := by rw [q20, show (rb_u S 0 0 0 0 1).toNatClampNeg = n from cl]
      clear q20
      have q20 := q20'
      clear q20'
      refine pv_isRight (fun _ => ⟨fun e => absurd e (by decide), fun _ => ?_⟩) (fun no => absurd ok no)
      intro S17 q17
      refine ⟨fun _ => ?_, fun q => absurd (by subst q17; rw [ru_s]; decide) q⟩
      intro Sf2 qf2 Sf7 qf7
      have m1 : S13 1 = S 1 := by subst q13 q59 q51 q40 q30 q20; rfl
      have m17 : S17 1 1 = nI n := by subst q17; exact (congrFun m1 1).trans e2
      have f1 : Sf7 1 1 = nI n := by subst qf7 qf2; exact m17
      refine ⟨fun _ => ?_, fun q => absurd q ?_⟩
      · have i0 : (4 * Sf7 1 1 : Int32) = nI (4 * n) := by rw [f1, show (4 : Int32) = nI 4 from rfl, pk_mul]
        refine ⟨by rw [i0]; exact vp_in_nI (by omega) (by decide), fun S55 q55 => ?_⟩
        have f55 : S55 1 1 = nI n := by subst q55; exact f1
        have i1 : (4 * S55 1 1 + 1 : Int32) = nI (4 * n + 1) := by rw [f55, show (4 : Int32) = nI 4 from rfl, pk_mul, nI_succ]
        refine ⟨by rw [i1]; exact vp_in_nI (by omega) (by decide), fun S69 q69 => ?_⟩
        have f69 : S69 1 1 = nI n := by subst q69; exact f55
        have i2 : (4 * S69 1 1 + 2 : Int32) = nI (4 * n + 2) := by rw [f69, show (4 : Int32) = nI 4 from rfl, pk_mul, show (2 : Int32) = nI 2 from rfl, nI_add]
        refine ⟨by rw [i2]; exact vp_in_nI (by omega) (by decide), fun S83 q83 => ?_⟩
        have f83 : S83 1 1 = nI n := by subst q83; exact f69
        have i3 : (4 * S83 1 1 + 3 : Int32) = nI (4 * n + 3) := by rw [f83, show (4 : Int32) = nI 4 from rfl, pk_mul, show (3 : Int32) = nI 3 from rfl, nI_add]
        refine ⟨by rw [i3]; exact vp_in_nI (by omega) (by decide), fun S98 q98 S106 q106 => ?_⟩
        have f98 : S98 1 1 = nI n := by subst q98; exact f83
        rw [i0, nI_clamp (by omega)] at q55
        rw [i1, nI_clamp (by omega)] at q69
        rw [i2, nI_clamp (by omega)] at q83
        rw [i3, nI_clamp (by omega)] at q98
        rw [f98, ← nI_succ] at q106
        have a1 : S106 1 1 = nI (n + 1) := by subst q106; rfl
        have a6 : S106 6 = upd (S 6) n t := by subst q106 q98 q83 q69 q55 qf7 qf2 q17 q13 q59 q51 q40 q30 q20; rfl
        have a7 : S106 7 = upd (S 7) n x := by subst q106 q98 q83 q69 q55 qf7 qf2 q17 q13 q59 q51 q40 q30 q20; rfl
        have a8 : S106 8 = upd (S 8) n y := by subst q106 q98 q83 q69 q55 qf7 qf2 q17 q13 q59 q51 q40 q30 q20; rfl
        have a9 : S106 9 = upd (S 9) n z := by subst q106 q98 q83 q69 q55 qf7 qf2 q17 q13 q59 q51 q40 q30 q20; rfl
        have a24 : S106 24 = upd (upd (upd (upd (S 24) (4 * n) t) (4 * n + 1) x) (4 * n + 2) y) (4 * n + 3) z := by subst q106 q98 q83 q69 q55 qf7 qf2 q17 q13 q59 q51 q40 q30 q20; rfl
        refine hG _ _ _ (by subst q106 q98 q83 q69 q55 qf7 qf2 q17; rfl) (fun _ => ?_) ⟨n + 1, w, hd, by omega, hw, hh, ?_, a1, ?_, ?_, ?_, ?_, Or.inl ⟨?_, ?_⟩⟩
        · rw [a1]
          subst q106 q98 q83 q69 q55 qf7 qf2 q17 q13 q59
          rfl
        · subst q106 q98 q83 q69 q55 qf7 qf2 q17 q13 q59
          rfl
        · intro i hi
          rw [a6, a7, a8, a9, a24]
          by_cases hin : i = n
          · subst hin
            rw [up_s, up_s, up_s, up_s, up_s]
            refine ⟨ok, ?_, ?_, ?_, rfl⟩
            · rw [up_n (by omega), up_n (by omega), up_n (by omega), up_s]
            · rw [up_n (by omega), up_n (by omega), up_s]
            · rw [up_n (by omega), up_s]
          · have hP' := hP i (by omega)
            rw [up_n hin, up_n hin, up_n hin, up_n hin]
            refine ⟨hP'.1, ?_, ?_, ?_, ?_⟩
            · rw [up_n (by omega), up_n (by omega), up_n (by omega), up_n (by omega)]; exact hP'.2.1
            · rw [up_n (by omega), up_n (by omega), up_n (by omega), up_n (by omega)]; exact hP'.2.2.1
            · rw [up_n (by omega), up_n (by omega), up_n (by omega), up_n (by omega)]; exact hP'.2.2.2.1
            · rw [up_n (by omega), up_n (by omega), up_n (by omega), up_n (by omega)]; exact hP'.2.2.2.2
        · subst q106 q98 q83 q69 q55 qf7 qf2 q17 q13 q59 q51 q40 q30 q20
          exact hI
        · subst q106 q98 q83 q69 q55 qf7 qf2 q17 q13 q59 q51 q40 q30 q20
          exact hO
        · subst q106 q98 q83 q69 q55 qf7 qf2 q17 q13 q59 q51 q40 q30 q20
          rfl
        · subst q106 q98 q83 q69 q55 qf7 qf2 q17 q13 q59 q51 q40 q30 q20
          rfl
        · subst q106 q98 q83 q69 q55 qf7 qf2 q17 q13 q59 q51 q40 q30 q20
          rfl
      · rw [f1, show (64 : Int32) = nI 64 from rfl, nI_eq (by omega) (by decide)]
        omega
    · have hn' : n = 64 := by
        have lt' : ¬ S 0 1 < 64 := lt
        rw [e1, show (64 : Int32) = nI 64 from rfl, nI_ltI (by omega) (by decide)] at lt'
        omega
      intro S13 q13
      refine pv_isRight (fun _ => ⟨fun e => absurd e (by decide), fun _ => ?_⟩) (fun no => absurd ok no)
      intro S17 q17
      refine ⟨fun _ => ?_, fun q => absurd (by subst q17; rw [ru_s]; decide) q⟩
      intro Sf2 qf2 Sf7 qf7
      have f1 : Sf7 1 1 = nI n := by subst qf7 qf2 q17 q13; exact e2
      refine ⟨fun q => absurd (by rw [f1, hn']; rfl) q, fun _ => ?_⟩
      refine hG _ _ _ (by subst qf7 qf2 q17; rfl) (fun _ => by subst qf7 qf2 q17 q13; rfl) ?_
      subst qf7 qf2 q17 q13
      exact ⟨n, w, hd, hn, hw, hh, e1, e2, hP, hI, hO, rfl, Or.inl ⟨rfl, rfl⟩⟩
  · refine pv_isRight (fun ok => absurd ok no) (fun _ => ⟨fun _ => ?_, fun e => absurd rfl e⟩)
    intro S17 q17
    subst q17
    refine ⟨fun q => absurd q (by rw [ru_s]; decide), fun _ => hG _ _ _ (ru_s _ _ _ _) (fun e => absurd e (by decide)) (iv_same h (iv_zu0 _ _))⟩
theorem pp_clear (h : iv S c) (hG : ∀ (r : Int32) (S2 : rb_S), iv S2 (c + 1) → G r r S2) : rm_clear_p_0 (fun r S1 => mo_clear_p_0 (fun r' S2 => G r r' S2) S1) S := by
  obtain ⟨n, w, hd, hn, hw, hh, e1, e2, hP, hI, hO, hb, hc⟩ := h
  intro v7 q7 S13 q13 S20 q20 S25 q25 S2 q2 v9 q9 S12 q12 S17 q17 Sf2 qf2 Sf7 qf7
  have e : v9 = v7 := by subst q9 q7 q2 q25 q20 q13; exact e2.trans e1.symm
  rw [e]
  refine hG _ _ ?_
  subst qf7 qf2 q17 q12 q2 q25 q20 q13
  exact ⟨0, 0, hd, by omega, by omega, hh, rfl, rfl, fun i hi => absurd hi (by omega), ⟨hI.1, rfl, rfl, fun k hk => absurd hk (by omega)⟩, hO, rfl, Or.inl ⟨rfl, rfl⟩⟩
theorem pp_give (h : iv S c) (hG : ∀ (r : Int32) (S2 : rb_S), iv S2 (c + 1) → G r r S2) : rm_give_p_0 (fun r S1 => mo_give_p_0 (fun r' S2 => G r r' S2) x S1) x S := by
  have h' := h
  obtain ⟨n, w, hd, hn, hw, hh, e1, e2, hP, ⟨i1, i2, i3, i4⟩, hO, hb, hc⟩ := h
  refine ⟨fun lt => ?_, fun lt => ?_⟩
  · have hw' : w < 32 := by
      rw [i2, show (32 : Int32) = nI 32 from rfl, nI_ltI (by omega) (by decide)] at lt
      exact lt
    have hr : (S 0 2 + S 0 3) - (S 0 2 + S 0 3) / 32 * 32 = nI ((hd + w) % 32) := by
      rw [i1, i2, nI_add, show (32 : Int32) = nI 32 from rfl]
      exact pk_rem (by omega) (by decide) (by decide)
    rw [hr, nI_clamp (by omega)]
    refine ⟨vp_in_nI (by omega) (by decide), fun S28 q28 S36 q36 S2 q2 => ⟨fun _ => ?_, fun q => absurd (show S 1 2 = 32 by subst q2 q36 q28; exact q) ?_⟩⟩
    · have m2 : S2 1 2 = nI w := by subst q2 q36 q28; exact i3
      rw [m2, nI_clamp (by omega)]
      refine ⟨vp_in_nI hw' (by decide), fun S25 q25 S33 q33 => ?_⟩
      have b3 : S28 0 3 = nI w := by subst q28; exact i2
      have b25 : S25 1 2 = nI w := by subst q25; exact m2
      rw [b3, ← nI_succ] at q36
      rw [b25, ← nI_succ] at q33
      have r1 : S36 0 3 = nI (w + 1) := by subst q36; rfl
      have r2 : S33 1 2 = nI (w + 1) := by subst q33; rfl
      rw [r1, r2]
      refine hG _ _ ⟨n, w + 1, hd, hn, by omega, hh, ?_, ?_, ?_, ⟨?_, ?_, r2, ?_⟩, ?_, ?_, ?_⟩
      · subst q33 q25 q2 q36 q28; exact e1
      · subst q33 q25 q2 q36 q28; exact e2
      · subst q33 q25 q2 q36 q28; exact hP
      · subst q33 q25 q2 q36 q28; exact i1
      · subst q33 q25 q2 q36 q28; rfl
      · intro k hk
        have a10 : S33 10 = upd (S 10) ((hd + w) % 32) x := by subst q33 q25 q2 q36 q28; rfl
        have a25 : S33 25 = upd (S 25) w x := by subst q33 q25 q2 q36 q28; rfl
        rw [a10, a25]
        by_cases hkw : k = w
        · subst hkw
          rw [up_s, up_s]
        · rw [up_n (by omega), up_n hkw]
          exact i4 k (by omega)
      · subst q33 q25 q2 q36 q28; exact hO
      · subst q33 q25 q2 q36 q28; exact hb
      · have := iv_more h' (show c ≤ c + 1 by omega)
        rcases hc with hc | ⟨hb1, hC, hR⟩
        · exact Or.inl (by subst q33 q25 q2 q36 q28; exact hc)
        · refine Or.inr ⟨by subst q33 q25 q2 q36 q28; exact hb1, by subst q33 q25 q2 q36 q28; exact hC, ?_⟩
          obtain ⟨p1, p2, p3, p4, p5, o, p6, p7⟩ := hR
          have hR' : iv_R S n (c + 1) := ⟨p1, p2, p3, p4, p5, o, by omega, p7⟩
          subst q33 q25 q2 q36 q28
          exact hR'
    · rw [i3, show (32 : Int32) = nI 32 from rfl, nI_eq (by omega) (by decide)]
      omega
  · have hw' : w = 32 := by
      rw [i2, show (32 : Int32) = nI 32 from rfl, nI_ltI (by omega) (by decide)] at lt
      omega
    intro S2 q2
    subst q2
    exact ⟨fun q => absurd (show S 1 2 = 32 by rw [i3, hw']; rfl) q, fun _ => hG _ _ (iv_same h' (iv_zu0 _ _))⟩
end CH
