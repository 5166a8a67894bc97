/-! ===== the reference goes through the values ===== -/
section MB
variable {S Q : rb_S} {K : Int32 → rb_S → Prop} {K0 : rb_S → Prop} {f l pl : Nat → Int32} {r n v p q : Nat} {x : Int32}
/-- x: the first, from q on, of the values below u, or none -/
def nb (f : Nat → Int32) (q u : Nat) (x : Int32) : Prop := (x = -1 ∧ ∀ u' a : Nat, u' < u → a < 128 → f u' = nI a → 16 * a + u' < q) ∨ ∃ b a : Nat, b < u ∧ a < 128 ∧ x = nI b ∧ f b = nI a ∧ q ≤ 16 * a + b ∧ ∀ u' a' : Nat, u' < u → a' < 128 → f u' = nI a' → q ≤ 16 * a' + u' → 16 * a + b ≤ 16 * a' + u'
theorem nb_no {u : Nat} (h : nb f q u x) (hc : ∀ a : Nat, a < 128 → f u = nI a → 16 * a + u < q) : nb f q (u + 1) x := by
  rcases h with ⟨e, h⟩ | ⟨b, a, hb, ha, e1, e2, e3, h⟩
  · refine Or.inl ⟨e, fun u' a hu ha w => ?_⟩
    by_cases c : u' = u
    · subst c; exact hc a ha w
    · exact h u' a (by omega) ha w
  · refine Or.inr ⟨b, a, by omega, ha, e1, e2, e3, fun u' a' hu ha' w hq => ?_⟩
    by_cases c : u' = u
    · subst c
      have := hc a' ha' w
      omega
    · exact h u' a' (by omega) ha' w hq
theorem nx_4 (hff : ∀ u : Nat, u < 16 → f u = -1 ∨ ∃ b : Nat, b < 128 ∧ f u = nI b) (hfq : ∀ u : Nat, u < 16 → S 29 u = f u) (h : ∀ y : Int32, nb f q 16 y → K y S) (hx : x = -1 ∧ q = 0 ∨ ∃ w a : Nat, w < 16 ∧ a < 128 ∧ x = nI w ∧ f w = nI a ∧ q = 16 * a + w + 1) : ∀ (m u : Nat) (y : Int32), u + m = 16 → nb f q u y → mo_next_p_4 K (m + 1) x y (nI u) S := by
  intro m
  induction m with
  | zero =>
    intro u y hu hn
    have : u = 16 := by omega
    subst this
    exact ⟨fun _ => h y hn, fun w => absurd (by decide) w⟩
  | succ m ih =>
    intro u y hu hn
    have hin : vp_in (nI u) 16 := vp_in_nI (by omega) (by decide)
    have eu := hfq u (by omega)
    have no : (∀ a : Nat, a < 128 → f u = nI a → 16 * a + u < q) → mo_next_p_62 K (fun a0 a1 a2 T => mo_next_p_4 K (m + 1) a0 a1 a2 T) x y (nI u) S := by
      intro hc
      refine ⟨fun _ v91 q91 => ?_, fun w => absurd rfl w⟩
      rw [← nI_succ] at q91
      subst q91
      exact ih (u + 1) y (by omega) (nb_no hn hc)
    have yes : ∀ a : Nat, a < 128 → f u = nI a → q ≤ 16 * a + u → mo_next_p_58 K (fun a0 a1 a2 T => mo_next_p_4 K (m + 1) a0 a1 a2 T) x y (nI u) S := by
      intro a ha ea hq
      have aeq : ∀ a' : Nat, a' < 128 → f u = nI a' → a' = a := by
        intro a' ha' w
        rw [ea, nI_eq (by omega) (by omega)] at w
        exact w.symm
      have take : (∀ u' a' : Nat, u' < u → a' < 128 → f u' = nI a' → q ≤ 16 * a' + u' → 16 * a + u ≤ 16 * a' + u') → mo_next_p_89 K (fun a0 a1 a2 T => mo_next_p_4 K (m + 1) a0 a1 a2 T) x y (nI u) 1 S := by
        intro hm v91 q91
        rw [← nI_succ] at q91
        subst q91
        refine ih (u + 1) (nI u) (by omega) (Or.inr ⟨u, a, by omega, ha, rfl, ea, hq, fun u' a' hu' ha' w hq' => ?_⟩)
        by_cases c : u' = u
        · subst c
          rw [aeq a' ha' w]
          exact Nat.le_refl _
        · exact hm u' a' (by omega) ha' w hq'
      refine ⟨fun w => absurd w (by decide), fun _ => ⟨fun w => take (fun u' a' hu' ha' w2 hq' => ?_), fun w => ?_⟩⟩
      · rcases hn with ⟨_, hn⟩ | ⟨b, a2, hb, _, e1, _⟩
        · have := hn u' a' hu' ha' w2
          omega
        · rw [e1, show (0 : Int32) = nI 0 from rfl, nI_ltI (by omega) (by omega)] at w
          omega
      · rcases hn with ⟨e, _⟩ | ⟨b, a2, hb, ha2, e1, e2, e3, hm⟩
        · rw [e] at w
          exact absurd (by decide) w
        · rw [e1, nI_clamp (by omega), nI_clamp (by omega), eu, hfq b (by omega), e2, ea, nI_leI (by omega) (by omega)]
          refine ⟨hin, vp_in_nI (by omega) (by decide), fun c v91 q91 => ?_, fun c => ?_⟩
          · rw [← nI_succ] at q91
            subst q91
            refine ih (u + 1) (nI b) (by omega) (Or.inr ⟨b, a2, by omega, ha2, rfl, e2, e3, fun u' a' hu' ha' w2 hq' => ?_⟩)
            by_cases d : u' = u
            · subst d
              rw [aeq a' ha' w2]
              omega
            · exact hm u' a' (by omega) ha' w2 hq'
          · rw [← e1]
            refine take (fun u' a' hu' ha' w2 hq' => ?_)
            have := hm u' a' hu' ha' w2 hq'
            omega
    refine ⟨fun w => ?_, fun _ => ?_⟩
    · rw [show (16 : Int32) = nI 16 from rfl, nI_leI (by omega) (by omega)] at w
      omega
    · rw [nI_clamp (by omega), eu]
      refine ⟨hin, fun c => no (fun a ha w => ?_), fun c => ?_⟩
      · rw [w, show (0 : Int32) = nI 0 from rfl, nI_ltI (by omega) (by omega)] at c
        omega
      · obtain ⟨a, ha, ea⟩ : ∃ b : Nat, b < 128 ∧ f u = nI b := by
          rcases hff u (by omega) with w | w
          · rw [w] at c
            exact absurd (by decide) c
          · exact w
        have aeq : ∀ a' : Nat, a' < 128 → f u = nI a' → a' = a := by
          intro a' ha' w
          rw [ea, nI_eq (by omega) (by omega)] at w
          exact w.symm
        rcases hx with ⟨ex, eq0⟩ | ⟨w0, a0, hw0, ha0, ex, ea0, eq0⟩
        · exact ⟨fun _ => yes a ha ea (by omega), fun d => absurd (by rw [ex]; decide) d⟩
        · refine ⟨fun d => ?_, fun _ => ?_⟩
          · rw [ex, show (0 : Int32) = nI 0 from rfl, nI_ltI (by omega) (by omega)] at d
            omega
          · have hinw : vp_in x 16 := by rw [ex]; exact vp_in_nI hw0 (by decide)
            have e29 : S 29 x.toNatClampNeg = nI a0 := by rw [ex, nI_clamp (by omega), hfq w0 hw0, ea0]
            rw [e29, ea, nI_ltI (by omega) (by omega), nI_eq (by omega) (by omega)]
            refine ⟨hin, hinw, fun d => yes a ha ea (by omega), fun d => ⟨hin, hinw, fun d2 => no (fun a' ha' w => ?_), fun d2 => ?_⟩⟩
            · rw [aeq a' ha' w]
              omega
            · have e3 : nI u ≤ x ↔ u ≤ w0 := by rw [ex, nI_leI (by omega) (by omega)]
              refine ⟨fun d3 => no (fun a' ha' w => ?_), fun d3 => yes a ha ea ?_⟩
              · have := e3.mp d3
                rw [aeq a' ha' w]
                omega
              · have : ¬ u ≤ w0 := fun w => d3 (e3.mpr w)
                omega
theorem nx_next (hff : ∀ u : Nat, u < 16 → f u = -1 ∨ ∃ b : Nat, b < 128 ∧ f u = nI b) (hfq : ∀ u : Nat, u < 16 → S 29 u = f u) (hx : x = -1 ∧ q = 0 ∨ ∃ w a : Nat, w < 16 ∧ a < 128 ∧ x = nI w ∧ f w = nI a ∧ q = 16 * a + w + 1) (h : ∀ y : Int32, nb f q 16 y → K y S) : mo_next_p_0 K x S :=
  ⟨17, nx_4 hff hfq h hx 16 0 (-1) (by omega) (Or.inl ⟨rfl, fun u' a hu' => absurd hu' (by omega)⟩)⟩
theorem mb_76 {N : Nat} (hN : N ≤ 16 * 128) (hr : r ≤ 8) (hfN : ∀ u a : Nat, u < 16 → a < 128 → f u = nI a → 16 * a + u < N) (hff : ∀ u : Nat, u < 16 → f u = -1 ∨ ∃ b : Nat, b < 128 ∧ f u = nI b) (hfq : ∀ u : Nat, u < 16 → Q 29 u = f u) (hl : ∀ u : Nat, u < 16 → Q 30 u = l u) (hK : ∀ (y : Int32) (S' : rb_S), mp Q f l r N S' → mo_build_p_95 K (nI r) y S') : ∀ (m q : Nat) (y : Int32) (S : rb_S), N ≤ q + m → q ≤ N → mp Q f l r q S → nb f q 16 y → mo_build_p_76 K (m + 1) (nI r) y S := by
  intro m
  induction m with
  | zero =>
    intro q y S hq hq2 hS hn
    have : q = N := by omega
    subst this
    rcases hn with ⟨e, hn⟩ | ⟨b, a, hb, ha, e1, e2, e3, hm⟩
    · exact ⟨fun _ => hK y S hS, fun c => absurd (by rw [e]; decide) c⟩
    · have := hfN b a hb ha e2
      omega
  | succ m ih =>
    intro q y S hq hq2 hS hn
    rcases hn with ⟨e, hn⟩ | ⟨b, a, hb, ha, e1, e2, e3, hm⟩
    · refine ⟨fun _ => hK y S ?_, fun c => absurd (by rw [e]; decide) c⟩
      have : al_it f l r (q + (N - q)) = al_it f l r q := al_skip (N - q) (fun u a hu w ha hh => by
        have := hn u a hu ha w
        omega) (by omega)
      rw [show q + (N - q) = N by omega] at this
      unfold mp at hS ⊢
      rw [this]
      exact hS
    · refine ⟨fun c => ?_, fun _ => ?_⟩
      · rw [e1, show (0 : Int32) = nI 0 from rfl, nI_ltI (by omega) (by omega)] at c
        omega
      · have hbN := hfN b a hb ha e2
        have sk : al_it f l r (q + (16 * a + b - q)) = al_it f l r q := al_skip _ (fun u a' hu w ha' hh => by
          have := hm u a' hu ha' w hh
          omega) (by omega)
        rw [show q + (16 * a + b - q) = 16 * a + b by omega] at sk
        have hS' : mp Q f l r (16 * a + b) S := by
          unfold mp at hS ⊢
          rw [sk]
          exact hS
        rw [e1]
        refine mp_settle hr hb ha hfq hl e2 hff hS' (fun T hT => ?_)
        exact nx_next (q := 16 * a + b + 1) hff (fun u hu => by rw [hT.1 29 (by decide) (by decide), hfq u hu]) (Or.inr ⟨b, a, hb, ha, rfl, e2, rfl⟩) (fun y' hy' => ih (16 * a + b + 1) y' T (by omega) (by omega) hT hy')
theorem mb_51 {N : Nat} (hN : N ≤ 16 * 128) (hr : r ≤ 8) (hfN : ∀ u a : Nat, u < 16 → a < 128 → f u = nI a → 16 * a + u < N) (hff : ∀ u : Nat, u < 16 → f u = -1 ∨ ∃ b : Nat, b < 128 ∧ f u = nI b) (hfq : ∀ u : Nat, u < 16 → Q 29 u = f u) (hl : ∀ u : Nat, u < 16 → Q 30 u = l u) (e5 : Q 1 5 = 0) (hK : ∀ (y : Int32) (S' : rb_S), mp Q f l r N S' → mo_build_p_95 K (nI r) y S') : ∀ (m u : Nat) (S : rb_S), u + m = 16 → (∀ g : Nat, g ≠ 31 → S g = Q g) → (∀ u' : Nat, u' < u → S 31 u' = -1) → mo_build_p_51 K (m + 1) (nI r) (nI u) S := by
  intro m
  induction m with
  | zero =>
    intro u S hu hS h31
    have : u = 16 := by omega
    subst this
    refine ⟨fun _ => ?_, fun w => absurd (by decide) w⟩
    refine nx_next (q := 0) hff (fun u hu => by rw [hS 29 (by decide), hfq u hu]) (Or.inl ⟨rfl, rfl⟩) (fun y hy => ⟨N + 1, mb_76 hN hr hfN hff hfq hl hK N 0 y S (by omega) (by omega) ⟨fun g g0 g1 => hS g g1, fun j hj => by rw [hS 1 (by decide)], fun u hu => h31 u hu, ?_⟩ hy⟩)
    rw [hS 1 (by decide), e5]
    rfl
  | succ m ih =>
    intro u S hu hS h31
    refine ⟨fun w => ?_, fun _ => ⟨vp_in_nI (by omega) (by decide), fun S63 q63 v64 q64 => ?_⟩⟩
    · rw [show (16 : Int32) = nI 16 from rfl, nI_leI (by omega) (by omega)] at w
      omega
    · rw [← nI_succ] at q64
      subst q64
      rw [nI_clamp (by omega)] at q63
      refine ih (u + 1) S63 (by omega) (fun g hg => by rw [q63, ru_g hg, hS g hg]) (fun u' hu' => ?_)
      by_cases c : u' = u
      · rw [q63, c, ru_s]
      · rw [q63, ru_j c]
        exact h31 u' (by omega)
end MB
