/-! ===== spans, in the class ===== -/
section ME
variable {S A Q S0 : rb_S} {x y z t : Int32} {K : Int32 → rb_S → Prop} {K0 : rb_S → Prop} {i n : Nat}
def sf (T : Nat → Bool) : Nat → Int32
  | 0 => -1
  | m + 1 => if T m = true then (if sf T m = -1 then nI m else sf T m) else sf T m
def sl (T : Nat → Bool) : Nat → Int32
  | 0 => -1
  | m + 1 => if T m = true then nI m else sl T m
def lv_L (Q : rb_S) (n v p : Nat) : Bool := if p % 2 = 0 then lv_A Q n v (p / 2) else lv_B Q n v (p / 2)
def lv_T (Q : rb_S) (n v p : Nat) : Bool := lv_L Q n v p || (decide (p % 2 = 1) && pt_st Q v (p / 2))
theorem zb_eq1 {v : Nat} (hv : v < 16) (x : Int32) : ((x >>> (nI v &&& 31)) &&& 1) = 1 ↔ zb x v = true := by
  have := zb_iv hv x
  unfold iv_bit at this
  rw [this]
  by_cases e : zb x v = true
  · rw [if_pos e]
    exact ⟨fun _ => e, fun _ => rfl⟩
  · rw [if_neg e]
    exact ⟨fun q => absurd q (by decide), fun q => absurd q e⟩
theorem ms_str2 {p : Nat} : ∀ (m u : Nat) (S : rb_S), u + m = 16 → (∀ S' : rb_S, (∀ g : Nat, g ≠ 12 → g ≠ 13 → S' g = S g) → (∀ v : Nat, v < u → S' 12 v = S 12 v ∧ S' 13 v = S 13 v) → (∀ v : Nat, u ≤ v → v < 16 → S' 12 v = (if zb x v = true then (if S 12 v = -1 then nI p else S 12 v) else S 12 v) ∧ S' 13 v = (if zb x v = true then nI p else S 13 v)) → K0 S') → sp_stretch_p_2 K0 (m + 1) x (nI p) (nI u) S := by
  intro m
  induction m with
  | zero =>
    intro u S hu h
    have : u = 16 := by omega
    subst this
    exact ⟨fun _ => h S (fun _ _ _ => rfl) (fun _ _ => ⟨rfl, rfl⟩) (fun v h1 h2 => absurd h1 (by omega)), fun q => absurd (by decide) q⟩
  | succ m ih =>
    intro u S hu h
    have hin : vp_in (nI u) 16 := vp_in_nI (by omega) (by decide)
    refine ⟨fun q => ?_, fun _ => ⟨fun q v50 q50 => ?_, fun q => ?_⟩⟩
    · rw [show (16 : Int32) = nI 16 from rfl, nI_leI (by omega) (by omega)] at q
      omega
    · rw [zb_eq1 (by omega)] at q
      rw [← nI_succ] at q50
      subst q50
      refine ih (u + 1) S (by omega) (fun S' f1 f2 f3 => h S' f1 (fun v hv => f2 v (by omega)) (fun v h1 h2 => ?_))
      by_cases e : v = u
      · subst e
        rw [if_neg q, if_neg q]
        exact f2 v (by omega)
      · exact f3 v (by omega) h2
    · rw [zb_eq1 (by omega)] at q
      have go : ∀ y0 : Int32, y0 = (if S 12 u = -1 then nI p else S 12 u) → sp_stretch_p_42 K0 (fun a0 a1 a2 T => sp_stretch_p_2 K0 (m + 1) a0 a1 a2 T) x (nI p) (nI u) y0 (nI u) S := by
        intro y0 hy
        unfold sp_stretch_p_42
        rw [nI_clamp (by omega)]
        refine ⟨hin, fun S42 q42 => ⟨hin, fun S49 q49 v50 q50 => ?_⟩⟩
        rw [← nI_succ] at q50
        subst q50
        have w12 : S49 12 = upd (S 12) u y0 := by subst q49 q42; rfl
        have w13 : S49 13 = upd (S 13) u (nI p) := by subst q49 q42; rfl
        refine ih (u + 1) S49 (by omega) (fun S' f1 f2 f3 => h S' (fun g g1 g2 => ?_) (fun v hv => ?_) (fun v h1 h2 => ?_))
        · rw [f1 g g1 g2, q49, ru_g g2, q42, ru_g g1]
        · have := f2 v (by omega)
          rw [w12, w13, up_n (by omega), up_n (by omega)] at this
          exact this
        · by_cases e : v = u
          · subst e
            have := f2 v (by omega)
            rw [w12, w13, up_s, up_s] at this
            rw [if_pos q, if_pos q, ← hy]
            exact this
          · have := f3 v (by omega) h2
            rw [w12, w13, up_n e, up_n e] at this
            exact this
      rw [nI_clamp (by omega)]
      refine ⟨hin, fun q2 => ⟨hin, go _ ?_⟩, fun q2 => go _ ?_⟩
      · rw [if_neg q2]
      · rw [if_pos q2]
theorem ms_meas18 (hn : n ≤ 64) (e4 : Q 0 4 = nI (2 * n)) (hP : iv_P Q n) (hK : ∀ S' : rb_S, (∀ g : Nat, g ≠ 11 → g ≠ 12 → g ≠ 13 → S' g = Q g) → S' 11 = S0 11 → (∀ v : Nat, v < 16 → S' 12 v = sf (lv_T Q n v) (2 * n) ∧ S' 13 v = sl (lv_T Q n v) (2 * n)) → K0 S') (hf : ps_fi Q S0 n) : ∀ (m p : Nat) (S : rb_S), p + m = 2 * n → (∀ g : Nat, g ≠ 11 → g ≠ 12 → g ≠ 13 → S g = Q g) → S 11 = S0 11 → (∀ v : Nat, v < 16 → S 12 v = sf (lv_T Q n v) p ∧ S 13 v = sl (lv_T Q n v) p) → sp_measure_p_18 K0 (m + 1) (nI p) S := by
  intro m
  induction m with
  | zero =>
    intro p S hp h1 h2 h3
    have : p = 2 * n := by omega
    subst this
    refine ⟨fun _ => hK S h1 h2 h3, fun q => absurd ?_ q⟩
    rw [h1 0 (by decide) (by decide) (by decide), e4, nI_leI (by omega) (by omega)]
    exact Nat.le_refl _
  | succ m ih =>
    intro p S hp h1 h2 h3
    have hr : (nI p : Int32) - nI p / 2 * 2 = nI (p % 2) := by
      rw [show (2 : Int32) = nI 2 from rfl]
      exact pk_rem (by omega) (by decide) (by decide)
    have hd : (nI p : Int32) / 2 = nI (p / 2) := by
      rw [show (2 : Int32) = nI 2 from rfl]
      exact pk_div (by omega) (by decide) (by decide)
    have go : ∀ x : Int32, (∀ v : Nat, v < 16 → zb x v = lv_T Q n v p) → sp_measure_p_50 K0 (fun a0 T => sp_measure_p_18 K0 (m + 1) a0 T) (nI p) x S := by
      intro x hx
      refine ⟨17, ms_str2 16 0 S (by omega) (fun S' f1 f2 f3 v56 q56 => ?_)⟩
      rw [← nI_succ] at q56
      subst q56
      refine ih (p + 1) S' (by omega) (fun g g1 g2 g3 => (f1 g g2 g3).trans (h1 g g1 g2 g3)) ((f1 11 (by decide) (by decide)).trans h2) (fun v hv => ?_)
      have := f3 v (by omega) hv
      rw [hx v hv, (h3 v hv).1, (h3 v hv).2] at this
      exact this
    refine ⟨fun q => ?_, fun _ => ?_⟩
    · rw [h1 0 (by decide) (by decide) (by decide), e4, nI_leI (by omega) (by omega)] at q
      omega
    · rw [hr, hd, nI_clamp (by omega)]
      refine ⟨vp_in_nI (by omega) (by decide), fun v32 q32 => ?_⟩
      rw [h2] at q32
      refine ⟨fun q => go _ (fun v hv => ?_), fun q => ?_⟩
      · have e0 : p % 2 = 0 := by
          by_cases e : p % 2 = 0
          · exact e
          · exact absurd (show nI (p % 2) = 1 by rw [show p % 2 = 1 by omega]; rfl) q
        have := (hf v (p / 2) hv (by omega)).1
        rw [show 2 * (p / 2) = p by omega] at this
        unfold lv_T lv_L
        rw [q32, this, if_pos e0, decide_eq_false (by omega), Bool.false_and, Bool.or_false]
      · have e1 : p % 2 = 1 := by
          rw [show (1 : Int32) = nI 1 from rfl, nI_eq (by omega) (by omega)] at q
          exact q
        have hPS : iv_P S n := iv_Pof (h1 6 (by decide) (by decide) (by decide)) (h1 7 (by decide) (by decide) (by decide)) (h1 8 (by decide) (by decide) (by decide)) (h1 9 (by decide) (by decide) (by decide)) (h1 24 (by decide) (by decide) (by decide)) hP
        have est : pt_st S = pt_st Q := by
          funext v i
          unfold pt_st
          rw [h1 6 (by decide) (by decide) (by decide), h1 7 (by decide) (by decide) (by decide)]
        refine pt_set (by omega) (hPS (p / 2) (by omega)).1 (fun b hb v49 q49 => go _ (fun v hv => ?_))
        have := (hf v (p / 2) hv (by omega)).2
        rw [show 2 * (p / 2) + 1 = p by omega] at this
        unfold lv_T lv_L
        rw [q49, zb_or, hb v hv, est, q32, this, if_neg (by omega), decide_eq_true e1, Bool.true_and]
/-- what find leaves -/
theorem ps_find (hn : n ≤ 64) (e1 : S 0 1 = nI n) (hP : iv_P S n) (hin : pt_in S n n) (hK : ∀ S' : rb_S, (∀ g : Nat, g ≠ 0 → g ≠ 11 → g ≠ 12 → g ≠ 13 → S' g = S g) → (∀ j : Nat, j ≠ 4 → S' 0 j = S 0 j) → S' 0 4 = nI (2 * n) → ps_fi S S' n → (∀ v : Nat, v < 16 → S' 12 v = sf (lv_T S n v) (2 * n) ∧ S' 13 v = sl (lv_T S n v) (2 * n)) → K0 S') : sp_find_p_0 K0 S := by
  intro S7 q7
  have e2 : (2 * S 0 1 : Int32) = nI (2 * n) := by rw [e1, show (2 : Int32) = nI 2 from rfl, pk_mul]
  rw [e2] at q7
  have a1 : S7 0 1 = nI n := by subst q7; exact e1
  have a4 : S7 0 4 = nI (2 * n) := by subst q7; rfl
  have ag : ∀ g : Nat, g ≠ 0 → S7 g = S g := by
    intro g hg
    rw [q7, ru_g hg]
  have p1 : pt_tg S7 = pt_tg S := by subst q7; rfl
  have pA : lv_A S7 = lv_A S := by subst q7; rfl
  have pB : lv_B S7 = lv_B S := by subst q7; rfl
  have pT : lv_T S7 = lv_T S := by subst q7; rfl
  have hP7 : iv_P S7 n := by subst q7; exact hP
  have hi7 : pt_in S7 n n := by
    unfold pt_in
    rw [p1]
    exact hin
  refine pf_fill (by decide) (fun S15 f15 z15 => ⟨n + 1 + 1, ps_find22 (Q := S7) hn a1 a4 hP7 hi7 (fun T hT hfi x2 x3 => ?_) (n + 1) 0 1 S15 (by omega) f15 (fun v i hv hi q => ?_) (fun v i hv hi q => ?_) (fun q => absurd q (by decide)) (fun q => absurd q (by omega))⟩)
  · refine pf_fill (by decide) (fun U1 f1 z1 => pf_fill (by decide) (fun U2 f2 z2 => ⟨2 * n + 1, ms_meas18 (Q := S7) (S0 := T) hn a4 hP7 (fun S' h1 h2 h3 => ?_) hfi (2 * n) 0 U2 (by omega) (fun g g1 g2 g3 => ?_) ?_ (fun v hv => ⟨?_, ?_⟩)⟩))
    · refine hK S' (fun g g0 g1 g2 g3 => ?_) (fun j hj => ?_) ?_ (fun v i hv hi => ?_) (fun v hv => ?_)
      · rw [h1 g g1 g2 g3, ag g g0]
      · rw [h1 0 (by decide) (by decide) (by decide), q7, ru_j hj]
      · rw [h1 0 (by decide) (by decide) (by decide), a4]
      · rw [h2, ← pA, ← pB]
        exact hfi v i hv hi
      · rw [← pT]
        exact h3 v hv
    · rw [f2 g g3, f1 g g2, hT g g1]
    · rw [f2 11 (by decide), f1 11 (by decide)]
    · rw [f2 12 (by decide), z1 v hv]
      rfl
    · rw [z2 v hv]
      rfl
  · rw [z15 _ (by omega), zb_0] at q
    exact absurd q (by decide)
  · exact absurd q (by simp [lv_D, lm_D])
end ME
