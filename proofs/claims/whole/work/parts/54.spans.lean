/-! ===== the reference's spans ===== -/
section SN
variable {S A Q S0 : rb_S} {x y z t : Int32} {K : Int32 → rb_S → Prop} {K0 : rb_S → Prop} {i n v p0 : Nat}
theorem ml_liv2 (hn : n ≤ 64) (e1 : Q 1 1 = nI n) (hP : iv_P Q n) (hin : pt_in Q n n) (hp : p0 < 2 * n) (hK : ∀ (r : Int32) (S' : rb_S), (∀ g : Nat, g ≠ 1 → g ≠ 27 → g ≠ 28 → S' g = Q g) → (∀ j : Nat, j ≠ 4 → S' 1 j = Q 1 j) → (r = 1 ∧ lv_L Q n v p0 = true ∨ r = 0 ∧ lv_L Q n v p0 = false) → K r S') : ∀ (m q : Nat) (S : rb_S), q + m = 2 * n → (∀ g : Nat, g ≠ 27 → S g = Q g) → (∀ q' : Nat, q' < q → S 27 q' = 0) → mo_isLiving_p_2 K (m + 1) (nI v) (nI p0) (nI q) S := by
  intro m
  induction m with
  | zero =>
    intro q S hq f z
    have : q = 2 * n := by omega
    subst this
    have e2 : (2 * S 1 1 : Int32) = nI (2 * n) := by rw [f 1 (by decide), e1, show (2 : Int32) = nI 2 from rfl, pk_mul]
    refine ⟨fun _ => ?_, fun c => absurd ?_ c⟩
    · intro S27 q27
      have d : di Q n v p0 (fun _ => False) (4 * n) S27 := by
        have g27 : ∀ q : Nat, q < 2 * n → S27 27 q = 0 := by
          intro q hq
          rw [q27, ru_g (by decide)]
          exact z q hq
        have := pr_le (di_un S27) (2 * n)
        refine ⟨fun g g1 g2 g3 => ?_, fun j hj => ?_, 0, ?_, by omega, by omega, fun k hk => absurd hk (by omega), fun q hq w => absurd (g27 q hq) w, fun q hq w => absurd (g27 q hq) w⟩
        · rw [q27, ru_g g1, f g g2]
        · rw [q27, ru_j hj, f 1 (by decide)]
        · rw [q27, ru_s]; rfl
      exact di_come hn e1 d (by omega) (fun _ w => w) (fun T d' _ m' => ⟨4 * n + 1, di_loop hn e1 hP hin hp hK (4 * n) _ T d' (m' hp)⟩)
    · rw [e2, nI_leI (by omega) (by omega)]
      exact Nat.le_refl _
  | succ m ih =>
    intro q S hq f z
    have e2 : (2 * S 1 1 : Int32) = nI (2 * n) := by rw [f 1 (by decide), e1, show (2 : Int32) = nI 2 from rfl, pk_mul]
    refine ⟨fun c => ?_, fun _ => ⟨vp_in_nI (by omega) (by decide), fun S18 q18 v19 q19 => ?_⟩⟩
    · rw [e2, nI_leI (by omega) (by omega)] at c
      omega
    · rw [← nI_succ] at q19
      subst q19
      rw [nI_clamp (by omega)] at q18
      refine ih (q + 1) S18 (by omega) (fun g hg => by rw [q18, ru_g hg, f g hg]) (fun q' hq' => ?_)
      by_cases e : q' = q
      · rw [q18, e, ru_s]; decide
      · rw [q18, ru_j e]
        exact z q' (by omega)
theorem ml_living (hn : n ≤ 64) (e1 : S 1 1 = nI n) (hP : iv_P S n) (hin : pt_in S n n) (hp : p0 < 2 * n) (hK : ∀ (r : Int32) (S' : rb_S), (∀ g : Nat, g ≠ 1 → g ≠ 27 → g ≠ 28 → S' g = S g) → (∀ j : Nat, j ≠ 4 → S' 1 j = S 1 j) → (r = 1 ∧ lv_L S n v p0 = true ∨ r = 0 ∧ lv_L S n v p0 = false) → K r S') : mo_isLiving_p_0 K (nI v) (nI p0) S :=
  ⟨2 * n + 1, ml_liv2 hn e1 hP hin hp hK (2 * n) 0 S (by omega) (fun _ _ => rfl) (fun q hq => absurd hq (by omega))⟩
theorem sf_c (T : Nat → Bool) : ∀ m : Nat, sf T m = -1 ∨ ∃ k : Nat, k < m ∧ sf T m = nI k
  | 0 => Or.inl rfl
  | m + 1 => by
    show (if T m = true then (if sf T m = -1 then nI m else sf T m) else sf T m) = -1 ∨ ∃ k : Nat, k < m + 1 ∧ (if T m = true then (if sf T m = -1 then nI m else sf T m) else sf T m) = nI k
    have ih := sf_c T m
    have ih' : sf T m = -1 ∨ ∃ k : Nat, k < m + 1 ∧ sf T m = nI k := ih.imp (fun w => w) (fun ⟨k, hk, e⟩ => ⟨k, by omega, e⟩)
    by_cases c : T m = true
    · rw [if_pos c]
      by_cases d : sf T m = -1
      · rw [if_pos d]
        exact Or.inr ⟨m, by omega, rfl⟩
      · rw [if_neg d]
        exact ih'
    · rw [if_neg c]
      exact ih'
/-- how far the reference's spans are: values below v, and v's points below p -/
def ms_at (Q S : rb_S) (n v p : Nat) : Prop := (∀ g : Nat, g ≠ 1 → (g < 26 ∨ 30 < g) → S g = Q g) ∧ (∀ j : Nat, j ≠ 4 → S 1 j = Q 1 j) ∧ (∀ u q : Nat, u < 16 → q < 2 * n → (u < v ∨ u = v ∧ q < p) → S 26 (128 * u + q) = if lv_L Q n u q = true then 1 else 0) ∧ (∀ u : Nat, u < v → S 29 u = sf (lv_T Q n u) (2 * n) ∧ S 30 u = sl (lv_T Q n u) (2 * n))
theorem lv_Q (h6 : S 6 = Q 6) (h7 : S 7 = Q 7) (h8 : S 8 = Q 8) (h9 : S 9 = Q 9) : lv_L S = lv_L Q ∧ lv_T S = lv_T Q ∧ pt_st S = pt_st Q ∧ pt_tg S = pt_tg Q := by
  have a : pt_tg S = pt_tg Q := by funext i; unfold pt_tg; rw [h6, h7, h9]
  have b : pt_sc S = pt_sc Q := by funext i j; unfold pt_sc; rw [h6, a]
  have c : pt_rd S = pt_rd Q := by funext w i; unfold pt_rd; rw [h6, h7, h8, h9]
  have d : pt_st S = pt_st Q := by funext w i; unfold pt_st; rw [h6, h7]
  have e : lv_L S = lv_L Q := by funext n w p; unfold lv_L lv_A lv_B; rw [b, c, d]
  refine ⟨e, ?_, d, a⟩
  funext n w p
  unfold lv_T
  rw [e, d]
theorem ms_24 {B : Int32 → rb_S → Prop} (hn : n ≤ 64) (e1 : Q 1 1 = nI n) (hP : iv_P Q n) (hin : pt_in Q n n) (hv : v < 16) (hB : ∀ S' : rb_S, ms_at Q S' n (v + 1) 0 → B (nI (v + 1)) S') : ∀ (m p : Nat) (S : rb_S), p + m = 2 * n → ms_at Q S n v p → S 29 v = sf (lv_T Q n v) p → S 30 v = sl (lv_T Q n v) p → mo_spans_p_24 K0 B (m + 1) (nI v) (nI p) S := by
  intro m
  induction m with
  | zero =>
    intro p S hp h e29 e30
    have : p = 2 * n := by omega
    subst this
    have e2 : (2 * S 1 1 : Int32) = nI (2 * n) := by rw [h.2.1 1 (by decide), e1, show (2 : Int32) = nI 2 from rfl, pk_mul]
    refine ⟨fun _ v126 q126 => ?_, fun c => absurd ?_ c⟩
    · rw [← nI_succ] at q126
      subst q126
      refine hB S ⟨h.1, h.2.1, fun u q hu hq hc => ?_, fun u hu => ?_⟩
      · exact h.2.2.1 u q hu hq (by omega)
      · by_cases c : u = v
        · rw [c]; exact ⟨e29, e30⟩
        · exact h.2.2.2 u (by omega)
    · rw [e2, nI_leI (by omega) (by omega)]
      exact Nat.le_refl _
  | succ m ih =>
    intro p S hp h e29 e30
    have e2 : (2 * S 1 1 : Int32) = nI (2 * n) := by rw [h.2.1 1 (by decide), e1, show (2 : Int32) = nI 2 from rfl, pk_mul]
    have g6 : S 6 = Q 6 := h.1 6 (by decide) (by decide)
    have g7 : S 7 = Q 7 := h.1 7 (by decide) (by decide)
    have g8 : S 8 = Q 8 := h.1 8 (by decide) (by decide)
    have g9 : S 9 = Q 9 := h.1 9 (by decide) (by decide)
    have g24 : S 24 = Q 24 := h.1 24 (by decide) (by decide)
    obtain ⟨eL, eT, -, eg⟩ := lv_Q g6 g7 g8 g9
    have hix : (128 * nI v + nI p : Int32) = nI (128 * v + p) := by rw [show (128 : Int32) = nI 128 from rfl, pk_mul, nI_add]
    refine ⟨fun c => ?_, fun _ => ml_living hn (by rw [h.2.1 1 (by decide), e1]) (iv_Pof g6 g7 g8 g9 g24 hP) (by unfold pt_in; rw [eg]; exact hin) (by omega) (fun r U fU jU hr => ?_)⟩
    · rw [e2, nI_leI (by omega) (by omega)] at c
      omega
    · rw [eL] at hr
      rw [hix, nI_clamp (by omega)]
      refine ⟨vp_in_nI (by omega) (by decide), fun S51 q51 => ⟨vp_in_nI (by omega) (by decide), ?_⟩⟩
      have en : (vp_nar .boolean r : Int32) = r := by
        rcases hr with ⟨rfl, _⟩ | ⟨rfl, _⟩
        · decide
        · decide
      rw [en] at q51
      have w26 : S51 26 (128 * v + p) = if lv_L Q n v p = true then 1 else 0 := by
        rw [q51, ru_s]
        rcases hr with ⟨rfl, w⟩ | ⟨rfl, w⟩
        · rw [if_pos w]
        · rw [w]; rfl
      have w29 : S51 29 = S 29 := by rw [q51, ru_g (by decide), fU 29 (by decide) (by decide) (by decide)]
      have w30 : S51 30 = S 30 := by rw [q51, ru_g (by decide), fU 30 (by decide) (by decide) (by decide)]
      have at51 : ∀ T : rb_S, (∀ g : Nat, g ≠ 29 → g ≠ 30 → T g = S51 g) → (∀ u : Nat, u ≠ v → T 29 u = S51 29 u ∧ T 30 u = S51 30 u) → ms_at Q T n v (p + 1) := by
        intro T hT hu
        refine ⟨fun g g1 gg => ?_, fun j hj => ?_, fun u q hu hq hc => ?_, fun u hu' => ?_⟩
        · rw [hT g (by omega) (by omega), q51, ru_g (by omega), fU g g1 (by omega) (by omega), h.1 g g1 gg]
        · rw [hT 1 (by decide) (by decide), q51, ru_g (by decide), jU j hj, h.2.1 j hj]
        · rw [hT 26 (by decide) (by decide)]
          by_cases c : u = v ∧ q = p
          · rw [c.1, c.2]
            exact w26
          · rw [q51, ru_j (by omega), fU 26 (by decide) (by decide) (by decide)]
            exact h.2.2.1 u q hu hq (by omega)
        · rw [(hu u (by omega)).1, (hu u (by omega)).2, w29, w30]
          exact h.2.2.2 u hu'
      have no : lv_T Q n v p = false → mo_spans_p_120 K0 B (fun a0 a1 T => mo_spans_p_24 K0 B (m + 1) a0 a1 T) (nI v) (nI p) S51 := by
        intro ht v120 q120
        rw [← nI_succ] at q120
        subst q120
        refine ih (p + 1) S51 (by omega) (at51 S51 (fun _ _ _ => rfl) (fun _ _ => ⟨rfl, rfl⟩)) ?_ ?_
        · rw [w29, e29]
          show _ = if lv_T Q n v p = true then _ else _
          rw [ht]
          rfl
        · rw [w30, e30]
          show _ = if lv_T Q n v p = true then _ else _
          rw [ht]
          rfl
      have hinv : vp_in (nI v) 16 := vp_in_nI hv (by decide)
      have yes : lv_T Q n v p = true → mo_spans_p_88 K0 B (fun a0 a1 T => mo_spans_p_24 K0 B (m + 1) a0 a1 T) (nI v) (nI p) S51 := by
        intro ht
        have go : ∀ y0 : Int32, y0 = sf (lv_T Q n v) (p + 1) → mo_spans_p_112 K0 B (fun a0 a1 T => mo_spans_p_24 K0 B (m + 1) a0 a1 T) (nI v) (nI p) y0 (nI v) S51 := by
          intro y0 hy
          unfold mo_spans_p_112
          rw [nI_clamp (by omega)]
          refine ⟨hinv, fun S112 q112 => ⟨hinv, fun S119 q119 v120 q120 => ?_⟩⟩
          rw [← nI_succ] at q120
          subst q120
          refine ih (p + 1) S119 (by omega) (at51 S119 (fun g g1 g2 => by rw [q119, ru_g g2, q112, ru_g g1]) (fun u hu => ⟨?_, ?_⟩)) ?_ ?_
          · rw [q119, ru_g (by decide), q112, ru_j hu]
          · rw [q119, ru_j hu, q112, ru_g (by decide)]
          · rw [q119, ru_g (by decide), q112, ru_s, hy]
          · rw [q119, ru_s]
            show _ = if lv_T Q n v p = true then _ else _
            rw [if_pos ht]
        have es : sf (lv_T Q n v) (p + 1) = if sf (lv_T Q n v) p = -1 then nI p else sf (lv_T Q n v) p := by
          show (if lv_T Q n v p = true then _ else _) = _
          rw [if_pos ht]
        unfold mo_spans_p_88
        rw [nI_clamp (by omega), w29, e29]
        refine ⟨hinv, fun c => ⟨hinv, go _ ?_⟩, fun c => go _ ?_⟩
        · rw [es, if_neg]
          intro w
          rw [w] at c
          exact absurd c (by decide)
        · rw [es, if_pos]
          rcases sf_c (lv_T Q n v) p with w | ⟨k, hk, w⟩
          · exact w
          · exfalso
            rw [w, show (0 : Int32) = nI 0 from rfl, nI_leI (by omega) (by omega)] at c
            omega
      have hrm : (nI p : Int32) - nI p / 2 * 2 = nI (p % 2) := by
        rw [show (2 : Int32) = nI 2 from rfl]
        exact pk_rem (by omega) (by decide) (by decide)
      have hdv : (nI p : Int32) / 2 = nI (p / 2) := by
        rw [show (2 : Int32) = nI 2 from rfl]
        exact pk_div (by omega) (by decide) (by decide)
      rw [hrm, hdv, w26]
      refine ⟨fun c => yes ?_, fun c => ⟨fun d => no ?_, fun d => ?_⟩⟩
      · by_cases w : lv_L Q n v p = true
        · unfold lv_T
          rw [w, Bool.true_or]
        · rw [if_neg w] at c
          exact absurd rfl c
      · have lf : lv_L Q n v p = false := by
          by_cases w : lv_L Q n v p = true
          · rw [if_pos w] at c
            exact absurd c (by decide)
          · exact Bool.eq_false_iff.mpr w
        have o : ¬ p % 2 = 1 := fun w => d (by rw [w]; rfl)
        unfold lv_T
        rw [lf, decide_eq_false o]
        rfl
      · have lf : lv_L Q n v p = false := by
          by_cases w : lv_L Q n v p = true
          · rw [if_pos w] at c
            exact absurd c (by decide)
          · exact Bool.eq_false_iff.mpr w
        have o : p % 2 = 1 := by
          rw [show (1 : Int32) = nI 1 from rfl, nI_eq (by omega) (by omega)] at d
          exact d
        have k6 : S51 6 = Q 6 := by rw [q51, ru_g (by decide), fU 6 (by decide) (by decide) (by decide), g6]
        have k7 : S51 7 = Q 7 := by rw [q51, ru_g (by decide), fU 7 (by decide) (by decide) (by decide), g7]
        have k8 : S51 8 = Q 8 := by rw [q51, ru_g (by decide), fU 8 (by decide) (by decide) (by decide), g8]
        have k9 : S51 9 = Q 9 := by rw [q51, ru_g (by decide), fU 9 (by decide) (by decide) (by decide), g9]
        have k24 : S51 24 = Q 24 := by rw [q51, ru_g (by decide), fU 24 (by decide) (by decide) (by decide), g24]
        obtain ⟨-, -, est, -⟩ := lv_Q k6 k7 k8 k9
        obtain ⟨ok, c0, c1, c2, c3⟩ := hP (p / 2) (by omega)
        refine mr_set (by omega) (by rw [k6, k7, k8, k9]; exact ok) (by rw [k24, k6]; exact c0) (by rw [k24, k7]; exact c1) (fun w => ⟨fun _ => yes ?_, fun q => absurd q (by decide)⟩) (fun w => ⟨fun q => absurd rfl q, fun _ => no ?_⟩)
        · rw [est] at w
          unfold lv_T
          rw [w, decide_eq_true o, Bool.true_and, Bool.or_true]
        · rw [est] at w
          unfold lv_T
          rw [lf, Bool.eq_false_iff.mpr w, Bool.and_false]
          rfl
theorem ms_2 (hn : n ≤ 64) (e1 : Q 1 1 = nI n) (hP : iv_P Q n) (hin : pt_in Q n n) (hK : ∀ S' : rb_S, ms_at Q S' n 16 0 → K0 S') : ∀ (m v : Nat) (S : rb_S), v + m = 16 → ms_at Q S n v 0 → mo_spans_p_2 K0 (m + 1) (nI v) S := by
  intro m
  induction m with
  | zero =>
    intro v S hv h
    have : v = 16 := by omega
    subst this
    exact ⟨fun _ => hK S h, fun q => absurd (by decide) q⟩
  | succ m ih =>
    intro v S hv h
    have hinv : vp_in (nI v) 16 := vp_in_nI (by omega) (by decide)
    refine ⟨fun c => ?_, fun _ => ⟨hinv, fun S14 q14 => ⟨hinv, fun S21 q21 => ⟨2 * n + 1, ?_⟩⟩⟩⟩
    · rw [show (16 : Int32) = nI 16 from rfl, nI_leI (by omega) (by omega)] at c
      omega
    · rw [nI_clamp (by omega)] at q14 q21
      refine ms_24 (v := v) hn e1 hP hin (by omega) (fun T hT => ih (v + 1) T (by omega) hT) (2 * n) 0 S21 (by omega) ⟨fun g g1 gg => ?_, fun j hj => ?_, fun u q hu hq hc => ?_, fun u hu => ?_⟩ ?_ ?_
      · rw [q21, ru_g (by omega), q14, ru_g (by omega), h.1 g g1 gg]
      · rw [q21, ru_g (by decide), q14, ru_g (by decide), h.2.1 j hj]
      · rw [q21, ru_g (by decide), q14, ru_g (by decide)]
        exact h.2.2.1 u q hu hq hc
      · have a29 : S21 29 u = S 29 u := by rw [q21, ru_g (by decide), q14, ru_j (by omega)]
        have a30 : S21 30 u = S 30 u := by rw [q21, ru_j (by omega), q14, ru_g (by decide)]
        rw [a29, a30]
        exact h.2.2.2 u hu
      · rw [q21, ru_g (by decide), q14, ru_s]
        rfl
      · rw [q21, ru_s]
        rfl
/-- what the reference's spans leave -/
theorem ms_spans (hn : n ≤ 64) (e1 : S 1 1 = nI n) (hP : iv_P S n) (hin : pt_in S n n) (hK : ∀ S' : rb_S, ms_at S S' n 16 0 → K0 S') : mo_spans_p_0 K0 S :=
  ⟨17, ms_2 hn e1 hP hin hK 16 0 S (by omega) ⟨fun _ _ _ => rfl, fun _ _ => rfl, fun u q hu hq hc => absurd hc (by omega), fun u hu => absurd hu (by omega)⟩⟩
end SN
