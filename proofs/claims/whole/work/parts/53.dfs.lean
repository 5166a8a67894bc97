/-! ===== the reference: does it live ===== -/
section DF
variable {S A Q S0 : rb_S} {x y z t : Int32} {K : Int32 → rb_S → Prop} {K0 : rb_S → Prop} {i n v p0 μ : Nat} {X : Nat → Prop}
theorem pr_cntc {P P' : Nat → Bool} : ∀ m : Nat, (∀ q : Nat, q < m → P q = P' q) → pr_cnt P m = pr_cnt P' m
  | 0, _ => rfl
  | m + 1, h => by
    show pr_cnt P m + _ = pr_cnt P' m + _
    rw [pr_cntc m (fun q hq => h q (by omega)), h m (by omega)]
theorem pr_cntu {P P' : Nat → Bool} {q0 : Nat} (h1 : P q0 = true) (h2 : P' q0 = false) (h : ∀ q : Nat, q ≠ q0 → P' q = P q) : ∀ m : Nat, q0 < m → pr_cnt P' m + 1 = pr_cnt P m
  | 0, hq => absurd hq (by omega)
  | m + 1, hq => by
    show pr_cnt P' m + (if P' m then 1 else 0) + 1 = pr_cnt P m + (if P m then 1 else 0)
    by_cases e : q0 = m
    · subst e
      rw [h1, h2, pr_cntc (P := P') (P' := P) q0 (fun q hq => h q (by omega))]
      rfl
    · have := pr_cntu h1 h2 h m (by omega)
      rw [h m (fun q => e q.symm)]
      omega
def di_un (S : rb_S) (q : Nat) : Bool := decide (S 27 q = 0)
/-- its business is done -/
def di_Cl (Q S : rb_S) (n v q : Nat) : Prop := (q % 2 = 0 → ¬ pt_rd Q v (q / 2) = true ∧ (pt_st Q v (q / 2) = true ∨ ¬ S 27 (q + 1) = 0)) ∧ (q % 2 = 1 → ∀ j : Nat, j < n → pt_sc Q (q / 2) j = true → ¬ S 27 (2 * j) = 0)
def di (Q : rb_S) (n v p0 : Nat) (X : Nat → Prop) (μ : Nat) (S : rb_S) : Prop := (∀ g : Nat, g ≠ 1 → g ≠ 27 → g ≠ 28 → S g = Q g) ∧ (∀ j : Nat, j ≠ 4 → S 1 j = Q 1 j) ∧ ∃ l : Nat, S 1 4 = nI l ∧ l + pr_cnt (di_un S) (2 * n) ≤ 128 ∧ l + 2 * pr_cnt (di_un S) (2 * n) ≤ μ ∧ (∀ k : Nat, k < l → ∃ q : Nat, q < 2 * n ∧ S 28 k = nI q ∧ ¬ S 27 q = 0) ∧ (∀ q : Nat, q < 2 * n → ¬ S 27 q = 0 → lv_L Q n v q = true → lv_L Q n v p0 = true) ∧ ∀ q : Nat, q < 2 * n → ¬ S 27 q = 0 → X q ∨ (∃ k : Nat, k < l ∧ S 28 k = nI q) ∨ di_Cl Q S n v q
theorem di_Clm {S' : rb_S} {q : Nat} (hm : ∀ q' : Nat, ¬ S 27 q' = 0 → ¬ S' 27 q' = 0) (h : di_Cl Q S n v q) : di_Cl Q S' n v q :=
  ⟨fun e => ⟨(h.1 e).1, (h.1 e).2.imp (fun w => w) (hm _)⟩, fun e j hj hs => hm _ (h.2 e j hj hs)⟩
theorem di_come {q : Nat} (hn : n ≤ 64) (e1 : Q 1 1 = nI n) (h : di Q n v p0 X μ S) (hq : q ≤ 2 * n) (hs : q < 2 * n → lv_L Q n v q = true → lv_L Q n v p0 = true) (hK : ∀ S' : rb_S, di Q n v p0 X μ S' → (∀ q' : Nat, ¬ S 27 q' = 0 → ¬ S' 27 q' = 0) → (q < 2 * n → ¬ S' 27 q = 0) → K0 S') : mo_come_p_0 K0 (nI q) S := by
  have h' := h
  obtain ⟨f1, f2, l, el, b1, b2, st, so, cl⟩ := h
  have e2 : (2 * S 1 1 : Int32) = nI (2 * n) := by rw [f2 1 (by decide), e1, show (2 : Int32) = nI 2 from rfl, pk_mul]
  unfold mo_come_p_0
  rw [e2, nI_leI (by omega) (by omega), nI_clamp (by omega)]
  refine ⟨fun c => hK S h' (fun _ w => w) (fun w => absurd w (by omega)), fun c => ⟨vp_in_nI (by omega) (by decide), fun e => ⟨vp_in_nI (by omega) (by decide), fun S26 q26 => ?_⟩, fun e => hK S h' (fun _ w => w) (fun _ => e)⟩⟩
  have e26 : S26 1 4 = nI l := by rw [q26, ru_g (by decide)]; exact el
  have n1 : (vp_nar .boolean 1 : Int32) = 1 := by decide
  rw [n1] at q26
  rw [e26, nI_clamp (by omega)]
  refine ⟨vp_in_nI (by omega) (by decide), fun S36 q36 S44 q44 => ?_⟩
  have e36 : S36 1 4 = nI l := by rw [q36, ru_g (by decide)]; exact e26
  rw [e36, ← nI_succ] at q44
  have w27 : S44 27 = upd (S 27) q 1 := by subst q44 q36 q26; rfl
  have w28 : S44 28 = upd (S 28) l (nI q) := by subst q44 q36 q26; rfl
  have mo : ∀ q' : Nat, ¬ S 27 q' = 0 → ¬ S44 27 q' = 0 := by
    intro q' w
    rw [w27]
    by_cases c : q' = q
    · rw [c, up_s]; decide
    · rw [up_n c]; exact w
  have mq : ¬ S44 27 q = 0 := by rw [w27, up_s]; decide
  have cu := pr_cntu (P := di_un S) (P' := di_un S44) (q0 := q) (decide_eq_true e) (decide_eq_false mq) (fun q' hq' => by unfold di_un; rw [w27, up_n hq']) (2 * n) (by omega)
  refine hK S44 ⟨fun g g1 g2 g3 => ?_, fun j hj => ?_, l + 1, ?_, by omega, by omega, fun k hk => ?_, fun q' hq' w => ?_, fun q' hq' w => ?_⟩ mo (fun _ => mq)
  · rw [q44, ru_g g1, q36, ru_g g3, q26, ru_g g2, f1 g g1 g2 g3]
  · rw [q44, ru_j hj, q36, ru_g (by decide), q26, ru_g (by decide), f2 j hj]
  · rw [q44, ru_s]
  · by_cases c : k = l
    · exact ⟨q, by omega, by rw [w28, c, up_s], mq⟩
    · obtain ⟨q', hq', x1, x2⟩ := st k (by omega)
      exact ⟨q', hq', by rw [w28, up_n c, x1], mo q' x2⟩
  · by_cases c : q' = q
    · rw [c]; exact hs (by omega)
    · refine so q' hq' ?_
      rw [w27, up_n c] at w
      exact w
  · by_cases c : q' = q
    · exact Or.inr (Or.inl ⟨l, by omega, by rw [w28, up_s, c]⟩)
    · rw [w27, up_n c] at w
      rcases cl q' hq' w with y | ⟨k, hk, y⟩ | y
      · exact Or.inl y
      · exact Or.inr (Or.inl ⟨k, by omega, by rw [w28, up_n (by omega), y]⟩)
      · exact Or.inr (Or.inr (di_Clm mo y))
/-- an empty list: what was met doesn't live -/
theorem di_dead (hn : n ≤ 64) (hm : ∀ q : Nat, q < 2 * n → ¬ S 27 q = 0 → di_Cl Q S n v q) {q : Nat} (hq : q < 2 * n) (e : ¬ S 27 q = 0) : lv_L Q n v q = false := by
  have key : ∀ i : Nat, i < n → lv_A Q n v i = true → S 27 (2 * i) = 0 := by
    intro i hi ha
    have := lm_A_least n (pt_rd Q v) (pt_st Q v) (pt_sc Q) (a := fun i => lv_A Q n v i && di_un S (2 * i)) (fun j hj q => ?_) i hi ha
    · rw [Bool.and_eq_true] at this
      exact of_decide_eq_true this.2
    · have hA : lv_A Q n v j = true := by
        unfold lv_A
        rw [lm_A_eq n _ _ _ j hj]
        refine lm_F_mono n _ _ _ (fun k hk w => ?_) j q
        rw [Bool.and_eq_true] at w
        exact w.1
      show (lv_A Q n v j && di_un S (2 * j)) = true
      rw [Bool.and_eq_true]
      refine ⟨hA, ?_⟩
      by_cases c : S 27 (2 * j) = 0
      · exact decide_eq_true c
      · exfalso
        have c1 := (hm (2 * j) (by omega) c).1 (by omega)
        rw [show 2 * j / 2 = j by omega] at c1
        unfold lm_F at q
        rw [Bool.or_eq_true, Bool.and_eq_true, lm_any_iff] at q
        rcases q with q | ⟨q1, k, hk, q2⟩
        · exact c1.1 q
        · rcases c1.2 with w | w
          · rw [w] at q1
            exact absurd q1 (by decide)
          · have c2 := (hm (2 * j + 1) (by omega) w).2 (by omega) k hk
            rw [show (2 * j + 1) / 2 = j by omega] at c2
            rw [Bool.and_eq_true, Bool.and_eq_true] at q2
            exact c2 q2.1 (of_decide_eq_true q2.2.2)
  unfold lv_L
  by_cases c : q % 2 = 0
  · rw [if_pos c]
    rw [← Bool.not_eq_true]
    intro w
    have := key (q / 2) (by omega) w
    rw [show 2 * (q / 2) = q by omega] at this
    exact e this
  · rw [if_neg c, ← Bool.not_eq_true]
    intro w
    unfold lv_B lm_B at w
    rw [lm_any_iff] at w
    obtain ⟨j, hj, w⟩ := w
    rw [Bool.and_eq_true] at w
    exact (hm q hq e).2 (by omega) j hj w.1 (key j hj w.2)
theorem di_loop (hn : n ≤ 64) (e1 : Q 1 1 = nI n) (hP : iv_P Q n) (hin : pt_in Q n n) (hp : p0 < 2 * n) (hK : ∀ (r : Int32) (S' : rb_S), (∀ g : Nat, g ≠ 1 → g ≠ 27 → g ≠ 28 → S' g = Q g) → (∀ j : Nat, j ≠ 4 → S' 1 j = Q 1 j) → (r = 1 ∧ lv_L Q n v p0 = true ∨ r = 0 ∧ lv_L Q n v p0 = false) → K r S') : ∀ (μ : Nat) (x3 : Int32) (S : rb_S), di Q n v p0 (fun _ => False) μ S → ¬ S 27 p0 = 0 → mo_isLiving_p_35 K (μ + 1) (nI v) (nI p0) x3 S := by
  intro μ
  induction μ using Nat.strongRecOn with
  | _ μ ih =>
    intro x3 S h hm0
    have h' := h
    obtain ⟨f1, f2, l, el, b1, b2, st, so, cl⟩ := h
    refine ⟨fun q => ⟨pv_n0, hK 0 S f1 f2 (Or.inr ⟨rfl, ?_⟩)⟩, fun q S49 q49 => ?_⟩
    · rw [el, show (0 : Int32) = nI 0 from rfl, nI_leI (by omega) (by omega)] at q
      refine di_dead hn (fun q' hq' w => ?_) hp hm0
      rcases cl q' hq' w with y | ⟨k, hk, y⟩ | y
      · exact absurd y (fun w => w)
      · exact absurd hk (by omega)
      · exact y
    · rw [el, show (0 : Int32) = nI 0 from rfl, nI_leI (by omega) (by omega)] at q
      rw [el, show (1 : Int32) = nI 1 from rfl, pk_sub (by omega)] at q49
      have e49 : S49 1 4 = nI (l - 1) := by rw [q49, ru_s]
      rw [e49, nI_clamp (by omega)]
      refine ⟨vp_in_nI (by omega) (by decide), fun v61 q61 v65 q65 => ?_⟩
      obtain ⟨qq, hqq, x1, x2⟩ := st (l - 1) (by omega)
      have g27 : S49 27 = S 27 := by rw [q49, ru_g (by decide)]
      have g28 : S49 28 = S 28 := by rw [q49, ru_g (by decide)]
      rw [g28, x1] at q61
      subst q61
      have hr : (nI qq : Int32) - nI qq / 2 * 2 = nI (qq % 2) := by
        rw [show (2 : Int32) = nI 2 from rfl]
        exact pk_rem (by omega) (by decide) (by decide)
      have hd : (nI qq : Int32) / 2 = nI (qq / 2) := by
        rw [show (2 : Int32) = nI 2 from rfl]
        exact pk_div (by omega) (by decide) (by decide)
      rw [hr]
      rw [hd] at q65
      subst q65
      have eun : di_un S49 = di_un S := by
        funext w
        unfold di_un
        rw [g27]
      have d49 : di Q n v p0 (fun w => w = qq) (μ - 1) S49 := by
        refine ⟨fun g g1 g2 g3 => ?_, fun j hj => ?_, l - 1, e49, ?_, ?_, fun k hk => ?_, fun q' hq' w => ?_, fun q' hq' w => ?_⟩
        · rw [q49, ru_g g1, f1 g g1 g2 g3]
        · rw [q49, ru_j hj, f2 j hj]
        · rw [eun]; omega
        · rw [eun]; omega
        · obtain ⟨q', y1, y2, y3⟩ := st k (by omega)
          exact ⟨q', y1, by rw [g28]; exact y2, by rw [g27]; exact y3⟩
        · rw [g27] at w
          exact so q' hq' w
        · rw [g27] at w
          rcases cl q' hq' w with y | ⟨k, hk, y⟩ | y
          · exact absurd y (fun w => w)
          · by_cases c : k = l - 1
            · left
              rw [c, x1, nI_eq (by omega) (by omega)] at y
              exact y.symm
            · exact Or.inr (Or.inl ⟨k, by omega, by rw [g28]; exact y⟩)
          · refine Or.inr (Or.inr (di_Clm (fun q' w => ?_) y))
            rw [g27]
            exact w
      have mq49 : ¬ S49 27 qq = 0 := by rw [g27]; exact x2
      have m049 : ¬ S49 27 p0 = 0 := by rw [g27]; exact hm0
      have sq : lv_L Q n v qq = true → lv_L Q n v p0 = true := so qq hqq x2
      have hi : qq / 2 < n := by omega
      obtain ⟨ok, c0, c1, c2, c3⟩ := hP (qq / 2) hi
      -- going round again, once qq's business is done
      have again : ∀ (x3 : Int32) (T : rb_S), di Q n v p0 (fun w => w = qq) (μ - 1) T → ¬ T 27 p0 = 0 → di_Cl Q T n v qq → mo_isLiving_p_35 K (μ - 1 + 1) (nI v) (nI p0) x3 T := by
        intro x3 T hT h0 hc
        refine ih (μ - 1) (by omega) x3 T ?_ h0
        obtain ⟨f1, f2, l, el, b1, b2, st, so, cl⟩ := hT
        refine ⟨f1, f2, l, el, b1, b2, st, so, fun q' hq' w => ?_⟩
        rcases cl q' hq' w with y | y | y
        · rw [y]; exact Or.inr (Or.inr hc)
        · exact Or.inr (Or.inl y)
        · exact Or.inr (Or.inr y)
      rw [show μ - 1 + 1 = μ by omega] at again
      have hPS : ∀ T : rb_S, di Q n v p0 (fun w => w = qq) (μ - 1) T → T 6 = Q 6 ∧ T 7 = Q 7 ∧ T 8 = Q 8 ∧ T 9 = Q 9 ∧ T 24 = Q 24 := fun T hT => ⟨hT.1 6 (by decide) (by decide) (by decide), hT.1 7 (by decide) (by decide) (by decide), hT.1 8 (by decide) (by decide) (by decide), hT.1 9 (by decide) (by decide) (by decide), hT.1 24 (by decide) (by decide) (by decide)⟩
      obtain ⟨s6, s7, s8, s9, s24⟩ := hPS S49 d49
      have erd : pt_rd S49 = pt_rd Q := by funext a b; unfold pt_rd; rw [s6, s7, s8, s9]
      have est : pt_st S49 = pt_st Q := by funext a b; unfold pt_st; rw [s6, s7]
      refine ⟨fun odd => ?_, fun even => ?_⟩
      · -- behind an instruction
        have ho : qq % 2 = 1 := by
          by_cases c : qq % 2 = 1
          · exact c
          · exact absurd (show nI (qq % 2) = 0 by rw [show qq % 2 = 0 by omega]; rfl) odd
        have eL : lv_L Q n v qq = lv_B Q n v (qq / 2) := by
          unfold lv_L
          rw [if_neg (by omega)]
        have liv : ∀ j : Nat, j < n → pt_sc Q (qq / 2) j = true → lv_L Q n v (2 * j) = true → lv_L Q n v p0 = true := by
          intro j hj hs hl
          refine sq ?_
          rw [eL]
          unfold lv_B lm_B
          rw [lm_any_iff]
          refine ⟨j, hj, ?_⟩
          rw [Bool.and_eq_true]
          refine ⟨hs, ?_⟩
          unfold lv_L at hl
          rw [if_pos (by omega), show 2 * j / 2 = j by omega] at hl
          exact hl
        have j0 : (4 * nI (qq / 2) : Int32) = nI (4 * (qq / 2)) := by rw [show (4 : Int32) = nI 4 from rfl, pk_mul]
        rw [j0, nI_clamp (by omega), s24, c0]
        refine ⟨vp_in_nI (by omega) (by decide), fun v114 q114 => ?_⟩
        subst q114
        obtain ⟨t1, t2, t3⟩ := pt_tgs ok
        have mul2 : ∀ j : Nat, (2 * nI j : Int32) = nI (2 * j) := fun j => by rw [show (2 : Int32) = nI 2 from rfl, pk_mul]
        -- the second way on
        have k150 : ∀ T : rb_S, di Q n v p0 (fun w => w = qq) (μ - 1) T → ¬ T 27 p0 = 0 → (∀ j : Nat, j < n → pt_sc Q (qq / 2) j = true → (Q 6 (qq / 2) = 10 ∨ Q 6 (qq / 2) = 11) ∧ pt_tg Q (qq / 2) = nI j ∨ ¬ T 27 (2 * j) = 0) → mo_isLiving_p_150 K (fun a0 a1 a2 T => mo_isLiving_p_35 K μ a0 a1 a2 T) (nI v) (nI p0) (nI qq) (nI (qq / 2)) (Q 6 (qq / 2)) T := by
          intro T hT h0 hc
          have k164 : (Q 6 (qq / 2) = 10 ∨ Q 6 (qq / 2) = 11) → mo_isLiving_p_164 K (fun a0 a1 a2 T => mo_isLiving_p_35 K μ a0 a1 a2 T) (nI v) (nI p0) (nI qq) (nI (qq / 2)) (Q 6 (qq / 2)) T := by
            intro e
            have e9 := t2 e
            rcases pt_tgj hn hi ok hin with w | ⟨j, hj, w⟩
            · exfalso
              have o3 := ok.2.2.2.2
              rw [e9] at w
              rw [w] at o3
              rcases e with e | e
              · rw [e] at o3
                exact absurd (by decide) ((pv_f4 _).mp o3).1
              · rw [e] at o3
                exact absurd (by decide) ((pv_f4 _).mp o3).1
            · unfold mo_isLiving_p_164
              rw [j0, show (nI (4 * (qq / 2)) + 3 : Int32) = nI (4 * (qq / 2) + 3) by rw [show (3 : Int32) = nI 3 from rfl, nI_add], nI_clamp (by omega), (hPS T hT).2.2.2.2, c3, ← e9, w, mul2]
              refine ⟨vp_in_nI (by omega) (by decide), di_come hn e1 hT (by omega) (fun q => ?_) (fun T' d' m' q' => ?_)⟩
              · exact liv j (by omega) (decide_eq_true (Or.inr w))
              · refine again _ T' d' (m' p0 h0) ⟨fun c => absurd c (by omega), fun _ j' hj' hs' => ?_⟩
                rcases hc j' hj' hs' with ⟨_, y⟩ | y
                · rw [w, nI_eq (by omega) (by omega)] at y
                  rw [← y]
                  exact q' (by omega)
                · exact m' _ y
          refine ⟨fun e => k164 (Or.inl e), fun n10 => ⟨fun n11 => again _ T hT h0 ⟨fun c => absurd c (by omega), fun _ j hj hs => ?_⟩, fun e => k164 (Or.inr e)⟩⟩
          rcases hc j hj hs with ⟨y | y, _⟩ | y
          · exact absurd y n10
          · exact absurd y n11
          · exact y
        refine ⟨fun n9 => ?_, fun e => ?_⟩
        · rw [← nI_succ]
          refine di_come hn e1 d49 (by omega) (fun q => ?_) (fun T d' m' q' => k150 T d' (m' p0 m049) (fun j hj hs => ?_))
          · rw [show qq + 1 = 2 * (qq / 2 + 1) by omega]
            exact liv _ (by omega) (decide_eq_true (Or.inl ⟨n9, rfl⟩))
          · rcases of_decide_eq_true hs with ⟨_, y⟩ | y
            · right
              rw [y, show 2 * (qq / 2 + 1) = qq + 1 by omega]
              exact q' (by omega)
            · by_cases c : Q 6 (qq / 2) = 10 ∨ Q 6 (qq / 2) = 11
              · exact Or.inl ⟨c, y⟩
              · exfalso
                rw [t3 n9 (fun w => c (Or.inl w)) (fun w => c (Or.inr w))] at y
                have : (nI j).toInt = j := nI_toInt (by omega)
                rw [← y] at this
                have h1 : (-1 : Int32).toInt = -1 := rfl
                omega
        · have e9 := t1 e
          rcases pt_tgj hn hi ok hin with w | ⟨j, hj, w⟩
          · exfalso
            have o3 := ok.2.2.1
            rw [e9] at w
            rw [w, e] at o3
            exact absurd (by decide) ((pv_f4 _).mp o3).1
          · rw [← nI_succ, nI_clamp (by omega), c1, ← e9, w, mul2]
            refine ⟨vp_in_nI (by omega) (by decide), di_come hn e1 d49 (by omega) (fun q => ?_) (fun T d' m' q' => k150 T d' (m' p0 m049) (fun j' hj' hs' => ?_))⟩
            · exact liv j (by omega) (decide_eq_true (Or.inr w))
            · right
              rcases of_decide_eq_true hs' with ⟨y, _⟩ | y
              · exact absurd e y
              · rw [w, nI_eq (by omega) (by omega)] at y
                rw [← y]
                exact q' (by omega)
      · -- ahead of an instruction
        have he : qq % 2 = 0 := by
          rw [show (0 : Int32) = nI 0 from rfl, nI_eq (by omega) (by omega)] at even
          exact even
        have eL : lv_L Q n v qq = lv_A Q n v (qq / 2) := by
          unfold lv_L
          rw [if_pos he]
        have eA : lv_A Q n v (qq / 2) = (pt_rd Q v (qq / 2) || (!pt_st Q v (qq / 2) && lv_B Q n v (qq / 2))) := lm_A_eq n _ _ _ (qq / 2) hi
        refine mr_read (by omega) (by rw [s6, s7, s8, s9]; exact ok) (by rw [s24, s6]; exact c0) (by rw [s24, s7]; exact c1) (by rw [s24, s8]; exact c2) (by rw [s24, s9]; exact c3) (fun rd => ?_) (fun rd => ?_)
        · rw [erd] at rd
          refine ⟨fun q => absurd q (by decide), fun _ => ⟨pv_n1, hK 1 S49 d49.1 d49.2.1 (Or.inl ⟨rfl, sq ?_⟩)⟩⟩
          rw [eL, eA, rd, Bool.true_or]
        · rw [erd] at rd
          refine ⟨fun _ => mr_set (by omega) (by rw [s6, s7, s8, s9]; exact ok) (by rw [s24, s6]; exact c0) (by rw [s24, s7]; exact c1) (fun w => ?_) (fun w => ?_), fun q => absurd rfl q⟩
          · rw [est] at w
            exact ⟨fun _ => again _ S49 d49 m049 ⟨fun _ => ⟨rd, Or.inl w⟩, fun c => absurd c (by omega)⟩, fun q => absurd q (by decide)⟩
          · rw [est] at w
            refine ⟨fun q => absurd rfl q, fun _ => ?_⟩
            rw [← nI_succ]
            refine di_come hn e1 d49 (by omega) (fun q hl => sq ?_) (fun T d' m' q' => again _ T d' (m' p0 m049) ⟨fun _ => ⟨rd, Or.inr (q' (by omega))⟩, fun c => absurd c (by omega)⟩)
            have : lv_L Q n v (qq + 1) = lv_B Q n v (qq / 2) := by
              unfold lv_L
              rw [if_neg (by omega), show (qq + 1) / 2 = qq / 2 by omega]
            rw [this] at hl
            rw [eL, eA, hl, Bool.eq_false_iff.mpr w]
            simp
end DF
