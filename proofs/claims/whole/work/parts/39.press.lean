/-! ===== pressure ===== -/
section PR
variable {G : Int32 → Int32 → rb_S → Prop} {S : rb_S} {c : Nat} {x y z t : Int32}
def pr_cnt (P : Nat → Bool) : Nat → Nat
  | 0 => 0
  | m + 1 => pr_cnt P m + (if P m then 1 else 0)
theorem pr_le (P : Nat → Bool) : ∀ m : Nat, pr_cnt P m ≤ m
  | 0 => Nat.le_refl 0
  | m + 1 => by
    have := pr_le P m
    show pr_cnt P m + (if P m then 1 else 0) ≤ m + 1
    by_cases h : P m
    · rw [if_pos h]; omega
    · rw [if_neg h]; omega
def pr_mx (Q : Nat → Nat → Bool) : Nat → Nat
  | 0 => 0
  | m + 1 => if pr_mx Q m < pr_cnt (Q m) 16 then pr_cnt (Q m) 16 else pr_mx Q m
theorem pr_mxle (Q : Nat → Nat → Bool) : ∀ m : Nat, pr_mx Q m ≤ 16
  | 0 => Nat.zero_le _
  | m + 1 => by
    have := pr_mxle Q m
    have := pr_le (Q m) 16
    show (if pr_mx Q m < pr_cnt (Q m) 16 then pr_cnt (Q m) 16 else pr_mx Q m) ≤ 16
    by_cases h : pr_mx Q m < pr_cnt (Q m) 16
    · rw [if_pos h]; omega
    · rw [if_neg h]; omega
/-- the spans that cover a point -/
def pr_Q (S : rb_S) (pt v : Nat) : Bool := decide (¬ nI pt < S 12 v ∧ ¬ S 13 v < nI pt)
theorem pr_span4 {K : Int32 → rb_S → Prop} {pt : Nat} {P : Nat → Bool} (hP : ∀ v : Nat, v < 16 → P v = pr_Q S pt v) (h : K (nI (pr_cnt P 16)) S) : ∀ (m i : Nat), i + m = 16 → sp_spanning_p_4 K (m + 1) (nI pt) (nI (pr_cnt P i)) (nI i) S := by
  intro m
  induction m with
  | zero =>
    intro i hi
    have : i = 16 := by omega
    subst this
    exact ⟨fun _ => h, fun q => absurd (by decide) q⟩
  | succ m ih =>
    intro i hi
    have ih' := ih (i + 1) (by omega)
    have hb := hP i (by omega)
    have hin : vp_in (nI i) 16 := vp_in_nI (by omega) (by decide)
    have hc : pr_cnt P (i + 1) = pr_cnt P i + (if P i then 1 else 0) := rfl
    refine ⟨fun q => ?_, fun _ => ⟨hin, ?_⟩⟩
    · rw [show (16 : Int32) = nI 16 from rfl, nI_leI (by omega) (by omega)] at q
      omega
    · rw [nI_clamp (by omega)]
      refine ⟨fun q v33 q33 => ?_, fun q => ⟨hin, fun q' v33 q33 => ?_, fun q' v30 q30 v33 q33 => ?_⟩⟩
      · have : P i = false := by
          rw [hb]
          exact decide_eq_false (fun w => w.1 q)
        rw [← nI_succ] at q33
        have hc' : pr_cnt P (i + 1) = pr_cnt P i := by rw [hc, this]; rfl
        rw [q33, ← hc']
        exact ih'
      · have : P i = false := by
          rw [hb]
          exact decide_eq_false (fun w => w.2 q')
        rw [← nI_succ] at q33
        have hc' : pr_cnt P (i + 1) = pr_cnt P i := by rw [hc, this]; rfl
        rw [q33, ← hc']
        exact ih'
      · have : P i = true := by
          rw [hb]
          exact decide_eq_true ⟨q, q'⟩
        rw [← nI_succ] at q33 q30
        rw [this, if_pos rfl] at hc
        rw [q33, q30, ← hc]
        exact ih'
theorem pr_most4 {K : Int32 → rb_S → Prop} {n : Nat} {Q : Nat → Nat → Bool} (hn : n ≤ 64) (hS : S 0 4 = nI (2 * n)) (hQ : ∀ pt v : Nat, v < 16 → Q pt v = pr_Q S pt v) (h : K (nI (pr_mx Q (2 * n))) S) : ∀ (m i : Nat), i + m = 2 * n → sp_mostAtOnce_p_4 K (m + 1) (nI (pr_mx Q i)) (nI i) S := by
  intro m
  induction m with
  | zero =>
    intro i hi
    have : i = 2 * n := by omega
    subst this
    refine ⟨fun _ => h, fun q => absurd ?_ q⟩
    rw [hS, nI_leI (by omega) (by omega)]
    exact Nat.le_refl _
  | succ m ih =>
    intro i hi
    have ih' := ih (i + 1) (by omega)
    refine ⟨fun q => ?_, fun _ => ⟨17, pr_span4 (P := Q i) (hQ i) ?_ 16 0 (by omega)⟩⟩
    · rw [hS, nI_leI (by omega) (by omega)] at q
      omega
    · intro v21 q21 v22 q22
      have b1 := pr_mxle Q i
      have b2 := pr_le (Q i) 16
      have hm : pr_mx Q (i + 1) = if pr_mx Q i < pr_cnt (Q i) 16 then pr_cnt (Q i) 16 else pr_mx Q i := rfl
      have : v21 = nI (pr_mx Q (i + 1)) := by
        rw [q21, hm]
        by_cases e : pr_mx Q i < pr_cnt (Q i) 16
        · rw [if_pos e, if_pos ((nI_ltI (by omega) (by omega)).mpr e)]
        · rw [if_neg e, if_neg (fun w => e ((nI_ltI (by omega) (by omega)).mp w))]
      rw [← nI_succ] at q22
      rw [this, q22]
      exact ih'
theorem pr_mo33 {K : Int32 → rb_S → Prop} {B : Int32 → Int32 → rb_S → Prop} {pt : Nat} {P : Nat → Bool} {x1 : Int32} (hP : ∀ v : Nat, v < 16 → (P v = true ↔ ¬ S 29 v < 0 ∧ ¬ nI pt < S 29 v ∧ ¬ S 30 v < nI pt)) (h : ∀ x4, mo_pressure_p_86 K B x1 (nI pt) (nI (pr_cnt P 16)) x4 S) : ∀ (m i : Nat), i + m = 16 → mo_pressure_p_33 K B (m + 1) x1 (nI pt) (nI (pr_cnt P i)) (nI i) S := by
  intro m
  induction m with
  | zero =>
    intro i hi
    have : i = 16 := by omega
    subst this
    exact ⟨fun _ => h _, fun q => absurd (by decide) q⟩
  | succ m ih =>
    intro i hi
    have ih' := ih (i + 1) (by omega)
    have hb := hP i (by omega)
    have hin : vp_in (nI i) 16 := vp_in_nI (by omega) (by decide)
    have hc : pr_cnt P (i + 1) = pr_cnt P i + (if P i then 1 else 0) := rfl
    have no : P i = false → ∀ v79 : Int32, v79 = nI (pr_cnt P i) + 0 → ∀ v80 : Int32, v80 = nI i + 1 → mo_pressure_p_33 K B (m + 1) x1 (nI pt) v79 v80 S := by
      intro e v79 q79 v80 q80
      rw [e, if_neg (by decide)] at hc
      rw [← nI_succ] at q80
      rw [show (0 : Int32) = nI 0 from rfl, nI_add, ← hc] at q79
      rw [q79, q80]
      exact ih'
    refine ⟨fun q => ?_, fun _ => ⟨hin, ?_⟩⟩
    · rw [show (16 : Int32) = nI 16 from rfl, nI_leI (by omega) (by omega)] at q
      omega
    · rw [nI_clamp (by omega)]
      refine ⟨fun q => no ?_, fun q => ⟨hin, fun q' => no ?_, fun q' => ⟨hin, fun q'' => no ?_, fun q'' v79 q79 v80 q80 => ?_⟩⟩⟩
      · exact Bool.eq_false_iff.mpr (fun w => (hb.mp w).1 q)
      · exact Bool.eq_false_iff.mpr (fun w => (hb.mp w).2.1 q')
      · exact Bool.eq_false_iff.mpr (fun w => (hb.mp w).2.2 q'')
      · rw [hb.mpr ⟨q, q', q''⟩, if_pos rfl] at hc
        rw [← nI_succ] at q79 q80
        rw [q79, q80, ← hc]
        exact ih'
theorem pr_mo18 {K : Int32 → rb_S → Prop} {n : Nat} {Q : Nat → Nat → Bool} (hn : n ≤ 64) (hS : S 1 1 = nI n) (hQ : ∀ pt v : Nat, pt < 2 * n → v < 16 → (Q pt v = true ↔ ¬ S 29 v < 0 ∧ ¬ nI pt < S 29 v ∧ ¬ S 30 v < nI pt)) (h : K (nI (pr_mx Q (2 * n))) S) : ∀ (m i : Nat), i + m = 2 * n → mo_pressure_p_18 K (m + 1) (nI (pr_mx Q i)) (nI i) S := by
  have h2 : (2 * S 1 1 : Int32) = nI (2 * n) := by rw [hS, show (2 : Int32) = nI 2 from rfl, pk_mul]
  intro m
  induction m with
  | zero =>
    intro i hi
    have : i = 2 * n := by omega
    subst this
    refine ⟨fun _ => h, fun q => absurd ?_ q⟩
    rw [h2, nI_leI (by omega) (by omega)]
    exact Nat.le_refl _
  | succ m ih =>
    intro i hi
    have ih' := ih (i + 1) (by omega)
    refine ⟨fun q => ?_, fun _ => ⟨17, pr_mo33 (P := Q i) (hQ i · (by omega)) ?_ 16 0 (by omega)⟩⟩
    · rw [h2, nI_leI (by omega) (by omega)] at q
      omega
    · intro x4
      have b1 := pr_mxle Q i
      have b2 := pr_le (Q i) 16
      have hm : pr_mx Q (i + 1) = if pr_mx Q i < pr_cnt (Q i) 16 then pr_cnt (Q i) 16 else pr_mx Q i := rfl
      refine ⟨fun e v97 q97 => ?_, fun e v97 q97 => ?_⟩
      · rw [nI_leI (by omega) (by omega)] at e
        rw [if_neg (by omega)] at hm
        rw [← nI_succ] at q97
        rw [q97, ← hm]
        exact ih'
      · rw [nI_leI (by omega) (by omega)] at e
        rw [if_pos (by omega)] at hm
        rw [← nI_succ] at q97
        rw [q97, ← hm]
        exact ih'
theorem pr_eq {n pt v : Nat} (hn : n ≤ 64) (hpt : pt < 2 * n) (h : iv_V S n v) : pr_Q S pt v = true ↔ ¬ S 29 v < 0 ∧ ¬ nI pt < S 29 v ∧ ¬ S 30 v < nI pt := by
  obtain ⟨h1, h2, -, h3, -⟩ := h
  rw [← h1, ← h2]
  unfold pr_Q
  rw [decide_eq_true_iff]
  rcases h3 with ⟨a, b⟩ | ⟨a, b, hab, hb, ea, eb⟩
  · rw [a, b]
    constructor
    · intro q
      have : (-1 : Int32) < nI pt := by
        rw [Int32.lt_iff_toInt_lt, nI_toInt (by omega)]
        have : (-1 : Int32).toInt = -1 := rfl
        omega
      exact absurd this q.2
    · intro q
      exact absurd (by decide) q.1
  · rw [ea, eb]
    constructor
    · intro q
      refine ⟨?_, q⟩
      rw [show (0 : Int32) = nI 0 from rfl, nI_ltI (by omega) (by omega)]
      omega
    · exact fun q => q.2
theorem pp_pressure (h : iv S c) (hG : ∀ (r : Int32) (S2 : rb_S), iv S2 (c + 1) → G r r S2) : rm_pressure_p_0 (fun r S1 => mo_pressure_p_0 (fun r' S2 => G r r' S2) S1) S := by
  have hb := iv_b h
  have fin : ∀ r : Int32, G r r (rb_u S 1 0 0) := fun r => hG r _ (iv_same h (iv_zu0 _ _))
  refine ⟨fun e => ?_, fun e => ?_⟩
  · intro S2 q2
    subst q2
    exact ⟨fun q => absurd (show S 1 3 = 0 from hb.trans e) q, fun _ => fin _⟩
  · obtain ⟨n, hn, e1, e2, e3, -, hC, hR⟩ := iv_built h e
    refine ⟨2 * n + 1, pr_most4 hn hC.1 (Q := pr_Q S) (fun _ _ _ => rfl) ?_ (2 * n) 0 (by omega)⟩
    intro S2 q2
    refine ⟨fun _ => ⟨2 * n + 1, pr_mo18 (Q := pr_Q S) hn (by subst q2; exact e2) (fun pt v hpt hv => ?_) (by subst q2; exact fin _) (2 * n) 0 (by omega)⟩, fun q => absurd (by subst q2; exact hb.symm.trans q) e⟩
    subst q2
    exact pr_eq hn hpt (hC.2.2.2.2 v hv)
end PR
