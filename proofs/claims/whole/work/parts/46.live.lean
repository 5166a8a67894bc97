/-! ===== liveness, as a matter of numbers alone: rd i: instruction i reads the value, st i: sets it, sc i j: may go on at j; n instructions ===== -/
def lm_any : Nat → (Nat → Bool) → Bool
  | 0, _ => false
  | n + 1, f => lm_any n f || f n
theorem lm_any_iff (n : Nat) (f : Nat → Bool) : lm_any n f = true ↔ ∃ j, j < n ∧ f j = true := by
  induction n with
  | zero => simp [lm_any]
  | succ n ih =>
    simp only [lm_any, Bool.or_eq_true, ih]
    constructor
    · rintro (⟨j, h1, h2⟩ | h)
      · exact ⟨j, by omega, h2⟩
      · exact ⟨n, by omega, h⟩
    · rintro ⟨j, h1, h2⟩
      by_cases hj : j = n
      · subst hj; exact Or.inr h2
      · exact Or.inl ⟨j, by omega, h2⟩
/-- how many of the first n -/
def lm_cnt (f : Nat → Bool) : Nat → Nat
  | 0 => 0
  | n + 1 => lm_cnt f n + (if f n = true then 1 else 0)
theorem lm_cnt_le (f : Nat → Bool) (n : Nat) : lm_cnt f n ≤ n := by
  induction n with
  | zero => exact Nat.le_refl 0
  | succ n ih =>
    simp only [lm_cnt]
    split <;> omega
theorem lm_cnt_mono {f g : Nat → Bool} {n : Nat} (h : ∀ i, i < n → f i = true → g i = true) : lm_cnt f n ≤ lm_cnt g n := by
  induction n with
  | zero => exact Nat.le_refl 0
  | succ n ih =>
    have h1 := ih (fun i hi => h i (by omega))
    have h2 := h n (by omega)
    simp only [lm_cnt]
    by_cases hf : f n = true
    · rw [if_pos hf, if_pos (h2 hf)]; omega
    · rw [if_neg hf]; omega
theorem lm_cnt_lt {f g : Nat → Bool} {n : Nat} (h : ∀ i, i < n → f i = true → g i = true) (i : Nat) (hi : i < n) (hf : f i = false) (hg : g i = true) : lm_cnt f n < lm_cnt g n := by
  induction n with
  | zero => omega
  | succ n ih =>
    simp only [lm_cnt]
    by_cases hn : i = n
    · subst hn
      have h1 := lm_cnt_mono (n := i) (fun j hj => h j (by omega))
      rw [hf, hg]
      simp
      omega
    · have h1 := ih (fun j hj => h j (by omega)) (by omega)
      have h2 := h n (by omega)
      by_cases hf2 : f n = true
      · rw [if_pos hf2, if_pos (h2 hf2)]; omega
      · rw [if_neg hf2]; omega
section LM
variable (n : Nat) (rd st : Nat → Bool) (sc : Nat → Nat → Bool)
/-- instruction i's value lives ahead of it, seen k instructions far -/
def lm_D : Nat → Nat → Bool
  | 0, _ => false
  | k + 1, i => rd i || (!st i && lm_any n (fun j => sc i j && lm_D k j))
/-- one step of the equation -/
def lm_F (a : Nat → Bool) (i : Nat) : Bool := rd i || (!st i && lm_any n (fun j => sc i j && a j))
theorem lm_F_mono {a b : Nat → Bool} (h : ∀ j, j < n → a j = true → b j = true) (i : Nat) (hi : lm_F n rd st sc a i = true) : lm_F n rd st sc b i = true := by
  simp only [lm_F, Bool.or_eq_true, Bool.and_eq_true, lm_any_iff] at hi ⊢
  rcases hi with h1 | ⟨h1, j, h2, h3, h4⟩
  · exact Or.inl h1
  · exact Or.inr ⟨h1, j, h2, h3, h j h2 h4⟩
theorem lm_D_succ (k i : Nat) : lm_D n rd st sc (k + 1) i = lm_F n rd st sc (lm_D n rd st sc k) i := rfl
theorem lm_D_mono1 (k : Nat) : ∀ i, lm_D n rd st sc k i = true → lm_D n rd st sc (k + 1) i = true := by
  induction k with
  | zero => intro i h; simp [lm_D] at h
  | succ k ih =>
    intro i h
    rw [lm_D_succ] at h ⊢
    exact lm_F_mono n rd st sc (fun j _ => ih j) i h
theorem lm_D_mono {k k' : Nat} (h : k ≤ k') (i : Nat) (hi : lm_D n rd st sc k i = true) : lm_D n rd st sc k' i = true := by
  induction k' with
  | zero => have : k = 0 := by omega
            subst this; exact hi
  | succ k' ih =>
    by_cases hk : k = k' + 1
    · subst hk; exact hi
    · exact lm_D_mono1 n rd st sc k' i (ih (by omega))
/-- it lives: at some depth -/
def lm_L (i : Nat) : Prop := ∃ k, lm_D n rd st sc k i = true
/-- once a step changes nothing, none does -/
theorem lm_stable {k : Nat} (h : ∀ i, i < n → lm_D n rd st sc (k + 1) i = true → lm_D n rd st sc k i = true) : ∀ k' i, i < n → lm_D n rd st sc k' i = true → lm_D n rd st sc k i = true := by
  intro k'
  induction k' with
  | zero => intro i _ hi; simp [lm_D] at hi
  | succ k' ih =>
    intro i hn hi
    refine h i hn ?_
    rw [lm_D_succ] at hi ⊢
    exact lm_F_mono n rd st sc (fun j hj => ih j hj) i hi
/-- n steps are enough -/
theorem lm_enough (i : Nat) (hi : i < n) (h : lm_L n rd st sc i) : lm_D n rd st sc n i = true := by
  have key : ∀ k, (∃ k0, k0 < k ∧ ∀ i, i < n → lm_D n rd st sc (k0 + 1) i = true → lm_D n rd st sc k0 i = true) ∨ k ≤ lm_cnt (lm_D n rd st sc k) n := by
    intro k
    induction k with
    | zero => exact Or.inr (Nat.zero_le _)
    | succ k ih =>
      rcases ih with ⟨k0, h1, h2⟩ | h1
      · exact Or.inl ⟨k0, by omega, h2⟩
      · by_cases hs : ∀ i, i < n → lm_D n rd st sc (k + 1) i = true → lm_D n rd st sc k i = true
        · exact Or.inl ⟨k, by omega, hs⟩
        · refine Or.inr ?_
          have : ∃ i, i < n ∧ lm_D n rd st sc (k + 1) i = true ∧ ¬ lm_D n rd st sc k i = true := by
            apply Classical.byContradiction
            intro hc
            refine hs (fun i hi hd => ?_)
            apply Classical.byContradiction
            intro hd2
            exact hc ⟨i, hi, hd, hd2⟩
          obtain ⟨j, hj, hd1, hd2⟩ := this
          have := lm_cnt_lt (fun i _ => lm_D_mono1 n rd st sc k i) j hj (by simpa using hd2) hd1
          omega
  obtain ⟨k', hk'⟩ := h
  rcases key (n + 1) with ⟨k0, h1, h2⟩ | h1
  · exact lm_D_mono n rd st sc (by omega) i (lm_stable n rd st sc h2 k' i hi hk')
  · have := lm_cnt_le (lm_D n rd st sc (n + 1)) n
    omega
theorem lm_L_iff (i : Nat) (hi : i < n) : lm_L n rd st sc i ↔ lm_D n rd st sc n i = true := ⟨lm_enough n rd st sc i hi, fun h => ⟨n, h⟩⟩
/-- what lives, as a truth value -/
def lm_A (i : Nat) : Bool := lm_D n rd st sc n i
/-- it solves the equation -/
theorem lm_A_eq (i : Nat) (hi : i < n) : lm_A n rd st sc i = lm_F n rd st sc (lm_A n rd st sc) i := by
  have h1 : lm_A n rd st sc i = true → lm_F n rd st sc (lm_A n rd st sc) i = true := fun h => lm_D_mono1 n rd st sc n i h
  have h2 : lm_F n rd st sc (lm_A n rd st sc) i = true → lm_A n rd st sc i = true := fun h => lm_enough n rd st sc i hi ⟨n + 1, h⟩
  cases ha : lm_A n rd st sc i <;> cases hb : lm_F n rd st sc (lm_A n rd st sc) i <;> simp_all
/-- it is below every solution (of one side of the equation) -/
theorem lm_A_least {a : Nat → Bool} (h : ∀ i, i < n → lm_F n rd st sc a i = true → a i = true) : ∀ i, i < n → lm_A n rd st sc i = true → a i = true := by
  have key : ∀ k i, i < n → lm_D n rd st sc k i = true → a i = true := by
    intro k
    induction k with
    | zero => intro i _ hi; simp [lm_D] at hi
    | succ k ih =>
      intro i hn hi
      refine h i hn ?_
      rw [lm_D_succ] at hi
      exact lm_F_mono n rd st sc (fun j hj => ih j hj) i hi
  exact fun i hi h => key n i hi h
/-- what lives behind -/
def lm_B (i : Nat) : Bool := lm_any n (fun j => sc i j && lm_A n rd st sc j)
end LM
