/-! ===== the invariant between class and reference ===== -/
theorem ru_s (S : rb_S) (g j : Nat) (v : Int32) : rb_u S g j v g j = v := by simp [rb_u, upd]
theorem ru_g {S : rb_S} {g g' j : Nat} {v : Int32} (h : g' ≠ g) : rb_u S g j v g' = S g' := by simp [rb_u, h]
theorem ru_j {S : rb_S} {g j j' : Nat} {v : Int32} (h : j' ≠ j) : rb_u S g j v g j' = S g j' := by simp [rb_u, upd, h]
/-- the program: n right instructions, the same on both sides -/
def iv_P (S : rb_S) (n : Nat) : Prop := ∀ i : Nat, i < n → pv_ok (S 6 i) (S 7 i) (S 8 i) (S 9 i) ∧ S 24 (4 * i) = S 6 i ∧ S 24 (4 * i + 1) = S 7 i ∧ S 24 (4 * i + 2) = S 8 i ∧ S 24 (4 * i + 3) = S 9 i
/-- the inputs: a ring here, a row there -/
def iv_I (S : rb_S) (w hd : Nat) : Prop := S 0 2 = nI hd ∧ S 0 3 = nI w ∧ S 1 2 = nI w ∧ ∀ k : Nat, k < w → S 10 ((hd + k) % 32) = S 25 k
def iv_O (S : rb_S) : Prop := ∀ k : Nat, k < 16 → S 22 k = S 35 k
def iv_bit (x : Int32) (v : Nat) : Int32 := (x >>> (nI v &&& 31)) &&& 1
/-- a place: a register or a stack place -/
def iv_pl (x : Int32) : Prop := ∃ p : Nat, x = nI p ∧ (p < 8 ∨ 16 ≤ p ∧ p < 32)
def iv_op (S : rb_S) (r x : Int32) : Int32 := if r = 2 ∨ r = 3 then S 14 x.toNatClampNeg else x
/-- what was built of the program -/
def iv_T (S : rb_S) (n i : Nat) : Prop := (rb_rx (S 6 i).toNatClampNeg = 4 → ∃ j : Nat, j ≤ n ∧ S 7 i = nI j) ∧ (rb_rz (S 6 i).toNatClampNeg = 4 → ∃ j : Nat, j ≤ n ∧ S 9 i = nI j)
def iv_U (S : rb_S) (i : Nat) : Prop := ((rb_rx (S 6 i).toNatClampNeg = 2 ∨ rb_rx (S 6 i).toNatClampNeg = 3) → iv_pl (S 14 (S 7 i).toNatClampNeg)) ∧ (rb_ry (S 6 i).toNatClampNeg = 3 → iv_pl (S 14 (S 8 i).toNatClampNeg)) ∧ (rb_rz (S 6 i).toNatClampNeg = 3 → iv_pl (S 14 (S 9 i).toNatClampNeg))
def iv_M (S : rb_S) (i : Nat) : Prop := S 17 i = iv_op S (rb_rx (S 6 i).toNatClampNeg) (S 7 i) ∧ S 18 i = iv_op S (rb_ry (S 6 i).toNatClampNeg) (S 8 i) ∧ S 19 i = iv_op S (rb_rz (S 6 i).toNatClampNeg) (S 9 i) ∧ S 16 i = (if S 6 i = 4 ∧ S 17 i = S 18 i ∧ S 17 i < 16 then 12 else S 6 i)
def iv_V (S : rb_S) (n v : Nat) : Prop := S 12 v = S 29 v ∧ S 13 v = S 30 v ∧ S 14 v = S 31 v ∧ (S 12 v = -1 ∧ S 13 v = -1 ∨ ∃ a b : Nat, a ≤ b ∧ b < 2 * n ∧ S 12 v = nI a ∧ S 13 v = nI b) ∧ (S 14 v = -1 ∨ iv_pl (S 14 v))
def iv_C (S : rb_S) (n : Nat) : Prop := S 0 4 = nI (2 * n) ∧ S 0 7 = nI n ∧ (∀ i : Nat, i < n → iv_T S n i ∧ iv_U S i ∧ iv_M S i) ∧ (∀ v p : Nat, v < 16 → p < 2 * n → S 26 (128 * v + p) = iv_bit (S 11 p) v) ∧ ∀ v : Nat, v < 16 → iv_V S n v
/-- the run -/
def iv_R (S : rb_S) (n c : Nat) : Prop := (∀ p : Nat, p < 8 → S 20 p = S 32 p) ∧ (∀ p : Nat, p < 16 → S 20 (16 + p) = S 33 p) ∧ (∀ k : Nat, k < 16 → S 21 k = S 34 k) ∧ (∃ a : Nat, a ≤ n ∧ S 0 8 = nI a ∧ S 1 6 = nI a) ∧ (S 0 9 = S 1 7 ∧ S 0 10 = S 1 8 ∧ S 0 11 = S 1 9 ∧ S 0 12 = S 1 10) ∧ ∃ o : Nat, o ≤ 5000 * c ∧ S 0 13 = nI o ∧ S 1 11 = nI o
def iv (S : rb_S) (c : Nat) : Prop := ∃ n w hd : Nat, n ≤ 64 ∧ w ≤ 32 ∧ hd < 32 ∧ S 0 1 = nI n ∧ S 1 1 = nI n ∧ iv_P S n ∧ iv_I S w hd ∧ iv_O S ∧ S 1 3 = S 0 0 ∧ (S 0 0 = 0 ∧ S 1 11 = 0 ∨ S 0 0 = 1 ∧ iv_C S n ∧ iv_R S n c)
/-- the state but for what was thrown and for the law's own cell -/
def iv_z (S : rb_S) : rb_S := fun g j => if (g = 1 ∧ j = 0) ∨ g = 36 then 0 else S g j
theorem iv_zP (S : rb_S) (n : Nat) : iv_P (iv_z S) n ↔ iv_P S n := Iff.rfl
theorem iv_zI (S : rb_S) (w hd : Nat) : iv_I (iv_z S) w hd ↔ iv_I S w hd := Iff.rfl
theorem iv_zC (S : rb_S) (n : Nat) : iv_C (iv_z S) n ↔ iv_C S n := Iff.rfl
theorem iv_zR (S : rb_S) (n c : Nat) : iv_R (iv_z S) n c ↔ iv_R S n c := Iff.rfl
theorem iv_zz (S : rb_S) (c : Nat) : iv (iv_z S) c ↔ iv S c := Iff.rfl
theorem iv_more {S : rb_S} {c c' : Nat} (h : iv S c) (hc : c ≤ c') : iv S c' := by
  obtain ⟨n, w, hd, h1, h2, h3, h4, h5, h6, h7, h8, h9, h10⟩ := h
  refine ⟨n, w, hd, h1, h2, h3, h4, h5, h6, h7, h8, h9, ?_⟩
  rcases h10 with h | ⟨a, b, q1, q2, q3, q4, q5, o, q6, q7⟩
  · exact Or.inl h
  · exact Or.inr ⟨a, b, q1, q2, q3, q4, q5, o, by omega, q7⟩
/-- a call that changes nothing but these two -/
theorem iv_same {S S' : rb_S} {c : Nat} (h : iv S c) (e : iv_z S' = iv_z S) : iv S' (c + 1) := by
  have h1 : iv (iv_z S) c := h
  rw [← e] at h1
  exact iv_more (S := S') h1 (by omega)
theorem iv_zu0 (S : rb_S) (v : Int32) : iv_z (rb_u S 1 0 v) = iv_z S := by
  funext g j
  unfold iv_z
  by_cases h : (g = 1 ∧ j = 0) ∨ g = 36
  · rw [if_pos h, if_pos h]
  · rw [if_neg h, if_neg h]
    by_cases hg : g = 1
    · subst hg
      exact ru_j (fun q => h (Or.inl ⟨rfl, q⟩))
    · rw [ru_g hg]
theorem iv_zu36 (S : rb_S) (k : Nat) (v : Int32) : iv_z (rb_u S 36 k v) = iv_z S := by
  funext g j
  unfold iv_z
  by_cases h : (g = 1 ∧ j = 0) ∨ g = 36
  · rw [if_pos h, if_pos h]
  · rw [if_neg h, if_neg h, ru_g (fun q => h (Or.inr q))]
theorem iv_0 : iv (fun _ _ => 0) 0 := ⟨0, 0, 0, by omega, by omega, by omega, rfl, rfl, fun i hi => absurd hi (by omega), ⟨rfl, rfl, rfl, fun k hk => absurd hk (by omega)⟩, fun _ _ => rfl, rfl, Or.inl ⟨rfl, rfl⟩⟩
