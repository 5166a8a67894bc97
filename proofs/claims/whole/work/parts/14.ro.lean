theorem ro_release_d0 : decode ro_release_b 0 = .ok (.iconst 0, 1) := by decide +kernel
theorem ro_release_d1 : decode ro_release_b 1 = .ok (.istore_n 3, 1) := by decide +kernel
theorem ro_release_d2 : decode ro_release_b 2 = .ok (.iload_n 3, 1) := by decide +kernel
theorem ro_release_d3 : decode ro_release_b 3 = .ok (.aload_n 0, 1) := by decide +kernel
theorem ro_release_d4 : decode ro_release_b 4 = .ok (.getfield 18, 3) := by decide +kernel
theorem ro_release_d7 : decode ro_release_b 7 = .ok (.if_icmp .ge 41, 3) := by decide +kernel
theorem ro_release_d10 : decode ro_release_b 10 = .ok (.aload_n 0, 1) := by decide +kernel
theorem ro_release_d11 : decode ro_release_b 11 = .ok (.getfield 15, 3) := by decide +kernel
theorem ro_release_d14 : decode ro_release_b 14 = .ok (.iload_n 3, 1) := by decide +kernel
theorem ro_release_d15 : decode ro_release_b 15 = .ok (.iaload, 1) := by decide +kernel
theorem ro_release_d16 : decode ro_release_b 16 = .ok (.iconst (-1), 1) := by decide +kernel
theorem ro_release_d17 : decode ro_release_b 17 = .ok (.if_icmp .eq 25, 3) := by decide +kernel
theorem ro_release_d20 : decode ro_release_b 20 = .ok (.aload_n 1, 1) := by decide +kernel
theorem ro_release_d21 : decode ro_release_b 21 = .ok (.getfield 46, 3) := by decide +kernel
theorem ro_release_d24 : decode ro_release_b 24 = .ok (.aload_n 0, 1) := by decide +kernel
theorem ro_release_d25 : decode ro_release_b 25 = .ok (.getfield 15, 3) := by decide +kernel
theorem ro_release_d28 : decode ro_release_b 28 = .ok (.iload_n 3, 1) := by decide +kernel
theorem ro_release_d29 : decode ro_release_b 29 = .ok (.iaload, 1) := by decide +kernel
theorem ro_release_d30 : decode ro_release_b 30 = .ok (.iaload, 1) := by decide +kernel
theorem ro_release_d31 : decode ro_release_b 31 = .ok (.iload_n 2, 1) := by decide +kernel
theorem ro_release_d32 : decode ro_release_b 32 = .ok (.if_icmp .ge 10, 3) := by decide +kernel
theorem ro_release_d35 : decode ro_release_b 35 = .ok (.aload_n 0, 1) := by decide +kernel
theorem ro_release_d36 : decode ro_release_b 36 = .ok (.getfield 15, 3) := by decide +kernel
theorem ro_release_d39 : decode ro_release_b 39 = .ok (.iload_n 3, 1) := by decide +kernel
theorem ro_release_d40 : decode ro_release_b 40 = .ok (.iconst (-1), 1) := by decide +kernel
theorem ro_release_d41 : decode ro_release_b 41 = .ok (.iastore, 1) := by decide +kernel
theorem ro_release_d42 : decode ro_release_b 42 = .ok (.iinc 3 1, 3) := by decide +kernel
theorem ro_release_d45 : decode ro_release_b 45 = .ok (.goto (-43), 3) := by decide +kernel
theorem ro_release_d48 : decode ro_release_b 48 = .ok (.return_, 1) := by decide +kernel
abbrev ro_release_rm : Room := { frames := 0, cells := 0, slots := 0, locals := 0 }
theorem ro_release_w : rb_cw ro_release_y ro_release_b 4 none 2 := ⟨rw_427, rw_5, ⟨by decide, by decide⟩, by decide +kernel⟩
section
variable {p : Program} {l : Launch} {e : Env} {s : State} {m : MethodId} {args : Array Value} {below : List Frame} {meth : Method} {c : Code} {A : Nat → Prop} {Z : rb_Z}
def ro_release_p_48 (K : rb_S → Prop) (x2 : Int32) (x3 : Int32) (S : rb_S) : Prop := K S
theorem ro_release_k_48 {K : rb_S → Prop}  (X : rb_X p s m args meth c A Z ro_release_b 4 "RoomMaker$Rooms" none)  {x2 : Int32} {x3 : Int32} {S : rb_S} (h : ro_release_p_48 K x2 x3 S) : rb_V p l e ro_release_rm s m args below meth c A (MQ below (va_Qv K (rb_B Z A) A) args s ro_release_rm.cells ro_release_rm.slots A) Z 4 48 [(0, .ref (Z.1 4)), (1, .ref (Z.1 3)), (2, .int x2), (3, .int x3)] [] S 0 0 := by
  unfold ro_release_p_48 at h
  exact rb_vret X ro_release_d48 h
def ro_release_p_42 (K : rb_S → Prop) (B2 : Int32 → Int32 → rb_S → Prop) (x2 : Int32) (x3 : Int32) (S : rb_S) : Prop := ∀ v42 : Int32, v42 = x3 + 1 → (B2 x2 v42 S)
theorem ro_release_k_42 {K : rb_S → Prop} {B2 : Int32 → Int32 → rb_S → Prop} (X : rb_X p s m args meth c A Z ro_release_b 4 "RoomMaker$Rooms" none) (hB2 : ∀ (x2 : Int32) (x3 : Int32) (S : rb_S), B2 x2 x3 S → rb_V p l e ro_release_rm s m args below meth c A (MQ below (va_Qv K (rb_B Z A) A) args s ro_release_rm.cells ro_release_rm.slots A) Z 4 2 [(0, .ref (Z.1 4)), (1, .ref (Z.1 3)), (2, .int x2), (3, .int x3)] [] S 0 0) {x2 : Int32} {x3 : Int32} {S : rb_S} (h : ro_release_p_42 K B2 x2 x3 S) : rb_V p l e ro_release_rm s m args below meth c A (MQ below (va_Qv K (rb_B Z A) A) args s ro_release_rm.cells ro_release_rm.slots A) Z 4 42 [(0, .ref (Z.1 4)), (1, .ref (Z.1 3)), (2, .int x2), (3, .int x3)] [] S 0 0 := by
  unfold ro_release_p_42 at h
  refine rb_iinc X 1 3 [1, 2, 3, 0] (fun v42 => [(0, .ref (Z.1 4)), (1, .ref (Z.1 3)), (2, .int x2), (3, .int v42)]) ro_release_d42 3 rfl (by decide) (by decide) (fun _ => rfl) (fun v42 e42 => ?_)
  replace h := h v42 e42
  refine rb_goto X 2 ro_release_d45 (by decide) ?_
  exact hB2 _ _ _ h
def ro_release_p_2 (K : rb_S → Prop) : Nat → Int32 → Int32 → rb_S → Prop
  | 0, _, _, _ => False
  | n2 + 1, x2, x3, S => ((S 0 5) ≤ x3 → ro_release_p_48 K x2 x3 S) ∧ (¬ (S 0 5) ≤ x3 → vp_in x3 8 ∧ (((S 15 x3.toNatClampNeg) = (-1) → ro_release_p_42 K (fun a0 a1 T => ro_release_p_2 K n2 a0 a1 T) x2 x3 S) ∧ (¬ (S 15 x3.toNatClampNeg) = (-1) → vp_in x3 8 ∧ (vp_in (S 15 x3.toNatClampNeg) 16 ∧ ((x2 ≤ (S 13 (S 15 x3.toNatClampNeg).toNatClampNeg) → ro_release_p_42 K (fun a0 a1 T => ro_release_p_2 K n2 a0 a1 T) x2 x3 S) ∧ (¬ x2 ≤ (S 13 (S 15 x3.toNatClampNeg).toNatClampNeg) → vp_in x3 8 ∧ ∀ S41 : rb_S, S41 = rb_u S 15 x3.toNatClampNeg (-1) → (ro_release_p_42 K (fun a0 a1 T => ro_release_p_2 K n2 a0 a1 T) x2 x3 S41)))))))
theorem ro_release_k_2 {K : rb_S → Prop}  (X : rb_X p s m args meth c A Z ro_release_b 4 "RoomMaker$Rooms" none)  : ∀ (n : Nat) (x2 : Int32) (x3 : Int32) (S : rb_S), ro_release_p_2 K n x2 x3 S → rb_V p l e ro_release_rm s m args below meth c A (MQ below (va_Qv K (rb_B Z A) A) args s ro_release_rm.cells ro_release_rm.slots A) Z 4 2 [(0, .ref (Z.1 4)), (1, .ref (Z.1 3)), (2, .int x2), (3, .int x3)] [] S 0 0 := by
  intro n
  induction n with
  | zero =>
    intro x2 x3 S h
    exact (show False from h).elim
  | succ n ih =>
    intro x2 x3 S h
    have hB2 := ih
    rw [ro_release_p_2] at h
    refine rb_iload_n X 3 ro_release_d2 rfl 3 rfl ?_
    refine rb_aload_n X 0 ro_release_d3 rfl 0 rfl ?_
    refine ro_g18 X ro_release_d4 ?_
    refine rb_icmp_ge X 48 ro_release_d7 (by decide) (fun hc => ?_) (fun hc => ?_)
    · replace h := h.1 hc
      exact ro_release_k_48 X h
    · replace h := h.2 hc
      refine rb_aload_n X 0 ro_release_d10 rfl 0 rfl ?_
      refine ro_g15 X ro_release_d11 ?_
      refine rb_iload_n X 3 ro_release_d14 rfl 3 rfl ?_
      obtain ⟨hin, h⟩ := h
      refine rb_iald X 15 (rb_a15 Z) ro_release_d15 hin ?_
      refine rb_iconst X (-1) ro_release_d16 (by decide) ?_
      refine rb_icmp_eq X 42 ro_release_d17 (by decide) (fun hc => ?_) (fun hc => ?_)
      · replace h := h.1 hc
        exact ro_release_k_42 X hB2 h
      · replace h := h.2 hc
        refine rb_aload_n X 1 ro_release_d20 rfl 1 rfl ?_
        refine ro_g46 X ro_release_d21 ?_
        refine rb_aload_n X 0 ro_release_d24 rfl 0 rfl ?_
        refine ro_g15 X ro_release_d25 ?_
        refine rb_iload_n X 3 ro_release_d28 rfl 3 rfl ?_
        obtain ⟨hin, h⟩ := h
        refine rb_iald X 15 (rb_a15 Z) ro_release_d29 hin ?_
        obtain ⟨hin, h⟩ := h
        refine rb_iald X 13 (rb_a13 Z) ro_release_d30 hin ?_
        refine rb_iload_n X 2 ro_release_d31 rfl 2 rfl ?_
        refine rb_icmp_ge X 42 ro_release_d32 (by decide) (fun hc => ?_) (fun hc => ?_)
        · replace h := h.1 hc
          exact ro_release_k_42 X hB2 h
        · replace h := h.2 hc
          refine rb_aload_n X 0 ro_release_d35 rfl 0 rfl ?_
          refine ro_g15 X ro_release_d36 ?_
          refine rb_iload_n X 3 ro_release_d39 rfl 3 rfl ?_
          refine rb_iconst X (-1) ro_release_d40 (by decide) ?_
          obtain ⟨hin, h⟩ := h
          refine rb_iast X 15 (rb_a15 Z) ro_release_d41 hin (fun S41 e41 => ?_)
          replace h := h S41 e41
          exact ro_release_k_42 X hB2 h
def ro_release_p_0 (K : rb_S → Prop) (x2 : Int32) (S : rb_S) : Prop := ∃ j2 : Nat, ro_release_p_2 K j2 x2 0 S
theorem ro_release_k_0 {K : rb_S → Prop}  (X : rb_X p s m args meth c A Z ro_release_b 4 "RoomMaker$Rooms" none)  {x2 : Int32} {S : rb_S} (h : ro_release_p_0 K x2 S) : rb_V p l e ro_release_rm s m args below meth c A (MQ below (va_Qv K (rb_B Z A) A) args s ro_release_rm.cells ro_release_rm.slots A) Z 4 0 [(0, .ref (Z.1 4)), (1, .ref (Z.1 3)), (2, .int x2)] [] S 0 0 := by
  unfold ro_release_p_0 at h
  refine rb_iconst X 0 ro_release_d0 (by decide) ?_
  refine rb_istore_n X 3 [1, 2, 3, 0] (L' := [(0, .ref (Z.1 4)), (1, .ref (Z.1 3)), (2, .int x2), (3, .int 0)]) ro_release_d1 rfl (by decide) rfl ?_
  obtain ⟨j2, h⟩ := h
  exact ro_release_k_2 X j2 _ _ _ h
theorem ro_release_c (l : Launch) (Z : rb_Z) {K : rb_S → Prop} {x2 : Int32} {S : rb_S} (h : ro_release_p_0 K x2 S) : rb_Mv l ro_release_y ro_release_b 4 ro_release_rm Z [.ref (Z.1 4), .ref (Z.1 3), .int x2] S K := rb_startV (by decide) (Nat.le_of_ble_eq_true rfl) (fun p e s m args below meth c A X => ro_release_k_0 X h)
end
theorem ro_leastFree_d0 : decode ro_leastFree_b 0 = .ok (.iconst 0, 1) := by decide +kernel
theorem ro_leastFree_d1 : decode ro_leastFree_b 1 = .ok (.istore_n 1, 1) := by decide +kernel
theorem ro_leastFree_d2 : decode ro_leastFree_b 2 = .ok (.iload_n 1, 1) := by decide +kernel
theorem ro_leastFree_d3 : decode ro_leastFree_b 3 = .ok (.aload_n 0, 1) := by decide +kernel
theorem ro_leastFree_d4 : decode ro_leastFree_b 4 = .ok (.getfield 18, 3) := by decide +kernel
theorem ro_leastFree_d7 : decode ro_leastFree_b 7 = .ok (.if_icmp .ge 21, 3) := by decide +kernel
theorem ro_leastFree_d10 : decode ro_leastFree_b 10 = .ok (.aload_n 0, 1) := by decide +kernel
theorem ro_leastFree_d11 : decode ro_leastFree_b 11 = .ok (.getfield 15, 3) := by decide +kernel
theorem ro_leastFree_d14 : decode ro_leastFree_b 14 = .ok (.iload_n 1, 1) := by decide +kernel
theorem ro_leastFree_d15 : decode ro_leastFree_b 15 = .ok (.iaload, 1) := by decide +kernel
theorem ro_leastFree_d16 : decode ro_leastFree_b 16 = .ok (.iconst (-1), 1) := by decide +kernel
theorem ro_leastFree_d17 : decode ro_leastFree_b 17 = .ok (.if_icmp .ne 5, 3) := by decide +kernel
theorem ro_leastFree_d20 : decode ro_leastFree_b 20 = .ok (.iload_n 1, 1) := by decide +kernel
theorem ro_leastFree_d21 : decode ro_leastFree_b 21 = .ok (.ireturn, 1) := by decide +kernel
theorem ro_leastFree_d22 : decode ro_leastFree_b 22 = .ok (.iinc 1 1, 3) := by decide +kernel
theorem ro_leastFree_d25 : decode ro_leastFree_b 25 = .ok (.goto (-23), 3) := by decide +kernel
theorem ro_leastFree_d28 : decode ro_leastFree_b 28 = .ok (.iconst (-1), 1) := by decide +kernel
theorem ro_leastFree_d29 : decode ro_leastFree_b 29 = .ok (.ireturn, 1) := by decide +kernel
abbrev ro_leastFree_rm : Room := { frames := 0, cells := 0, slots := 0, locals := 0 }
theorem ro_leastFree_w : rb_cw ro_leastFree_y ro_leastFree_b 2 (some .int) 0 := ⟨rw_435, rw_5, ⟨by decide, by decide⟩, by decide +kernel⟩
section
variable {p : Program} {l : Launch} {e : Env} {s : State} {m : MethodId} {args : Array Value} {below : List Frame} {meth : Method} {c : Code} {A : Nat → Prop} {Z : rb_Z}
def ro_leastFree_p_28 (K : Int32 → rb_S → Prop) (x1 : Int32) (S : rb_S) : Prop := K (-1) S
theorem ro_leastFree_k_28 {K : Int32 → rb_S → Prop}  (X : rb_X p s m args meth c A Z ro_leastFree_b 2 "RoomMaker$Rooms" (some .int))  {x1 : Int32} {S : rb_S} (h : ro_leastFree_p_28 K x1 S) : rb_V p l e ro_leastFree_rm s m args below meth c A (MQ below (va_Qi K (rb_B Z A) A) args s ro_leastFree_rm.cells ro_leastFree_rm.slots A) Z 2 28 [(0, .ref (Z.1 4)), (1, .int x1)] [] S 0 0 := by
  unfold ro_leastFree_p_28 at h
  refine rb_iconst X (-1) ro_leastFree_d28 (by decide) ?_
  exact rb_iret X ro_leastFree_d29 h
def ro_leastFree_p_20 (K : Int32 → rb_S → Prop) (x1 : Int32) (S : rb_S) : Prop := K x1 S
theorem ro_leastFree_k_20 {K : Int32 → rb_S → Prop}  (X : rb_X p s m args meth c A Z ro_leastFree_b 2 "RoomMaker$Rooms" (some .int))  {x1 : Int32} {S : rb_S} (h : ro_leastFree_p_20 K x1 S) : rb_V p l e ro_leastFree_rm s m args below meth c A (MQ below (va_Qi K (rb_B Z A) A) args s ro_leastFree_rm.cells ro_leastFree_rm.slots A) Z 2 20 [(0, .ref (Z.1 4)), (1, .int x1)] [] S 0 0 := by
  unfold ro_leastFree_p_20 at h
  refine rb_iload_n X 1 ro_leastFree_d20 rfl 1 rfl ?_
  exact rb_iret X ro_leastFree_d21 h
def ro_leastFree_p_2 (K : Int32 → rb_S → Prop) : Nat → Int32 → rb_S → Prop
  | 0, _, _ => False
  | n2 + 1, x1, S => ((S 0 5) ≤ x1 → ro_leastFree_p_28 K x1 S) ∧ (¬ (S 0 5) ≤ x1 → vp_in x1 8 ∧ ((¬ (S 15 x1.toNatClampNeg) = (-1) → ∀ v22 : Int32, v22 = x1 + 1 → ((fun a0 T => ro_leastFree_p_2 K n2 a0 T) v22 S)) ∧ ((S 15 x1.toNatClampNeg) = (-1) → ro_leastFree_p_20 K x1 S)))
theorem ro_leastFree_k_2 {K : Int32 → rb_S → Prop}  (X : rb_X p s m args meth c A Z ro_leastFree_b 2 "RoomMaker$Rooms" (some .int))  : ∀ (n : Nat) (x1 : Int32) (S : rb_S), ro_leastFree_p_2 K n x1 S → rb_V p l e ro_leastFree_rm s m args below meth c A (MQ below (va_Qi K (rb_B Z A) A) args s ro_leastFree_rm.cells ro_leastFree_rm.slots A) Z 2 2 [(0, .ref (Z.1 4)), (1, .int x1)] [] S 0 0 := by
  intro n
  induction n with
  | zero =>
    intro x1 S h
    exact (show False from h).elim
  | succ n ih =>
    intro x1 S h
    have hB2 := ih
    rw [ro_leastFree_p_2] at h
    refine rb_iload_n X 1 ro_leastFree_d2 rfl 1 rfl ?_
    refine rb_aload_n X 0 ro_leastFree_d3 rfl 0 rfl ?_
    refine ro_g18 X ro_leastFree_d4 ?_
    refine rb_icmp_ge X 28 ro_leastFree_d7 (by decide) (fun hc => ?_) (fun hc => ?_)
    · replace h := h.1 hc
      exact ro_leastFree_k_28 X h
    · replace h := h.2 hc
      refine rb_aload_n X 0 ro_leastFree_d10 rfl 0 rfl ?_
      refine ro_g15 X ro_leastFree_d11 ?_
      refine rb_iload_n X 1 ro_leastFree_d14 rfl 1 rfl ?_
      obtain ⟨hin, h⟩ := h
      refine rb_iald X 15 (rb_a15 Z) ro_leastFree_d15 hin ?_
      refine rb_iconst X (-1) ro_leastFree_d16 (by decide) ?_
      refine rb_icmp_ne X 22 ro_leastFree_d17 (by decide) (fun hc => ?_) (fun hc => ?_)
      · replace h := h.1 hc
        refine rb_iinc X 1 1 [1, 0] (fun v22 => [(0, .ref (Z.1 4)), (1, .int v22)]) ro_leastFree_d22 1 rfl (by decide) (by decide) (fun _ => rfl) (fun v22 e22 => ?_)
        replace h := h v22 e22
        refine rb_goto X 2 ro_leastFree_d25 (by decide) ?_
        exact hB2 _ _ h
      · replace h := h.2 hc
        exact ro_leastFree_k_20 X h
def ro_leastFree_p_0 (K : Int32 → rb_S → Prop)  (S : rb_S) : Prop := ∃ j2 : Nat, ro_leastFree_p_2 K j2 0 S
theorem ro_leastFree_k_0 {K : Int32 → rb_S → Prop}  (X : rb_X p s m args meth c A Z ro_leastFree_b 2 "RoomMaker$Rooms" (some .int))   {S : rb_S} (h : ro_leastFree_p_0 K S) : rb_V p l e ro_leastFree_rm s m args below meth c A (MQ below (va_Qi K (rb_B Z A) A) args s ro_leastFree_rm.cells ro_leastFree_rm.slots A) Z 2 0 [(0, .ref (Z.1 4))] [] S 0 0 := by
  unfold ro_leastFree_p_0 at h
  refine rb_iconst X 0 ro_leastFree_d0 (by decide) ?_
  refine rb_istore_n X 1 [1, 0] (L' := [(0, .ref (Z.1 4)), (1, .int 0)]) ro_leastFree_d1 rfl (by decide) rfl ?_
  obtain ⟨j2, h⟩ := h
  exact ro_leastFree_k_2 X j2 _ _ h
theorem ro_leastFree_c (l : Launch) (Z : rb_Z) {K : Int32 → rb_S → Prop}  {S : rb_S} (h : ro_leastFree_p_0 K S) : rb_Mi l ro_leastFree_y ro_leastFree_b 2 (some .int) ro_leastFree_rm Z [.ref (Z.1 4)] S K := rb_startI (by decide) (Nat.le_of_ble_eq_true rfl) (fun p e s m args below meth c A X => ro_leastFree_k_0 X h)
end
theorem ro_longestOf_d0 : decode ro_longestOf_b 0 = .ok (.iload_n 2, 1) := by decide +kernel
theorem ro_longestOf_d1 : decode ro_longestOf_b 1 = .ok (.istore_n 3, 1) := by decide +kernel
theorem ro_longestOf_d2 : decode ro_longestOf_b 2 = .ok (.iconst 0, 1) := by decide +kernel
theorem ro_longestOf_d3 : decode ro_longestOf_b 3 = .ok (.istore 4, 2) := by decide +kernel
theorem ro_longestOf_d5 : decode ro_longestOf_b 5 = .ok (.iload 4, 2) := by decide +kernel
theorem ro_longestOf_d7 : decode ro_longestOf_b 7 = .ok (.aload_n 0, 1) := by decide +kernel
theorem ro_longestOf_d8 : decode ro_longestOf_b 8 = .ok (.getfield 18, 3) := by decide +kernel
theorem ro_longestOf_d11 : decode ro_longestOf_b 11 = .ok (.if_icmp .ge 32, 3) := by decide +kernel
theorem ro_longestOf_d14 : decode ro_longestOf_b 14 = .ok (.aload_n 1, 1) := by decide +kernel
theorem ro_longestOf_d15 : decode ro_longestOf_b 15 = .ok (.aload_n 0, 1) := by decide +kernel
theorem ro_longestOf_d16 : decode ro_longestOf_b 16 = .ok (.getfield 15, 3) := by decide +kernel
theorem ro_longestOf_d19 : decode ro_longestOf_b 19 = .ok (.iload 4, 2) := by decide +kernel
theorem ro_longestOf_d21 : decode ro_longestOf_b 21 = .ok (.iaload, 1) := by decide +kernel
theorem ro_longestOf_d22 : decode ro_longestOf_b 22 = .ok (.iload_n 3, 1) := by decide +kernel
theorem ro_longestOf_d23 : decode ro_longestOf_b 23 = .ok (.invokevirtual 57, 3) := by decide +kernel
theorem ro_longestOf_d26 : decode ro_longestOf_b 26 = .ok (.ifCond .eq 11, 3) := by decide +kernel
theorem ro_longestOf_d29 : decode ro_longestOf_b 29 = .ok (.aload_n 0, 1) := by decide +kernel
theorem ro_longestOf_d30 : decode ro_longestOf_b 30 = .ok (.getfield 15, 3) := by decide +kernel
theorem ro_longestOf_d33 : decode ro_longestOf_b 33 = .ok (.iload 4, 2) := by decide +kernel
theorem ro_longestOf_d35 : decode ro_longestOf_b 35 = .ok (.iaload, 1) := by decide +kernel
theorem ro_longestOf_d36 : decode ro_longestOf_b 36 = .ok (.istore_n 3, 1) := by decide +kernel
theorem ro_longestOf_d37 : decode ro_longestOf_b 37 = .ok (.iinc 4 1, 3) := by decide +kernel
theorem ro_longestOf_d40 : decode ro_longestOf_b 40 = .ok (.goto (-35), 3) := by decide +kernel
theorem ro_longestOf_d43 : decode ro_longestOf_b 43 = .ok (.iload_n 3, 1) := by decide +kernel
theorem ro_longestOf_d44 : decode ro_longestOf_b 44 = .ok (.ireturn, 1) := by decide +kernel
abbrev ro_longestOf_rm : Room := { frames := 1, cells := 0, slots := 0, locals := 22 }
theorem ro_longestOf_w : rb_cw ro_longestOf_y ro_longestOf_b 5 (some .int) 2 := ⟨rw_439, rw_5, ⟨by decide, by decide⟩, by decide +kernel⟩
section
variable {p : Program} {l : Launch} {e : Env} {s : State} {m : MethodId} {args : Array Value} {below : List Frame} {meth : Method} {c : Code} {A : Nat → Prop} {Z : rb_Z}
def ro_longestOf_p_43 (K : Int32 → rb_S → Prop) (x2 : Int32) (x3 : Int32) (x4 : Int32) (S : rb_S) : Prop := K x3 S
theorem ro_longestOf_k_43 {K : Int32 → rb_S → Prop}  (X : rb_X p s m args meth c A Z ro_longestOf_b 5 "RoomMaker$Rooms" (some .int))  {x2 : Int32} {x3 : Int32} {x4 : Int32} {S : rb_S} (h : ro_longestOf_p_43 K x2 x3 x4 S) : rb_V p l e ro_longestOf_rm s m args below meth c A (MQ below (va_Qi K (rb_B Z A) A) args s ro_longestOf_rm.cells ro_longestOf_rm.slots A) Z 5 43 [(0, .ref (Z.1 4)), (1, .ref (Z.1 3)), (2, .int x2), (3, .int x3), (4, .int x4)] [] S 0 0 := by
  unfold ro_longestOf_p_43 at h
  refine rb_iload_n X 3 ro_longestOf_d43 rfl 3 rfl ?_
  exact rb_iret X ro_longestOf_d44 h
def ro_longestOf_p_37 (K : Int32 → rb_S → Prop) (B5 : Int32 → Int32 → Int32 → rb_S → Prop) (x2 : Int32) (x3 : Int32) (x4 : Int32) (S : rb_S) : Prop := ∀ v37 : Int32, v37 = x4 + 1 → (B5 x2 x3 v37 S)
theorem ro_longestOf_k_37 {K : Int32 → rb_S → Prop} {B5 : Int32 → Int32 → Int32 → rb_S → Prop} (X : rb_X p s m args meth c A Z ro_longestOf_b 5 "RoomMaker$Rooms" (some .int)) (hB5 : ∀ (x2 : Int32) (x3 : Int32) (x4 : Int32) (S : rb_S), B5 x2 x3 x4 S → rb_V p l e ro_longestOf_rm s m args below meth c A (MQ below (va_Qi K (rb_B Z A) A) args s ro_longestOf_rm.cells ro_longestOf_rm.slots A) Z 5 5 [(0, .ref (Z.1 4)), (1, .ref (Z.1 3)), (2, .int x2), (3, .int x3), (4, .int x4)] [] S 0 0) {x2 : Int32} {x3 : Int32} {x4 : Int32} {S : rb_S} (h : ro_longestOf_p_37 K B5 x2 x3 x4 S) : rb_V p l e ro_longestOf_rm s m args below meth c A (MQ below (va_Qi K (rb_B Z A) A) args s ro_longestOf_rm.cells ro_longestOf_rm.slots A) Z 5 37 [(0, .ref (Z.1 4)), (1, .ref (Z.1 3)), (2, .int x2), (3, .int x3), (4, .int x4)] [] S 0 0 := by
  unfold ro_longestOf_p_37 at h
  refine rb_iinc X 1 4 [1, 2, 3, 4, 0] (fun v37 => [(0, .ref (Z.1 4)), (1, .ref (Z.1 3)), (2, .int x2), (3, .int x3), (4, .int v37)]) ro_longestOf_d37 4 rfl (by decide) (by decide) (fun _ => rfl) (fun v37 e37 => ?_)
  replace h := h v37 e37
  refine rb_goto X 5 ro_longestOf_d40 (by decide) ?_
  exact hB5 _ _ _ _ h
def ro_longestOf_p_5 (K : Int32 → rb_S → Prop) : Nat → Int32 → Int32 → Int32 → rb_S → Prop
  | 0, _, _, _, _ => False
  | n5 + 1, x2, x3, x4, S => ((S 0 5) ≤ x4 → ro_longestOf_p_43 K x2 x3 x4 S) ∧ (¬ (S 0 5) ≤ x4 → vp_in x4 8 ∧ (sp_outlasts_p_0 (fun r23 S23 => (r23 = 0 → ro_longestOf_p_37 K (fun a0 a1 a2 T => ro_longestOf_p_5 K n5 a0 a1 a2 T) x2 x3 x4 S23) ∧ (¬ r23 = 0 → vp_in x4 8 ∧ (∀ v36 : Int32, v36 = (S23 15 x4.toNatClampNeg) → (ro_longestOf_p_37 K (fun a0 a1 a2 T => ro_longestOf_p_5 K n5 a0 a1 a2 T) x2 v36 x4 S23)))) (S 15 x4.toNatClampNeg) x3 S))
theorem ro_longestOf_k_5 {K : Int32 → rb_S → Prop}  (X : rb_X p s m args meth c A Z ro_longestOf_b 5 "RoomMaker$Rooms" (some .int))  : ∀ (n : Nat) (x2 : Int32) (x3 : Int32) (x4 : Int32) (S : rb_S), ro_longestOf_p_5 K n x2 x3 x4 S → rb_V p l e ro_longestOf_rm s m args below meth c A (MQ below (va_Qi K (rb_B Z A) A) args s ro_longestOf_rm.cells ro_longestOf_rm.slots A) Z 5 5 [(0, .ref (Z.1 4)), (1, .ref (Z.1 3)), (2, .int x2), (3, .int x3), (4, .int x4)] [] S 0 0 := by
  intro n
  induction n with
  | zero =>
    intro x2 x3 x4 S h
    exact (show False from h).elim
  | succ n ih =>
    intro x2 x3 x4 S h
    have hB5 := ih
    rw [ro_longestOf_p_5] at h
    refine rb_iload X 4 ro_longestOf_d5 4 rfl ?_
    refine rb_aload_n X 0 ro_longestOf_d7 rfl 0 rfl ?_
    refine ro_g18 X ro_longestOf_d8 ?_
    refine rb_icmp_ge X 43 ro_longestOf_d11 (by decide) (fun hc => ?_) (fun hc => ?_)
    · replace h := h.1 hc
      exact ro_longestOf_k_43 X h
    · replace h := h.2 hc
      refine rb_aload_n X 1 ro_longestOf_d14 rfl 1 rfl ?_
      refine rb_aload_n X 0 ro_longestOf_d15 rfl 0 rfl ?_
      refine ro_g15 X ro_longestOf_d16 ?_
      refine rb_iload X 4 ro_longestOf_d19 4 rfl ?_
      obtain ⟨hin, h⟩ := h
      refine rb_iald X 15 (rb_a15 Z) ro_longestOf_d21 hin ?_
      refine rb_iload_n X 3 ro_longestOf_d22 rfl 3 rfl ?_
      refine rb_callVNi (As := [.int (S 15 x4.toNatClampNeg), .int x3]) (rest := []) X (sp_outlasts_c l Z h) sp_outlasts_w ⟨by decide, by decide⟩ rn_440 rw_442 rs_26 (q0 := 3) rfl rfl rfl rfl (Nat.le_of_ble_eq_true rfl) ro_longestOf_d23 ⟨by decide, by decide⟩ (fun r23 S23 h => ?_)
      refine rb_if_eq X 37 ro_longestOf_d26 (by decide) (fun hc => ?_) (fun hc => ?_)
      · replace h := h.1 hc
        exact ro_longestOf_k_37 X hB5 h
      · replace h := h.2 hc
        refine rb_aload_n X 0 ro_longestOf_d29 rfl 0 rfl ?_
        refine ro_g15 X ro_longestOf_d30 ?_
        refine rb_iload X 4 ro_longestOf_d33 4 rfl ?_
        obtain ⟨hin, h⟩ := h
        refine rb_iald X 15 (rb_a15 Z) ro_longestOf_d35 hin ?_
        refine rb_topi (fun v36 e36 => ?_)
        replace h := h v36 e36
        refine rb_istore_n X 3 [1, 2, 3, 0, 4] (L' := [(0, .ref (Z.1 4)), (1, .ref (Z.1 3)), (2, .int x2), (3, .int v36), (4, .int x4)]) ro_longestOf_d36 rfl (by decide) rfl ?_
        exact ro_longestOf_k_37 X hB5 h
def ro_longestOf_p_0 (K : Int32 → rb_S → Prop) (x2 : Int32) (S : rb_S) : Prop := ∃ j5 : Nat, ro_longestOf_p_5 K j5 x2 x2 0 S
theorem ro_longestOf_k_0 {K : Int32 → rb_S → Prop}  (X : rb_X p s m args meth c A Z ro_longestOf_b 5 "RoomMaker$Rooms" (some .int))  {x2 : Int32} {S : rb_S} (h : ro_longestOf_p_0 K x2 S) : rb_V p l e ro_longestOf_rm s m args below meth c A (MQ below (va_Qi K (rb_B Z A) A) args s ro_longestOf_rm.cells ro_longestOf_rm.slots A) Z 5 0 [(0, .ref (Z.1 4)), (1, .ref (Z.1 3)), (2, .int x2)] [] S 0 0 := by
  unfold ro_longestOf_p_0 at h
  refine rb_iload_n X 2 ro_longestOf_d0 rfl 2 rfl ?_
  refine rb_istore_n X 3 [1, 2, 3, 0] (L' := [(0, .ref (Z.1 4)), (1, .ref (Z.1 3)), (2, .int x2), (3, .int x2)]) ro_longestOf_d1 rfl (by decide) rfl ?_
  refine rb_iconst X 0 ro_longestOf_d2 (by decide) ?_
  refine rb_istore X 4 [1, 2, 3, 4, 0] (L' := [(0, .ref (Z.1 4)), (1, .ref (Z.1 3)), (2, .int x2), (3, .int x2), (4, .int 0)]) ro_longestOf_d3 (by decide) rfl ?_
  obtain ⟨j5, h⟩ := h
  exact ro_longestOf_k_5 X j5 _ _ _ _ h
theorem ro_longestOf_c (l : Launch) (Z : rb_Z) {K : Int32 → rb_S → Prop} {x2 : Int32} {S : rb_S} (h : ro_longestOf_p_0 K x2 S) : rb_Mi l ro_longestOf_y ro_longestOf_b 5 (some .int) ro_longestOf_rm Z [.ref (Z.1 4), .ref (Z.1 3), .int x2] S K := rb_startI (by decide) (Nat.le_of_ble_eq_true rfl) (fun p e s m args below meth c A X => ro_longestOf_k_0 X h)
end
theorem ro_settle_d0 : decode ro_settle_b 0 = .ok (.aload_n 0, 1) := by decide +kernel
theorem ro_settle_d1 : decode ro_settle_b 1 = .ok (.invokevirtual 49, 3) := by decide +kernel
theorem ro_settle_d4 : decode ro_settle_b 4 = .ok (.istore_n 3, 1) := by decide +kernel
theorem ro_settle_d5 : decode ro_settle_b 5 = .ok (.iload_n 3, 1) := by decide +kernel
theorem ro_settle_d6 : decode ro_settle_b 6 = .ok (.iconst (-1), 1) := by decide +kernel
theorem ro_settle_d7 : decode ro_settle_b 7 = .ok (.if_icmp .ne 43, 3) := by decide +kernel
theorem ro_settle_d10 : decode ro_settle_b 10 = .ok (.aload_n 0, 1) := by decide +kernel
theorem ro_settle_d11 : decode ro_settle_b 11 = .ok (.aload_n 1, 1) := by decide +kernel
theorem ro_settle_d12 : decode ro_settle_b 12 = .ok (.iload_n 2, 1) := by decide +kernel
theorem ro_settle_d13 : decode ro_settle_b 13 = .ok (.invokevirtual 53, 3) := by decide +kernel
theorem ro_settle_d16 : decode ro_settle_b 16 = .ok (.istore 4, 2) := by decide +kernel
theorem ro_settle_d18 : decode ro_settle_b 18 = .ok (.aload_n 0, 1) := by decide +kernel
theorem ro_settle_d19 : decode ro_settle_b 19 = .ok (.getfield 9, 3) := by decide +kernel
theorem ro_settle_d22 : decode ro_settle_b 22 = .ok (.iload 4, 2) := by decide +kernel
theorem ro_settle_d24 : decode ro_settle_b 24 = .ok (.iaload, 1) := by decide +kernel
theorem ro_settle_d25 : decode ro_settle_b 25 = .ok (.istore_n 3, 1) := by decide +kernel
theorem ro_settle_d26 : decode ro_settle_b 26 = .ok (.aload_n 0, 1) := by decide +kernel
theorem ro_settle_d27 : decode ro_settle_b 27 = .ok (.getfield 9, 3) := by decide +kernel
theorem ro_settle_d30 : decode ro_settle_b 30 = .ok (.iload 4, 2) := by decide +kernel
theorem ro_settle_d32 : decode ro_settle_b 32 = .ok (.bipush 16, 2) := by decide +kernel
theorem ro_settle_d34 : decode ro_settle_b 34 = .ok (.aload_n 0, 1) := by decide +kernel
theorem ro_settle_d35 : decode ro_settle_b 35 = .ok (.getfield 22, 3) := by decide +kernel
theorem ro_settle_d38 : decode ro_settle_b 38 = .ok (.iadd, 1) := by decide +kernel
theorem ro_settle_d39 : decode ro_settle_b 39 = .ok (.iastore, 1) := by decide +kernel
theorem ro_settle_d40 : decode ro_settle_b 40 = .ok (.aload_n 0, 1) := by decide +kernel
theorem ro_settle_d41 : decode ro_settle_b 41 = .ok (.dup, 1) := by decide +kernel
theorem ro_settle_d42 : decode ro_settle_b 42 = .ok (.getfield 22, 3) := by decide +kernel
theorem ro_settle_d45 : decode ro_settle_b 45 = .ok (.iconst 1, 1) := by decide +kernel
theorem ro_settle_d46 : decode ro_settle_b 46 = .ok (.iadd, 1) := by decide +kernel
theorem ro_settle_d47 : decode ro_settle_b 47 = .ok (.putfield 22, 3) := by decide +kernel
theorem ro_settle_d50 : decode ro_settle_b 50 = .ok (.iload_n 3, 1) := by decide +kernel
theorem ro_settle_d51 : decode ro_settle_b 51 = .ok (.iconst (-1), 1) := by decide +kernel
theorem ro_settle_d52 : decode ro_settle_b 52 = .ok (.if_icmp .eq 17, 3) := by decide +kernel
theorem ro_settle_d55 : decode ro_settle_b 55 = .ok (.aload_n 0, 1) := by decide +kernel
theorem ro_settle_d56 : decode ro_settle_b 56 = .ok (.getfield 9, 3) := by decide +kernel
theorem ro_settle_d59 : decode ro_settle_b 59 = .ok (.iload_n 2, 1) := by decide +kernel
theorem ro_settle_d60 : decode ro_settle_b 60 = .ok (.iload_n 3, 1) := by decide +kernel
theorem ro_settle_d61 : decode ro_settle_b 61 = .ok (.iastore, 1) := by decide +kernel
theorem ro_settle_d62 : decode ro_settle_b 62 = .ok (.aload_n 0, 1) := by decide +kernel
theorem ro_settle_d63 : decode ro_settle_b 63 = .ok (.getfield 15, 3) := by decide +kernel
theorem ro_settle_d66 : decode ro_settle_b 66 = .ok (.iload_n 3, 1) := by decide +kernel
theorem ro_settle_d67 : decode ro_settle_b 67 = .ok (.iload_n 2, 1) := by decide +kernel
theorem ro_settle_d68 : decode ro_settle_b 68 = .ok (.iastore, 1) := by decide +kernel
theorem ro_settle_d69 : decode ro_settle_b 69 = .ok (.return_, 1) := by decide +kernel
abbrev ro_settle_rm : Room := { frames := 2, cells := 0, slots := 0, locals := 46 }
theorem ro_settle_w : rb_cw ro_settle_y ro_settle_b 5 none 2 := ⟨rw_431, rw_5, ⟨by decide, by decide⟩, by decide +kernel⟩
section
variable {p : Program} {l : Launch} {e : Env} {s : State} {m : MethodId} {args : Array Value} {below : List Frame} {meth : Method} {c : Code} {A : Nat → Prop} {Z : rb_Z}
def ro_settle_p_69 (K : rb_S → Prop) (x2 : Int32) (x3 : Int32) (S : rb_S) : Prop := K S
theorem ro_settle_k_69 {K : rb_S → Prop}  (X : rb_X p s m args meth c A Z ro_settle_b 5 "RoomMaker$Rooms" none)  {x2 : Int32} {x3 : Int32} {S : rb_S} (h : ro_settle_p_69 K x2 x3 S) : rb_V p l e ro_settle_rm s m args below meth c A (MQ below (va_Qv K (rb_B Z A) A) args s ro_settle_rm.cells ro_settle_rm.slots A) Z 5 69 [(0, .ref (Z.1 4)), (1, .ref (Z.1 3)), (2, .int x2), (3, .int x3)] [] S 0 0 := by
  unfold ro_settle_p_69 at h
  exact rb_vret X ro_settle_d69 h
def ro_settle_p_50 (K : rb_S → Prop) (x2 : Int32) (x3 : Int32) (S : rb_S) : Prop := (x3 = (-1) → ro_settle_p_69 K x2 x3 S) ∧ (¬ x3 = (-1) → vp_in x2 16 ∧ ∀ S61 : rb_S, S61 = rb_u S 14 x2.toNatClampNeg x3 → (vp_in x3 8 ∧ ∀ S68 : rb_S, S68 = rb_u S61 15 x3.toNatClampNeg x2 → (ro_settle_p_69 K x2 x3 S68)))
theorem ro_settle_k_50 {K : rb_S → Prop}  (X : rb_X p s m args meth c A Z ro_settle_b 5 "RoomMaker$Rooms" none)  {x2 : Int32} {x3 : Int32} {S : rb_S} (h : ro_settle_p_50 K x2 x3 S) : rb_V p l e ro_settle_rm s m args below meth c A (MQ below (va_Qv K (rb_B Z A) A) args s ro_settle_rm.cells ro_settle_rm.slots A) Z 5 50 [(0, .ref (Z.1 4)), (1, .ref (Z.1 3)), (2, .int x2), (3, .int x3)] [] S 0 0 := by
  unfold ro_settle_p_50 at h
  refine rb_iload_n X 3 ro_settle_d50 rfl 3 rfl ?_
  refine rb_iconst X (-1) ro_settle_d51 (by decide) ?_
  refine rb_icmp_eq X 69 ro_settle_d52 (by decide) (fun hc => ?_) (fun hc => ?_)
  · replace h := h.1 hc
    exact ro_settle_k_69 X h
  · replace h := h.2 hc
    refine rb_aload_n X 0 ro_settle_d55 rfl 0 rfl ?_
    refine ro_g9 X ro_settle_d56 ?_
    refine rb_iload_n X 2 ro_settle_d59 rfl 2 rfl ?_
    refine rb_iload_n X 3 ro_settle_d60 rfl 3 rfl ?_
    obtain ⟨hin, h⟩ := h
    refine rb_iast X 14 (rb_a14 Z) ro_settle_d61 hin (fun S61 e61 => ?_)
    replace h := h S61 e61
    refine rb_aload_n X 0 ro_settle_d62 rfl 0 rfl ?_
    refine ro_g15 X ro_settle_d63 ?_
    refine rb_iload_n X 3 ro_settle_d66 rfl 3 rfl ?_
    refine rb_iload_n X 2 ro_settle_d67 rfl 2 rfl ?_
    obtain ⟨hin, h⟩ := h
    refine rb_iast X 15 (rb_a15 Z) ro_settle_d68 hin (fun S68 e68 => ?_)
    replace h := h S68 e68
    exact ro_settle_k_69 X h
def ro_settle_p_0 (K : rb_S → Prop) (x2 : Int32) (S : rb_S) : Prop := ro_leastFree_p_0 (fun r1 S1 => (¬ r1 = (-1) → ro_settle_p_50 K x2 r1 S1) ∧ (r1 = (-1) → ro_longestOf_p_0 (fun r13 S13 => vp_in r13 16 ∧ (∀ v25 : Int32, v25 = (S13 14 r13.toNatClampNeg) → (vp_in r13 16 ∧ ∀ S39 : rb_S, S39 = rb_u S13 14 r13.toNatClampNeg (16 + (S13 0 6)) → (∀ S47 : rb_S, S47 = rb_u S39 0 6 ((S39 0 6) + 1) → (ro_settle_p_50 K x2 v25 S47))))) x2 S1)) S
theorem ro_settle_k_0 {K : rb_S → Prop}  (X : rb_X p s m args meth c A Z ro_settle_b 5 "RoomMaker$Rooms" none)  {x2 : Int32} {S : rb_S} (h : ro_settle_p_0 K x2 S) : rb_V p l e ro_settle_rm s m args below meth c A (MQ below (va_Qv K (rb_B Z A) A) args s ro_settle_rm.cells ro_settle_rm.slots A) Z 5 0 [(0, .ref (Z.1 4)), (1, .ref (Z.1 3)), (2, .int x2)] [] S 0 0 := by
  unfold ro_settle_p_0 at h
  refine rb_aload_n X 0 ro_settle_d0 rfl 0 rfl ?_
  refine rb_callVi (As := []) (rest := []) X (ro_leastFree_c l Z h) ro_leastFree_w ⟨by decide, by decide⟩ rw_432 rw_434 rs_24 (q0 := 4) rfl rfl rfl rfl (Nat.le_of_ble_eq_true rfl) ro_settle_d1 ⟨by decide, by decide⟩ (fun r1 S1 h => ?_)
  refine rb_istore_n X 3 [1, 2, 3, 0] (L' := [(0, .ref (Z.1 4)), (1, .ref (Z.1 3)), (2, .int x2), (3, .int r1)]) ro_settle_d4 rfl (by decide) rfl ?_
  refine rb_iload_n X 3 ro_settle_d5 rfl 3 rfl ?_
  refine rb_iconst X (-1) ro_settle_d6 (by decide) ?_
  refine rb_icmp_ne X 50 ro_settle_d7 (by decide) (fun hc => ?_) (fun hc => ?_)
  · replace h := h.1 hc
    exact ro_settle_k_50 X h
  · replace h := h.2 hc
    refine rb_aload_n X 0 ro_settle_d10 rfl 0 rfl ?_
    refine rb_aload_n X 1 ro_settle_d11 rfl 1 rfl ?_
    refine rb_iload_n X 2 ro_settle_d12 rfl 2 rfl ?_
    refine rb_callVi (As := [.ref (Z.1 3), .int x2]) (rest := []) X (ro_longestOf_c l Z h) ro_longestOf_w ⟨by decide, by decide⟩ rw_436 rw_438 rs_25 (q0 := 4) rfl rfl rfl rfl (Nat.le_of_ble_eq_true rfl) ro_settle_d13 ⟨by decide, by decide⟩ (fun r13 S13 h => ?_)
    refine rb_istore X 4 [1, 2, 3, 4, 0] (L' := [(0, .ref (Z.1 4)), (1, .ref (Z.1 3)), (2, .int x2), (3, .int r1), (4, .int r13)]) ro_settle_d16 (by decide) rfl ?_
    refine rb_aload_n X 0 ro_settle_d18 rfl 0 rfl ?_
    refine ro_g9 X ro_settle_d19 ?_
    refine rb_iload X 4 ro_settle_d22 4 rfl ?_
    obtain ⟨hin, h⟩ := h
    refine rb_iald X 14 (rb_a14 Z) ro_settle_d24 hin ?_
    refine rb_topi (fun v25 e25 => ?_)
    replace h := h v25 e25
    refine rb_istore_n X 3 [1, 2, 3, 0, 4] (L' := [(0, .ref (Z.1 4)), (1, .ref (Z.1 3)), (2, .int x2), (3, .int v25), (4, .int r13)]) ro_settle_d25 rfl (by decide) rfl ?_
    refine rb_aload_n X 0 ro_settle_d26 rfl 0 rfl ?_
    refine ro_g9 X ro_settle_d27 ?_
    refine rb_iload X 4 ro_settle_d30 4 rfl ?_
    refine rb_bipush X 16 ro_settle_d32 (by decide) ?_
    refine rb_aload_n X 0 ro_settle_d34 rfl 0 rfl ?_
    refine ro_g22 X ro_settle_d35 ?_
    refine rb_iadd X ro_settle_d38 ?_
    obtain ⟨hin, h⟩ := h
    refine rb_iast X 14 (rb_a14 Z) ro_settle_d39 hin (fun S39 e39 => ?_)
    replace h := h S39 e39
    refine rb_aload_n X 0 ro_settle_d40 rfl 0 rfl ?_
    refine rb_dup X ro_settle_d41 rfl ?_
    refine ro_g22 X ro_settle_d42 ?_
    refine rb_iconst X 1 ro_settle_d45 (by decide) ?_
    refine rb_iadd X ro_settle_d46 ?_
    refine ro_q22 X ro_settle_d47 (fun S47 e47 => ?_)
    replace h := h S47 e47
    refine rb_cut [0, 1, 2, 3] (L' := [(0, .ref (Z.1 4)), (1, .ref (Z.1 3)), (2, .int x2), (3, .int v25)]) rfl ?_
    exact ro_settle_k_50 X h
theorem ro_settle_c (l : Launch) (Z : rb_Z) {K : rb_S → Prop} {x2 : Int32} {S : rb_S} (h : ro_settle_p_0 K x2 S) : rb_Mv l ro_settle_y ro_settle_b 5 ro_settle_rm Z [.ref (Z.1 4), .ref (Z.1 3), .int x2] S K := rb_startV (by decide) (Nat.le_of_ble_eq_true rfl) (fun p e s m args below meth c A X => ro_settle_k_0 X h)
end
theorem ro_share_d0 : decode ro_share_b 0 = .ok (.aload_n 0, 1) := by decide +kernel
theorem ro_share_d1 : decode ro_share_b 1 = .ok (.iload_n 2, 1) := by decide +kernel
theorem ro_share_d2 : decode ro_share_b 2 = .ok (.putfield 18, 3) := by decide +kernel
theorem ro_share_d5 : decode ro_share_b 5 = .ok (.aload_n 0, 1) := by decide +kernel
theorem ro_share_d6 : decode ro_share_b 6 = .ok (.iconst 0, 1) := by decide +kernel
theorem ro_share_d7 : decode ro_share_b 7 = .ok (.putfield 22, 3) := by decide +kernel
theorem ro_share_d10 : decode ro_share_b 10 = .ok (.aload_n 0, 1) := by decide +kernel
theorem ro_share_d11 : decode ro_share_b 11 = .ok (.getfield 9, 3) := by decide +kernel
theorem ro_share_d14 : decode ro_share_b 14 = .ok (.iconst (-1), 1) := by decide +kernel
theorem ro_share_d15 : decode ro_share_b 15 = .ok (.invokestatic 25, 3) := by decide +kernel
theorem ro_share_d18 : decode ro_share_b 18 = .ok (.aload_n 0, 1) := by decide +kernel
theorem ro_share_d19 : decode ro_share_b 19 = .ok (.getfield 15, 3) := by decide +kernel
theorem ro_share_d22 : decode ro_share_b 22 = .ok (.iconst (-1), 1) := by decide +kernel
theorem ro_share_d23 : decode ro_share_b 23 = .ok (.invokestatic 25, 3) := by decide +kernel
theorem ro_share_d26 : decode ro_share_b 26 = .ok (.iconst 0, 1) := by decide +kernel
theorem ro_share_d27 : decode ro_share_b 27 = .ok (.istore_n 3, 1) := by decide +kernel
theorem ro_share_d28 : decode ro_share_b 28 = .ok (.iload_n 3, 1) := by decide +kernel
theorem ro_share_d29 : decode ro_share_b 29 = .ok (.aload_n 1, 1) := by decide +kernel
theorem ro_share_d30 : decode ro_share_b 30 = .ok (.getfield 31, 3) := by decide +kernel
theorem ro_share_d33 : decode ro_share_b 33 = .ok (.if_icmp .ge 49, 3) := by decide +kernel
theorem ro_share_d36 : decode ro_share_b 36 = .ok (.iconst 0, 1) := by decide +kernel
theorem ro_share_d37 : decode ro_share_b 37 = .ok (.istore 4, 2) := by decide +kernel
theorem ro_share_d39 : decode ro_share_b 39 = .ok (.iload 4, 2) := by decide +kernel
theorem ro_share_d41 : decode ro_share_b 41 = .ok (.bipush 16, 2) := by decide +kernel
theorem ro_share_d43 : decode ro_share_b 43 = .ok (.if_icmp .ge 33, 3) := by decide +kernel
theorem ro_share_d46 : decode ro_share_b 46 = .ok (.aload_n 1, 1) := by decide +kernel
theorem ro_share_d47 : decode ro_share_b 47 = .ok (.getfield 36, 3) := by decide +kernel
theorem ro_share_d50 : decode ro_share_b 50 = .ok (.iload 4, 2) := by decide +kernel
theorem ro_share_d52 : decode ro_share_b 52 = .ok (.iaload, 1) := by decide +kernel
theorem ro_share_d53 : decode ro_share_b 53 = .ok (.iload_n 3, 1) := by decide +kernel
theorem ro_share_d54 : decode ro_share_b 54 = .ok (.if_icmp .ne 16, 3) := by decide +kernel
theorem ro_share_d57 : decode ro_share_b 57 = .ok (.aload_n 0, 1) := by decide +kernel
theorem ro_share_d58 : decode ro_share_b 58 = .ok (.aload_n 1, 1) := by decide +kernel
theorem ro_share_d59 : decode ro_share_b 59 = .ok (.iload_n 3, 1) := by decide +kernel
theorem ro_share_d60 : decode ro_share_b 60 = .ok (.invokevirtual 39, 3) := by decide +kernel
theorem ro_share_d63 : decode ro_share_b 63 = .ok (.aload_n 0, 1) := by decide +kernel
theorem ro_share_d64 : decode ro_share_b 64 = .ok (.aload_n 1, 1) := by decide +kernel
theorem ro_share_d65 : decode ro_share_b 65 = .ok (.iload 4, 2) := by decide +kernel
theorem ro_share_d67 : decode ro_share_b 67 = .ok (.invokevirtual 43, 3) := by decide +kernel
theorem ro_share_d70 : decode ro_share_b 70 = .ok (.iinc 4 1, 3) := by decide +kernel
theorem ro_share_d73 : decode ro_share_b 73 = .ok (.goto (-34), 3) := by decide +kernel
theorem ro_share_d76 : decode ro_share_b 76 = .ok (.iinc 3 1, 3) := by decide +kernel
theorem ro_share_d79 : decode ro_share_b 79 = .ok (.goto (-51), 3) := by decide +kernel
theorem ro_share_d82 : decode ro_share_b 82 = .ok (.return_, 1) := by decide +kernel
abbrev ro_share_rm : Room := { frames := 3, cells := 0, slots := 0, locals := 70 }
theorem ro_share_w : rb_cw ro_share_y ro_share_b 5 none 2 := ⟨rw_422, rw_5, ⟨by decide, by decide⟩, by decide +kernel⟩
section
variable {p : Program} {l : Launch} {e : Env} {s : State} {m : MethodId} {args : Array Value} {below : List Frame} {meth : Method} {c : Code} {A : Nat → Prop} {Z : rb_Z}
def ro_share_p_82 (K : rb_S → Prop) (x2 : Int32) (x3 : Int32) (S : rb_S) : Prop := K S
theorem ro_share_k_82 {K : rb_S → Prop}  (X : rb_X p s m args meth c A Z ro_share_b 5 "RoomMaker$Rooms" none)  {x2 : Int32} {x3 : Int32} {S : rb_S} (h : ro_share_p_82 K x2 x3 S) : rb_V p l e ro_share_rm s m args below meth c A (MQ below (va_Qv K (rb_B Z A) A) args s ro_share_rm.cells ro_share_rm.slots A) Z 5 82 [(0, .ref (Z.1 4)), (1, .ref (Z.1 3)), (2, .int x2), (3, .int x3)] [] S 0 0 := by
  unfold ro_share_p_82 at h
  exact rb_vret X ro_share_d82 h
def ro_share_p_76 (K : rb_S → Prop) (B28 : Int32 → Int32 → rb_S → Prop) (x2 : Int32) (x3 : Int32) (x4 : Int32) (S : rb_S) : Prop := ∀ v76 : Int32, v76 = x3 + 1 → (B28 x2 v76 S)
theorem ro_share_k_76 {K : rb_S → Prop} {B28 : Int32 → Int32 → rb_S → Prop} (X : rb_X p s m args meth c A Z ro_share_b 5 "RoomMaker$Rooms" none) (hB28 : ∀ (x2 : Int32) (x3 : Int32) (S : rb_S), B28 x2 x3 S → rb_V p l e ro_share_rm s m args below meth c A (MQ below (va_Qv K (rb_B Z A) A) args s ro_share_rm.cells ro_share_rm.slots A) Z 5 28 [(0, .ref (Z.1 4)), (1, .ref (Z.1 3)), (2, .int x2), (3, .int x3)] [] S 0 0) {x2 : Int32} {x3 : Int32} {x4 : Int32} {S : rb_S} (h : ro_share_p_76 K B28 x2 x3 x4 S) : rb_V p l e ro_share_rm s m args below meth c A (MQ below (va_Qv K (rb_B Z A) A) args s ro_share_rm.cells ro_share_rm.slots A) Z 5 76 [(0, .ref (Z.1 4)), (1, .ref (Z.1 3)), (2, .int x2), (3, .int x3), (4, .int x4)] [] S 0 0 := by
  unfold ro_share_p_76 at h
  refine rb_iinc X 1 3 [1, 2, 3, 0, 4] (fun v76 => [(0, .ref (Z.1 4)), (1, .ref (Z.1 3)), (2, .int x2), (3, .int v76), (4, .int x4)]) ro_share_d76 3 rfl (by decide) (by decide) (fun _ => rfl) (fun v76 e76 => ?_)
  replace h := h v76 e76
  refine rb_goto X 28 ro_share_d79 (by decide) ?_
  refine rb_cut [0, 1, 2, 3] (L' := [(0, .ref (Z.1 4)), (1, .ref (Z.1 3)), (2, .int x2), (3, .int v76)]) rfl ?_
  exact hB28 _ _ _ h
def ro_share_p_70 (K : rb_S → Prop) (B28 : Int32 → Int32 → rb_S → Prop) (B39 : Int32 → Int32 → Int32 → rb_S → Prop) (x2 : Int32) (x3 : Int32) (x4 : Int32) (S : rb_S) : Prop := ∀ v70 : Int32, v70 = x4 + 1 → (B39 x2 x3 v70 S)
theorem ro_share_k_70 {K : rb_S → Prop} {B28 : Int32 → Int32 → rb_S → Prop} {B39 : Int32 → Int32 → Int32 → rb_S → Prop} (X : rb_X p s m args meth c A Z ro_share_b 5 "RoomMaker$Rooms" none) (hB28 : ∀ (x2 : Int32) (x3 : Int32) (S : rb_S), B28 x2 x3 S → rb_V p l e ro_share_rm s m args below meth c A (MQ below (va_Qv K (rb_B Z A) A) args s ro_share_rm.cells ro_share_rm.slots A) Z 5 28 [(0, .ref (Z.1 4)), (1, .ref (Z.1 3)), (2, .int x2), (3, .int x3)] [] S 0 0) (hB39 : ∀ (x2 : Int32) (x3 : Int32) (x4 : Int32) (S : rb_S), B39 x2 x3 x4 S → rb_V p l e ro_share_rm s m args below meth c A (MQ below (va_Qv K (rb_B Z A) A) args s ro_share_rm.cells ro_share_rm.slots A) Z 5 39 [(0, .ref (Z.1 4)), (1, .ref (Z.1 3)), (2, .int x2), (3, .int x3), (4, .int x4)] [] S 0 0) {x2 : Int32} {x3 : Int32} {x4 : Int32} {S : rb_S} (h : ro_share_p_70 K B28 B39 x2 x3 x4 S) : rb_V p l e ro_share_rm s m args below meth c A (MQ below (va_Qv K (rb_B Z A) A) args s ro_share_rm.cells ro_share_rm.slots A) Z 5 70 [(0, .ref (Z.1 4)), (1, .ref (Z.1 3)), (2, .int x2), (3, .int x3), (4, .int x4)] [] S 0 0 := by
  unfold ro_share_p_70 at h
  refine rb_iinc X 1 4 [1, 2, 3, 4, 0] (fun v70 => [(0, .ref (Z.1 4)), (1, .ref (Z.1 3)), (2, .int x2), (3, .int x3), (4, .int v70)]) ro_share_d70 4 rfl (by decide) (by decide) (fun _ => rfl) (fun v70 e70 => ?_)
  replace h := h v70 e70
  refine rb_goto X 39 ro_share_d73 (by decide) ?_
  exact hB39 _ _ _ _ h
def ro_share_p_39 (K : rb_S → Prop) (B28 : Int32 → Int32 → rb_S → Prop) : Nat → Int32 → Int32 → Int32 → rb_S → Prop
  | 0, _, _, _, _ => False
  | n39 + 1, x2, x3, x4, S => (16 ≤ x4 → ro_share_p_76 K B28 x2 x3 x4 S) ∧ (¬ 16 ≤ x4 → vp_in x4 16 ∧ ((¬ (S 12 x4.toNatClampNeg) = x3 → ro_share_p_70 K B28 (fun a0 a1 a2 T => ro_share_p_39 K B28 n39 a0 a1 a2 T) x2 x3 x4 S) ∧ ((S 12 x4.toNatClampNeg) = x3 → ro_release_p_0 (fun S60 => ro_settle_p_0 (fun S67 => ro_share_p_70 K B28 (fun a0 a1 a2 T => ro_share_p_39 K B28 n39 a0 a1 a2 T) x2 x3 x4 S67) x4 S60) x3 S)))
theorem ro_share_k_39 {K : rb_S → Prop} {B28 : Int32 → Int32 → rb_S → Prop} (X : rb_X p s m args meth c A Z ro_share_b 5 "RoomMaker$Rooms" none) (hB28 : ∀ (x2 : Int32) (x3 : Int32) (S : rb_S), B28 x2 x3 S → rb_V p l e ro_share_rm s m args below meth c A (MQ below (va_Qv K (rb_B Z A) A) args s ro_share_rm.cells ro_share_rm.slots A) Z 5 28 [(0, .ref (Z.1 4)), (1, .ref (Z.1 3)), (2, .int x2), (3, .int x3)] [] S 0 0) : ∀ (n : Nat) (x2 : Int32) (x3 : Int32) (x4 : Int32) (S : rb_S), ro_share_p_39 K B28 n x2 x3 x4 S → rb_V p l e ro_share_rm s m args below meth c A (MQ below (va_Qv K (rb_B Z A) A) args s ro_share_rm.cells ro_share_rm.slots A) Z 5 39 [(0, .ref (Z.1 4)), (1, .ref (Z.1 3)), (2, .int x2), (3, .int x3), (4, .int x4)] [] S 0 0 := by
  intro n
  induction n with
  | zero =>
    intro x2 x3 x4 S h
    exact (show False from h).elim
  | succ n ih =>
    intro x2 x3 x4 S h
    have hB39 := ih
    rw [ro_share_p_39] at h
    refine rb_iload X 4 ro_share_d39 4 rfl ?_
    refine rb_bipush X 16 ro_share_d41 (by decide) ?_
    refine rb_icmp_ge X 76 ro_share_d43 (by decide) (fun hc => ?_) (fun hc => ?_)
    · replace h := h.1 hc
      exact ro_share_k_76 X hB28 h
    · replace h := h.2 hc
      refine rb_aload_n X 1 ro_share_d46 rfl 1 rfl ?_
      refine ro_g36 X ro_share_d47 ?_
      refine rb_iload X 4 ro_share_d50 4 rfl ?_
      obtain ⟨hin, h⟩ := h
      refine rb_iald X 12 (rb_a12 Z) ro_share_d52 hin ?_
      refine rb_iload_n X 3 ro_share_d53 rfl 3 rfl ?_
      refine rb_icmp_ne X 70 ro_share_d54 (by decide) (fun hc => ?_) (fun hc => ?_)
      · replace h := h.1 hc
        exact ro_share_k_70 X hB28 hB39 h
      · replace h := h.2 hc
        refine rb_aload_n X 0 ro_share_d57 rfl 0 rfl ?_
        refine rb_aload_n X 1 ro_share_d58 rfl 1 rfl ?_
        refine rb_iload_n X 3 ro_share_d59 rfl 3 rfl ?_
        refine rb_callVv (As := [.ref (Z.1 3), .int x3]) (rest := []) X (ro_release_c l Z h) ro_release_w ⟨by decide, by decide⟩ rw_424 rw_426 rs_22 (q0 := 4) rfl rfl rfl rfl (Nat.le_of_ble_eq_true rfl) ro_share_d60 ⟨by decide, by decide⟩ (fun S60 h => ?_)
        refine rb_aload_n X 0 ro_share_d63 rfl 0 rfl ?_
        refine rb_aload_n X 1 ro_share_d64 rfl 1 rfl ?_
        refine rb_iload X 4 ro_share_d65 4 rfl ?_
        refine rb_callVv (As := [.ref (Z.1 3), .int x4]) (rest := []) X (ro_settle_c l Z h) ro_settle_w ⟨by decide, by decide⟩ rw_428 rw_430 rs_23 (q0 := 4) rfl rfl rfl rfl (Nat.le_of_ble_eq_true rfl) ro_share_d67 ⟨by decide, by decide⟩ (fun S67 h => ?_)
        exact ro_share_k_70 X hB28 hB39 h
def ro_share_p_28 (K : rb_S → Prop) : Nat → Int32 → Int32 → rb_S → Prop
  | 0, _, _, _ => False
  | n28 + 1, x2, x3, S => ((S 0 4) ≤ x3 → ro_share_p_82 K x2 x3 S) ∧ (¬ (S 0 4) ≤ x3 → ∃ j39 : Nat, ro_share_p_39 K (fun a0 a1 T => ro_share_p_28 K n28 a0 a1 T) j39 x2 x3 0 S)
theorem ro_share_k_28 {K : rb_S → Prop}  (X : rb_X p s m args meth c A Z ro_share_b 5 "RoomMaker$Rooms" none)  : ∀ (n : Nat) (x2 : Int32) (x3 : Int32) (S : rb_S), ro_share_p_28 K n x2 x3 S → rb_V p l e ro_share_rm s m args below meth c A (MQ below (va_Qv K (rb_B Z A) A) args s ro_share_rm.cells ro_share_rm.slots A) Z 5 28 [(0, .ref (Z.1 4)), (1, .ref (Z.1 3)), (2, .int x2), (3, .int x3)] [] S 0 0 := by
  intro n
  induction n with
  | zero =>
    intro x2 x3 S h
    exact (show False from h).elim
  | succ n ih =>
    intro x2 x3 S h
    have hB28 := ih
    rw [ro_share_p_28] at h
    refine rb_iload_n X 3 ro_share_d28 rfl 3 rfl ?_
    refine rb_aload_n X 1 ro_share_d29 rfl 1 rfl ?_
    refine ro_g31 X ro_share_d30 ?_
    refine rb_icmp_ge X 82 ro_share_d33 (by decide) (fun hc => ?_) (fun hc => ?_)
    · replace h := h.1 hc
      exact ro_share_k_82 X h
    · replace h := h.2 hc
      refine rb_iconst X 0 ro_share_d36 (by decide) ?_
      refine rb_istore X 4 [1, 2, 3, 4, 0] (L' := [(0, .ref (Z.1 4)), (1, .ref (Z.1 3)), (2, .int x2), (3, .int x3), (4, .int 0)]) ro_share_d37 (by decide) rfl ?_
      obtain ⟨j39, h⟩ := h
      exact ro_share_k_39 X hB28 j39 _ _ _ _ h
def ro_share_p_0 (K : rb_S → Prop) (x2 : Int32) (S : rb_S) : Prop := ∀ S2 : rb_S, S2 = rb_u S 0 5 x2 → (∀ S7 : rb_S, S7 = rb_u S2 0 6 0 → (ar_fill_p_0 14 16 (fun S15 => ar_fill_p_0 15 8 (fun S23 => ∃ j28 : Nat, ro_share_p_28 K j28 x2 0 S23) (-1) S15) (-1) S7))
theorem ro_share_k_0 {K : rb_S → Prop}  (X : rb_X p s m args meth c A Z ro_share_b 5 "RoomMaker$Rooms" none)  {x2 : Int32} {S : rb_S} (h : ro_share_p_0 K x2 S) : rb_V p l e ro_share_rm s m args below meth c A (MQ below (va_Qv K (rb_B Z A) A) args s ro_share_rm.cells ro_share_rm.slots A) Z 5 0 [(0, .ref (Z.1 4)), (1, .ref (Z.1 3)), (2, .int x2)] [] S 0 0 := by
  unfold ro_share_p_0 at h
  refine rb_aload_n X 0 ro_share_d0 rfl 0 rfl ?_
  refine rb_iload_n X 2 ro_share_d1 rfl 2 rfl ?_
  refine ro_q18 X ro_share_d2 (fun S2 e2 => ?_)
  replace h := h S2 e2
  refine rb_aload_n X 0 ro_share_d5 rfl 0 rfl ?_
  refine rb_iconst X 0 ro_share_d6 (by decide) ?_
  refine ro_q22 X ro_share_d7 (fun S7 e7 => ?_)
  replace h := h S7 e7
  refine rb_aload_n X 0 ro_share_d10 rfl 0 rfl ?_
  refine ro_g9 X ro_share_d11 ?_
  refine rb_iconst X (-1) ro_share_d14 (by decide) ?_
  refine rb_callSv (As := [.ref (Z.1 14), .int (-1)]) (rest := []) X (ar_fill_c l Z (rb_a14 Z) h) ar_fill_w ⟨by decide, by decide⟩ rw_423 rw_228 rfl rfl (Nat.le_of_ble_eq_true rfl) ro_share_d15 ⟨by decide, by decide⟩ (fun S15 h => ?_)
  refine rb_aload_n X 0 ro_share_d18 rfl 0 rfl ?_
  refine ro_g15 X ro_share_d19 ?_
  refine rb_iconst X (-1) ro_share_d22 (by decide) ?_
  refine rb_callSv (As := [.ref (Z.1 15), .int (-1)]) (rest := []) X (ar_fill_c l Z (rb_a15 Z) h) ar_fill_w ⟨by decide, by decide⟩ rw_423 rw_228 rfl rfl (Nat.le_of_ble_eq_true rfl) ro_share_d23 ⟨by decide, by decide⟩ (fun S23 h => ?_)
  refine rb_iconst X 0 ro_share_d26 (by decide) ?_
  refine rb_istore_n X 3 [1, 2, 3, 0] (L' := [(0, .ref (Z.1 4)), (1, .ref (Z.1 3)), (2, .int x2), (3, .int 0)]) ro_share_d27 rfl (by decide) rfl ?_
  obtain ⟨j28, h⟩ := h
  exact ro_share_k_28 X j28 _ _ _ h
theorem ro_share_c (l : Launch) (Z : rb_Z) {K : rb_S → Prop} {x2 : Int32} {S : rb_S} (h : ro_share_p_0 K x2 S) : rb_Mv l ro_share_y ro_share_b 5 ro_share_rm Z [.ref (Z.1 4), .ref (Z.1 3), .int x2] S K := rb_startV (by decide) (Nat.le_of_ble_eq_true rfl) (fun p e s m args below meth c A X => ro_share_k_0 X h)
end
