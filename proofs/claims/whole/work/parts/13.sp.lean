theorem sp_spanning_d0 : decode sp_spanning_b 0 = .ok (.iconst 0, 1) := by decide +kernel
theorem sp_spanning_d1 : decode sp_spanning_b 1 = .ok (.istore_n 2, 1) := by decide +kernel
theorem sp_spanning_d2 : decode sp_spanning_b 2 = .ok (.iconst 0, 1) := by decide +kernel
theorem sp_spanning_d3 : decode sp_spanning_b 3 = .ok (.istore_n 3, 1) := by decide +kernel
theorem sp_spanning_d4 : decode sp_spanning_b 4 = .ok (.iload_n 3, 1) := by decide +kernel
theorem sp_spanning_d5 : decode sp_spanning_b 5 = .ok (.bipush 16, 2) := by decide +kernel
theorem sp_spanning_d7 : decode sp_spanning_b 7 = .ok (.if_icmp .ge 32, 3) := by decide +kernel
theorem sp_spanning_d10 : decode sp_spanning_b 10 = .ok (.aload_n 0, 1) := by decide +kernel
theorem sp_spanning_d11 : decode sp_spanning_b 11 = .ok (.getfield 15, 3) := by decide +kernel
theorem sp_spanning_d14 : decode sp_spanning_b 14 = .ok (.iload_n 3, 1) := by decide +kernel
theorem sp_spanning_d15 : decode sp_spanning_b 15 = .ok (.iaload, 1) := by decide +kernel
theorem sp_spanning_d16 : decode sp_spanning_b 16 = .ok (.iload_n 1, 1) := by decide +kernel
theorem sp_spanning_d17 : decode sp_spanning_b 17 = .ok (.if_icmp .gt 16, 3) := by decide +kernel
theorem sp_spanning_d20 : decode sp_spanning_b 20 = .ok (.iload_n 1, 1) := by decide +kernel
theorem sp_spanning_d21 : decode sp_spanning_b 21 = .ok (.aload_n 0, 1) := by decide +kernel
theorem sp_spanning_d22 : decode sp_spanning_b 22 = .ok (.getfield 18, 3) := by decide +kernel
theorem sp_spanning_d25 : decode sp_spanning_b 25 = .ok (.iload_n 3, 1) := by decide +kernel
theorem sp_spanning_d26 : decode sp_spanning_b 26 = .ok (.iaload, 1) := by decide +kernel
theorem sp_spanning_d27 : decode sp_spanning_b 27 = .ok (.if_icmp .gt 6, 3) := by decide +kernel
theorem sp_spanning_d30 : decode sp_spanning_b 30 = .ok (.iinc 2 1, 3) := by decide +kernel
theorem sp_spanning_d33 : decode sp_spanning_b 33 = .ok (.iinc 3 1, 3) := by decide +kernel
theorem sp_spanning_d36 : decode sp_spanning_b 36 = .ok (.goto (-32), 3) := by decide +kernel
theorem sp_spanning_d39 : decode sp_spanning_b 39 = .ok (.iload_n 2, 1) := by decide +kernel
theorem sp_spanning_d40 : decode sp_spanning_b 40 = .ok (.ireturn, 1) := by decide +kernel
abbrev sp_spanning_rm : Room := { frames := 0, cells := 0, slots := 0, locals := 0 }
theorem sp_spanning_w : rb_cw sp_spanning_y sp_spanning_b 4 (some .int) 1 := ⟨rw_215, rw_4, ⟨by decide, by decide⟩, by decide +kernel⟩
section
variable {p : Program} {l : Launch} {e : Env} {s : State} {m : MethodId} {args : Array Value} {below : List Frame} {meth : Method} {c : Code} {A : Nat → Prop} {Z : rb_Z}
def sp_spanning_p_39 (K : Int32 → rb_S → Prop) (x1 : Int32) (x2 : Int32) (x3 : Int32) (S : rb_S) : Prop := K x2 S
theorem sp_spanning_k_39 {K : Int32 → rb_S → Prop}  (X : rb_X p s m args meth c A Z sp_spanning_b 4 "RoomMaker$Spans" (some .int))  {x1 : Int32} {x2 : Int32} {x3 : Int32} {S : rb_S} (h : sp_spanning_p_39 K x1 x2 x3 S) : rb_V p l e sp_spanning_rm s m args below meth c A (MQ below (va_Qi K (rb_B Z A) A) args s sp_spanning_rm.cells sp_spanning_rm.slots A) Z 4 39 [(0, .ref (Z.1 3)), (1, .int x1), (2, .int x2), (3, .int x3)] [] S 0 0 := by
  unfold sp_spanning_p_39 at h
  refine rb_iload_n X 2 sp_spanning_d39 rfl 2 rfl ?_
  exact rb_iret X sp_spanning_d40 h
def sp_spanning_p_33 (K : Int32 → rb_S → Prop) (B4 : Int32 → Int32 → Int32 → rb_S → Prop) (x1 : Int32) (x2 : Int32) (x3 : Int32) (S : rb_S) : Prop := ∀ v33 : Int32, v33 = x3 + 1 → (B4 x1 x2 v33 S)
theorem sp_spanning_k_33 {K : Int32 → rb_S → Prop} {B4 : Int32 → Int32 → Int32 → rb_S → Prop} (X : rb_X p s m args meth c A Z sp_spanning_b 4 "RoomMaker$Spans" (some .int)) (hB4 : ∀ (x1 : Int32) (x2 : Int32) (x3 : Int32) (S : rb_S), B4 x1 x2 x3 S → rb_V p l e sp_spanning_rm s m args below meth c A (MQ below (va_Qi K (rb_B Z A) A) args s sp_spanning_rm.cells sp_spanning_rm.slots A) Z 4 4 [(0, .ref (Z.1 3)), (1, .int x1), (2, .int x2), (3, .int x3)] [] S 0 0) {x1 : Int32} {x2 : Int32} {x3 : Int32} {S : rb_S} (h : sp_spanning_p_33 K B4 x1 x2 x3 S) : rb_V p l e sp_spanning_rm s m args below meth c A (MQ below (va_Qi K (rb_B Z A) A) args s sp_spanning_rm.cells sp_spanning_rm.slots A) Z 4 33 [(0, .ref (Z.1 3)), (1, .int x1), (2, .int x2), (3, .int x3)] [] S 0 0 := by
  unfold sp_spanning_p_33 at h
  refine rb_iinc X 1 3 [1, 2, 3, 0] (fun v33 => [(0, .ref (Z.1 3)), (1, .int x1), (2, .int x2), (3, .int v33)]) sp_spanning_d33 3 rfl (by decide) (by decide) (fun _ => rfl) (fun v33 e33 => ?_)
  replace h := h v33 e33
  refine rb_goto X 4 sp_spanning_d36 (by decide) ?_
  exact hB4 _ _ _ _ h
def sp_spanning_p_4 (K : Int32 → rb_S → Prop) : Nat → Int32 → Int32 → Int32 → rb_S → Prop
  | 0, _, _, _, _ => False
  | n4 + 1, x1, x2, x3, S => (16 ≤ x3 → sp_spanning_p_39 K x1 x2 x3 S) ∧ (¬ 16 ≤ x3 → vp_in x3 16 ∧ ((x1 < (S 12 x3.toNatClampNeg) → sp_spanning_p_33 K (fun a0 a1 a2 T => sp_spanning_p_4 K n4 a0 a1 a2 T) x1 x2 x3 S) ∧ (¬ x1 < (S 12 x3.toNatClampNeg) → vp_in x3 16 ∧ (((S 13 x3.toNatClampNeg) < x1 → sp_spanning_p_33 K (fun a0 a1 a2 T => sp_spanning_p_4 K n4 a0 a1 a2 T) x1 x2 x3 S) ∧ (¬ (S 13 x3.toNatClampNeg) < x1 → ∀ v30 : Int32, v30 = x2 + 1 → (sp_spanning_p_33 K (fun a0 a1 a2 T => sp_spanning_p_4 K n4 a0 a1 a2 T) x1 v30 x3 S))))))
theorem sp_spanning_k_4 {K : Int32 → rb_S → Prop}  (X : rb_X p s m args meth c A Z sp_spanning_b 4 "RoomMaker$Spans" (some .int))  : ∀ (n : Nat) (x1 : Int32) (x2 : Int32) (x3 : Int32) (S : rb_S), sp_spanning_p_4 K n x1 x2 x3 S → rb_V p l e sp_spanning_rm s m args below meth c A (MQ below (va_Qi K (rb_B Z A) A) args s sp_spanning_rm.cells sp_spanning_rm.slots A) Z 4 4 [(0, .ref (Z.1 3)), (1, .int x1), (2, .int x2), (3, .int x3)] [] S 0 0 := by
  intro n
  induction n with
  | zero =>
    intro x1 x2 x3 S h
    exact (show False from h).elim
  | succ n ih =>
    intro x1 x2 x3 S h
    have hB4 := ih
    rw [sp_spanning_p_4] at h
    refine rb_iload_n X 3 sp_spanning_d4 rfl 3 rfl ?_
    refine rb_bipush X 16 sp_spanning_d5 (by decide) ?_
    refine rb_icmp_ge X 39 sp_spanning_d7 (by decide) (fun hc => ?_) (fun hc => ?_)
    · replace h := h.1 hc
      exact sp_spanning_k_39 X h
    · replace h := h.2 hc
      refine rb_aload_n X 0 sp_spanning_d10 rfl 0 rfl ?_
      refine sp_g15 X sp_spanning_d11 ?_
      refine rb_iload_n X 3 sp_spanning_d14 rfl 3 rfl ?_
      obtain ⟨hin, h⟩ := h
      refine rb_iald X 12 (rb_a12 Z) sp_spanning_d15 hin ?_
      refine rb_iload_n X 1 sp_spanning_d16 rfl 1 rfl ?_
      refine rb_icmp_gt X 33 sp_spanning_d17 (by decide) (fun hc => ?_) (fun hc => ?_)
      · replace h := h.1 hc
        exact sp_spanning_k_33 X hB4 h
      · replace h := h.2 hc
        refine rb_iload_n X 1 sp_spanning_d20 rfl 1 rfl ?_
        refine rb_aload_n X 0 sp_spanning_d21 rfl 0 rfl ?_
        refine sp_g18 X sp_spanning_d22 ?_
        refine rb_iload_n X 3 sp_spanning_d25 rfl 3 rfl ?_
        obtain ⟨hin, h⟩ := h
        refine rb_iald X 13 (rb_a13 Z) sp_spanning_d26 hin ?_
        refine rb_icmp_gt X 33 sp_spanning_d27 (by decide) (fun hc => ?_) (fun hc => ?_)
        · replace h := h.1 hc
          exact sp_spanning_k_33 X hB4 h
        · replace h := h.2 hc
          refine rb_iinc X 1 2 [1, 2, 0, 3] (fun v30 => [(0, .ref (Z.1 3)), (1, .int x1), (2, .int v30), (3, .int x3)]) sp_spanning_d30 2 rfl (by decide) (by decide) (fun _ => rfl) (fun v30 e30 => ?_)
          replace h := h v30 e30
          exact sp_spanning_k_33 X hB4 h
def sp_spanning_p_0 (K : Int32 → rb_S → Prop) (x1 : Int32) (S : rb_S) : Prop := ∃ j4 : Nat, sp_spanning_p_4 K j4 x1 0 0 S
theorem sp_spanning_k_0 {K : Int32 → rb_S → Prop}  (X : rb_X p s m args meth c A Z sp_spanning_b 4 "RoomMaker$Spans" (some .int))  {x1 : Int32} {S : rb_S} (h : sp_spanning_p_0 K x1 S) : rb_V p l e sp_spanning_rm s m args below meth c A (MQ below (va_Qi K (rb_B Z A) A) args s sp_spanning_rm.cells sp_spanning_rm.slots A) Z 4 0 [(0, .ref (Z.1 3)), (1, .int x1)] [] S 0 0 := by
  unfold sp_spanning_p_0 at h
  refine rb_iconst X 0 sp_spanning_d0 (by decide) ?_
  refine rb_istore_n X 2 [1, 2, 0] (L' := [(0, .ref (Z.1 3)), (1, .int x1), (2, .int 0)]) sp_spanning_d1 rfl (by decide) rfl ?_
  refine rb_iconst X 0 sp_spanning_d2 (by decide) ?_
  refine rb_istore_n X 3 [1, 2, 3, 0] (L' := [(0, .ref (Z.1 3)), (1, .int x1), (2, .int 0), (3, .int 0)]) sp_spanning_d3 rfl (by decide) rfl ?_
  obtain ⟨j4, h⟩ := h
  exact sp_spanning_k_4 X j4 _ _ _ _ h
theorem sp_spanning_c (l : Launch) (Z : rb_Z) {K : Int32 → rb_S → Prop} {x1 : Int32} {S : rb_S} (h : sp_spanning_p_0 K x1 S) : rb_Mi l sp_spanning_y sp_spanning_b 4 (some .int) sp_spanning_rm Z [.ref (Z.1 3), .int x1] S K := rb_startI (by decide) (Nat.le_of_ble_eq_true rfl) (fun p e s m args below meth c A X => sp_spanning_k_0 X h)
end
theorem sp_mostAtOnce_d0 : decode sp_mostAtOnce_b 0 = .ok (.iconst 0, 1) := by decide +kernel
theorem sp_mostAtOnce_d1 : decode sp_mostAtOnce_b 1 = .ok (.istore_n 1, 1) := by decide +kernel
theorem sp_mostAtOnce_d2 : decode sp_mostAtOnce_b 2 = .ok (.iconst 0, 1) := by decide +kernel
theorem sp_mostAtOnce_d3 : decode sp_mostAtOnce_b 3 = .ok (.istore_n 2, 1) := by decide +kernel
theorem sp_mostAtOnce_d4 : decode sp_mostAtOnce_b 4 = .ok (.iload_n 2, 1) := by decide +kernel
theorem sp_mostAtOnce_d5 : decode sp_mostAtOnce_b 5 = .ok (.aload_n 0, 1) := by decide +kernel
theorem sp_mostAtOnce_d6 : decode sp_mostAtOnce_b 6 = .ok (.getfield 27, 3) := by decide +kernel
theorem sp_mostAtOnce_d9 : decode sp_mostAtOnce_b 9 = .ok (.if_icmp .ge 19, 3) := by decide +kernel
theorem sp_mostAtOnce_d12 : decode sp_mostAtOnce_b 12 = .ok (.iload_n 1, 1) := by decide +kernel
theorem sp_mostAtOnce_d13 : decode sp_mostAtOnce_b 13 = .ok (.aload_n 0, 1) := by decide +kernel
theorem sp_mostAtOnce_d14 : decode sp_mostAtOnce_b 14 = .ok (.iload_n 2, 1) := by decide +kernel
theorem sp_mostAtOnce_d15 : decode sp_mostAtOnce_b 15 = .ok (.invokevirtual 69, 3) := by decide +kernel
theorem sp_mostAtOnce_d18 : decode sp_mostAtOnce_b 18 = .ok (.invokestatic 72, 3) := by decide +kernel
theorem sp_mostAtOnce_d21 : decode sp_mostAtOnce_b 21 = .ok (.istore_n 1, 1) := by decide +kernel
theorem sp_mostAtOnce_d22 : decode sp_mostAtOnce_b 22 = .ok (.iinc 2 1, 3) := by decide +kernel
theorem sp_mostAtOnce_d25 : decode sp_mostAtOnce_b 25 = .ok (.goto (-21), 3) := by decide +kernel
theorem sp_mostAtOnce_d28 : decode sp_mostAtOnce_b 28 = .ok (.iload_n 1, 1) := by decide +kernel
theorem sp_mostAtOnce_d29 : decode sp_mostAtOnce_b 29 = .ok (.ireturn, 1) := by decide +kernel
abbrev sp_mostAtOnce_rm : Room := { frames := 1, cells := 0, slots := 0, locals := 23 }
theorem sp_mostAtOnce_w : rb_cw sp_mostAtOnce_y sp_mostAtOnce_b 3 (some .int) 0 := ⟨rw_211, rw_4, ⟨by decide, by decide⟩, by decide +kernel⟩
section
variable {p : Program} {l : Launch} {e : Env} {s : State} {m : MethodId} {args : Array Value} {below : List Frame} {meth : Method} {c : Code} {A : Nat → Prop} {Z : rb_Z}
def sp_mostAtOnce_p_28 (K : Int32 → rb_S → Prop) (x1 : Int32) (x2 : Int32) (S : rb_S) : Prop := K x1 S
theorem sp_mostAtOnce_k_28 {K : Int32 → rb_S → Prop}  (X : rb_X p s m args meth c A Z sp_mostAtOnce_b 3 "RoomMaker$Spans" (some .int))  {x1 : Int32} {x2 : Int32} {S : rb_S} (h : sp_mostAtOnce_p_28 K x1 x2 S) : rb_V p l e sp_mostAtOnce_rm s m args below meth c A (MQ below (va_Qi K (rb_B Z A) A) args s sp_mostAtOnce_rm.cells sp_mostAtOnce_rm.slots A) Z 3 28 [(0, .ref (Z.1 3)), (1, .int x1), (2, .int x2)] [] S 0 0 := by
  unfold sp_mostAtOnce_p_28 at h
  refine rb_iload_n X 1 sp_mostAtOnce_d28 rfl 1 rfl ?_
  exact rb_iret X sp_mostAtOnce_d29 h
def sp_mostAtOnce_p_4 (K : Int32 → rb_S → Prop) : Nat → Int32 → Int32 → rb_S → Prop
  | 0, _, _, _ => False
  | n4 + 1, x1, x2, S => ((S 0 4) ≤ x2 → sp_mostAtOnce_p_28 K x1 x2 S) ∧ (¬ (S 0 4) ≤ x2 → sp_spanning_p_0 (fun r15 S15 => ∀ v21 : Int32, v21 = (if x1 < r15 then r15 else x1) → (∀ v22 : Int32, v22 = x2 + 1 → ((fun a0 a1 T => sp_mostAtOnce_p_4 K n4 a0 a1 T) v21 v22 S15))) x2 S)
theorem sp_mostAtOnce_k_4 {K : Int32 → rb_S → Prop}  (X : rb_X p s m args meth c A Z sp_mostAtOnce_b 3 "RoomMaker$Spans" (some .int))  : ∀ (n : Nat) (x1 : Int32) (x2 : Int32) (S : rb_S), sp_mostAtOnce_p_4 K n x1 x2 S → rb_V p l e sp_mostAtOnce_rm s m args below meth c A (MQ below (va_Qi K (rb_B Z A) A) args s sp_mostAtOnce_rm.cells sp_mostAtOnce_rm.slots A) Z 3 4 [(0, .ref (Z.1 3)), (1, .int x1), (2, .int x2)] [] S 0 0 := by
  intro n
  induction n with
  | zero =>
    intro x1 x2 S h
    exact (show False from h).elim
  | succ n ih =>
    intro x1 x2 S h
    have hB4 := ih
    rw [sp_mostAtOnce_p_4] at h
    refine rb_iload_n X 2 sp_mostAtOnce_d4 rfl 2 rfl ?_
    refine rb_aload_n X 0 sp_mostAtOnce_d5 rfl 0 rfl ?_
    refine sp_g27 X sp_mostAtOnce_d6 ?_
    refine rb_icmp_ge X 28 sp_mostAtOnce_d9 (by decide) (fun hc => ?_) (fun hc => ?_)
    · replace h := h.1 hc
      exact sp_mostAtOnce_k_28 X h
    · replace h := h.2 hc
      refine rb_iload_n X 1 sp_mostAtOnce_d12 rfl 1 rfl ?_
      refine rb_aload_n X 0 sp_mostAtOnce_d13 rfl 0 rfl ?_
      refine rb_iload_n X 2 sp_mostAtOnce_d14 rfl 2 rfl ?_
      refine rb_callVi (As := [.int x2]) (rest := [.int x1]) X (sp_spanning_c l Z h) sp_spanning_w ⟨by decide, by decide⟩ rw_212 rw_214 rs_3 (q0 := 3) rfl rfl rfl rfl (Nat.le_of_ble_eq_true rfl) sp_mostAtOnce_d15 ⟨by decide, by decide⟩ (fun r15 S15 h => ?_)
      refine rb_mmax X rw_216 rw_217 rw_15 rw_218 (by decide) (by decide) (Nat.zero_le _) (Nat.zero_le _) sp_mostAtOnce_d18 ?_
      refine rb_topi (fun v21 e21 => ?_)
      replace h := h v21 e21
      refine rb_istore_n X 1 [1, 0, 2] (L' := [(0, .ref (Z.1 3)), (1, .int v21), (2, .int x2)]) sp_mostAtOnce_d21 rfl (by decide) rfl ?_
      refine rb_iinc X 1 2 [1, 2, 0] (fun v22 => [(0, .ref (Z.1 3)), (1, .int v21), (2, .int v22)]) sp_mostAtOnce_d22 2 rfl (by decide) (by decide) (fun _ => rfl) (fun v22 e22 => ?_)
      replace h := h v22 e22
      refine rb_goto X 4 sp_mostAtOnce_d25 (by decide) ?_
      exact hB4 _ _ _ h
def sp_mostAtOnce_p_0 (K : Int32 → rb_S → Prop)  (S : rb_S) : Prop := ∃ j4 : Nat, sp_mostAtOnce_p_4 K j4 0 0 S
theorem sp_mostAtOnce_k_0 {K : Int32 → rb_S → Prop}  (X : rb_X p s m args meth c A Z sp_mostAtOnce_b 3 "RoomMaker$Spans" (some .int))   {S : rb_S} (h : sp_mostAtOnce_p_0 K S) : rb_V p l e sp_mostAtOnce_rm s m args below meth c A (MQ below (va_Qi K (rb_B Z A) A) args s sp_mostAtOnce_rm.cells sp_mostAtOnce_rm.slots A) Z 3 0 [(0, .ref (Z.1 3))] [] S 0 0 := by
  unfold sp_mostAtOnce_p_0 at h
  refine rb_iconst X 0 sp_mostAtOnce_d0 (by decide) ?_
  refine rb_istore_n X 1 [1, 0] (L' := [(0, .ref (Z.1 3)), (1, .int 0)]) sp_mostAtOnce_d1 rfl (by decide) rfl ?_
  refine rb_iconst X 0 sp_mostAtOnce_d2 (by decide) ?_
  refine rb_istore_n X 2 [1, 2, 0] (L' := [(0, .ref (Z.1 3)), (1, .int 0), (2, .int 0)]) sp_mostAtOnce_d3 rfl (by decide) rfl ?_
  obtain ⟨j4, h⟩ := h
  exact sp_mostAtOnce_k_4 X j4 _ _ _ h
theorem sp_mostAtOnce_c (l : Launch) (Z : rb_Z) {K : Int32 → rb_S → Prop}  {S : rb_S} (h : sp_mostAtOnce_p_0 K S) : rb_Mi l sp_mostAtOnce_y sp_mostAtOnce_b 3 (some .int) sp_mostAtOnce_rm Z [.ref (Z.1 3)] S K := rb_startI (by decide) (Nat.le_of_ble_eq_true rfl) (fun p e s m args below meth c A X => sp_mostAtOnce_k_0 X h)
end
theorem sp_livingAhead_d0 : decode sp_livingAhead_b 0 = .ok (.iload_n 1, 1) := by decide +kernel
theorem sp_livingAhead_d1 : decode sp_livingAhead_b 1 = .ok (.ifCond .lt 24, 3) := by decide +kernel
theorem sp_livingAhead_d4 : decode sp_livingAhead_b 4 = .ok (.iconst 2, 1) := by decide +kernel
theorem sp_livingAhead_d5 : decode sp_livingAhead_b 5 = .ok (.iload_n 1, 1) := by decide +kernel
theorem sp_livingAhead_d6 : decode sp_livingAhead_b 6 = .ok (.imul, 1) := by decide +kernel
theorem sp_livingAhead_d7 : decode sp_livingAhead_b 7 = .ok (.aload_n 0, 1) := by decide +kernel
theorem sp_livingAhead_d8 : decode sp_livingAhead_b 8 = .ok (.getfield 27, 3) := by decide +kernel
theorem sp_livingAhead_d11 : decode sp_livingAhead_b 11 = .ok (.if_icmp .ge 14, 3) := by decide +kernel
theorem sp_livingAhead_d14 : decode sp_livingAhead_b 14 = .ok (.aload_n 0, 1) := by decide +kernel
theorem sp_livingAhead_d15 : decode sp_livingAhead_b 15 = .ok (.getfield 9, 3) := by decide +kernel
theorem sp_livingAhead_d18 : decode sp_livingAhead_b 18 = .ok (.iconst 2, 1) := by decide +kernel
theorem sp_livingAhead_d19 : decode sp_livingAhead_b 19 = .ok (.iload_n 1, 1) := by decide +kernel
theorem sp_livingAhead_d20 : decode sp_livingAhead_b 20 = .ok (.imul, 1) := by decide +kernel
theorem sp_livingAhead_d21 : decode sp_livingAhead_b 21 = .ok (.iaload, 1) := by decide +kernel
theorem sp_livingAhead_d22 : decode sp_livingAhead_b 22 = .ok (.goto 4, 3) := by decide +kernel
theorem sp_livingAhead_d25 : decode sp_livingAhead_b 25 = .ok (.iconst 0, 1) := by decide +kernel
theorem sp_livingAhead_d26 : decode sp_livingAhead_b 26 = .ok (.ireturn, 1) := by decide +kernel
abbrev sp_livingAhead_rm : Room := { frames := 0, cells := 0, slots := 0, locals := 0 }
theorem sp_livingAhead_w : rb_cw sp_livingAhead_y sp_livingAhead_b 2 (some .int) 1 := ⟨rw_398, rw_4, ⟨by decide, by decide⟩, by decide +kernel⟩
section
variable {p : Program} {l : Launch} {e : Env} {s : State} {m : MethodId} {args : Array Value} {below : List Frame} {meth : Method} {c : Code} {A : Nat → Prop} {Z : rb_Z}
def sp_livingAhead_p_26 (K : Int32 → rb_S → Prop) (x1 : Int32) (y0 : Int32) (S : rb_S) : Prop := K y0 S
theorem sp_livingAhead_k_26 {K : Int32 → rb_S → Prop}  (X : rb_X p s m args meth c A Z sp_livingAhead_b 2 "RoomMaker$Spans" (some .int))  {x1 : Int32} {y0 : Int32} {S : rb_S} (h : sp_livingAhead_p_26 K x1 y0 S) : rb_V p l e sp_livingAhead_rm s m args below meth c A (MQ below (va_Qi K (rb_B Z A) A) args s sp_livingAhead_rm.cells sp_livingAhead_rm.slots A) Z 2 26 [(0, .ref (Z.1 3)), (1, .int x1)] [.int y0] S 0 0 := by
  unfold sp_livingAhead_p_26 at h
  exact rb_iret X sp_livingAhead_d26 h
def sp_livingAhead_p_25 (K : Int32 → rb_S → Prop) (x1 : Int32) (S : rb_S) : Prop := sp_livingAhead_p_26 K x1 0 S
theorem sp_livingAhead_k_25 {K : Int32 → rb_S → Prop}  (X : rb_X p s m args meth c A Z sp_livingAhead_b 2 "RoomMaker$Spans" (some .int))  {x1 : Int32} {S : rb_S} (h : sp_livingAhead_p_25 K x1 S) : rb_V p l e sp_livingAhead_rm s m args below meth c A (MQ below (va_Qi K (rb_B Z A) A) args s sp_livingAhead_rm.cells sp_livingAhead_rm.slots A) Z 2 25 [(0, .ref (Z.1 3)), (1, .int x1)] [] S 0 0 := by
  unfold sp_livingAhead_p_25 at h
  refine rb_iconst X 0 sp_livingAhead_d25 (by decide) ?_
  exact sp_livingAhead_k_26 X h
def sp_livingAhead_p_0 (K : Int32 → rb_S → Prop) (x1 : Int32) (S : rb_S) : Prop := (x1 < 0 → sp_livingAhead_p_25 K x1 S) ∧ (¬ x1 < 0 → ((S 0 4) ≤ (2 * x1) → sp_livingAhead_p_25 K x1 S) ∧ (¬ (S 0 4) ≤ (2 * x1) → vp_in (2 * x1) 128 ∧ (sp_livingAhead_p_26 K x1 (S 11 (2 * x1).toNatClampNeg) S)))
theorem sp_livingAhead_k_0 {K : Int32 → rb_S → Prop}  (X : rb_X p s m args meth c A Z sp_livingAhead_b 2 "RoomMaker$Spans" (some .int))  {x1 : Int32} {S : rb_S} (h : sp_livingAhead_p_0 K x1 S) : rb_V p l e sp_livingAhead_rm s m args below meth c A (MQ below (va_Qi K (rb_B Z A) A) args s sp_livingAhead_rm.cells sp_livingAhead_rm.slots A) Z 2 0 [(0, .ref (Z.1 3)), (1, .int x1)] [] S 0 0 := by
  unfold sp_livingAhead_p_0 at h
  refine rb_iload_n X 1 sp_livingAhead_d0 rfl 1 rfl ?_
  refine rb_if_lt X 25 sp_livingAhead_d1 (by decide) (fun hc => ?_) (fun hc => ?_)
  · replace h := h.1 hc
    exact sp_livingAhead_k_25 X h
  · replace h := h.2 hc
    refine rb_iconst X 2 sp_livingAhead_d4 (by decide) ?_
    refine rb_iload_n X 1 sp_livingAhead_d5 rfl 1 rfl ?_
    refine rb_imul X sp_livingAhead_d6 ?_
    refine rb_aload_n X 0 sp_livingAhead_d7 rfl 0 rfl ?_
    refine sp_g27 X sp_livingAhead_d8 ?_
    refine rb_icmp_ge X 25 sp_livingAhead_d11 (by decide) (fun hc => ?_) (fun hc => ?_)
    · replace h := h.1 hc
      exact sp_livingAhead_k_25 X h
    · replace h := h.2 hc
      refine rb_aload_n X 0 sp_livingAhead_d14 rfl 0 rfl ?_
      refine sp_g9 X sp_livingAhead_d15 ?_
      refine rb_iconst X 2 sp_livingAhead_d18 (by decide) ?_
      refine rb_iload_n X 1 sp_livingAhead_d19 rfl 1 rfl ?_
      refine rb_imul X sp_livingAhead_d20 ?_
      obtain ⟨hin, h⟩ := h
      refine rb_iald X 11 (rb_a11 Z) sp_livingAhead_d21 hin ?_
      refine rb_goto X 26 sp_livingAhead_d22 (by decide) ?_
      exact sp_livingAhead_k_26 X h
theorem sp_livingAhead_c (l : Launch) (Z : rb_Z) {K : Int32 → rb_S → Prop} {x1 : Int32} {S : rb_S} (h : sp_livingAhead_p_0 K x1 S) : rb_Mi l sp_livingAhead_y sp_livingAhead_b 2 (some .int) sp_livingAhead_rm Z [.ref (Z.1 3), .int x1] S K := rb_startI (by decide) (Nat.le_of_ble_eq_true rfl) (fun p e s m args below meth c A X => sp_livingAhead_k_0 X h)
end
theorem sp_livingBehind_d0 : decode sp_livingBehind_b 0 = .ok (.aload_n 1, 1) := by decide +kernel
theorem sp_livingBehind_d1 : decode sp_livingBehind_b 1 = .ok (.iload_n 2, 1) := by decide +kernel
theorem sp_livingBehind_d2 : decode sp_livingBehind_b 2 = .ok (.invokevirtual 55, 3) := by decide +kernel
theorem sp_livingBehind_d5 : decode sp_livingBehind_b 5 = .ok (.ifCond .eq 13, 3) := by decide +kernel
theorem sp_livingBehind_d8 : decode sp_livingBehind_b 8 = .ok (.aload_n 0, 1) := by decide +kernel
theorem sp_livingBehind_d9 : decode sp_livingBehind_b 9 = .ok (.iload_n 2, 1) := by decide +kernel
theorem sp_livingBehind_d10 : decode sp_livingBehind_b 10 = .ok (.iconst 1, 1) := by decide +kernel
theorem sp_livingBehind_d11 : decode sp_livingBehind_b 11 = .ok (.iadd, 1) := by decide +kernel
theorem sp_livingBehind_d12 : decode sp_livingBehind_b 12 = .ok (.invokevirtual 59, 3) := by decide +kernel
theorem sp_livingBehind_d15 : decode sp_livingBehind_b 15 = .ok (.goto 4, 3) := by decide +kernel
theorem sp_livingBehind_d18 : decode sp_livingBehind_b 18 = .ok (.iconst 0, 1) := by decide +kernel
theorem sp_livingBehind_d19 : decode sp_livingBehind_b 19 = .ok (.istore_n 3, 1) := by decide +kernel
theorem sp_livingBehind_d20 : decode sp_livingBehind_b 20 = .ok (.iload_n 3, 1) := by decide +kernel
theorem sp_livingBehind_d21 : decode sp_livingBehind_b 21 = .ok (.aload_n 0, 1) := by decide +kernel
theorem sp_livingBehind_d22 : decode sp_livingBehind_b 22 = .ok (.aload_n 1, 1) := by decide +kernel
theorem sp_livingBehind_d23 : decode sp_livingBehind_b 23 = .ok (.iload_n 2, 1) := by decide +kernel
theorem sp_livingBehind_d24 : decode sp_livingBehind_b 24 = .ok (.invokevirtual 62, 3) := by decide +kernel
theorem sp_livingBehind_d27 : decode sp_livingBehind_b 27 = .ok (.invokevirtual 59, 3) := by decide +kernel
theorem sp_livingBehind_d30 : decode sp_livingBehind_b 30 = .ok (.ior, 1) := by decide +kernel
theorem sp_livingBehind_d31 : decode sp_livingBehind_b 31 = .ok (.ireturn, 1) := by decide +kernel
abbrev sp_livingBehind_rm : Room := { frames := 1, cells := 0, slots := 0, locals := 21 }
theorem sp_livingBehind_w : rb_cw sp_livingBehind_y sp_livingBehind_b 4 (some .int) 2 := ⟨rw_390, rw_4, ⟨by decide, by decide⟩, by decide +kernel⟩
section
variable {p : Program} {l : Launch} {e : Env} {s : State} {m : MethodId} {args : Array Value} {below : List Frame} {meth : Method} {c : Code} {A : Nat → Prop} {Z : rb_Z}
def sp_livingBehind_p_19 (K : Int32 → rb_S → Prop) (x2 : Int32) (y0 : Int32) (S : rb_S) : Prop := pg_targetOf_p_0 (fun r24 S24 => sp_livingAhead_p_0 (fun r27 S27 => K (y0 ||| r27) S27) r24 S24) x2 S
theorem sp_livingBehind_k_19 {K : Int32 → rb_S → Prop}  (X : rb_X p s m args meth c A Z sp_livingBehind_b 4 "RoomMaker$Spans" (some .int))  {x2 : Int32} {y0 : Int32} {S : rb_S} (h : sp_livingBehind_p_19 K x2 y0 S) : rb_V p l e sp_livingBehind_rm s m args below meth c A (MQ below (va_Qi K (rb_B Z A) A) args s sp_livingBehind_rm.cells sp_livingBehind_rm.slots A) Z 4 19 [(0, .ref (Z.1 3)), (1, .ref (Z.1 1)), (2, .int x2)] [.int y0] S 0 0 := by
  unfold sp_livingBehind_p_19 at h
  refine rb_istore_n X 3 [1, 2, 3, 0] (L' := [(0, .ref (Z.1 3)), (1, .ref (Z.1 1)), (2, .int x2), (3, .int y0)]) sp_livingBehind_d19 rfl (by decide) rfl ?_
  refine rb_iload_n X 3 sp_livingBehind_d20 rfl 3 rfl ?_
  refine rb_aload_n X 0 sp_livingBehind_d21 rfl 0 rfl ?_
  refine rb_aload_n X 1 sp_livingBehind_d22 rfl 1 rfl ?_
  refine rb_iload_n X 2 sp_livingBehind_d23 rfl 2 rfl ?_
  refine rb_callVNi (As := [.int x2]) (rest := [.ref (Z.1 3), .int y0]) X (pg_targetOf_c l Z h) pg_targetOf_w ⟨by decide, by decide⟩ rn_399 rw_360 rs_11 (q0 := 1) rfl rfl rfl rfl (Nat.le_of_ble_eq_true rfl) sp_livingBehind_d24 ⟨by decide, by decide⟩ (fun r24 S24 h => ?_)
  refine rb_callVi (As := [.int r24]) (rest := [.int y0]) X (sp_livingAhead_c l Z h) sp_livingAhead_w ⟨by decide, by decide⟩ rw_395 rw_397 rs_16 (q0 := 3) rfl rfl rfl rfl (Nat.le_of_ble_eq_true rfl) sp_livingBehind_d27 ⟨by decide, by decide⟩ (fun r27 S27 h => ?_)
  refine rb_ior X sp_livingBehind_d30 ?_
  exact rb_iret X sp_livingBehind_d31 h
def sp_livingBehind_p_0 (K : Int32 → rb_S → Prop) (x2 : Int32) (S : rb_S) : Prop := pg_goesOn_p_0 (fun r2 S2 => (r2 = 0 → sp_livingBehind_p_19 K x2 0 S2) ∧ (¬ r2 = 0 → sp_livingAhead_p_0 (fun r12 S12 => sp_livingBehind_p_19 K x2 r12 S12) (x2 + 1) S2)) x2 S
theorem sp_livingBehind_k_0 {K : Int32 → rb_S → Prop}  (X : rb_X p s m args meth c A Z sp_livingBehind_b 4 "RoomMaker$Spans" (some .int))  {x2 : Int32} {S : rb_S} (h : sp_livingBehind_p_0 K x2 S) : rb_V p l e sp_livingBehind_rm s m args below meth c A (MQ below (va_Qi K (rb_B Z A) A) args s sp_livingBehind_rm.cells sp_livingBehind_rm.slots A) Z 4 0 [(0, .ref (Z.1 3)), (1, .ref (Z.1 1)), (2, .int x2)] [] S 0 0 := by
  unfold sp_livingBehind_p_0 at h
  refine rb_aload_n X 1 sp_livingBehind_d0 rfl 1 rfl ?_
  refine rb_iload_n X 2 sp_livingBehind_d1 rfl 2 rfl ?_
  refine rb_callVNi (As := [.int x2]) (rest := []) X (pg_goesOn_c l Z h) pg_goesOn_w ⟨by decide, by decide⟩ rn_391 rw_393 rs_15 (q0 := 1) rfl rfl rfl rfl (Nat.le_of_ble_eq_true rfl) sp_livingBehind_d2 ⟨by decide, by decide⟩ (fun r2 S2 h => ?_)
  refine rb_if_eq X 18 sp_livingBehind_d5 (by decide) (fun hc => ?_) (fun hc => ?_)
  · replace h := h.1 hc
    refine rb_iconst X 0 sp_livingBehind_d18 (by decide) ?_
    exact sp_livingBehind_k_19 X h
  · replace h := h.2 hc
    refine rb_aload_n X 0 sp_livingBehind_d8 rfl 0 rfl ?_
    refine rb_iload_n X 2 sp_livingBehind_d9 rfl 2 rfl ?_
    refine rb_iconst X 1 sp_livingBehind_d10 (by decide) ?_
    refine rb_iadd X sp_livingBehind_d11 ?_
    refine rb_callVi (As := [.int (x2 + 1)]) (rest := []) X (sp_livingAhead_c l Z h) sp_livingAhead_w ⟨by decide, by decide⟩ rw_395 rw_397 rs_16 (q0 := 3) rfl rfl rfl rfl (Nat.le_of_ble_eq_true rfl) sp_livingBehind_d12 ⟨by decide, by decide⟩ (fun r12 S12 h => ?_)
    refine rb_goto X 19 sp_livingBehind_d15 (by decide) ?_
    exact sp_livingBehind_k_19 X h
theorem sp_livingBehind_c (l : Launch) (Z : rb_Z) {K : Int32 → rb_S → Prop} {x2 : Int32} {S : rb_S} (h : sp_livingBehind_p_0 K x2 S) : rb_Mi l sp_livingBehind_y sp_livingBehind_b 4 (some .int) sp_livingBehind_rm Z [.ref (Z.1 3), .ref (Z.1 1), .int x2] S K := rb_startI (by decide) (Nat.le_of_ble_eq_true rfl) (fun p e s m args below meth c A X => sp_livingBehind_k_0 X h)
end
theorem sp_passBack_d0 : decode sp_passBack_b 0 = .ok (.iconst 0, 1) := by decide +kernel
theorem sp_passBack_d1 : decode sp_passBack_b 1 = .ok (.istore_n 2, 1) := by decide +kernel
theorem sp_passBack_d2 : decode sp_passBack_b 2 = .ok (.aload_n 1, 1) := by decide +kernel
theorem sp_passBack_d3 : decode sp_passBack_b 3 = .ok (.getfield 21, 3) := by decide +kernel
theorem sp_passBack_d6 : decode sp_passBack_b 6 = .ok (.iconst 1, 1) := by decide +kernel
theorem sp_passBack_d7 : decode sp_passBack_b 7 = .ok (.isub, 1) := by decide +kernel
theorem sp_passBack_d8 : decode sp_passBack_b 8 = .ok (.istore_n 3, 1) := by decide +kernel
theorem sp_passBack_d9 : decode sp_passBack_b 9 = .ok (.iload_n 3, 1) := by decide +kernel
theorem sp_passBack_d10 : decode sp_passBack_b 10 = .ok (.ifCond .lt 80, 3) := by decide +kernel
theorem sp_passBack_d13 : decode sp_passBack_b 13 = .ok (.aload_n 0, 1) := by decide +kernel
theorem sp_passBack_d14 : decode sp_passBack_b 14 = .ok (.aload_n 1, 1) := by decide +kernel
theorem sp_passBack_d15 : decode sp_passBack_b 15 = .ok (.iload_n 3, 1) := by decide +kernel
theorem sp_passBack_d16 : decode sp_passBack_b 16 = .ok (.invokevirtual 44, 3) := by decide +kernel
theorem sp_passBack_d19 : decode sp_passBack_b 19 = .ok (.istore 4, 2) := by decide +kernel
theorem sp_passBack_d21 : decode sp_passBack_b 21 = .ok (.aload_n 1, 1) := by decide +kernel
theorem sp_passBack_d22 : decode sp_passBack_b 22 = .ok (.iload_n 3, 1) := by decide +kernel
theorem sp_passBack_d23 : decode sp_passBack_b 23 = .ok (.invokevirtual 48, 3) := by decide +kernel
theorem sp_passBack_d26 : decode sp_passBack_b 26 = .ok (.iload 4, 2) := by decide +kernel
theorem sp_passBack_d28 : decode sp_passBack_b 28 = .ok (.aload_n 1, 1) := by decide +kernel
theorem sp_passBack_d29 : decode sp_passBack_b 29 = .ok (.iload_n 3, 1) := by decide +kernel
theorem sp_passBack_d30 : decode sp_passBack_b 30 = .ok (.invokevirtual 52, 3) := by decide +kernel
theorem sp_passBack_d33 : decode sp_passBack_b 33 = .ok (.iconst (-1), 1) := by decide +kernel
theorem sp_passBack_d34 : decode sp_passBack_b 34 = .ok (.ixor, 1) := by decide +kernel
theorem sp_passBack_d35 : decode sp_passBack_b 35 = .ok (.iand, 1) := by decide +kernel
theorem sp_passBack_d36 : decode sp_passBack_b 36 = .ok (.ior, 1) := by decide +kernel
theorem sp_passBack_d37 : decode sp_passBack_b 37 = .ok (.istore 5, 2) := by decide +kernel
theorem sp_passBack_d39 : decode sp_passBack_b 39 = .ok (.iload_n 2, 1) := by decide +kernel
theorem sp_passBack_d40 : decode sp_passBack_b 40 = .ok (.ifCond .ne 16, 3) := by decide +kernel
theorem sp_passBack_d43 : decode sp_passBack_b 43 = .ok (.aload_n 0, 1) := by decide +kernel
theorem sp_passBack_d44 : decode sp_passBack_b 44 = .ok (.getfield 9, 3) := by decide +kernel
theorem sp_passBack_d47 : decode sp_passBack_b 47 = .ok (.iconst 2, 1) := by decide +kernel
theorem sp_passBack_d48 : decode sp_passBack_b 48 = .ok (.iload_n 3, 1) := by decide +kernel
theorem sp_passBack_d49 : decode sp_passBack_b 49 = .ok (.imul, 1) := by decide +kernel
theorem sp_passBack_d50 : decode sp_passBack_b 50 = .ok (.iaload, 1) := by decide +kernel
theorem sp_passBack_d51 : decode sp_passBack_b 51 = .ok (.iload 5, 2) := by decide +kernel
theorem sp_passBack_d53 : decode sp_passBack_b 53 = .ok (.if_icmp .eq 7, 3) := by decide +kernel
theorem sp_passBack_d56 : decode sp_passBack_b 56 = .ok (.iconst 1, 1) := by decide +kernel
theorem sp_passBack_d57 : decode sp_passBack_b 57 = .ok (.goto 4, 3) := by decide +kernel
theorem sp_passBack_d60 : decode sp_passBack_b 60 = .ok (.iconst 0, 1) := by decide +kernel
theorem sp_passBack_d61 : decode sp_passBack_b 61 = .ok (.istore_n 2, 1) := by decide +kernel
theorem sp_passBack_d62 : decode sp_passBack_b 62 = .ok (.aload_n 0, 1) := by decide +kernel
theorem sp_passBack_d63 : decode sp_passBack_b 63 = .ok (.getfield 9, 3) := by decide +kernel
theorem sp_passBack_d66 : decode sp_passBack_b 66 = .ok (.iconst 2, 1) := by decide +kernel
theorem sp_passBack_d67 : decode sp_passBack_b 67 = .ok (.iload_n 3, 1) := by decide +kernel
theorem sp_passBack_d68 : decode sp_passBack_b 68 = .ok (.imul, 1) := by decide +kernel
theorem sp_passBack_d69 : decode sp_passBack_b 69 = .ok (.iload 5, 2) := by decide +kernel
theorem sp_passBack_d71 : decode sp_passBack_b 71 = .ok (.iastore, 1) := by decide +kernel
theorem sp_passBack_d72 : decode sp_passBack_b 72 = .ok (.aload_n 0, 1) := by decide +kernel
theorem sp_passBack_d73 : decode sp_passBack_b 73 = .ok (.getfield 9, 3) := by decide +kernel
theorem sp_passBack_d76 : decode sp_passBack_b 76 = .ok (.iconst 2, 1) := by decide +kernel
theorem sp_passBack_d77 : decode sp_passBack_b 77 = .ok (.iload_n 3, 1) := by decide +kernel
theorem sp_passBack_d78 : decode sp_passBack_b 78 = .ok (.imul, 1) := by decide +kernel
theorem sp_passBack_d79 : decode sp_passBack_b 79 = .ok (.iconst 1, 1) := by decide +kernel
theorem sp_passBack_d80 : decode sp_passBack_b 80 = .ok (.iadd, 1) := by decide +kernel
theorem sp_passBack_d81 : decode sp_passBack_b 81 = .ok (.iload 4, 2) := by decide +kernel
theorem sp_passBack_d83 : decode sp_passBack_b 83 = .ok (.iastore, 1) := by decide +kernel
theorem sp_passBack_d84 : decode sp_passBack_b 84 = .ok (.iinc 3 (-1), 3) := by decide +kernel
theorem sp_passBack_d87 : decode sp_passBack_b 87 = .ok (.goto (-78), 3) := by decide +kernel
theorem sp_passBack_d90 : decode sp_passBack_b 90 = .ok (.iload_n 2, 1) := by decide +kernel
theorem sp_passBack_d91 : decode sp_passBack_b 91 = .ok (.ireturn, 1) := by decide +kernel
abbrev sp_passBack_rm : Room := { frames := 2, cells := 0, slots := 0, locals := 44 }
theorem sp_passBack_w : rb_cw sp_passBack_y sp_passBack_b 6 (some .boolean) 1 := ⟨rw_386, rw_4, ⟨by decide, by decide⟩, by decide +kernel⟩
section
variable {p : Program} {l : Launch} {e : Env} {s : State} {m : MethodId} {args : Array Value} {below : List Frame} {meth : Method} {c : Code} {A : Nat → Prop} {Z : rb_Z}
def sp_passBack_p_90 (K : Int32 → rb_S → Prop) (x2 : Int32) (x3 : Int32) (S : rb_S) : Prop := narrow .boolean (.int x2) = .int x2 ∧ K x2 S
theorem sp_passBack_k_90 {K : Int32 → rb_S → Prop}  (X : rb_X p s m args meth c A Z sp_passBack_b 6 "RoomMaker$Spans" (some .boolean))  {x2 : Int32} {x3 : Int32} {S : rb_S} (h : sp_passBack_p_90 K x2 x3 S) : rb_V p l e sp_passBack_rm s m args below meth c A (MQ below (va_Qi K (rb_B Z A) A) args s sp_passBack_rm.cells sp_passBack_rm.slots A) Z 6 90 [(0, .ref (Z.1 3)), (1, .ref (Z.1 1)), (2, .int x2), (3, .int x3)] [] S 0 0 := by
  unfold sp_passBack_p_90 at h
  refine rb_iload_n X 2 sp_passBack_d90 rfl 2 rfl ?_
  obtain ⟨hn, h⟩ := h
  exact rb_zret X sp_passBack_d91 hn h
def sp_passBack_p_61 (K : Int32 → rb_S → Prop) (B9 : Int32 → Int32 → rb_S → Prop) (x2 : Int32) (x3 : Int32) (x4 : Int32) (x5 : Int32) (y0 : Int32) (S : rb_S) : Prop := vp_in (2 * x3) 128 ∧ ∀ S71 : rb_S, S71 = rb_u S 11 (2 * x3).toNatClampNeg x5 → (vp_in ((2 * x3) + 1) 128 ∧ ∀ S83 : rb_S, S83 = rb_u S71 11 ((2 * x3) + 1).toNatClampNeg x4 → (∀ v84 : Int32, v84 = x3 + (-1) → (B9 y0 v84 S83)))
theorem sp_passBack_k_61 {K : Int32 → rb_S → Prop} {B9 : Int32 → Int32 → rb_S → Prop} (X : rb_X p s m args meth c A Z sp_passBack_b 6 "RoomMaker$Spans" (some .boolean)) (hB9 : ∀ (x2 : Int32) (x3 : Int32) (S : rb_S), B9 x2 x3 S → rb_V p l e sp_passBack_rm s m args below meth c A (MQ below (va_Qi K (rb_B Z A) A) args s sp_passBack_rm.cells sp_passBack_rm.slots A) Z 6 9 [(0, .ref (Z.1 3)), (1, .ref (Z.1 1)), (2, .int x2), (3, .int x3)] [] S 0 0) {x2 : Int32} {x3 : Int32} {x4 : Int32} {x5 : Int32} {y0 : Int32} {S : rb_S} (h : sp_passBack_p_61 K B9 x2 x3 x4 x5 y0 S) : rb_V p l e sp_passBack_rm s m args below meth c A (MQ below (va_Qi K (rb_B Z A) A) args s sp_passBack_rm.cells sp_passBack_rm.slots A) Z 6 61 [(0, .ref (Z.1 3)), (1, .ref (Z.1 1)), (2, .int x2), (3, .int x3), (4, .int x4), (5, .int x5)] [.int y0] S 0 0 := by
  unfold sp_passBack_p_61 at h
  refine rb_istore_n X 2 [1, 2, 0, 3, 4, 5] (L' := [(0, .ref (Z.1 3)), (1, .ref (Z.1 1)), (2, .int y0), (3, .int x3), (4, .int x4), (5, .int x5)]) sp_passBack_d61 rfl (by decide) rfl ?_
  refine rb_aload_n X 0 sp_passBack_d62 rfl 0 rfl ?_
  refine sp_g9 X sp_passBack_d63 ?_
  refine rb_iconst X 2 sp_passBack_d66 (by decide) ?_
  refine rb_iload_n X 3 sp_passBack_d67 rfl 3 rfl ?_
  refine rb_imul X sp_passBack_d68 ?_
  refine rb_iload X 5 sp_passBack_d69 5 rfl ?_
  obtain ⟨hin, h⟩ := h
  refine rb_iast X 11 (rb_a11 Z) sp_passBack_d71 hin (fun S71 e71 => ?_)
  replace h := h S71 e71
  refine rb_aload_n X 0 sp_passBack_d72 rfl 0 rfl ?_
  refine sp_g9 X sp_passBack_d73 ?_
  refine rb_iconst X 2 sp_passBack_d76 (by decide) ?_
  refine rb_iload_n X 3 sp_passBack_d77 rfl 3 rfl ?_
  refine rb_imul X sp_passBack_d78 ?_
  refine rb_iconst X 1 sp_passBack_d79 (by decide) ?_
  refine rb_iadd X sp_passBack_d80 ?_
  refine rb_iload X 4 sp_passBack_d81 4 rfl ?_
  obtain ⟨hin, h⟩ := h
  refine rb_iast X 11 (rb_a11 Z) sp_passBack_d83 hin (fun S83 e83 => ?_)
  replace h := h S83 e83
  refine rb_iinc X (-1) 3 [1, 2, 3, 0, 4, 5] (fun v84 => [(0, .ref (Z.1 3)), (1, .ref (Z.1 1)), (2, .int y0), (3, .int v84), (4, .int x4), (5, .int x5)]) sp_passBack_d84 3 rfl (by decide) (by decide) (fun _ => rfl) (fun v84 e84 => ?_)
  replace h := h v84 e84
  refine rb_goto X 9 sp_passBack_d87 (by decide) ?_
  refine rb_cut [0, 1, 2, 3] (L' := [(0, .ref (Z.1 3)), (1, .ref (Z.1 1)), (2, .int y0), (3, .int v84)]) rfl ?_
  exact hB9 _ _ _ h
def sp_passBack_p_56 (K : Int32 → rb_S → Prop) (B9 : Int32 → Int32 → rb_S → Prop) (x2 : Int32) (x3 : Int32) (x4 : Int32) (x5 : Int32) (S : rb_S) : Prop := sp_passBack_p_61 K B9 x2 x3 x4 x5 1 S
theorem sp_passBack_k_56 {K : Int32 → rb_S → Prop} {B9 : Int32 → Int32 → rb_S → Prop} (X : rb_X p s m args meth c A Z sp_passBack_b 6 "RoomMaker$Spans" (some .boolean)) (hB9 : ∀ (x2 : Int32) (x3 : Int32) (S : rb_S), B9 x2 x3 S → rb_V p l e sp_passBack_rm s m args below meth c A (MQ below (va_Qi K (rb_B Z A) A) args s sp_passBack_rm.cells sp_passBack_rm.slots A) Z 6 9 [(0, .ref (Z.1 3)), (1, .ref (Z.1 1)), (2, .int x2), (3, .int x3)] [] S 0 0) {x2 : Int32} {x3 : Int32} {x4 : Int32} {x5 : Int32} {S : rb_S} (h : sp_passBack_p_56 K B9 x2 x3 x4 x5 S) : rb_V p l e sp_passBack_rm s m args below meth c A (MQ below (va_Qi K (rb_B Z A) A) args s sp_passBack_rm.cells sp_passBack_rm.slots A) Z 6 56 [(0, .ref (Z.1 3)), (1, .ref (Z.1 1)), (2, .int x2), (3, .int x3), (4, .int x4), (5, .int x5)] [] S 0 0 := by
  unfold sp_passBack_p_56 at h
  refine rb_iconst X 1 sp_passBack_d56 (by decide) ?_
  refine rb_goto X 61 sp_passBack_d57 (by decide) ?_
  exact sp_passBack_k_61 X hB9 h
def sp_passBack_p_9 (K : Int32 → rb_S → Prop) : Nat → Int32 → Int32 → rb_S → Prop
  | 0, _, _, _ => False
  | n9 + 1, x2, x3, S => (x3 < 0 → sp_passBack_p_90 K x2 x3 S) ∧ (¬ x3 < 0 → sp_livingBehind_p_0 (fun r16 S16 => pg_readBy_p_0 (fun r23 S23 => pg_setBy_p_0 (fun r30 S30 => ∀ v37 : Int32, v37 = (r23 ||| (r16 &&& (r30 ^^^ (-1)))) → ((¬ x2 = 0 → sp_passBack_p_56 K (fun a0 a1 T => sp_passBack_p_9 K n9 a0 a1 T) x2 x3 r16 v37 S30) ∧ (x2 = 0 → vp_in (2 * x3) 128 ∧ (((S30 11 (2 * x3).toNatClampNeg) = v37 → sp_passBack_p_61 K (fun a0 a1 T => sp_passBack_p_9 K n9 a0 a1 T) x2 x3 r16 v37 0 S30) ∧ (¬ (S30 11 (2 * x3).toNatClampNeg) = v37 → sp_passBack_p_56 K (fun a0 a1 T => sp_passBack_p_9 K n9 a0 a1 T) x2 x3 r16 v37 S30))))) x3 S23) x3 S16) x3 S)
theorem sp_passBack_k_9 {K : Int32 → rb_S → Prop}  (X : rb_X p s m args meth c A Z sp_passBack_b 6 "RoomMaker$Spans" (some .boolean))  : ∀ (n : Nat) (x2 : Int32) (x3 : Int32) (S : rb_S), sp_passBack_p_9 K n x2 x3 S → rb_V p l e sp_passBack_rm s m args below meth c A (MQ below (va_Qi K (rb_B Z A) A) args s sp_passBack_rm.cells sp_passBack_rm.slots A) Z 6 9 [(0, .ref (Z.1 3)), (1, .ref (Z.1 1)), (2, .int x2), (3, .int x3)] [] S 0 0 := by
  intro n
  induction n with
  | zero =>
    intro x2 x3 S h
    exact (show False from h).elim
  | succ n ih =>
    intro x2 x3 S h
    have hB9 := ih
    rw [sp_passBack_p_9] at h
    refine rb_iload_n X 3 sp_passBack_d9 rfl 3 rfl ?_
    refine rb_if_lt X 90 sp_passBack_d10 (by decide) (fun hc => ?_) (fun hc => ?_)
    · replace h := h.1 hc
      exact sp_passBack_k_90 X h
    · replace h := h.2 hc
      refine rb_aload_n X 0 sp_passBack_d13 rfl 0 rfl ?_
      refine rb_aload_n X 1 sp_passBack_d14 rfl 1 rfl ?_
      refine rb_iload_n X 3 sp_passBack_d15 rfl 3 rfl ?_
      refine rb_callVi (As := [.ref (Z.1 1), .int x3]) (rest := []) X (sp_livingBehind_c l Z h) sp_livingBehind_w ⟨by decide, by decide⟩ rw_387 rw_389 rs_14 (q0 := 3) rfl rfl rfl rfl (Nat.le_of_ble_eq_true rfl) sp_passBack_d16 ⟨by decide, by decide⟩ (fun r16 S16 h => ?_)
      refine rb_istore X 4 [1, 2, 3, 4, 0] (L' := [(0, .ref (Z.1 3)), (1, .ref (Z.1 1)), (2, .int x2), (3, .int x3), (4, .int r16)]) sp_passBack_d19 (by decide) rfl ?_
      refine rb_aload_n X 1 sp_passBack_d21 rfl 1 rfl ?_
      refine rb_iload_n X 3 sp_passBack_d22 rfl 3 rfl ?_
      refine rb_callVNi (As := [.int x3]) (rest := []) X (pg_readBy_c l Z h) pg_readBy_w ⟨by decide, by decide⟩ rn_400 rw_402 rs_17 (q0 := 1) rfl rfl rfl rfl (Nat.le_of_ble_eq_true rfl) sp_passBack_d23 ⟨by decide, by decide⟩ (fun r23 S23 h => ?_)
      refine rb_iload X 4 sp_passBack_d26 4 rfl ?_
      refine rb_aload_n X 1 sp_passBack_d28 rfl 1 rfl ?_
      refine rb_iload_n X 3 sp_passBack_d29 rfl 3 rfl ?_
      refine rb_callVNi (As := [.int x3]) (rest := [.int r16, .int r23]) X (pg_setBy_c l Z h) pg_setBy_w ⟨by decide, by decide⟩ rn_407 rw_409 rs_18 (q0 := 1) rfl rfl rfl rfl (Nat.le_of_ble_eq_true rfl) sp_passBack_d30 ⟨by decide, by decide⟩ (fun r30 S30 h => ?_)
      refine rb_iconst X (-1) sp_passBack_d33 (by decide) ?_
      refine rb_ixor X sp_passBack_d34 ?_
      refine rb_iand X sp_passBack_d35 ?_
      refine rb_ior X sp_passBack_d36 ?_
      refine rb_topi (fun v37 e37 => ?_)
      replace h := h v37 e37
      refine rb_istore X 5 [1, 2, 3, 4, 5, 0] (L' := [(0, .ref (Z.1 3)), (1, .ref (Z.1 1)), (2, .int x2), (3, .int x3), (4, .int r16), (5, .int v37)]) sp_passBack_d37 (by decide) rfl ?_
      refine rb_iload_n X 2 sp_passBack_d39 rfl 2 rfl ?_
      refine rb_if_ne X 56 sp_passBack_d40 (by decide) (fun hc => ?_) (fun hc => ?_)
      · replace h := h.1 hc
        exact sp_passBack_k_56 X hB9 h
      · replace h := h.2 hc
        refine rb_aload_n X 0 sp_passBack_d43 rfl 0 rfl ?_
        refine sp_g9 X sp_passBack_d44 ?_
        refine rb_iconst X 2 sp_passBack_d47 (by decide) ?_
        refine rb_iload_n X 3 sp_passBack_d48 rfl 3 rfl ?_
        refine rb_imul X sp_passBack_d49 ?_
        obtain ⟨hin, h⟩ := h
        refine rb_iald X 11 (rb_a11 Z) sp_passBack_d50 hin ?_
        refine rb_iload X 5 sp_passBack_d51 5 rfl ?_
        refine rb_icmp_eq X 60 sp_passBack_d53 (by decide) (fun hc => ?_) (fun hc => ?_)
        · replace h := h.1 hc
          refine rb_iconst X 0 sp_passBack_d60 (by decide) ?_
          exact sp_passBack_k_61 X hB9 h
        · replace h := h.2 hc
          exact sp_passBack_k_56 X hB9 h
def sp_passBack_p_0 (K : Int32 → rb_S → Prop)  (S : rb_S) : Prop := ∀ v8 : Int32, v8 = ((S 0 1) - 1) → (∃ j9 : Nat, sp_passBack_p_9 K j9 0 v8 S)
theorem sp_passBack_k_0 {K : Int32 → rb_S → Prop}  (X : rb_X p s m args meth c A Z sp_passBack_b 6 "RoomMaker$Spans" (some .boolean))   {S : rb_S} (h : sp_passBack_p_0 K S) : rb_V p l e sp_passBack_rm s m args below meth c A (MQ below (va_Qi K (rb_B Z A) A) args s sp_passBack_rm.cells sp_passBack_rm.slots A) Z 6 0 [(0, .ref (Z.1 3)), (1, .ref (Z.1 1))] [] S 0 0 := by
  unfold sp_passBack_p_0 at h
  refine rb_iconst X 0 sp_passBack_d0 (by decide) ?_
  refine rb_istore_n X 2 [1, 2, 0] (L' := [(0, .ref (Z.1 3)), (1, .ref (Z.1 1)), (2, .int 0)]) sp_passBack_d1 rfl (by decide) rfl ?_
  refine rb_aload_n X 1 sp_passBack_d2 rfl 1 rfl ?_
  refine sp_g21 X sp_passBack_d3 ?_
  refine rb_iconst X 1 sp_passBack_d6 (by decide) ?_
  refine rb_isub X sp_passBack_d7 ?_
  refine rb_topi (fun v8 e8 => ?_)
  replace h := h v8 e8
  refine rb_istore_n X 3 [1, 2, 3, 0] (L' := [(0, .ref (Z.1 3)), (1, .ref (Z.1 1)), (2, .int 0), (3, .int v8)]) sp_passBack_d8 rfl (by decide) rfl ?_
  obtain ⟨j9, h⟩ := h
  exact sp_passBack_k_9 X j9 _ _ _ h
theorem sp_passBack_c (l : Launch) (Z : rb_Z) {K : Int32 → rb_S → Prop}  {S : rb_S} (h : sp_passBack_p_0 K S) : rb_Mi l sp_passBack_y sp_passBack_b 6 (some .boolean) sp_passBack_rm Z [.ref (Z.1 3), .ref (Z.1 1)] S K := rb_startI (by decide) (Nat.le_of_ble_eq_true rfl) (fun p e s m args below meth c A X => sp_passBack_k_0 X h)
end
theorem sp_stretch_d0 : decode sp_stretch_b 0 = .ok (.iconst 0, 1) := by decide +kernel
theorem sp_stretch_d1 : decode sp_stretch_b 1 = .ok (.istore_n 3, 1) := by decide +kernel
theorem sp_stretch_d2 : decode sp_stretch_b 2 = .ok (.iload_n 3, 1) := by decide +kernel
theorem sp_stretch_d3 : decode sp_stretch_b 3 = .ok (.bipush 16, 2) := by decide +kernel
theorem sp_stretch_d5 : decode sp_stretch_b 5 = .ok (.if_icmp .ge 51, 3) := by decide +kernel
theorem sp_stretch_d8 : decode sp_stretch_b 8 = .ok (.iload_n 1, 1) := by decide +kernel
theorem sp_stretch_d9 : decode sp_stretch_b 9 = .ok (.iload_n 3, 1) := by decide +kernel
theorem sp_stretch_d10 : decode sp_stretch_b 10 = .ok (.ishr, 1) := by decide +kernel
theorem sp_stretch_d11 : decode sp_stretch_b 11 = .ok (.iconst 1, 1) := by decide +kernel
theorem sp_stretch_d12 : decode sp_stretch_b 12 = .ok (.iand, 1) := by decide +kernel
theorem sp_stretch_d13 : decode sp_stretch_b 13 = .ok (.iconst 1, 1) := by decide +kernel
theorem sp_stretch_d14 : decode sp_stretch_b 14 = .ok (.if_icmp .ne 36, 3) := by decide +kernel
theorem sp_stretch_d17 : decode sp_stretch_b 17 = .ok (.aload_n 0, 1) := by decide +kernel
theorem sp_stretch_d18 : decode sp_stretch_b 18 = .ok (.getfield 15, 3) := by decide +kernel
theorem sp_stretch_d21 : decode sp_stretch_b 21 = .ok (.iload_n 3, 1) := by decide +kernel
theorem sp_stretch_d22 : decode sp_stretch_b 22 = .ok (.aload_n 0, 1) := by decide +kernel
theorem sp_stretch_d23 : decode sp_stretch_b 23 = .ok (.getfield 15, 3) := by decide +kernel
theorem sp_stretch_d26 : decode sp_stretch_b 26 = .ok (.iload_n 3, 1) := by decide +kernel
theorem sp_stretch_d27 : decode sp_stretch_b 27 = .ok (.iaload, 1) := by decide +kernel
theorem sp_stretch_d28 : decode sp_stretch_b 28 = .ok (.iconst (-1), 1) := by decide +kernel
theorem sp_stretch_d29 : decode sp_stretch_b 29 = .ok (.if_icmp .ne 7, 3) := by decide +kernel
theorem sp_stretch_d32 : decode sp_stretch_b 32 = .ok (.iload_n 2, 1) := by decide +kernel
theorem sp_stretch_d33 : decode sp_stretch_b 33 = .ok (.goto 9, 3) := by decide +kernel
theorem sp_stretch_d36 : decode sp_stretch_b 36 = .ok (.aload_n 0, 1) := by decide +kernel
theorem sp_stretch_d37 : decode sp_stretch_b 37 = .ok (.getfield 15, 3) := by decide +kernel
theorem sp_stretch_d40 : decode sp_stretch_b 40 = .ok (.iload_n 3, 1) := by decide +kernel
theorem sp_stretch_d41 : decode sp_stretch_b 41 = .ok (.iaload, 1) := by decide +kernel
theorem sp_stretch_d42 : decode sp_stretch_b 42 = .ok (.iastore, 1) := by decide +kernel
theorem sp_stretch_d43 : decode sp_stretch_b 43 = .ok (.aload_n 0, 1) := by decide +kernel
theorem sp_stretch_d44 : decode sp_stretch_b 44 = .ok (.getfield 18, 3) := by decide +kernel
theorem sp_stretch_d47 : decode sp_stretch_b 47 = .ok (.iload_n 3, 1) := by decide +kernel
theorem sp_stretch_d48 : decode sp_stretch_b 48 = .ok (.iload_n 2, 1) := by decide +kernel
theorem sp_stretch_d49 : decode sp_stretch_b 49 = .ok (.iastore, 1) := by decide +kernel
theorem sp_stretch_d50 : decode sp_stretch_b 50 = .ok (.iinc 3 1, 3) := by decide +kernel
theorem sp_stretch_d53 : decode sp_stretch_b 53 = .ok (.goto (-51), 3) := by decide +kernel
theorem sp_stretch_d56 : decode sp_stretch_b 56 = .ok (.return_, 1) := by decide +kernel
abbrev sp_stretch_rm : Room := { frames := 0, cells := 0, slots := 0, locals := 0 }
theorem sp_stretch_w : rb_cw sp_stretch_y sp_stretch_b 4 none 2 := ⟨rw_418, rw_4, ⟨by decide, by decide⟩, by decide +kernel⟩
section
variable {p : Program} {l : Launch} {e : Env} {s : State} {m : MethodId} {args : Array Value} {below : List Frame} {meth : Method} {c : Code} {A : Nat → Prop} {Z : rb_Z}
def sp_stretch_p_56 (K : rb_S → Prop) (x1 : Int32) (x2 : Int32) (x3 : Int32) (S : rb_S) : Prop := K S
theorem sp_stretch_k_56 {K : rb_S → Prop}  (X : rb_X p s m args meth c A Z sp_stretch_b 4 "RoomMaker$Spans" none)  {x1 : Int32} {x2 : Int32} {x3 : Int32} {S : rb_S} (h : sp_stretch_p_56 K x1 x2 x3 S) : rb_V p l e sp_stretch_rm s m args below meth c A (MQ below (va_Qv K (rb_B Z A) A) args s sp_stretch_rm.cells sp_stretch_rm.slots A) Z 4 56 [(0, .ref (Z.1 3)), (1, .int x1), (2, .int x2), (3, .int x3)] [] S 0 0 := by
  unfold sp_stretch_p_56 at h
  exact rb_vret X sp_stretch_d56 h
def sp_stretch_p_50 (K : rb_S → Prop) (B2 : Int32 → Int32 → Int32 → rb_S → Prop) (x1 : Int32) (x2 : Int32) (x3 : Int32) (S : rb_S) : Prop := ∀ v50 : Int32, v50 = x3 + 1 → (B2 x1 x2 v50 S)
theorem sp_stretch_k_50 {K : rb_S → Prop} {B2 : Int32 → Int32 → Int32 → rb_S → Prop} (X : rb_X p s m args meth c A Z sp_stretch_b 4 "RoomMaker$Spans" none) (hB2 : ∀ (x1 : Int32) (x2 : Int32) (x3 : Int32) (S : rb_S), B2 x1 x2 x3 S → rb_V p l e sp_stretch_rm s m args below meth c A (MQ below (va_Qv K (rb_B Z A) A) args s sp_stretch_rm.cells sp_stretch_rm.slots A) Z 4 2 [(0, .ref (Z.1 3)), (1, .int x1), (2, .int x2), (3, .int x3)] [] S 0 0) {x1 : Int32} {x2 : Int32} {x3 : Int32} {S : rb_S} (h : sp_stretch_p_50 K B2 x1 x2 x3 S) : rb_V p l e sp_stretch_rm s m args below meth c A (MQ below (va_Qv K (rb_B Z A) A) args s sp_stretch_rm.cells sp_stretch_rm.slots A) Z 4 50 [(0, .ref (Z.1 3)), (1, .int x1), (2, .int x2), (3, .int x3)] [] S 0 0 := by
  unfold sp_stretch_p_50 at h
  refine rb_iinc X 1 3 [1, 2, 3, 0] (fun v50 => [(0, .ref (Z.1 3)), (1, .int x1), (2, .int x2), (3, .int v50)]) sp_stretch_d50 3 rfl (by decide) (by decide) (fun _ => rfl) (fun v50 e50 => ?_)
  replace h := h v50 e50
  refine rb_goto X 2 sp_stretch_d53 (by decide) ?_
  exact hB2 _ _ _ _ h
def sp_stretch_p_42 (K : rb_S → Prop) (B2 : Int32 → Int32 → Int32 → rb_S → Prop) (x1 : Int32) (x2 : Int32) (x3 : Int32) (y0 : Int32) (y1 : Int32) (S : rb_S) : Prop := vp_in y1 16 ∧ ∀ S42 : rb_S, S42 = rb_u S 12 y1.toNatClampNeg y0 → (vp_in x3 16 ∧ ∀ S49 : rb_S, S49 = rb_u S42 13 x3.toNatClampNeg x2 → (sp_stretch_p_50 K B2 x1 x2 x3 S49))
theorem sp_stretch_k_42 {K : rb_S → Prop} {B2 : Int32 → Int32 → Int32 → rb_S → Prop} (X : rb_X p s m args meth c A Z sp_stretch_b 4 "RoomMaker$Spans" none) (hB2 : ∀ (x1 : Int32) (x2 : Int32) (x3 : Int32) (S : rb_S), B2 x1 x2 x3 S → rb_V p l e sp_stretch_rm s m args below meth c A (MQ below (va_Qv K (rb_B Z A) A) args s sp_stretch_rm.cells sp_stretch_rm.slots A) Z 4 2 [(0, .ref (Z.1 3)), (1, .int x1), (2, .int x2), (3, .int x3)] [] S 0 0) {x1 : Int32} {x2 : Int32} {x3 : Int32} {y0 : Int32} {y1 : Int32} {S : rb_S} (h : sp_stretch_p_42 K B2 x1 x2 x3 y0 y1 S) : rb_V p l e sp_stretch_rm s m args below meth c A (MQ below (va_Qv K (rb_B Z A) A) args s sp_stretch_rm.cells sp_stretch_rm.slots A) Z 4 42 [(0, .ref (Z.1 3)), (1, .int x1), (2, .int x2), (3, .int x3)] [.int y0, .int y1, .ref (Z.1 12)] S 0 0 := by
  unfold sp_stretch_p_42 at h
  obtain ⟨hin, h⟩ := h
  refine rb_iast X 12 (rb_a12 Z) sp_stretch_d42 hin (fun S42 e42 => ?_)
  replace h := h S42 e42
  refine rb_aload_n X 0 sp_stretch_d43 rfl 0 rfl ?_
  refine sp_g18 X sp_stretch_d44 ?_
  refine rb_iload_n X 3 sp_stretch_d47 rfl 3 rfl ?_
  refine rb_iload_n X 2 sp_stretch_d48 rfl 2 rfl ?_
  obtain ⟨hin, h⟩ := h
  refine rb_iast X 13 (rb_a13 Z) sp_stretch_d49 hin (fun S49 e49 => ?_)
  replace h := h S49 e49
  exact sp_stretch_k_50 X hB2 h
def sp_stretch_p_2 (K : rb_S → Prop) : Nat → Int32 → Int32 → Int32 → rb_S → Prop
  | 0, _, _, _, _ => False
  | n2 + 1, x1, x2, x3, S => (16 ≤ x3 → sp_stretch_p_56 K x1 x2 x3 S) ∧ (¬ 16 ≤ x3 → (¬ ((x1 >>> (x3 &&& 31)) &&& 1) = 1 → sp_stretch_p_50 K (fun a0 a1 a2 T => sp_stretch_p_2 K n2 a0 a1 a2 T) x1 x2 x3 S) ∧ (((x1 >>> (x3 &&& 31)) &&& 1) = 1 → vp_in x3 16 ∧ ((¬ (S 12 x3.toNatClampNeg) = (-1) → vp_in x3 16 ∧ (sp_stretch_p_42 K (fun a0 a1 a2 T => sp_stretch_p_2 K n2 a0 a1 a2 T) x1 x2 x3 (S 12 x3.toNatClampNeg) x3 S)) ∧ ((S 12 x3.toNatClampNeg) = (-1) → sp_stretch_p_42 K (fun a0 a1 a2 T => sp_stretch_p_2 K n2 a0 a1 a2 T) x1 x2 x3 x2 x3 S))))
theorem sp_stretch_k_2 {K : rb_S → Prop}  (X : rb_X p s m args meth c A Z sp_stretch_b 4 "RoomMaker$Spans" none)  : ∀ (n : Nat) (x1 : Int32) (x2 : Int32) (x3 : Int32) (S : rb_S), sp_stretch_p_2 K n x1 x2 x3 S → rb_V p l e sp_stretch_rm s m args below meth c A (MQ below (va_Qv K (rb_B Z A) A) args s sp_stretch_rm.cells sp_stretch_rm.slots A) Z 4 2 [(0, .ref (Z.1 3)), (1, .int x1), (2, .int x2), (3, .int x3)] [] S 0 0 := by
  intro n
  induction n with
  | zero =>
    intro x1 x2 x3 S h
    exact (show False from h).elim
  | succ n ih =>
    intro x1 x2 x3 S h
    have hB2 := ih
    rw [sp_stretch_p_2] at h
    refine rb_iload_n X 3 sp_stretch_d2 rfl 3 rfl ?_
    refine rb_bipush X 16 sp_stretch_d3 (by decide) ?_
    refine rb_icmp_ge X 56 sp_stretch_d5 (by decide) (fun hc => ?_) (fun hc => ?_)
    · replace h := h.1 hc
      exact sp_stretch_k_56 X h
    · replace h := h.2 hc
      refine rb_iload_n X 1 sp_stretch_d8 rfl 1 rfl ?_
      refine rb_iload_n X 3 sp_stretch_d9 rfl 3 rfl ?_
      refine rb_ishr X sp_stretch_d10 ?_
      refine rb_iconst X 1 sp_stretch_d11 (by decide) ?_
      refine rb_iand X sp_stretch_d12 ?_
      refine rb_iconst X 1 sp_stretch_d13 (by decide) ?_
      refine rb_icmp_ne X 50 sp_stretch_d14 (by decide) (fun hc => ?_) (fun hc => ?_)
      · replace h := h.1 hc
        exact sp_stretch_k_50 X hB2 h
      · replace h := h.2 hc
        refine rb_aload_n X 0 sp_stretch_d17 rfl 0 rfl ?_
        refine sp_g15 X sp_stretch_d18 ?_
        refine rb_iload_n X 3 sp_stretch_d21 rfl 3 rfl ?_
        refine rb_aload_n X 0 sp_stretch_d22 rfl 0 rfl ?_
        refine sp_g15 X sp_stretch_d23 ?_
        refine rb_iload_n X 3 sp_stretch_d26 rfl 3 rfl ?_
        obtain ⟨hin, h⟩ := h
        refine rb_iald X 12 (rb_a12 Z) sp_stretch_d27 hin ?_
        refine rb_iconst X (-1) sp_stretch_d28 (by decide) ?_
        refine rb_icmp_ne X 36 sp_stretch_d29 (by decide) (fun hc => ?_) (fun hc => ?_)
        · replace h := h.1 hc
          refine rb_aload_n X 0 sp_stretch_d36 rfl 0 rfl ?_
          refine sp_g15 X sp_stretch_d37 ?_
          refine rb_iload_n X 3 sp_stretch_d40 rfl 3 rfl ?_
          obtain ⟨hin, h⟩ := h
          refine rb_iald X 12 (rb_a12 Z) sp_stretch_d41 hin ?_
          exact sp_stretch_k_42 X hB2 h
        · replace h := h.2 hc
          refine rb_iload_n X 2 sp_stretch_d32 rfl 2 rfl ?_
          refine rb_goto X 42 sp_stretch_d33 (by decide) ?_
          exact sp_stretch_k_42 X hB2 h
def sp_stretch_p_0 (K : rb_S → Prop) (x1 : Int32) (x2 : Int32) (S : rb_S) : Prop := ∃ j2 : Nat, sp_stretch_p_2 K j2 x1 x2 0 S
theorem sp_stretch_k_0 {K : rb_S → Prop}  (X : rb_X p s m args meth c A Z sp_stretch_b 4 "RoomMaker$Spans" none)  {x1 : Int32} {x2 : Int32} {S : rb_S} (h : sp_stretch_p_0 K x1 x2 S) : rb_V p l e sp_stretch_rm s m args below meth c A (MQ below (va_Qv K (rb_B Z A) A) args s sp_stretch_rm.cells sp_stretch_rm.slots A) Z 4 0 [(0, .ref (Z.1 3)), (1, .int x1), (2, .int x2)] [] S 0 0 := by
  unfold sp_stretch_p_0 at h
  refine rb_iconst X 0 sp_stretch_d0 (by decide) ?_
  refine rb_istore_n X 3 [1, 2, 3, 0] (L' := [(0, .ref (Z.1 3)), (1, .int x1), (2, .int x2), (3, .int 0)]) sp_stretch_d1 rfl (by decide) rfl ?_
  obtain ⟨j2, h⟩ := h
  exact sp_stretch_k_2 X j2 _ _ _ _ h
theorem sp_stretch_c (l : Launch) (Z : rb_Z) {K : rb_S → Prop} {x1 : Int32} {x2 : Int32} {S : rb_S} (h : sp_stretch_p_0 K x1 x2 S) : rb_Mv l sp_stretch_y sp_stretch_b 4 sp_stretch_rm Z [.ref (Z.1 3), .int x1, .int x2] S K := rb_startV (by decide) (Nat.le_of_ble_eq_true rfl) (fun p e s m args below meth c A X => sp_stretch_k_0 X h)
end
theorem sp_measure_d0 : decode sp_measure_b 0 = .ok (.aload_n 0, 1) := by decide +kernel
theorem sp_measure_d1 : decode sp_measure_b 1 = .ok (.getfield 15, 3) := by decide +kernel
theorem sp_measure_d4 : decode sp_measure_b 4 = .ok (.iconst (-1), 1) := by decide +kernel
theorem sp_measure_d5 : decode sp_measure_b 5 = .ok (.invokestatic 30, 3) := by decide +kernel
theorem sp_measure_d8 : decode sp_measure_b 8 = .ok (.aload_n 0, 1) := by decide +kernel
theorem sp_measure_d9 : decode sp_measure_b 9 = .ok (.getfield 18, 3) := by decide +kernel
theorem sp_measure_d12 : decode sp_measure_b 12 = .ok (.iconst (-1), 1) := by decide +kernel
theorem sp_measure_d13 : decode sp_measure_b 13 = .ok (.invokestatic 30, 3) := by decide +kernel
theorem sp_measure_d16 : decode sp_measure_b 16 = .ok (.iconst 0, 1) := by decide +kernel
theorem sp_measure_d17 : decode sp_measure_b 17 = .ok (.istore_n 2, 1) := by decide +kernel
theorem sp_measure_d18 : decode sp_measure_b 18 = .ok (.iload_n 2, 1) := by decide +kernel
theorem sp_measure_d19 : decode sp_measure_b 19 = .ok (.aload_n 0, 1) := by decide +kernel
theorem sp_measure_d20 : decode sp_measure_b 20 = .ok (.getfield 27, 3) := by decide +kernel
theorem sp_measure_d23 : decode sp_measure_b 23 = .ok (.if_icmp .ge 39, 3) := by decide +kernel
theorem sp_measure_d26 : decode sp_measure_b 26 = .ok (.aload_n 0, 1) := by decide +kernel
theorem sp_measure_d27 : decode sp_measure_b 27 = .ok (.getfield 9, 3) := by decide +kernel
theorem sp_measure_d30 : decode sp_measure_b 30 = .ok (.iload_n 2, 1) := by decide +kernel
theorem sp_measure_d31 : decode sp_measure_b 31 = .ok (.iaload, 1) := by decide +kernel
theorem sp_measure_d32 : decode sp_measure_b 32 = .ok (.istore_n 3, 1) := by decide +kernel
theorem sp_measure_d33 : decode sp_measure_b 33 = .ok (.iload_n 2, 1) := by decide +kernel
theorem sp_measure_d34 : decode sp_measure_b 34 = .ok (.iconst 2, 1) := by decide +kernel
theorem sp_measure_d35 : decode sp_measure_b 35 = .ok (.irem, 1) := by decide +kernel
theorem sp_measure_d36 : decode sp_measure_b 36 = .ok (.iconst 1, 1) := by decide +kernel
theorem sp_measure_d37 : decode sp_measure_b 37 = .ok (.if_icmp .ne 13, 3) := by decide +kernel
theorem sp_measure_d40 : decode sp_measure_b 40 = .ok (.iload_n 3, 1) := by decide +kernel
theorem sp_measure_d41 : decode sp_measure_b 41 = .ok (.aload_n 1, 1) := by decide +kernel
theorem sp_measure_d42 : decode sp_measure_b 42 = .ok (.iload_n 2, 1) := by decide +kernel
theorem sp_measure_d43 : decode sp_measure_b 43 = .ok (.iconst 2, 1) := by decide +kernel
theorem sp_measure_d44 : decode sp_measure_b 44 = .ok (.idiv, 1) := by decide +kernel
theorem sp_measure_d45 : decode sp_measure_b 45 = .ok (.invokevirtual 52, 3) := by decide +kernel
theorem sp_measure_d48 : decode sp_measure_b 48 = .ok (.ior, 1) := by decide +kernel
theorem sp_measure_d49 : decode sp_measure_b 49 = .ok (.istore_n 3, 1) := by decide +kernel
theorem sp_measure_d50 : decode sp_measure_b 50 = .ok (.aload_n 0, 1) := by decide +kernel
theorem sp_measure_d51 : decode sp_measure_b 51 = .ok (.iload_n 3, 1) := by decide +kernel
theorem sp_measure_d52 : decode sp_measure_b 52 = .ok (.iload_n 2, 1) := by decide +kernel
theorem sp_measure_d53 : decode sp_measure_b 53 = .ok (.invokevirtual 65, 3) := by decide +kernel
theorem sp_measure_d56 : decode sp_measure_b 56 = .ok (.iinc 2 1, 3) := by decide +kernel
theorem sp_measure_d59 : decode sp_measure_b 59 = .ok (.goto (-41), 3) := by decide +kernel
theorem sp_measure_d62 : decode sp_measure_b 62 = .ok (.return_, 1) := by decide +kernel
abbrev sp_measure_rm : Room := { frames := 2, cells := 0, slots := 0, locals := 42 }
theorem sp_measure_w : rb_cw sp_measure_y sp_measure_b 4 none 1 := ⟨rw_414, rw_4, ⟨by decide, by decide⟩, by decide +kernel⟩
section
variable {p : Program} {l : Launch} {e : Env} {s : State} {m : MethodId} {args : Array Value} {below : List Frame} {meth : Method} {c : Code} {A : Nat → Prop} {Z : rb_Z}
def sp_measure_p_62 (K : rb_S → Prop) (x2 : Int32) (S : rb_S) : Prop := K S
theorem sp_measure_k_62 {K : rb_S → Prop}  (X : rb_X p s m args meth c A Z sp_measure_b 4 "RoomMaker$Spans" none)  {x2 : Int32} {S : rb_S} (h : sp_measure_p_62 K x2 S) : rb_V p l e sp_measure_rm s m args below meth c A (MQ below (va_Qv K (rb_B Z A) A) args s sp_measure_rm.cells sp_measure_rm.slots A) Z 4 62 [(0, .ref (Z.1 3)), (1, .ref (Z.1 1)), (2, .int x2)] [] S 0 0 := by
  unfold sp_measure_p_62 at h
  exact rb_vret X sp_measure_d62 h
def sp_measure_p_50 (K : rb_S → Prop) (B18 : Int32 → rb_S → Prop) (x2 : Int32) (x3 : Int32) (S : rb_S) : Prop := sp_stretch_p_0 (fun S53 => ∀ v56 : Int32, v56 = x2 + 1 → (B18 v56 S53)) x3 x2 S
theorem sp_measure_k_50 {K : rb_S → Prop} {B18 : Int32 → rb_S → Prop} (X : rb_X p s m args meth c A Z sp_measure_b 4 "RoomMaker$Spans" none) (hB18 : ∀ (x2 : Int32) (S : rb_S), B18 x2 S → rb_V p l e sp_measure_rm s m args below meth c A (MQ below (va_Qv K (rb_B Z A) A) args s sp_measure_rm.cells sp_measure_rm.slots A) Z 4 18 [(0, .ref (Z.1 3)), (1, .ref (Z.1 1)), (2, .int x2)] [] S 0 0) {x2 : Int32} {x3 : Int32} {S : rb_S} (h : sp_measure_p_50 K B18 x2 x3 S) : rb_V p l e sp_measure_rm s m args below meth c A (MQ below (va_Qv K (rb_B Z A) A) args s sp_measure_rm.cells sp_measure_rm.slots A) Z 4 50 [(0, .ref (Z.1 3)), (1, .ref (Z.1 1)), (2, .int x2), (3, .int x3)] [] S 0 0 := by
  unfold sp_measure_p_50 at h
  refine rb_aload_n X 0 sp_measure_d50 rfl 0 rfl ?_
  refine rb_iload_n X 3 sp_measure_d51 rfl 3 rfl ?_
  refine rb_iload_n X 2 sp_measure_d52 rfl 2 rfl ?_
  refine rb_callVv (As := [.int x3, .int x2]) (rest := []) X (sp_stretch_c l Z h) sp_stretch_w ⟨by decide, by decide⟩ rw_415 rw_417 rs_20 (q0 := 3) rfl rfl rfl rfl (Nat.le_of_ble_eq_true rfl) sp_measure_d53 ⟨by decide, by decide⟩ (fun S53 h => ?_)
  refine rb_iinc X 1 2 [1, 2, 0, 3] (fun v56 => [(0, .ref (Z.1 3)), (1, .ref (Z.1 1)), (2, .int v56), (3, .int x3)]) sp_measure_d56 2 rfl (by decide) (by decide) (fun _ => rfl) (fun v56 e56 => ?_)
  replace h := h v56 e56
  refine rb_goto X 18 sp_measure_d59 (by decide) ?_
  refine rb_cut [0, 1, 2] (L' := [(0, .ref (Z.1 3)), (1, .ref (Z.1 1)), (2, .int v56)]) rfl ?_
  exact hB18 _ _ h
def sp_measure_p_18 (K : rb_S → Prop) : Nat → Int32 → rb_S → Prop
  | 0, _, _ => False
  | n18 + 1, x2, S => ((S 0 4) ≤ x2 → sp_measure_p_62 K x2 S) ∧ (¬ (S 0 4) ≤ x2 → vp_in x2 128 ∧ (∀ v32 : Int32, v32 = (S 11 x2.toNatClampNeg) → ((¬ (x2 - x2 / 2 * 2) = 1 → sp_measure_p_50 K (fun a0 T => sp_measure_p_18 K n18 a0 T) x2 v32 S) ∧ ((x2 - x2 / 2 * 2) = 1 → pg_setBy_p_0 (fun r45 S45 => ∀ v49 : Int32, v49 = (v32 ||| r45) → (sp_measure_p_50 K (fun a0 T => sp_measure_p_18 K n18 a0 T) x2 v49 S45)) (x2 / 2) S))))
theorem sp_measure_k_18 {K : rb_S → Prop}  (X : rb_X p s m args meth c A Z sp_measure_b 4 "RoomMaker$Spans" none)  : ∀ (n : Nat) (x2 : Int32) (S : rb_S), sp_measure_p_18 K n x2 S → rb_V p l e sp_measure_rm s m args below meth c A (MQ below (va_Qv K (rb_B Z A) A) args s sp_measure_rm.cells sp_measure_rm.slots A) Z 4 18 [(0, .ref (Z.1 3)), (1, .ref (Z.1 1)), (2, .int x2)] [] S 0 0 := by
  intro n
  induction n with
  | zero =>
    intro x2 S h
    exact (show False from h).elim
  | succ n ih =>
    intro x2 S h
    have hB18 := ih
    rw [sp_measure_p_18] at h
    refine rb_iload_n X 2 sp_measure_d18 rfl 2 rfl ?_
    refine rb_aload_n X 0 sp_measure_d19 rfl 0 rfl ?_
    refine sp_g27 X sp_measure_d20 ?_
    refine rb_icmp_ge X 62 sp_measure_d23 (by decide) (fun hc => ?_) (fun hc => ?_)
    · replace h := h.1 hc
      exact sp_measure_k_62 X h
    · replace h := h.2 hc
      refine rb_aload_n X 0 sp_measure_d26 rfl 0 rfl ?_
      refine sp_g9 X sp_measure_d27 ?_
      refine rb_iload_n X 2 sp_measure_d30 rfl 2 rfl ?_
      obtain ⟨hin, h⟩ := h
      refine rb_iald X 11 (rb_a11 Z) sp_measure_d31 hin ?_
      refine rb_topi (fun v32 e32 => ?_)
      replace h := h v32 e32
      refine rb_istore_n X 3 [1, 2, 3, 0] (L' := [(0, .ref (Z.1 3)), (1, .ref (Z.1 1)), (2, .int x2), (3, .int v32)]) sp_measure_d32 rfl (by decide) rfl ?_
      refine rb_iload_n X 2 sp_measure_d33 rfl 2 rfl ?_
      refine rb_iconst X 2 sp_measure_d34 (by decide) ?_
      refine rb_irem X sp_measure_d35 (by decide) ?_
      refine rb_iconst X 1 sp_measure_d36 (by decide) ?_
      refine rb_icmp_ne X 50 sp_measure_d37 (by decide) (fun hc => ?_) (fun hc => ?_)
      · replace h := h.1 hc
        exact sp_measure_k_50 X hB18 h
      · replace h := h.2 hc
        refine rb_iload_n X 3 sp_measure_d40 rfl 3 rfl ?_
        refine rb_aload_n X 1 sp_measure_d41 rfl 1 rfl ?_
        refine rb_iload_n X 2 sp_measure_d42 rfl 2 rfl ?_
        refine rb_iconst X 2 sp_measure_d43 (by decide) ?_
        refine rb_idiv X sp_measure_d44 (by decide) ?_
        refine rb_callVNi (As := [.int (x2 / 2)]) (rest := [.int v32]) X (pg_setBy_c l Z h) pg_setBy_w ⟨by decide, by decide⟩ rn_407 rw_409 rs_18 (q0 := 1) rfl rfl rfl rfl (Nat.le_of_ble_eq_true rfl) sp_measure_d45 ⟨by decide, by decide⟩ (fun r45 S45 h => ?_)
        refine rb_ior X sp_measure_d48 ?_
        refine rb_topi (fun v49 e49 => ?_)
        replace h := h v49 e49
        refine rb_istore_n X 3 [1, 2, 3, 0] (L' := [(0, .ref (Z.1 3)), (1, .ref (Z.1 1)), (2, .int x2), (3, .int v49)]) sp_measure_d49 rfl (by decide) rfl ?_
        exact sp_measure_k_50 X hB18 h
def sp_measure_p_0 (K : rb_S → Prop)  (S : rb_S) : Prop := ar_fill_p_0 12 16 (fun S5 => ar_fill_p_0 13 16 (fun S13 => ∃ j18 : Nat, sp_measure_p_18 K j18 0 S13) (-1) S5) (-1) S
theorem sp_measure_k_0 {K : rb_S → Prop}  (X : rb_X p s m args meth c A Z sp_measure_b 4 "RoomMaker$Spans" none)   {S : rb_S} (h : sp_measure_p_0 K S) : rb_V p l e sp_measure_rm s m args below meth c A (MQ below (va_Qv K (rb_B Z A) A) args s sp_measure_rm.cells sp_measure_rm.slots A) Z 4 0 [(0, .ref (Z.1 3)), (1, .ref (Z.1 1))] [] S 0 0 := by
  unfold sp_measure_p_0 at h
  refine rb_aload_n X 0 sp_measure_d0 rfl 0 rfl ?_
  refine sp_g15 X sp_measure_d1 ?_
  refine rb_iconst X (-1) sp_measure_d4 (by decide) ?_
  refine rb_callSv (As := [.ref (Z.1 12), .int (-1)]) (rest := []) X (ar_fill_c l Z (rb_a12 Z) h) ar_fill_w ⟨by decide, by decide⟩ rw_382 rw_228 rfl rfl (Nat.le_of_ble_eq_true rfl) sp_measure_d5 ⟨by decide, by decide⟩ (fun S5 h => ?_)
  refine rb_aload_n X 0 sp_measure_d8 rfl 0 rfl ?_
  refine sp_g18 X sp_measure_d9 ?_
  refine rb_iconst X (-1) sp_measure_d12 (by decide) ?_
  refine rb_callSv (As := [.ref (Z.1 13), .int (-1)]) (rest := []) X (ar_fill_c l Z (rb_a13 Z) h) ar_fill_w ⟨by decide, by decide⟩ rw_382 rw_228 rfl rfl (Nat.le_of_ble_eq_true rfl) sp_measure_d13 ⟨by decide, by decide⟩ (fun S13 h => ?_)
  refine rb_iconst X 0 sp_measure_d16 (by decide) ?_
  refine rb_istore_n X 2 [1, 2, 0] (L' := [(0, .ref (Z.1 3)), (1, .ref (Z.1 1)), (2, .int 0)]) sp_measure_d17 rfl (by decide) rfl ?_
  obtain ⟨j18, h⟩ := h
  exact sp_measure_k_18 X j18 _ _ h
theorem sp_measure_c (l : Launch) (Z : rb_Z) {K : rb_S → Prop}  {S : rb_S} (h : sp_measure_p_0 K S) : rb_Mv l sp_measure_y sp_measure_b 4 sp_measure_rm Z [.ref (Z.1 3), .ref (Z.1 1)] S K := rb_startV (by decide) (Nat.le_of_ble_eq_true rfl) (fun p e s m args below meth c A X => sp_measure_k_0 X h)
end
theorem sp_find_d0 : decode sp_find_b 0 = .ok (.aload_n 0, 1) := by decide +kernel
theorem sp_find_d1 : decode sp_find_b 1 = .ok (.iconst 2, 1) := by decide +kernel
theorem sp_find_d2 : decode sp_find_b 2 = .ok (.aload_n 1, 1) := by decide +kernel
theorem sp_find_d3 : decode sp_find_b 3 = .ok (.getfield 21, 3) := by decide +kernel
theorem sp_find_d6 : decode sp_find_b 6 = .ok (.imul, 1) := by decide +kernel
theorem sp_find_d7 : decode sp_find_b 7 = .ok (.putfield 27, 3) := by decide +kernel
theorem sp_find_d10 : decode sp_find_b 10 = .ok (.aload_n 0, 1) := by decide +kernel
theorem sp_find_d11 : decode sp_find_b 11 = .ok (.getfield 9, 3) := by decide +kernel
theorem sp_find_d14 : decode sp_find_b 14 = .ok (.iconst 0, 1) := by decide +kernel
theorem sp_find_d15 : decode sp_find_b 15 = .ok (.invokestatic 30, 3) := by decide +kernel
theorem sp_find_d18 : decode sp_find_b 18 = .ok (.iconst 1, 1) := by decide +kernel
theorem sp_find_d19 : decode sp_find_b 19 = .ok (.istore_n 2, 1) := by decide +kernel
theorem sp_find_d20 : decode sp_find_b 20 = .ok (.iconst 0, 1) := by decide +kernel
theorem sp_find_d21 : decode sp_find_b 21 = .ok (.istore_n 3, 1) := by decide +kernel
theorem sp_find_d22 : decode sp_find_b 22 = .ok (.iload_n 3, 1) := by decide +kernel
theorem sp_find_d23 : decode sp_find_b 23 = .ok (.aload_n 1, 1) := by decide +kernel
theorem sp_find_d24 : decode sp_find_b 24 = .ok (.getfield 21, 3) := by decide +kernel
theorem sp_find_d27 : decode sp_find_b 27 = .ok (.if_icmp .gt 19, 3) := by decide +kernel
theorem sp_find_d30 : decode sp_find_b 30 = .ok (.iload_n 2, 1) := by decide +kernel
theorem sp_find_d31 : decode sp_find_b 31 = .ok (.ifCond .eq 15, 3) := by decide +kernel
theorem sp_find_d34 : decode sp_find_b 34 = .ok (.aload_n 0, 1) := by decide +kernel
theorem sp_find_d35 : decode sp_find_b 35 = .ok (.aload_n 1, 1) := by decide +kernel
theorem sp_find_d36 : decode sp_find_b 36 = .ok (.invokevirtual 36, 3) := by decide +kernel
theorem sp_find_d39 : decode sp_find_b 39 = .ok (.istore_n 2, 1) := by decide +kernel
theorem sp_find_d40 : decode sp_find_b 40 = .ok (.iinc 3 1, 3) := by decide +kernel
theorem sp_find_d43 : decode sp_find_b 43 = .ok (.goto (-21), 3) := by decide +kernel
theorem sp_find_d46 : decode sp_find_b 46 = .ok (.aload_n 0, 1) := by decide +kernel
theorem sp_find_d47 : decode sp_find_b 47 = .ok (.aload_n 1, 1) := by decide +kernel
theorem sp_find_d48 : decode sp_find_b 48 = .ok (.invokevirtual 40, 3) := by decide +kernel
theorem sp_find_d51 : decode sp_find_b 51 = .ok (.return_, 1) := by decide +kernel
abbrev sp_find_rm : Room := { frames := 3, cells := 0, slots := 0, locals := 69 }
theorem sp_find_w : rb_cw sp_find_y sp_find_b 4 none 1 := ⟨rw_381, rw_4, ⟨by decide, by decide⟩, by decide +kernel⟩
section
variable {p : Program} {l : Launch} {e : Env} {s : State} {m : MethodId} {args : Array Value} {below : List Frame} {meth : Method} {c : Code} {A : Nat → Prop} {Z : rb_Z}
def sp_find_p_46 (K : rb_S → Prop) (x2 : Int32) (x3 : Int32) (S : rb_S) : Prop := sp_measure_p_0 (fun S48 => K S48) S
theorem sp_find_k_46 {K : rb_S → Prop}  (X : rb_X p s m args meth c A Z sp_find_b 4 "RoomMaker$Spans" none)  {x2 : Int32} {x3 : Int32} {S : rb_S} (h : sp_find_p_46 K x2 x3 S) : rb_V p l e sp_find_rm s m args below meth c A (MQ below (va_Qv K (rb_B Z A) A) args s sp_find_rm.cells sp_find_rm.slots A) Z 4 46 [(0, .ref (Z.1 3)), (1, .ref (Z.1 1)), (2, .int x2), (3, .int x3)] [] S 0 0 := by
  unfold sp_find_p_46 at h
  refine rb_aload_n X 0 sp_find_d46 rfl 0 rfl ?_
  refine rb_aload_n X 1 sp_find_d47 rfl 1 rfl ?_
  refine rb_callVv (As := [.ref (Z.1 1)]) (rest := []) X (sp_measure_c l Z h) sp_measure_w ⟨by decide, by decide⟩ rw_411 rw_413 rs_19 (q0 := 3) rfl rfl rfl rfl (Nat.le_of_ble_eq_true rfl) sp_find_d48 ⟨by decide, by decide⟩ (fun S48 h => ?_)
  exact rb_vret X sp_find_d51 h
def sp_find_p_22 (K : rb_S → Prop) : Nat → Int32 → Int32 → rb_S → Prop
  | 0, _, _, _ => False
  | n22 + 1, x2, x3, S => ((S 0 1) < x3 → sp_find_p_46 K x2 x3 S) ∧ (¬ (S 0 1) < x3 → (x2 = 0 → sp_find_p_46 K x2 x3 S) ∧ (¬ x2 = 0 → sp_passBack_p_0 (fun r36 S36 => ∀ v40 : Int32, v40 = x3 + 1 → ((fun a0 a1 T => sp_find_p_22 K n22 a0 a1 T) r36 v40 S36)) S))
theorem sp_find_k_22 {K : rb_S → Prop}  (X : rb_X p s m args meth c A Z sp_find_b 4 "RoomMaker$Spans" none)  : ∀ (n : Nat) (x2 : Int32) (x3 : Int32) (S : rb_S), sp_find_p_22 K n x2 x3 S → rb_V p l e sp_find_rm s m args below meth c A (MQ below (va_Qv K (rb_B Z A) A) args s sp_find_rm.cells sp_find_rm.slots A) Z 4 22 [(0, .ref (Z.1 3)), (1, .ref (Z.1 1)), (2, .int x2), (3, .int x3)] [] S 0 0 := by
  intro n
  induction n with
  | zero =>
    intro x2 x3 S h
    exact (show False from h).elim
  | succ n ih =>
    intro x2 x3 S h
    have hB22 := ih
    rw [sp_find_p_22] at h
    refine rb_iload_n X 3 sp_find_d22 rfl 3 rfl ?_
    refine rb_aload_n X 1 sp_find_d23 rfl 1 rfl ?_
    refine sp_g21 X sp_find_d24 ?_
    refine rb_icmp_gt X 46 sp_find_d27 (by decide) (fun hc => ?_) (fun hc => ?_)
    · replace h := h.1 hc
      exact sp_find_k_46 X h
    · replace h := h.2 hc
      refine rb_iload_n X 2 sp_find_d30 rfl 2 rfl ?_
      refine rb_if_eq X 46 sp_find_d31 (by decide) (fun hc => ?_) (fun hc => ?_)
      · replace h := h.1 hc
        exact sp_find_k_46 X h
      · replace h := h.2 hc
        refine rb_aload_n X 0 sp_find_d34 rfl 0 rfl ?_
        refine rb_aload_n X 1 sp_find_d35 rfl 1 rfl ?_
        refine rb_callVi (As := [.ref (Z.1 1)]) (rest := []) X (sp_passBack_c l Z h) sp_passBack_w ⟨by decide, by decide⟩ rw_383 rw_385 rs_13 (q0 := 3) rfl rfl rfl rfl (Nat.le_of_ble_eq_true rfl) sp_find_d36 ⟨by decide, by decide⟩ (fun r36 S36 h => ?_)
        refine rb_istore_n X 2 [1, 2, 0, 3] (L' := [(0, .ref (Z.1 3)), (1, .ref (Z.1 1)), (2, .int r36), (3, .int x3)]) sp_find_d39 rfl (by decide) rfl ?_
        refine rb_iinc X 1 3 [1, 2, 3, 0] (fun v40 => [(0, .ref (Z.1 3)), (1, .ref (Z.1 1)), (2, .int r36), (3, .int v40)]) sp_find_d40 3 rfl (by decide) (by decide) (fun _ => rfl) (fun v40 e40 => ?_)
        replace h := h v40 e40
        refine rb_goto X 22 sp_find_d43 (by decide) ?_
        exact hB22 _ _ _ h
def sp_find_p_0 (K : rb_S → Prop)  (S : rb_S) : Prop := ∀ S7 : rb_S, S7 = rb_u S 0 4 (2 * (S 0 1)) → (ar_fill_p_0 11 128 (fun S15 => ∃ j22 : Nat, sp_find_p_22 K j22 1 0 S15) 0 S7)
theorem sp_find_k_0 {K : rb_S → Prop}  (X : rb_X p s m args meth c A Z sp_find_b 4 "RoomMaker$Spans" none)   {S : rb_S} (h : sp_find_p_0 K S) : rb_V p l e sp_find_rm s m args below meth c A (MQ below (va_Qv K (rb_B Z A) A) args s sp_find_rm.cells sp_find_rm.slots A) Z 4 0 [(0, .ref (Z.1 3)), (1, .ref (Z.1 1))] [] S 0 0 := by
  unfold sp_find_p_0 at h
  refine rb_aload_n X 0 sp_find_d0 rfl 0 rfl ?_
  refine rb_iconst X 2 sp_find_d1 (by decide) ?_
  refine rb_aload_n X 1 sp_find_d2 rfl 1 rfl ?_
  refine sp_g21 X sp_find_d3 ?_
  refine rb_imul X sp_find_d6 ?_
  refine sp_q27 X sp_find_d7 (fun S7 e7 => ?_)
  replace h := h S7 e7
  refine rb_aload_n X 0 sp_find_d10 rfl 0 rfl ?_
  refine sp_g9 X sp_find_d11 ?_
  refine rb_iconst X 0 sp_find_d14 (by decide) ?_
  refine rb_callSv (As := [.ref (Z.1 11), .int 0]) (rest := []) X (ar_fill_c l Z (rb_a11 Z) h) ar_fill_w ⟨by decide, by decide⟩ rw_382 rw_228 rfl rfl (Nat.le_of_ble_eq_true rfl) sp_find_d15 ⟨by decide, by decide⟩ (fun S15 h => ?_)
  refine rb_iconst X 1 sp_find_d18 (by decide) ?_
  refine rb_istore_n X 2 [1, 2, 0] (L' := [(0, .ref (Z.1 3)), (1, .ref (Z.1 1)), (2, .int 1)]) sp_find_d19 rfl (by decide) rfl ?_
  refine rb_iconst X 0 sp_find_d20 (by decide) ?_
  refine rb_istore_n X 3 [1, 2, 3, 0] (L' := [(0, .ref (Z.1 3)), (1, .ref (Z.1 1)), (2, .int 1), (3, .int 0)]) sp_find_d21 rfl (by decide) rfl ?_
  obtain ⟨j22, h⟩ := h
  exact sp_find_k_22 X j22 _ _ _ h
theorem sp_find_c (l : Launch) (Z : rb_Z) {K : rb_S → Prop}  {S : rb_S} (h : sp_find_p_0 K S) : rb_Mv l sp_find_y sp_find_b 4 sp_find_rm Z [.ref (Z.1 3), .ref (Z.1 1)] S K := rb_startV (by decide) (Nat.le_of_ble_eq_true rfl) (fun p e s m args below meth c A X => sp_find_k_0 X h)
end
theorem sp_outlasts_d0 : decode sp_outlasts_b 0 = .ok (.aload_n 0, 1) := by decide +kernel
theorem sp_outlasts_d1 : decode sp_outlasts_b 1 = .ok (.getfield 18, 3) := by decide +kernel
theorem sp_outlasts_d4 : decode sp_outlasts_b 4 = .ok (.iload_n 1, 1) := by decide +kernel
theorem sp_outlasts_d5 : decode sp_outlasts_b 5 = .ok (.iaload, 1) := by decide +kernel
theorem sp_outlasts_d6 : decode sp_outlasts_b 6 = .ok (.aload_n 0, 1) := by decide +kernel
theorem sp_outlasts_d7 : decode sp_outlasts_b 7 = .ok (.getfield 18, 3) := by decide +kernel
theorem sp_outlasts_d10 : decode sp_outlasts_b 10 = .ok (.iload_n 2, 1) := by decide +kernel
theorem sp_outlasts_d11 : decode sp_outlasts_b 11 = .ok (.iaload, 1) := by decide +kernel
theorem sp_outlasts_d12 : decode sp_outlasts_b 12 = .ok (.if_icmp .gt 23, 3) := by decide +kernel
theorem sp_outlasts_d15 : decode sp_outlasts_b 15 = .ok (.aload_n 0, 1) := by decide +kernel
theorem sp_outlasts_d16 : decode sp_outlasts_b 16 = .ok (.getfield 18, 3) := by decide +kernel
theorem sp_outlasts_d19 : decode sp_outlasts_b 19 = .ok (.iload_n 1, 1) := by decide +kernel
theorem sp_outlasts_d20 : decode sp_outlasts_b 20 = .ok (.iaload, 1) := by decide +kernel
theorem sp_outlasts_d21 : decode sp_outlasts_b 21 = .ok (.aload_n 0, 1) := by decide +kernel
theorem sp_outlasts_d22 : decode sp_outlasts_b 22 = .ok (.getfield 18, 3) := by decide +kernel
theorem sp_outlasts_d25 : decode sp_outlasts_b 25 = .ok (.iload_n 2, 1) := by decide +kernel
theorem sp_outlasts_d26 : decode sp_outlasts_b 26 = .ok (.iaload, 1) := by decide +kernel
theorem sp_outlasts_d27 : decode sp_outlasts_b 27 = .ok (.if_icmp .ne 12, 3) := by decide +kernel
theorem sp_outlasts_d30 : decode sp_outlasts_b 30 = .ok (.iload_n 1, 1) := by decide +kernel
theorem sp_outlasts_d31 : decode sp_outlasts_b 31 = .ok (.iload_n 2, 1) := by decide +kernel
theorem sp_outlasts_d32 : decode sp_outlasts_b 32 = .ok (.if_icmp .le 7, 3) := by decide +kernel
theorem sp_outlasts_d35 : decode sp_outlasts_b 35 = .ok (.iconst 1, 1) := by decide +kernel
theorem sp_outlasts_d36 : decode sp_outlasts_b 36 = .ok (.goto 4, 3) := by decide +kernel
theorem sp_outlasts_d39 : decode sp_outlasts_b 39 = .ok (.iconst 0, 1) := by decide +kernel
theorem sp_outlasts_d40 : decode sp_outlasts_b 40 = .ok (.ireturn, 1) := by decide +kernel
abbrev sp_outlasts_rm : Room := { frames := 0, cells := 0, slots := 0, locals := 0 }
theorem sp_outlasts_w : rb_cw sp_outlasts_y sp_outlasts_b 3 (some .boolean) 2 := ⟨rw_443, rw_4, ⟨by decide, by decide⟩, by decide +kernel⟩
section
variable {p : Program} {l : Launch} {e : Env} {s : State} {m : MethodId} {args : Array Value} {below : List Frame} {meth : Method} {c : Code} {A : Nat → Prop} {Z : rb_Z}
def sp_outlasts_p_40 (K : Int32 → rb_S → Prop) (x1 : Int32) (x2 : Int32) (y0 : Int32) (S : rb_S) : Prop := narrow .boolean (.int y0) = .int y0 ∧ K y0 S
theorem sp_outlasts_k_40 {K : Int32 → rb_S → Prop}  (X : rb_X p s m args meth c A Z sp_outlasts_b 3 "RoomMaker$Spans" (some .boolean))  {x1 : Int32} {x2 : Int32} {y0 : Int32} {S : rb_S} (h : sp_outlasts_p_40 K x1 x2 y0 S) : rb_V p l e sp_outlasts_rm s m args below meth c A (MQ below (va_Qi K (rb_B Z A) A) args s sp_outlasts_rm.cells sp_outlasts_rm.slots A) Z 3 40 [(0, .ref (Z.1 3)), (1, .int x1), (2, .int x2)] [.int y0] S 0 0 := by
  unfold sp_outlasts_p_40 at h
  obtain ⟨hn, h⟩ := h
  exact rb_zret X sp_outlasts_d40 hn h
def sp_outlasts_p_35 (K : Int32 → rb_S → Prop) (x1 : Int32) (x2 : Int32) (S : rb_S) : Prop := sp_outlasts_p_40 K x1 x2 1 S
theorem sp_outlasts_k_35 {K : Int32 → rb_S → Prop}  (X : rb_X p s m args meth c A Z sp_outlasts_b 3 "RoomMaker$Spans" (some .boolean))  {x1 : Int32} {x2 : Int32} {S : rb_S} (h : sp_outlasts_p_35 K x1 x2 S) : rb_V p l e sp_outlasts_rm s m args below meth c A (MQ below (va_Qi K (rb_B Z A) A) args s sp_outlasts_rm.cells sp_outlasts_rm.slots A) Z 3 35 [(0, .ref (Z.1 3)), (1, .int x1), (2, .int x2)] [] S 0 0 := by
  unfold sp_outlasts_p_35 at h
  refine rb_iconst X 1 sp_outlasts_d35 (by decide) ?_
  refine rb_goto X 40 sp_outlasts_d36 (by decide) ?_
  exact sp_outlasts_k_40 X h
def sp_outlasts_p_39 (K : Int32 → rb_S → Prop) (x1 : Int32) (x2 : Int32) (S : rb_S) : Prop := sp_outlasts_p_40 K x1 x2 0 S
theorem sp_outlasts_k_39 {K : Int32 → rb_S → Prop}  (X : rb_X p s m args meth c A Z sp_outlasts_b 3 "RoomMaker$Spans" (some .boolean))  {x1 : Int32} {x2 : Int32} {S : rb_S} (h : sp_outlasts_p_39 K x1 x2 S) : rb_V p l e sp_outlasts_rm s m args below meth c A (MQ below (va_Qi K (rb_B Z A) A) args s sp_outlasts_rm.cells sp_outlasts_rm.slots A) Z 3 39 [(0, .ref (Z.1 3)), (1, .int x1), (2, .int x2)] [] S 0 0 := by
  unfold sp_outlasts_p_39 at h
  refine rb_iconst X 0 sp_outlasts_d39 (by decide) ?_
  exact sp_outlasts_k_40 X h
def sp_outlasts_p_0 (K : Int32 → rb_S → Prop) (x1 : Int32) (x2 : Int32) (S : rb_S) : Prop := vp_in x1 16 ∧ (vp_in x2 16 ∧ (((S 13 x2.toNatClampNeg) < (S 13 x1.toNatClampNeg) → sp_outlasts_p_35 K x1 x2 S) ∧ (¬ (S 13 x2.toNatClampNeg) < (S 13 x1.toNatClampNeg) → vp_in x1 16 ∧ (vp_in x2 16 ∧ ((¬ (S 13 x1.toNatClampNeg) = (S 13 x2.toNatClampNeg) → sp_outlasts_p_39 K x1 x2 S) ∧ ((S 13 x1.toNatClampNeg) = (S 13 x2.toNatClampNeg) → (x1 ≤ x2 → sp_outlasts_p_39 K x1 x2 S) ∧ (¬ x1 ≤ x2 → sp_outlasts_p_35 K x1 x2 S)))))))
theorem sp_outlasts_k_0 {K : Int32 → rb_S → Prop}  (X : rb_X p s m args meth c A Z sp_outlasts_b 3 "RoomMaker$Spans" (some .boolean))  {x1 : Int32} {x2 : Int32} {S : rb_S} (h : sp_outlasts_p_0 K x1 x2 S) : rb_V p l e sp_outlasts_rm s m args below meth c A (MQ below (va_Qi K (rb_B Z A) A) args s sp_outlasts_rm.cells sp_outlasts_rm.slots A) Z 3 0 [(0, .ref (Z.1 3)), (1, .int x1), (2, .int x2)] [] S 0 0 := by
  unfold sp_outlasts_p_0 at h
  refine rb_aload_n X 0 sp_outlasts_d0 rfl 0 rfl ?_
  refine sp_g18 X sp_outlasts_d1 ?_
  refine rb_iload_n X 1 sp_outlasts_d4 rfl 1 rfl ?_
  obtain ⟨hin, h⟩ := h
  refine rb_iald X 13 (rb_a13 Z) sp_outlasts_d5 hin ?_
  refine rb_aload_n X 0 sp_outlasts_d6 rfl 0 rfl ?_
  refine sp_g18 X sp_outlasts_d7 ?_
  refine rb_iload_n X 2 sp_outlasts_d10 rfl 2 rfl ?_
  obtain ⟨hin, h⟩ := h
  refine rb_iald X 13 (rb_a13 Z) sp_outlasts_d11 hin ?_
  refine rb_icmp_gt X 35 sp_outlasts_d12 (by decide) (fun hc => ?_) (fun hc => ?_)
  · replace h := h.1 hc
    exact sp_outlasts_k_35 X h
  · replace h := h.2 hc
    refine rb_aload_n X 0 sp_outlasts_d15 rfl 0 rfl ?_
    refine sp_g18 X sp_outlasts_d16 ?_
    refine rb_iload_n X 1 sp_outlasts_d19 rfl 1 rfl ?_
    obtain ⟨hin, h⟩ := h
    refine rb_iald X 13 (rb_a13 Z) sp_outlasts_d20 hin ?_
    refine rb_aload_n X 0 sp_outlasts_d21 rfl 0 rfl ?_
    refine sp_g18 X sp_outlasts_d22 ?_
    refine rb_iload_n X 2 sp_outlasts_d25 rfl 2 rfl ?_
    obtain ⟨hin, h⟩ := h
    refine rb_iald X 13 (rb_a13 Z) sp_outlasts_d26 hin ?_
    refine rb_icmp_ne X 39 sp_outlasts_d27 (by decide) (fun hc => ?_) (fun hc => ?_)
    · replace h := h.1 hc
      exact sp_outlasts_k_39 X h
    · replace h := h.2 hc
      refine rb_iload_n X 1 sp_outlasts_d30 rfl 1 rfl ?_
      refine rb_iload_n X 2 sp_outlasts_d31 rfl 2 rfl ?_
      refine rb_icmp_le X 39 sp_outlasts_d32 (by decide) (fun hc => ?_) (fun hc => ?_)
      · replace h := h.1 hc
        exact sp_outlasts_k_39 X h
      · replace h := h.2 hc
        exact sp_outlasts_k_35 X h
theorem sp_outlasts_c (l : Launch) (Z : rb_Z) {K : Int32 → rb_S → Prop} {x1 : Int32} {x2 : Int32} {S : rb_S} (h : sp_outlasts_p_0 K x1 x2 S) : rb_Mi l sp_outlasts_y sp_outlasts_b 3 (some .boolean) sp_outlasts_rm Z [.ref (Z.1 3), .int x1, .int x2] S K := rb_startI (by decide) (Nat.le_of_ble_eq_true rfl) (fun p e s m args below meth c A X => sp_outlasts_k_0 X h)
end
