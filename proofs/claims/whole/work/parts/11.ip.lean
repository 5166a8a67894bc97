theorem ip_drop_d0 : decode ip_drop_b 0 = .ok (.aload_n 0, 1) := by decide +kernel
theorem ip_drop_d1 : decode ip_drop_b 1 = .ok (.iconst 0, 1) := by decide +kernel
theorem ip_drop_d2 : decode ip_drop_b 2 = .ok (.putfield 15, 3) := by decide +kernel
theorem ip_drop_d5 : decode ip_drop_b 5 = .ok (.return_, 1) := by decide +kernel
abbrev ip_drop_rm : Room := { frames := 0, cells := 0, slots := 0, locals := 0 }
theorem ip_drop_w : rb_cw ip_drop_y ip_drop_b 1 none 0 := ⟨rw_195, rw_3, ⟨by decide, by decide⟩, by decide +kernel⟩
section
variable {p : Program} {l : Launch} {e : Env} {s : State} {m : MethodId} {args : Array Value} {below : List Frame} {meth : Method} {c : Code} {A : Nat → Prop} {Z : rb_Z}
def ip_drop_p_0 (K : rb_S → Prop)  (S : rb_S) : Prop := ∀ S2 : rb_S, S2 = rb_u S 0 3 0 → (K S2)
theorem ip_drop_k_0 {K : rb_S → Prop}  (X : rb_X p s m args meth c A Z ip_drop_b 1 "RoomMaker$Inputs" none)   {S : rb_S} (h : ip_drop_p_0 K S) : rb_V p l e ip_drop_rm s m args below meth c A (MQ below (va_Qv K (rb_B Z A) A) args s ip_drop_rm.cells ip_drop_rm.slots A) Z 1 0 [(0, .ref (Z.1 2))] [] S 0 0 := by
  unfold ip_drop_p_0 at h
  refine rb_aload_n X 0 ip_drop_d0 rfl 0 rfl ?_
  refine rb_iconst X 0 ip_drop_d1 (by decide) ?_
  refine ip_q15 X ip_drop_d2 (fun S2 e2 => ?_)
  replace h := h S2 e2
  exact rb_vret X ip_drop_d5 h
theorem ip_drop_c (l : Launch) (Z : rb_Z) {K : rb_S → Prop}  {S : rb_S} (h : ip_drop_p_0 K S) : rb_Mv l ip_drop_y ip_drop_b 1 ip_drop_rm Z [.ref (Z.1 2)] S K := rb_startV (by decide) (Nat.le_of_ble_eq_true rfl) (fun p e s m args below meth c A X => ip_drop_k_0 X h)
end
theorem ip_append_d0 : decode ip_append_b 0 = .ok (.aload_n 0, 1) := by decide +kernel
theorem ip_append_d1 : decode ip_append_b 1 = .ok (.getfield 15, 3) := by decide +kernel
theorem ip_append_d4 : decode ip_append_b 4 = .ok (.bipush 32, 2) := by decide +kernel
theorem ip_append_d6 : decode ip_append_b 6 = .ok (.if_icmp .lt 5, 3) := by decide +kernel
theorem ip_append_d9 : decode ip_append_b 9 = .ok (.iconst (-1), 1) := by decide +kernel
theorem ip_append_d10 : decode ip_append_b 10 = .ok (.ireturn, 1) := by decide +kernel
theorem ip_append_d11 : decode ip_append_b 11 = .ok (.aload_n 0, 1) := by decide +kernel
theorem ip_append_d12 : decode ip_append_b 12 = .ok (.getfield 9, 3) := by decide +kernel
theorem ip_append_d15 : decode ip_append_b 15 = .ok (.aload_n 0, 1) := by decide +kernel
theorem ip_append_d16 : decode ip_append_b 16 = .ok (.getfield 19, 3) := by decide +kernel
theorem ip_append_d19 : decode ip_append_b 19 = .ok (.aload_n 0, 1) := by decide +kernel
theorem ip_append_d20 : decode ip_append_b 20 = .ok (.getfield 15, 3) := by decide +kernel
theorem ip_append_d23 : decode ip_append_b 23 = .ok (.iadd, 1) := by decide +kernel
theorem ip_append_d24 : decode ip_append_b 24 = .ok (.bipush 32, 2) := by decide +kernel
theorem ip_append_d26 : decode ip_append_b 26 = .ok (.irem, 1) := by decide +kernel
theorem ip_append_d27 : decode ip_append_b 27 = .ok (.iload_n 1, 1) := by decide +kernel
theorem ip_append_d28 : decode ip_append_b 28 = .ok (.iastore, 1) := by decide +kernel
theorem ip_append_d29 : decode ip_append_b 29 = .ok (.aload_n 0, 1) := by decide +kernel
theorem ip_append_d30 : decode ip_append_b 30 = .ok (.dup, 1) := by decide +kernel
theorem ip_append_d31 : decode ip_append_b 31 = .ok (.getfield 15, 3) := by decide +kernel
theorem ip_append_d34 : decode ip_append_b 34 = .ok (.iconst 1, 1) := by decide +kernel
theorem ip_append_d35 : decode ip_append_b 35 = .ok (.iadd, 1) := by decide +kernel
theorem ip_append_d36 : decode ip_append_b 36 = .ok (.putfield 15, 3) := by decide +kernel
theorem ip_append_d39 : decode ip_append_b 39 = .ok (.aload_n 0, 1) := by decide +kernel
theorem ip_append_d40 : decode ip_append_b 40 = .ok (.getfield 15, 3) := by decide +kernel
theorem ip_append_d43 : decode ip_append_b 43 = .ok (.ireturn, 1) := by decide +kernel
abbrev ip_append_rm : Room := { frames := 0, cells := 0, slots := 0, locals := 0 }
theorem ip_append_w : rb_cw ip_append_y ip_append_b 2 (some .int) 1 := ⟨rw_203, rw_3, ⟨by decide, by decide⟩, by decide +kernel⟩
section
variable {p : Program} {l : Launch} {e : Env} {s : State} {m : MethodId} {args : Array Value} {below : List Frame} {meth : Method} {c : Code} {A : Nat → Prop} {Z : rb_Z}
def ip_append_p_0 (K : Int32 → rb_S → Prop) (x1 : Int32) (S : rb_S) : Prop := ((S 0 3) < 32 → vp_in (((S 0 2) + (S 0 3)) - ((S 0 2) + (S 0 3)) / 32 * 32) 32 ∧ ∀ S28 : rb_S, S28 = rb_u S 10 (((S 0 2) + (S 0 3)) - ((S 0 2) + (S 0 3)) / 32 * 32).toNatClampNeg x1 → (∀ S36 : rb_S, S36 = rb_u S28 0 3 ((S28 0 3) + 1) → (K (S36 0 3) S36))) ∧ (¬ (S 0 3) < 32 → K (-1) S)
theorem ip_append_k_0 {K : Int32 → rb_S → Prop}  (X : rb_X p s m args meth c A Z ip_append_b 2 "RoomMaker$Inputs" (some .int))  {x1 : Int32} {S : rb_S} (h : ip_append_p_0 K x1 S) : rb_V p l e ip_append_rm s m args below meth c A (MQ below (va_Qi K (rb_B Z A) A) args s ip_append_rm.cells ip_append_rm.slots A) Z 2 0 [(0, .ref (Z.1 2)), (1, .int x1)] [] S 0 0 := by
  unfold ip_append_p_0 at h
  refine rb_aload_n X 0 ip_append_d0 rfl 0 rfl ?_
  refine ip_g15 X ip_append_d1 ?_
  refine rb_bipush X 32 ip_append_d4 (by decide) ?_
  refine rb_icmp_lt X 11 ip_append_d6 (by decide) (fun hc => ?_) (fun hc => ?_)
  · replace h := h.1 hc
    refine rb_aload_n X 0 ip_append_d11 rfl 0 rfl ?_
    refine ip_g9 X ip_append_d12 ?_
    refine rb_aload_n X 0 ip_append_d15 rfl 0 rfl ?_
    refine ip_g19 X ip_append_d16 ?_
    refine rb_aload_n X 0 ip_append_d19 rfl 0 rfl ?_
    refine ip_g15 X ip_append_d20 ?_
    refine rb_iadd X ip_append_d23 ?_
    refine rb_bipush X 32 ip_append_d24 (by decide) ?_
    refine rb_irem X ip_append_d26 (by decide) ?_
    refine rb_iload_n X 1 ip_append_d27 rfl 1 rfl ?_
    obtain ⟨hin, h⟩ := h
    refine rb_iast X 10 (rb_a10 Z) ip_append_d28 hin (fun S28 e28 => ?_)
    replace h := h S28 e28
    refine rb_aload_n X 0 ip_append_d29 rfl 0 rfl ?_
    refine rb_dup X ip_append_d30 rfl ?_
    refine ip_g15 X ip_append_d31 ?_
    refine rb_iconst X 1 ip_append_d34 (by decide) ?_
    refine rb_iadd X ip_append_d35 ?_
    refine ip_q15 X ip_append_d36 (fun S36 e36 => ?_)
    replace h := h S36 e36
    refine rb_aload_n X 0 ip_append_d39 rfl 0 rfl ?_
    refine ip_g15 X ip_append_d40 ?_
    exact rb_iret X ip_append_d43 h
  · replace h := h.2 hc
    refine rb_iconst X (-1) ip_append_d9 (by decide) ?_
    exact rb_iret X ip_append_d10 h
theorem ip_append_c (l : Launch) (Z : rb_Z) {K : Int32 → rb_S → Prop} {x1 : Int32} {S : rb_S} (h : ip_append_p_0 K x1 S) : rb_Mi l ip_append_y ip_append_b 2 (some .int) ip_append_rm Z [.ref (Z.1 2), .int x1] S K := rb_startI (by decide) (Nat.le_of_ble_eq_true rfl) (fun p e s m args below meth c A X => ip_append_k_0 X h)
end
theorem ip_next_d0 : decode ip_next_b 0 = .ok (.aload_n 0, 1) := by decide +kernel
theorem ip_next_d1 : decode ip_next_b 1 = .ok (.getfield 15, 3) := by decide +kernel
theorem ip_next_d4 : decode ip_next_b 4 = .ok (.ifCond .ne 5, 3) := by decide +kernel
theorem ip_next_d7 : decode ip_next_b 7 = .ok (.iconst 0, 1) := by decide +kernel
theorem ip_next_d8 : decode ip_next_b 8 = .ok (.ireturn, 1) := by decide +kernel
theorem ip_next_d9 : decode ip_next_b 9 = .ok (.aload_n 0, 1) := by decide +kernel
theorem ip_next_d10 : decode ip_next_b 10 = .ok (.getfield 9, 3) := by decide +kernel
theorem ip_next_d13 : decode ip_next_b 13 = .ok (.aload_n 0, 1) := by decide +kernel
theorem ip_next_d14 : decode ip_next_b 14 = .ok (.getfield 19, 3) := by decide +kernel
theorem ip_next_d17 : decode ip_next_b 17 = .ok (.iaload, 1) := by decide +kernel
theorem ip_next_d18 : decode ip_next_b 18 = .ok (.istore_n 1, 1) := by decide +kernel
theorem ip_next_d19 : decode ip_next_b 19 = .ok (.aload_n 0, 1) := by decide +kernel
theorem ip_next_d20 : decode ip_next_b 20 = .ok (.aload_n 0, 1) := by decide +kernel
theorem ip_next_d21 : decode ip_next_b 21 = .ok (.getfield 19, 3) := by decide +kernel
theorem ip_next_d24 : decode ip_next_b 24 = .ok (.iconst 1, 1) := by decide +kernel
theorem ip_next_d25 : decode ip_next_b 25 = .ok (.iadd, 1) := by decide +kernel
theorem ip_next_d26 : decode ip_next_b 26 = .ok (.bipush 32, 2) := by decide +kernel
theorem ip_next_d28 : decode ip_next_b 28 = .ok (.irem, 1) := by decide +kernel
theorem ip_next_d29 : decode ip_next_b 29 = .ok (.putfield 19, 3) := by decide +kernel
theorem ip_next_d32 : decode ip_next_b 32 = .ok (.aload_n 0, 1) := by decide +kernel
theorem ip_next_d33 : decode ip_next_b 33 = .ok (.dup, 1) := by decide +kernel
theorem ip_next_d34 : decode ip_next_b 34 = .ok (.getfield 15, 3) := by decide +kernel
theorem ip_next_d37 : decode ip_next_b 37 = .ok (.iconst 1, 1) := by decide +kernel
theorem ip_next_d38 : decode ip_next_b 38 = .ok (.isub, 1) := by decide +kernel
theorem ip_next_d39 : decode ip_next_b 39 = .ok (.putfield 15, 3) := by decide +kernel
theorem ip_next_d42 : decode ip_next_b 42 = .ok (.iload_n 1, 1) := by decide +kernel
theorem ip_next_d43 : decode ip_next_b 43 = .ok (.ireturn, 1) := by decide +kernel
abbrev ip_next_rm : Room := { frames := 0, cells := 0, slots := 0, locals := 0 }
theorem ip_next_w : rb_cw ip_next_y ip_next_b 2 (some .int) 0 := ⟨rw_527, rw_3, ⟨by decide, by decide⟩, by decide +kernel⟩
section
variable {p : Program} {l : Launch} {e : Env} {s : State} {m : MethodId} {args : Array Value} {below : List Frame} {meth : Method} {c : Code} {A : Nat → Prop} {Z : rb_Z}
def ip_next_p_0 (K : Int32 → rb_S → Prop)  (S : rb_S) : Prop := (¬ (S 0 3) = 0 → vp_in (S 0 2) 32 ∧ (∀ v18 : Int32, v18 = (S 10 (S 0 2).toNatClampNeg) → (∀ S29 : rb_S, S29 = rb_u S 0 2 (((S 0 2) + 1) - ((S 0 2) + 1) / 32 * 32) → (∀ S39 : rb_S, S39 = rb_u S29 0 3 ((S29 0 3) - 1) → (K v18 S39))))) ∧ ((S 0 3) = 0 → K 0 S)
theorem ip_next_k_0 {K : Int32 → rb_S → Prop}  (X : rb_X p s m args meth c A Z ip_next_b 2 "RoomMaker$Inputs" (some .int))   {S : rb_S} (h : ip_next_p_0 K S) : rb_V p l e ip_next_rm s m args below meth c A (MQ below (va_Qi K (rb_B Z A) A) args s ip_next_rm.cells ip_next_rm.slots A) Z 2 0 [(0, .ref (Z.1 2))] [] S 0 0 := by
  unfold ip_next_p_0 at h
  refine rb_aload_n X 0 ip_next_d0 rfl 0 rfl ?_
  refine ip_g15 X ip_next_d1 ?_
  refine rb_if_ne X 9 ip_next_d4 (by decide) (fun hc => ?_) (fun hc => ?_)
  · replace h := h.1 hc
    refine rb_aload_n X 0 ip_next_d9 rfl 0 rfl ?_
    refine ip_g9 X ip_next_d10 ?_
    refine rb_aload_n X 0 ip_next_d13 rfl 0 rfl ?_
    refine ip_g19 X ip_next_d14 ?_
    obtain ⟨hin, h⟩ := h
    refine rb_iald X 10 (rb_a10 Z) ip_next_d17 hin ?_
    refine rb_topi (fun v18 e18 => ?_)
    replace h := h v18 e18
    refine rb_istore_n X 1 [1, 0] (L' := [(0, .ref (Z.1 2)), (1, .int v18)]) ip_next_d18 rfl (by decide) rfl ?_
    refine rb_aload_n X 0 ip_next_d19 rfl 0 rfl ?_
    refine rb_aload_n X 0 ip_next_d20 rfl 0 rfl ?_
    refine ip_g19 X ip_next_d21 ?_
    refine rb_iconst X 1 ip_next_d24 (by decide) ?_
    refine rb_iadd X ip_next_d25 ?_
    refine rb_bipush X 32 ip_next_d26 (by decide) ?_
    refine rb_irem X ip_next_d28 (by decide) ?_
    refine ip_q19 X ip_next_d29 (fun S29 e29 => ?_)
    replace h := h S29 e29
    refine rb_aload_n X 0 ip_next_d32 rfl 0 rfl ?_
    refine rb_dup X ip_next_d33 rfl ?_
    refine ip_g15 X ip_next_d34 ?_
    refine rb_iconst X 1 ip_next_d37 (by decide) ?_
    refine rb_isub X ip_next_d38 ?_
    refine ip_q15 X ip_next_d39 (fun S39 e39 => ?_)
    replace h := h S39 e39
    refine rb_iload_n X 1 ip_next_d42 rfl 1 rfl ?_
    exact rb_iret X ip_next_d43 h
  · replace h := h.2 hc
    refine rb_iconst X 0 ip_next_d7 (by decide) ?_
    exact rb_iret X ip_next_d8 h
theorem ip_next_c (l : Launch) (Z : rb_Z) {K : Int32 → rb_S → Prop}  {S : rb_S} (h : ip_next_p_0 K S) : rb_Mi l ip_next_y ip_next_b 2 (some .int) ip_next_rm Z [.ref (Z.1 2)] S K := rb_startI (by decide) (Nat.le_of_ble_eq_true rfl) (fun p e s m args below meth c A X => ip_next_k_0 X h)
end
