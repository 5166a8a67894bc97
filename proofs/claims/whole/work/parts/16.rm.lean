theorem rm_clear_d0 : decode rm_clear_b 0 = .ok (.aload_n 0, 1) := by decide +kernel
theorem rm_clear_d1 : decode rm_clear_b 1 = .ok (.getfield 12, 3) := by decide +kernel
theorem rm_clear_d4 : decode rm_clear_b 4 = .ok (.getfield 63, 3) := by decide +kernel
theorem rm_clear_d7 : decode rm_clear_b 7 = .ok (.istore_n 1, 1) := by decide +kernel
theorem rm_clear_d8 : decode rm_clear_b 8 = .ok (.aload_n 0, 1) := by decide +kernel
theorem rm_clear_d9 : decode rm_clear_b 9 = .ok (.getfield 12, 3) := by decide +kernel
theorem rm_clear_d12 : decode rm_clear_b 12 = .ok (.iconst 0, 1) := by decide +kernel
theorem rm_clear_d13 : decode rm_clear_b 13 = .ok (.putfield 63, 3) := by decide +kernel
theorem rm_clear_d16 : decode rm_clear_b 16 = .ok (.aload_n 0, 1) := by decide +kernel
theorem rm_clear_d17 : decode rm_clear_b 17 = .ok (.getfield 19, 3) := by decide +kernel
theorem rm_clear_d20 : decode rm_clear_b 20 = .ok (.invokevirtual 67, 3) := by decide +kernel
theorem rm_clear_d23 : decode rm_clear_b 23 = .ok (.aload_n 0, 1) := by decide +kernel
theorem rm_clear_d24 : decode rm_clear_b 24 = .ok (.iconst 0, 1) := by decide +kernel
theorem rm_clear_d25 : decode rm_clear_b 25 = .ok (.putfield 55, 3) := by decide +kernel
theorem rm_clear_d28 : decode rm_clear_b 28 = .ok (.iload_n 1, 1) := by decide +kernel
theorem rm_clear_d29 : decode rm_clear_b 29 = .ok (.ireturn, 1) := by decide +kernel
abbrev rm_clear_rm : Room := { frames := 1, cells := 0, slots := 0, locals := 20 }
theorem rm_clear_w : rb_cw rm_clear_y rm_clear_b 2 (some .int) 0 := ⟨rw_191, rw_1, ⟨by decide, by decide⟩, by decide +kernel⟩
section
variable {p : Program} {l : Launch} {e : Env} {s : State} {m : MethodId} {args : Array Value} {below : List Frame} {meth : Method} {c : Code} {A : Nat → Prop} {Z : rb_Z}
def rm_clear_p_0 (K : Int32 → rb_S → Prop)  (S : rb_S) : Prop := ∀ v7 : Int32, v7 = (S 0 1) → (∀ S13 : rb_S, S13 = rb_u S 0 1 0 → (ip_drop_p_0 (fun S20 => ∀ S25 : rb_S, S25 = rb_u S20 0 0 0 → (K v7 S25)) S13))
theorem rm_clear_k_0 {K : Int32 → rb_S → Prop}  (X : rb_X p s m args meth c A Z rm_clear_b 2 "RoomMaker" (some .int))   {S : rb_S} (h : rm_clear_p_0 K S) : rb_V p l e rm_clear_rm s m args below meth c A (MQ below (va_Qi K (rb_B Z A) A) args s rm_clear_rm.cells rm_clear_rm.slots A) Z 2 0 [(0, .ref (Z.1 0))] [] S 0 0 := by
  unfold rm_clear_p_0 at h
  refine rb_aload_n X 0 rm_clear_d0 rfl 0 rfl ?_
  refine rm_g12 X rm_clear_d1 ?_
  refine rm_g63 X rm_clear_d4 ?_
  refine rb_topi (fun v7 e7 => ?_)
  replace h := h v7 e7
  refine rb_istore_n X 1 [1, 0] (L' := [(0, .ref (Z.1 0)), (1, .int v7)]) rm_clear_d7 rfl (by decide) rfl ?_
  refine rb_aload_n X 0 rm_clear_d8 rfl 0 rfl ?_
  refine rm_g12 X rm_clear_d9 ?_
  refine rb_iconst X 0 rm_clear_d12 (by decide) ?_
  refine rm_q63 X rm_clear_d13 (fun S13 e13 => ?_)
  replace h := h S13 e13
  refine rb_aload_n X 0 rm_clear_d16 rfl 0 rfl ?_
  refine rm_g19 X rm_clear_d17 ?_
  refine rb_callVNv (As := []) (rest := []) X (ip_drop_c l Z h) ip_drop_w ⟨by decide, by decide⟩ rn_192 rw_194 rs_0 (q0 := 2) rfl rfl rfl rfl (Nat.le_of_ble_eq_true rfl) rm_clear_d20 ⟨by decide, by decide⟩ (fun S20 h => ?_)
  refine rb_aload_n X 0 rm_clear_d23 rfl 0 rfl ?_
  refine rb_iconst X 0 rm_clear_d24 (by decide) ?_
  refine rm_q55 X rm_clear_d25 rfl rfl (fun S25 e25 => ?_)
  replace h := h S25 e25
  refine rb_iload_n X 1 rm_clear_d28 rfl 1 rfl ?_
  exact rb_iret X rm_clear_d29 h
theorem rm_clear_c (l : Launch) (Z : rb_Z) {K : Int32 → rb_S → Prop}  {S : rb_S} (h : rm_clear_p_0 K S) : rb_Mi l rm_clear_y rm_clear_b 2 (some .int) rm_clear_rm Z [.ref (Z.1 0)] S K := rb_startI (by decide) (Nat.le_of_ble_eq_true rfl) (fun p e s m args below meth c A X => rm_clear_k_0 X h)
end
theorem rm_give_d0 : decode rm_give_b 0 = .ok (.aload_n 0, 1) := by decide +kernel
theorem rm_give_d1 : decode rm_give_b 1 = .ok (.getfield 19, 3) := by decide +kernel
theorem rm_give_d4 : decode rm_give_b 4 = .ok (.iload_n 1, 1) := by decide +kernel
theorem rm_give_d5 : decode rm_give_b 5 = .ok (.invokevirtual 70, 3) := by decide +kernel
theorem rm_give_d8 : decode rm_give_b 8 = .ok (.ireturn, 1) := by decide +kernel
abbrev rm_give_rm : Room := { frames := 1, cells := 0, slots := 0, locals := 21 }
theorem rm_give_w : rb_cw rm_give_y rm_give_b 2 (some .int) 1 := ⟨rw_199, rw_1, ⟨by decide, by decide⟩, by decide +kernel⟩
section
variable {p : Program} {l : Launch} {e : Env} {s : State} {m : MethodId} {args : Array Value} {below : List Frame} {meth : Method} {c : Code} {A : Nat → Prop} {Z : rb_Z}
def rm_give_p_0 (K : Int32 → rb_S → Prop) (x1 : Int32) (S : rb_S) : Prop := ip_append_p_0 (fun r5 S5 => K r5 S5) x1 S
theorem rm_give_k_0 {K : Int32 → rb_S → Prop}  (X : rb_X p s m args meth c A Z rm_give_b 2 "RoomMaker" (some .int))  {x1 : Int32} {S : rb_S} (h : rm_give_p_0 K x1 S) : rb_V p l e rm_give_rm s m args below meth c A (MQ below (va_Qi K (rb_B Z A) A) args s rm_give_rm.cells rm_give_rm.slots A) Z 2 0 [(0, .ref (Z.1 0)), (1, .int x1)] [] S 0 0 := by
  unfold rm_give_p_0 at h
  refine rb_aload_n X 0 rm_give_d0 rfl 0 rfl ?_
  refine rm_g19 X rm_give_d1 ?_
  refine rb_iload_n X 1 rm_give_d4 rfl 1 rfl ?_
  refine rb_callVNi (As := [.int x1]) (rest := []) X (ip_append_c l Z h) ip_append_w ⟨by decide, by decide⟩ rn_200 rw_202 rs_1 (q0 := 2) rfl rfl rfl rfl (Nat.le_of_ble_eq_true rfl) rm_give_d5 ⟨by decide, by decide⟩ (fun r5 S5 h => ?_)
  exact rb_iret X rm_give_d8 h
theorem rm_give_c (l : Launch) (Z : rb_Z) {K : Int32 → rb_S → Prop} {x1 : Int32} {S : rb_S} (h : rm_give_p_0 K x1 S) : rb_Mi l rm_give_y rm_give_b 2 (some .int) rm_give_rm Z [.ref (Z.1 0), .int x1] S K := rb_startI (by decide) (Nat.le_of_ble_eq_true rfl) (fun p e s m args below meth c A X => rm_give_k_0 X h)
end
theorem rm_pressure_d0 : decode rm_pressure_b 0 = .ok (.aload_n 0, 1) := by decide +kernel
theorem rm_pressure_d1 : decode rm_pressure_b 1 = .ok (.getfield 55, 3) := by decide +kernel
theorem rm_pressure_d4 : decode rm_pressure_b 4 = .ok (.ifCond .eq 13, 3) := by decide +kernel
theorem rm_pressure_d7 : decode rm_pressure_b 7 = .ok (.aload_n 0, 1) := by decide +kernel
theorem rm_pressure_d8 : decode rm_pressure_b 8 = .ok (.getfield 26, 3) := by decide +kernel
theorem rm_pressure_d11 : decode rm_pressure_b 11 = .ok (.invokevirtual 129, 3) := by decide +kernel
theorem rm_pressure_d14 : decode rm_pressure_b 14 = .ok (.goto 4, 3) := by decide +kernel
theorem rm_pressure_d17 : decode rm_pressure_b 17 = .ok (.iconst (-1), 1) := by decide +kernel
theorem rm_pressure_d18 : decode rm_pressure_b 18 = .ok (.ireturn, 1) := by decide +kernel
abbrev rm_pressure_rm : Room := { frames := 2, cells := 0, slots := 0, locals := 45 }
theorem rm_pressure_w : rb_cw rm_pressure_y rm_pressure_b 1 (some .int) 0 := ⟨rw_207, rw_1, ⟨by decide, by decide⟩, by decide +kernel⟩
section
variable {p : Program} {l : Launch} {e : Env} {s : State} {m : MethodId} {args : Array Value} {below : List Frame} {meth : Method} {c : Code} {A : Nat → Prop} {Z : rb_Z}
def rm_pressure_p_18 (K : Int32 → rb_S → Prop) (y0 : Int32) (S : rb_S) : Prop := K y0 S
theorem rm_pressure_k_18 {K : Int32 → rb_S → Prop}  (X : rb_X p s m args meth c A Z rm_pressure_b 1 "RoomMaker" (some .int))  {y0 : Int32} {S : rb_S} (h : rm_pressure_p_18 K y0 S) : rb_V p l e rm_pressure_rm s m args below meth c A (MQ below (va_Qi K (rb_B Z A) A) args s rm_pressure_rm.cells rm_pressure_rm.slots A) Z 1 18 [(0, .ref (Z.1 0))] [.int y0] S 0 0 := by
  unfold rm_pressure_p_18 at h
  exact rb_iret X rm_pressure_d18 h
def rm_pressure_p_0 (K : Int32 → rb_S → Prop)  (S : rb_S) : Prop := ((S 0 0) = 0 → rm_pressure_p_18 K (-1) S) ∧ (¬ (S 0 0) = 0 → sp_mostAtOnce_p_0 (fun r11 S11 => rm_pressure_p_18 K r11 S11) S)
theorem rm_pressure_k_0 {K : Int32 → rb_S → Prop}  (X : rb_X p s m args meth c A Z rm_pressure_b 1 "RoomMaker" (some .int))   {S : rb_S} (h : rm_pressure_p_0 K S) : rb_V p l e rm_pressure_rm s m args below meth c A (MQ below (va_Qi K (rb_B Z A) A) args s rm_pressure_rm.cells rm_pressure_rm.slots A) Z 1 0 [(0, .ref (Z.1 0))] [] S 0 0 := by
  unfold rm_pressure_p_0 at h
  refine rb_aload_n X 0 rm_pressure_d0 rfl 0 rfl ?_
  refine rm_g55 X rm_pressure_d1 ?_
  refine rb_if_eq X 17 rm_pressure_d4 (by decide) (fun hc => ?_) (fun hc => ?_)
  · replace h := h.1 hc
    refine rb_iconst X (-1) rm_pressure_d17 (by decide) ?_
    exact rm_pressure_k_18 X h
  · replace h := h.2 hc
    refine rb_aload_n X 0 rm_pressure_d7 rfl 0 rfl ?_
    refine rm_g26 X rm_pressure_d8 ?_
    refine rb_callVNi (As := []) (rest := []) X (sp_mostAtOnce_c l Z h) sp_mostAtOnce_w ⟨by decide, by decide⟩ rn_208 rw_210 rs_2 (q0 := 3) rfl rfl rfl rfl (Nat.le_of_ble_eq_true rfl) rm_pressure_d11 ⟨by decide, by decide⟩ (fun r11 S11 h => ?_)
    refine rb_goto X 18 rm_pressure_d14 (by decide) ?_
    exact rm_pressure_k_18 X h
theorem rm_pressure_c (l : Launch) (Z : rb_Z) {K : Int32 → rb_S → Prop}  {S : rb_S} (h : rm_pressure_p_0 K S) : rb_Mi l rm_pressure_y rm_pressure_b 1 (some .int) rm_pressure_rm Z [.ref (Z.1 0)] S K := rb_startI (by decide) (Nat.le_of_ble_eq_true rfl) (fun p e s m args below meth c A X => rm_pressure_k_0 X h)
end
theorem rm_restart_d0 : decode rm_restart_b 0 = .ok (.aload_n 0, 1) := by decide +kernel
theorem rm_restart_d1 : decode rm_restart_b 1 = .ok (.getfield 55, 3) := by decide +kernel
theorem rm_restart_d4 : decode rm_restart_b 4 = .ok (.ifCond .eq 10, 3) := by decide +kernel
theorem rm_restart_d7 : decode rm_restart_b 7 = .ok (.aload_n 0, 1) := by decide +kernel
theorem rm_restart_d8 : decode rm_restart_b 8 = .ok (.getfield 40, 3) := by decide +kernel
theorem rm_restart_d11 : decode rm_restart_b 11 = .ok (.invokevirtual 96, 3) := by decide +kernel
theorem rm_restart_d14 : decode rm_restart_b 14 = .ok (.aload_n 0, 1) := by decide +kernel
theorem rm_restart_d15 : decode rm_restart_b 15 = .ok (.getfield 55, 3) := by decide +kernel
theorem rm_restart_d18 : decode rm_restart_b 18 = .ok (.ireturn, 1) := by decide +kernel
abbrev rm_restart_rm : Room := { frames := 2, cells := 0, slots := 0, locals := 43 }
theorem rm_restart_w : rb_cw rm_restart_y rm_restart_b 1 (some .boolean) 0 := ⟨rw_222, rw_1, ⟨by decide, by decide⟩, by decide +kernel⟩
section
variable {p : Program} {l : Launch} {e : Env} {s : State} {m : MethodId} {args : Array Value} {below : List Frame} {meth : Method} {c : Code} {A : Nat → Prop} {Z : rb_Z}
def rm_restart_p_14 (K : Int32 → rb_S → Prop)  (S : rb_S) : Prop := narrow .boolean (.int (S 0 0)) = .int (S 0 0) ∧ K (S 0 0) S
theorem rm_restart_k_14 {K : Int32 → rb_S → Prop}  (X : rb_X p s m args meth c A Z rm_restart_b 1 "RoomMaker" (some .boolean))   {S : rb_S} (h : rm_restart_p_14 K S) : rb_V p l e rm_restart_rm s m args below meth c A (MQ below (va_Qi K (rb_B Z A) A) args s rm_restart_rm.cells rm_restart_rm.slots A) Z 1 14 [(0, .ref (Z.1 0))] [] S 0 0 := by
  unfold rm_restart_p_14 at h
  refine rb_aload_n X 0 rm_restart_d14 rfl 0 rfl ?_
  refine rm_g55 X rm_restart_d15 ?_
  obtain ⟨hn, h⟩ := h
  exact rb_zret X rm_restart_d18 hn h
def rm_restart_p_0 (K : Int32 → rb_S → Prop)  (S : rb_S) : Prop := ((S 0 0) = 0 → rm_restart_p_14 K S) ∧ (¬ (S 0 0) = 0 → ma_begin_p_0 (fun S11 => rm_restart_p_14 K S11) S)
theorem rm_restart_k_0 {K : Int32 → rb_S → Prop}  (X : rb_X p s m args meth c A Z rm_restart_b 1 "RoomMaker" (some .boolean))   {S : rb_S} (h : rm_restart_p_0 K S) : rb_V p l e rm_restart_rm s m args below meth c A (MQ below (va_Qi K (rb_B Z A) A) args s rm_restart_rm.cells rm_restart_rm.slots A) Z 1 0 [(0, .ref (Z.1 0))] [] S 0 0 := by
  unfold rm_restart_p_0 at h
  refine rb_aload_n X 0 rm_restart_d0 rfl 0 rfl ?_
  refine rm_g55 X rm_restart_d1 ?_
  refine rb_if_eq X 14 rm_restart_d4 (by decide) (fun hc => ?_) (fun hc => ?_)
  · replace h := h.1 hc
    exact rm_restart_k_14 X h
  · replace h := h.2 hc
    refine rb_aload_n X 0 rm_restart_d7 rfl 0 rfl ?_
    refine rm_g40 X rm_restart_d8 ?_
    refine rb_callVNv (As := []) (rest := []) X (ma_begin_c l Z h) ma_begin_w ⟨by decide, by decide⟩ rn_223 rw_225 rs_4 (q0 := 5) rfl rfl rfl rfl (Nat.le_of_ble_eq_true rfl) rm_restart_d11 ⟨by decide, by decide⟩ (fun S11 h => ?_)
    exact rm_restart_k_14 X h
theorem rm_restart_c (l : Launch) (Z : rb_Z) {K : Int32 → rb_S → Prop}  {S : rb_S} (h : rm_restart_p_0 K S) : rb_Mi l rm_restart_y rm_restart_b 1 (some .boolean) rm_restart_rm Z [.ref (Z.1 0)] S K := rb_startI (by decide) (Nat.le_of_ble_eq_true rfl) (fun p e s m args below meth c A X => rm_restart_k_0 X h)
end
theorem rm_output_d0 : decode rm_output_b 0 = .ok (.aload_n 0, 1) := by decide +kernel
theorem rm_output_d1 : decode rm_output_b 1 = .ok (.getfield 55, 3) := by decide +kernel
theorem rm_output_d4 : decode rm_output_b 4 = .ok (.ifCond .eq 14, 3) := by decide +kernel
theorem rm_output_d7 : decode rm_output_b 7 = .ok (.aload_n 0, 1) := by decide +kernel
theorem rm_output_d8 : decode rm_output_b 8 = .ok (.getfield 40, 3) := by decide +kernel
theorem rm_output_d11 : decode rm_output_b 11 = .ok (.iload_n 1, 1) := by decide +kernel
theorem rm_output_d12 : decode rm_output_b 12 = .ok (.invokevirtual 154, 3) := by decide +kernel
theorem rm_output_d15 : decode rm_output_b 15 = .ok (.goto 4, 3) := by decide +kernel
theorem rm_output_d18 : decode rm_output_b 18 = .ok (.iconst 0, 1) := by decide +kernel
theorem rm_output_d19 : decode rm_output_b 19 = .ok (.ireturn, 1) := by decide +kernel
abbrev rm_output_rm : Room := { frames := 1, cells := 0, slots := 0, locals := 21 }
theorem rm_output_w : rb_cw rm_output_y rm_output_b 2 (some .int) 1 := ⟨rw_233, rw_1, ⟨by decide, by decide⟩, by decide +kernel⟩
section
variable {p : Program} {l : Launch} {e : Env} {s : State} {m : MethodId} {args : Array Value} {below : List Frame} {meth : Method} {c : Code} {A : Nat → Prop} {Z : rb_Z}
def rm_output_p_19 (K : Int32 → rb_S → Prop) (x1 : Int32) (y0 : Int32) (S : rb_S) : Prop := K y0 S
theorem rm_output_k_19 {K : Int32 → rb_S → Prop}  (X : rb_X p s m args meth c A Z rm_output_b 2 "RoomMaker" (some .int))  {x1 : Int32} {y0 : Int32} {S : rb_S} (h : rm_output_p_19 K x1 y0 S) : rb_V p l e rm_output_rm s m args below meth c A (MQ below (va_Qi K (rb_B Z A) A) args s rm_output_rm.cells rm_output_rm.slots A) Z 2 19 [(0, .ref (Z.1 0)), (1, .int x1)] [.int y0] S 0 0 := by
  unfold rm_output_p_19 at h
  exact rb_iret X rm_output_d19 h
def rm_output_p_0 (K : Int32 → rb_S → Prop) (x1 : Int32) (S : rb_S) : Prop := ((S 0 0) = 0 → rm_output_p_19 K x1 0 S) ∧ (¬ (S 0 0) = 0 → ma_written_p_0 (fun r12 S12 => rm_output_p_19 K x1 r12 S12) x1 S)
theorem rm_output_k_0 {K : Int32 → rb_S → Prop}  (X : rb_X p s m args meth c A Z rm_output_b 2 "RoomMaker" (some .int))  {x1 : Int32} {S : rb_S} (h : rm_output_p_0 K x1 S) : rb_V p l e rm_output_rm s m args below meth c A (MQ below (va_Qi K (rb_B Z A) A) args s rm_output_rm.cells rm_output_rm.slots A) Z 2 0 [(0, .ref (Z.1 0)), (1, .int x1)] [] S 0 0 := by
  unfold rm_output_p_0 at h
  refine rb_aload_n X 0 rm_output_d0 rfl 0 rfl ?_
  refine rm_g55 X rm_output_d1 ?_
  refine rb_if_eq X 18 rm_output_d4 (by decide) (fun hc => ?_) (fun hc => ?_)
  · replace h := h.1 hc
    refine rb_iconst X 0 rm_output_d18 (by decide) ?_
    exact rm_output_k_19 X h
  · replace h := h.2 hc
    refine rb_aload_n X 0 rm_output_d7 rfl 0 rfl ?_
    refine rm_g40 X rm_output_d8 ?_
    refine rb_iload_n X 1 rm_output_d11 rfl 1 rfl ?_
    refine rb_callVNi (As := [.int x1]) (rest := []) X (ma_written_c l Z h) ma_written_w ⟨by decide, by decide⟩ rn_234 rw_236 rs_5 (q0 := 5) rfl rfl rfl rfl (Nat.le_of_ble_eq_true rfl) rm_output_d12 ⟨by decide, by decide⟩ (fun r12 S12 h => ?_)
    refine rb_goto X 19 rm_output_d15 (by decide) ?_
    exact rm_output_k_19 X h
theorem rm_output_c (l : Launch) (Z : rb_Z) {K : Int32 → rb_S → Prop} {x1 : Int32} {S : rb_S} (h : rm_output_p_0 K x1 S) : rb_Mi l rm_output_y rm_output_b 2 (some .int) rm_output_rm Z [.ref (Z.1 0), .int x1] S K := rb_startI (by decide) (Nat.le_of_ble_eq_true rfl) (fun p e s m args below meth c A X => rm_output_k_0 X h)
end
theorem rm_count_d0 : decode rm_count_b 0 = .ok (.iload_n 1, 1) := by decide +kernel
theorem rm_count_d1 : decode rm_count_b 1 = .ok (.ifCond .ne 11, 3) := by decide +kernel
theorem rm_count_d4 : decode rm_count_b 4 = .ok (.aload_n 0, 1) := by decide +kernel
theorem rm_count_d5 : decode rm_count_b 5 = .ok (.getfield 12, 3) := by decide +kernel
theorem rm_count_d8 : decode rm_count_b 8 = .ok (.getfield 63, 3) := by decide +kernel
theorem rm_count_d11 : decode rm_count_b 11 = .ok (.ireturn, 1) := by decide +kernel
theorem rm_count_d12 : decode rm_count_b 12 = .ok (.iload_n 1, 1) := by decide +kernel
theorem rm_count_d13 : decode rm_count_b 13 = .ok (.bipush 8, 2) := by decide +kernel
theorem rm_count_d15 : decode rm_count_b 15 = .ok (.if_icmp .ne 11, 3) := by decide +kernel
theorem rm_count_d18 : decode rm_count_b 18 = .ok (.aload_n 0, 1) := by decide +kernel
theorem rm_count_d19 : decode rm_count_b 19 = .ok (.getfield 19, 3) := by decide +kernel
theorem rm_count_d22 : decode rm_count_b 22 = .ok (.getfield 157, 3) := by decide +kernel
theorem rm_count_d25 : decode rm_count_b 25 = .ok (.ireturn, 1) := by decide +kernel
theorem rm_count_d26 : decode rm_count_b 26 = .ok (.aload_n 0, 1) := by decide +kernel
theorem rm_count_d27 : decode rm_count_b 27 = .ok (.getfield 55, 3) := by decide +kernel
theorem rm_count_d30 : decode rm_count_b 30 = .ok (.ifCond .eq 14, 3) := by decide +kernel
theorem rm_count_d33 : decode rm_count_b 33 = .ok (.aload_n 0, 1) := by decide +kernel
theorem rm_count_d34 : decode rm_count_b 34 = .ok (.getfield 40, 3) := by decide +kernel
theorem rm_count_d37 : decode rm_count_b 37 = .ok (.iload_n 1, 1) := by decide +kernel
theorem rm_count_d38 : decode rm_count_b 38 = .ok (.invokevirtual 160, 3) := by decide +kernel
theorem rm_count_d41 : decode rm_count_b 41 = .ok (.goto 4, 3) := by decide +kernel
theorem rm_count_d44 : decode rm_count_b 44 = .ok (.iconst (-1), 1) := by decide +kernel
theorem rm_count_d45 : decode rm_count_b 45 = .ok (.ireturn, 1) := by decide +kernel
abbrev rm_count_rm : Room := { frames := 2, cells := 0, slots := 0, locals := 41 }
theorem rm_count_w : rb_cw rm_count_y rm_count_b 2 (some .int) 1 := ⟨rw_241, rw_1, ⟨by decide, by decide⟩, by decide +kernel⟩
section
variable {p : Program} {l : Launch} {e : Env} {s : State} {m : MethodId} {args : Array Value} {below : List Frame} {meth : Method} {c : Code} {A : Nat → Prop} {Z : rb_Z}
def rm_count_p_45 (K : Int32 → rb_S → Prop) (x1 : Int32) (y0 : Int32) (S : rb_S) : Prop := K y0 S
theorem rm_count_k_45 {K : Int32 → rb_S → Prop}  (X : rb_X p s m args meth c A Z rm_count_b 2 "RoomMaker" (some .int))  {x1 : Int32} {y0 : Int32} {S : rb_S} (h : rm_count_p_45 K x1 y0 S) : rb_V p l e rm_count_rm s m args below meth c A (MQ below (va_Qi K (rb_B Z A) A) args s rm_count_rm.cells rm_count_rm.slots A) Z 2 45 [(0, .ref (Z.1 0)), (1, .int x1)] [.int y0] S 0 0 := by
  unfold rm_count_p_45 at h
  exact rb_iret X rm_count_d45 h
def rm_count_p_0 (K : Int32 → rb_S → Prop) (x1 : Int32) (S : rb_S) : Prop := (¬ x1 = 0 → (¬ x1 = 8 → ((S 0 0) = 0 → rm_count_p_45 K x1 (-1) S) ∧ (¬ (S 0 0) = 0 → ma_tally_p_0 (fun r38 S38 => rm_count_p_45 K x1 r38 S38) x1 S)) ∧ (x1 = 8 → K (S 0 3) S)) ∧ (x1 = 0 → K (S 0 1) S)
theorem rm_count_k_0 {K : Int32 → rb_S → Prop}  (X : rb_X p s m args meth c A Z rm_count_b 2 "RoomMaker" (some .int))  {x1 : Int32} {S : rb_S} (h : rm_count_p_0 K x1 S) : rb_V p l e rm_count_rm s m args below meth c A (MQ below (va_Qi K (rb_B Z A) A) args s rm_count_rm.cells rm_count_rm.slots A) Z 2 0 [(0, .ref (Z.1 0)), (1, .int x1)] [] S 0 0 := by
  unfold rm_count_p_0 at h
  refine rb_iload_n X 1 rm_count_d0 rfl 1 rfl ?_
  refine rb_if_ne X 12 rm_count_d1 (by decide) (fun hc => ?_) (fun hc => ?_)
  · replace h := h.1 hc
    refine rb_iload_n X 1 rm_count_d12 rfl 1 rfl ?_
    refine rb_bipush X 8 rm_count_d13 (by decide) ?_
    refine rb_icmp_ne X 26 rm_count_d15 (by decide) (fun hc => ?_) (fun hc => ?_)
    · replace h := h.1 hc
      refine rb_aload_n X 0 rm_count_d26 rfl 0 rfl ?_
      refine rm_g55 X rm_count_d27 ?_
      refine rb_if_eq X 44 rm_count_d30 (by decide) (fun hc => ?_) (fun hc => ?_)
      · replace h := h.1 hc
        refine rb_iconst X (-1) rm_count_d44 (by decide) ?_
        exact rm_count_k_45 X h
      · replace h := h.2 hc
        refine rb_aload_n X 0 rm_count_d33 rfl 0 rfl ?_
        refine rm_g40 X rm_count_d34 ?_
        refine rb_iload_n X 1 rm_count_d37 rfl 1 rfl ?_
        refine rb_callVNi (As := [.int x1]) (rest := []) X (ma_tally_c l Z h) ma_tally_w ⟨by decide, by decide⟩ rn_242 rw_244 rs_6 (q0 := 5) rfl rfl rfl rfl (Nat.le_of_ble_eq_true rfl) rm_count_d38 ⟨by decide, by decide⟩ (fun r38 S38 h => ?_)
        refine rb_goto X 45 rm_count_d41 (by decide) ?_
        exact rm_count_k_45 X h
    · replace h := h.2 hc
      refine rb_aload_n X 0 rm_count_d18 rfl 0 rfl ?_
      refine rm_g19 X rm_count_d19 ?_
      refine rm_g157 X rm_count_d22 ?_
      exact rb_iret X rm_count_d25 h
  · replace h := h.2 hc
    refine rb_aload_n X 0 rm_count_d4 rfl 0 rfl ?_
    refine rm_g12 X rm_count_d5 ?_
    refine rm_g63 X rm_count_d8 ?_
    exact rb_iret X rm_count_d11 h
theorem rm_count_c (l : Launch) (Z : rb_Z) {K : Int32 → rb_S → Prop} {x1 : Int32} {S : rb_S} (h : rm_count_p_0 K x1 S) : rb_Mi l rm_count_y rm_count_b 2 (some .int) rm_count_rm Z [.ref (Z.1 0), .int x1] S K := rb_startI (by decide) (Nat.le_of_ble_eq_true rfl) (fun p e s m args below meth c A X => rm_count_k_0 X h)
end
