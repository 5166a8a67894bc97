theorem rm_clear_d0 : decode rm_clear_b 0 = .ok (.aload_n 0, 1) := by decide +kernel
theorem rm_clear_d1 : decode rm_clear_b 1 = .ok (.getfield 12, 3) := by decide +kernel
theorem rm_clear_d4 : decode rm_clear_b 4 = .ok (.getfield 63, 3) := by decide +kernel
theorem rm_clear_d7 : decode rm_clear_b 7 = .ok (.istore_n 1, 1) := by decide +kernel
theorem rm_clear_d8 : decode rm_clear_b 8 = .ok (.aload_n 0, 1) := by decide +kernel
theorem rm_clear_d9 : decode rm_clear_b 9 = .ok (.getfield 12, 3) := by decide +kernel
theorem rm_clear_d12 : decode rm_clear_b 12 = .ok (.iconst 0, 1) := by decide +kernel
theorem rm_clear_d13 : decode rm_clear_b 13 = .ok (.putfield 63, 3) := by decide +kernel
theorem rm_clear_d16 : decode rm_clear_b 16 = .ok (.aload_n 0, 1) := by decide +kernel
theorem rm_clear_d17 : decode rm_clear_b 17 = .ok (.getfield 19, 3) := by decide +kernel
theorem rm_clear_d20 : decode rm_clear_b 20 = .ok (.invokevirtual 67, 3) := by decide +kernel
theorem rm_clear_d23 : decode rm_clear_b 23 = .ok (.aload_n 0, 1) := by decide +kernel
theorem rm_clear_d24 : decode rm_clear_b 24 = .ok (.iconst 0, 1) := by decide +kernel
theorem rm_clear_d25 : decode rm_clear_b 25 = .ok (.putfield 55, 3) := by decide +kernel
theorem rm_clear_d28 : decode rm_clear_b 28 = .ok (.iload_n 1, 1) := by decide +kernel
theorem rm_clear_d29 : decode rm_clear_b 29 = .ok (.ireturn, 1) := by decide +kernel
abbrev rm_clear_rm : Room := { frames := 1, cells := 0, slots := 0, locals := 20 }
theorem rm_clear_w : rb_cw rm_clear_y rm_clear_b 2 (some .int) 0 := ⟨rw_191, rw_1, ⟨by decide, by decide⟩, by decide +kernel⟩
section
variable {p : Program} {l : Launch} {e : Env} {s : State} {m : MethodId} {args : Array Value} {below : List Frame} {meth : Method} {c : Code} {A : Nat → Prop} {Z : rb_Z}
def rm_clear_p_0 (K : Int32 → rb_S → Prop)  (S : rb_S) : Prop := ∀ v7 : Int32, v7 = (S 0 1) → (∀ S13 : rb_S, S13 = rb_u S 0 1 0 → (ip_drop_p_0 (fun S20 => ∀ S25 : rb_S, S25 = rb_u S20 0 0 0 → (K v7 S25)) S13))
theorem rm_clear_k_0 {K : Int32 → rb_S → Prop}  (X : rb_X p s m args meth c A Z rm_clear_b 2 "RoomMaker" (some .int))   {S : rb_S} (h : rm_clear_p_0 K S) : rb_V p l e rm_clear_rm s m args below meth c A (MQ below (va_Qi K (rb_B Z A) A) args s rm_clear_rm.cells rm_clear_rm.slots A) Z 2 0 [(0, .ref (Z.1 0))] [] S 0 0 := by
  unfold rm_clear_p_0 at h
  refine rb_aload_n X 0 rm_clear_d0 rfl 0 rfl ?_
  refine rm_g12 X rm_clear_d1 ?_
  refine rm_g63 X rm_clear_d4 ?_
  refine rb_topi (fun v7 e7 => ?_)
  replace h := h v7 e7
  refine rb_istore_n X 1 [1, 0] (L' := [(0, .ref (Z.1 0)), (1, .int v7)]) rm_clear_d7 rfl (by decide) rfl ?_
  refine rb_aload_n X 0 rm_clear_d8 rfl 0 rfl ?_
  refine rm_g12 X rm_clear_d9 ?_
  refine rb_iconst X 0 rm_clear_d12 (by decide) ?_
  refine rm_q63 X rm_clear_d13 (fun S13 e13 => ?_)
  replace h := h S13 e13
  refine rb_aload_n X 0 rm_clear_d16 rfl 0 rfl ?_
  refine rm_g19 X rm_clear_d17 ?_
  refine rb_callVNv (As := []) (rest := []) X (ip_drop_c l Z h) ip_drop_w ⟨by decide, by decide⟩ rn_192 rw_194 rs_0 (q0 := 2) rfl rfl rfl rfl (Nat.le_of_ble_eq_true rfl) rm_clear_d20 ⟨by decide, by decide⟩ (fun S20 h => ?_)
  refine rb_aload_n X 0 rm_clear_d23 rfl 0 rfl ?_
  refine rb_iconst X 0 rm_clear_d24 (by decide) ?_
  refine rm_q55 X rm_clear_d25 rfl rfl (fun S25 e25 => ?_)
  replace h := h S25 e25
  refine rb_iload_n X 1 rm_clear_d28 rfl 1 rfl ?_
  exact rb_iret X rm_clear_d29 h
theorem rm_clear_c (l : Launch) (Z : rb_Z) {K : Int32 → rb_S → Prop}  {S : rb_S} (h : rm_clear_p_0 K S) : rb_Mi l rm_clear_y rm_clear_b 2 (some .int) rm_clear_rm Z [.ref (Z.1 0)] S K := rb_startI (by decide) (Nat.le_of_ble_eq_true rfl) (fun p e s m args below meth c A X => rm_clear_k_0 X h)
end
theorem rm_give_d0 : decode rm_give_b 0 = .ok (.aload_n 0, 1) := by decide +kernel
theorem rm_give_d1 : decode rm_give_b 1 = .ok (.getfield 19, 3) := by decide +kernel
theorem rm_give_d4 : decode rm_give_b 4 = .ok (.iload_n 1, 1) := by decide +kernel
theorem rm_give_d5 : decode rm_give_b 5 = .ok (.invokevirtual 70, 3) := by decide +kernel
theorem rm_give_d8 : decode rm_give_b 8 = .ok (.ireturn, 1) := by decide +kernel
abbrev rm_give_rm : Room := { frames := 1, cells := 0, slots := 0, locals := 21 }
theorem rm_give_w : rb_cw rm_give_y rm_give_b 2 (some .int) 1 := ⟨rw_199, rw_1, ⟨by decide, by decide⟩, by decide +kernel⟩
section
variable {p : Program} {l : Launch} {e : Env} {s : State} {m : MethodId} {args : Array Value} {below : List Frame} {meth : Method} {c : Code} {A : Nat → Prop} {Z : rb_Z}
def rm_give_p_0 (K : Int32 → rb_S → Prop) (x1 : Int32) (S : rb_S) : Prop := ip_append_p_0 (fun r5 S5 => K r5 S5) x1 S
theorem rm_give_k_0 {K : Int32 → rb_S → Prop}  (X : rb_X p s m args meth c A Z rm_give_b 2 "RoomMaker" (some .int))  {x1 : Int32} {S : rb_S} (h : rm_give_p_0 K x1 S) : rb_V p l e rm_give_rm s m args below meth c A (MQ below (va_Qi K (rb_B Z A) A) args s rm_give_rm.cells rm_give_rm.slots A) Z 2 0 [(0, .ref (Z.1 0)), (1, .int x1)] [] S 0 0 := by
  unfold rm_give_p_0 at h
  refine rb_aload_n X 0 rm_give_d0 rfl 0 rfl ?_
  refine rm_g19 X rm_give_d1 ?_
  refine rb_iload_n X 1 rm_give_d4 rfl 1 rfl ?_
  refine rb_callVNi (As := [.int x1]) (rest := []) X (ip_append_c l Z h) ip_append_w ⟨by decide, by decide⟩ rn_200 rw_202 rs_1 (q0 := 2) rfl rfl rfl rfl (Nat.le_of_ble_eq_true rfl) rm_give_d5 ⟨by decide, by decide⟩ (fun r5 S5 h => ?_)
  exact rb_iret X rm_give_d8 h
theorem rm_give_c (l : Launch) (Z : rb_Z) {K : Int32 → rb_S → Prop} {x1 : Int32} {S : rb_S} (h : rm_give_p_0 K x1 S) : rb_Mi l rm_give_y rm_give_b 2 (some .int) rm_give_rm Z [.ref (Z.1 0), .int x1] S K := rb_startI (by decide) (Nat.le_of_ble_eq_true rfl) (fun p e s m args below meth c A X => rm_give_k_0 X h)
end
theorem rm_pressure_d0 : decode rm_pressure_b 0 = .ok (.aload_n 0, 1) := by decide +kernel
theorem rm_pressure_d1 : decode rm_pressure_b 1 = .ok (.getfield 55, 3) := by decide +kernel
theorem rm_pressure_d4 : decode rm_pressure_b 4 = .ok (.ifCond .eq 13, 3) := by decide +kernel
theorem rm_pressure_d7 : decode rm_pressure_b 7 = .ok (.aload_n 0, 1) := by decide +kernel
theorem rm_pressure_d8 : decode rm_pressure_b 8 = .ok (.getfield 26, 3) := by decide +kernel
theorem rm_pressure_d11 : decode rm_pressure_b 11 = .ok (.invokevirtual 129, 3) := by decide +kernel
theorem rm_pressure_d14 : decode rm_pressure_b 14 = .ok (.goto 4, 3) := by decide +kernel
theorem rm_pressure_d17 : decode rm_pressure_b 17 = .ok (.iconst (-1), 1) := by decide +kernel
theorem rm_pressure_d18 : decode rm_pressure_b 18 = .ok (.ireturn, 1) := by decide +kernel
abbrev rm_pressure_rm : Room := { frames := 2, cells := 0, slots := 0, locals := 45 }
theorem rm_pressure_w : rb_cw rm_pressure_y rm_pressure_b 1 (some .int) 0 := ⟨rw_207, rw_1, ⟨by decide, by decide⟩, by decide +kernel⟩
section
variable {p : Program} {l : Launch} {e : Env} {s : State} {m : MethodId} {args : Array Value} {below : List Frame} {meth : Method} {c : Code} {A : Nat → Prop} {Z : rb_Z}
def rm_pressure_p_18 (K : Int32 → rb_S → Prop) (y0 : Int32) (S : rb_S) : Prop := K y0 S
theorem rm_pressure_k_18 {K : Int32 → rb_S → Prop}  (X : rb_X p s m args meth c A Z rm_pressure_b 1 "RoomMaker" (some .int))  {y0 : Int32} {S : rb_S} (h : rm_pressure_p_18 K y0 S) : rb_V p l e rm_pressure_rm s m args below meth c A (MQ below (va_Qi K (rb_B Z A) A) args s rm_pressure_rm.cells rm_pressure_rm.slots A) Z 1 18 [(0, .ref (Z.1 0))] [.int y0] S 0 0 := by
  unfold rm_pressure_p_18 at h
  exact rb_iret X rm_pressure_d18 h
def rm_pressure_p_0 (K : Int32 → rb_S → Prop)  (S : rb_S) : Prop := ((S 0 0) = 0 → rm_pressure_p_18 K (-1) S) ∧ (¬ (S 0 0) = 0 → sp_mostAtOnce_p_0 (fun r11 S11 => rm_pressure_p_18 K r11 S11) S)
theorem rm_pressure_k_0 {K : Int32 → rb_S → Prop}  (X : rb_X p s m args meth c A Z rm_pressure_b 1 "RoomMaker" (some .int))   {S : rb_S} (h : rm_pressure_p_0 K S) : rb_V p l e rm_pressure_rm s m args below meth c A (MQ below (va_Qi K (rb_B Z A) A) args s rm_pressure_rm.cells rm_pressure_rm.slots A) Z 1 0 [(0, .ref (Z.1 0))] [] S 0 0 := by
  unfold rm_pressure_p_0 at h
  refine rb_aload_n X 0 rm_pressure_d0 rfl 0 rfl ?_
  refine rm_g55 X rm_pressure_d1 ?_
  refine rb_if_eq X 17 rm_pressure_d4 (by decide) (fun hc => ?_) (fun hc => ?_)
  · replace h := h.1 hc
    refine rb_iconst X (-1) rm_pressure_d17 (by decide) ?_
    exact rm_pressure_k_18 X h
  · replace h := h.2 hc
    refine rb_aload_n X 0 rm_pressure_d7 rfl 0 rfl ?_
    refine rm_g26 X rm_pressure_d8 ?_
    refine rb_callVNi (As := []) (rest := []) X (sp_mostAtOnce_c l Z h) sp_mostAtOnce_w ⟨by decide, by decide⟩ rn_208 rw_210 rs_2 (q0 := 3) rfl rfl rfl rfl (Nat.le_of_ble_eq_true rfl) rm_pressure_d11 ⟨by decide, by decide⟩ (fun r11 S11 h => ?_)
    refine rb_goto X 18 rm_pressure_d14 (by decide) ?_
    exact rm_pressure_k_18 X h
theorem rm_pressure_c (l : Launch) (Z : rb_Z) {K : Int32 → rb_S → Prop}  {S : rb_S} (h : rm_pressure_p_0 K S) : rb_Mi l rm_pressure_y rm_pressure_b 1 (some .int) rm_pressure_rm Z [.ref (Z.1 0)] S K := rb_startI (by decide) (Nat.le_of_ble_eq_true rfl) (fun p e s m args below meth c A X => rm_pressure_k_0 X h)
end
theorem rm_restart_d0 : decode rm_restart_b 0 = .ok (.aload_n 0, 1) := by decide +kernel
theorem rm_restart_d1 : decode rm_restart_b 1 = .ok (.getfield 55, 3) := by decide +kernel
theorem rm_restart_d4 : decode rm_restart_b 4 = .ok (.ifCond .eq 10, 3) := by decide +kernel
theorem rm_restart_d7 : decode rm_restart_b 7 = .ok (.aload_n 0, 1) := by decide +kernel
theorem rm_restart_d8 : decode rm_restart_b 8 = .ok (.getfield 40, 3) := by decide +kernel
theorem rm_restart_d11 : decode rm_restart_b 11 = .ok (.invokevirtual 96, 3) := by decide +kernel
theorem rm_restart_d14 : decode rm_restart_b 14 = .ok (.aload_n 0, 1) := by decide +kernel
theorem rm_restart_d15 : decode rm_restart_b 15 = .ok (.getfield 55, 3) := by decide +kernel
theorem rm_restart_d18 : decode rm_restart_b 18 = .ok (.ireturn, 1) := by decide +kernel
abbrev rm_restart_rm : Room := { frames := 2, cells := 0, slots := 0, locals := 43 }
theorem rm_restart_w : rb_cw rm_restart_y rm_restart_b 1 (some .boolean) 0 := ⟨rw_222, rw_1, ⟨by decide, by decide⟩, by decide +kernel⟩
section
variable {p : Program} {l : Launch} {e : Env} {s : State} {m : MethodId} {args : Array Value} {below : List Frame} {meth : Method} {c : Code} {A : Nat → Prop} {Z : rb_Z}
def rm_restart_p_14 (K : Int32 → rb_S → Prop)  (S : rb_S) : Prop := narrow .boolean (.int (S 0 0)) = .int (S 0 0) ∧ K (S 0 0) S
theorem rm_restart_k_14 {K : Int32 → rb_S → Prop}  (X : rb_X p s m args meth c A Z rm_restart_b 1 "RoomMaker" (some .boolean))   {S : rb_S} (h : rm_restart_p_14 K S) : rb_V p l e rm_restart_rm s m args below meth c A (MQ below (va_Qi K (rb_B Z A) A) args s rm_restart_rm.cells rm_restart_rm.slots A) Z 1 14 [(0, .ref (Z.1 0))] [] S 0 0 := by
  unfold rm_restart_p_14 at h
  refine rb_aload_n X 0 rm_restart_d14 rfl 0 rfl ?_
  refine rm_g55 X rm_restart_d15 ?_
  obtain ⟨hn, h⟩ := h
  exact rb_zret X rm_restart_d18 hn h
def rm_restart_p_0 (K : Int32 → rb_S → Prop)  (S : rb_S) : Prop := ((S 0 0) = 0 → rm_restart_p_14 K S) ∧ (¬ (S 0 0) = 0 → ma_begin_p_0 (fun S11 => rm_restart_p_14 K S11) S)
theorem rm_restart_k_0 {K : Int32 → rb_S → Prop}  (X : rb_X p s m args meth c A Z rm_restart_b 1 "RoomMaker" (some .boolean))   {S : rb_S} (h : rm_restart_p_0 K S) : rb_V p l e rm_restart_rm s m args below meth c A (MQ below (va_Qi K (rb_B Z A) A) args s rm_restart_rm.cells rm_restart_rm.slots A) Z 1 0 [(0, .ref (Z.1 0))] [] S 0 0 := by
  unfold rm_restart_p_0 at h
  refine rb_aload_n X 0 rm_restart_d0 rfl 0 rfl ?_
  refine rm_g55 X rm_restart_d1 ?_
  refine rb_if_eq X 14 rm_restart_d4 (by decide) (fun hc => ?_) (fun hc => ?_)
  · replace h := h.1 hc
    exact rm_restart_k_14 X h
  · replace h := h.2 hc
    refine rb_aload_n X 0 rm_restart_d7 rfl 0 rfl ?_
    refine rm_g40 X rm_restart_d8 ?_
    refine rb_callVNv (As := []) (rest := []) X (ma_begin_c l Z h) ma_begin_w ⟨by decide, by decide⟩ rn_223 rw_225 rs_4 (q0 := 5) rfl rfl rfl rfl (Nat.le_of_ble_eq_true rfl) rm_restart_d11 ⟨by decide, by decide⟩ (fun S11 h => ?_)
    exact rm_restart_k_14 X h
theorem rm_restart_c (l : Launch) (Z : rb_Z) {K : Int32 → rb_S → Prop}  {S : rb_S} (h : rm_restart_p_0 K S) : rb_Mi l rm_restart_y rm_restart_b 1 (some .boolean) rm_restart_rm Z [.ref (Z.1 0)] S K := rb_startI (by decide) (Nat.le_of_ble_eq_true rfl) (fun p e s m args below meth c A X => rm_restart_k_0 X h)
end
theorem rm_output_d0 : decode rm_output_b 0 = .ok (.aload_n 0, 1) := by decide +kernel
theorem rm_output_d1 : decode rm_output_b 1 = .ok (.getfield 55, 3) := by decide +kernel
theorem rm_output_d4 : decode rm_output_b 4 = .ok (.ifCond .eq 14, 3) := by decide +kernel
theorem rm_output_d7 : decode rm_output_b 7 = .ok (.aload_n 0, 1) := by decide +kernel
theorem rm_output_d8 : decode rm_output_b 8 = .ok (.getfield 40, 3) := by decide +kernel
theorem rm_output_d11 : decode rm_output_b 11 = .ok (.iload_n 1, 1) := by decide +kernel
theorem rm_output_d12 : decode rm_output_b 12 = .ok (.invokevirtual 154, 3) := by decide +kernel
theorem rm_output_d15 : decode rm_output_b 15 = .ok (.goto 4, 3) := by decide +kernel
theorem rm_output_d18 : decode rm_output_b 18 = .ok (.iconst 0, 1) := by decide +kernel
theorem rm_output_d19 : decode rm_output_b 19 = .ok (.ireturn, 1) := by decide +kernel
abbrev rm_output_rm : Room := { frames := 1, cells := 0, slots := 0, locals := 21 }
theorem rm_output_w : rb_cw rm_output_y rm_output_b 2 (some .int) 1 := ⟨rw_233, rw_1, ⟨by decide, by decide⟩, by decide +kernel⟩
section
variable {p : Program} {l : Launch} {e : Env} {s : State} {m : MethodId} {args : Array Value} {below : List Frame} {meth : Method} {c : Code} {A : Nat → Prop} {Z : rb_Z}
def rm_output_p_19 (K : Int32 → rb_S → Prop) (x1 : Int32) (y0 : Int32) (S : rb_S) : Prop := K y0 S
theorem rm_output_k_19 {K : Int32 → rb_S → Prop}  (X : rb_X p s m args meth c A Z rm_output_b 2 "RoomMaker" (some .int))  {x1 : Int32} {y0 : Int32} {S : rb_S} (h : rm_output_p_19 K x1 y0 S) : rb_V p l e rm_output_rm s m args below meth c A (MQ below (va_Qi K (rb_B Z A) A) args s rm_output_rm.cells rm_output_rm.slots A) Z 2 19 [(0, .ref (Z.1 0)), (1, .int x1)] [.int y0] S 0 0 := by
  unfold rm_output_p_19 at h
  exact rb_iret X rm_output_d19 h
def rm_output_p_0 (K : Int32 → rb_S → Prop) (x1 : Int32) (S : rb_S) : Prop := ((S 0 0) = 0 → rm_output_p_19 K x1 0 S) ∧ (¬ (S 0 0) = 0 → ma_written_p_0 (fun r12 S12 => rm_output_p_19 K x1 r12 S12) x1 S)
theorem rm_output_k_0 {K : Int32 → rb_S → Prop}  (X : rb_X p s m args meth c A Z rm_output_b 2 "RoomMaker" (some .int))  {x1 : Int32} {S : rb_S} (h : rm_output_p_0 K x1 S) : rb_V p l e rm_output_rm s m args below meth c A (MQ below (va_Qi K (rb_B Z A) A) args s rm_output_rm.cells rm_output_rm.slots A) Z 2 0 [(0, .ref (Z.1 0)), (1, .int x1)] [] S 0 0 := by
  unfold rm_output_p_0 at h
  refine rb_aload_n X 0 rm_output_d0 rfl 0 rfl ?_
  refine rm_g55 X rm_output_d1 ?_
  refine rb_if_eq X 18 rm_output_d4 (by decide) (fun hc => ?_) (fun hc => ?_)
  · replace h := h.1 hc
    refine rb_iconst X 0 rm_output_d18 (by decide) ?_
    exact rm_output_k_19 X h
  · replace h := h.2 hc
    refine rb_aload_n X 0 rm_output_d7 rfl 0 rfl ?_
    refine rm_g40 X rm_output_d8 ?_
    refine rb_iload_n X 1 rm_output_d11 rfl 1 rfl ?_
    refine rb_callVNi (As := [.int x1]) (rest := []) X (ma_written_c l Z h) ma_written_w ⟨by decide, by decide⟩ rn_234 rw_236 rs_5 (q0 := 5) rfl rfl rfl rfl (Nat.le_of_ble_eq_true rfl) rm_output_d12 ⟨by decide, by decide⟩ (fun r12 S12 h => ?_)
    refine rb_goto X 19 rm_output_d15 (by decide) ?_
    exact rm_output_k_19 X h
theorem rm_output_c (l : Launch) (Z : rb_Z) {K : Int32 → rb_S → Prop} {x1 : Int32} {S : rb_S} (h : rm_output_p_0 K x1 S) : rb_Mi l rm_output_y rm_output_b 2 (some .int) rm_output_rm Z [.ref (Z.1 0), .int x1] S K := rb_startI (by decide) (Nat.le_of_ble_eq_true rfl) (fun p e s m args below meth c A X => rm_output_k_0 X h)
end
theorem rm_count_d0 : decode rm_count_b 0 = .ok (.iload_n 1, 1) := by decide +kernel
theorem rm_count_d1 : decode rm_count_b 1 = .ok (.ifCond .ne 11, 3) := by decide +kernel
theorem rm_count_d4 : decode rm_count_b 4 = .ok (.aload_n 0, 1) := by decide +kernel
theorem rm_count_d5 : decode rm_count_b 5 = .ok (.getfield 12, 3) := by decide +kernel
theorem rm_count_d8 : decode rm_count_b 8 = .ok (.getfield 63, 3) := by decide +kernel
theorem rm_count_d11 : decode rm_count_b 11 = .ok (.ireturn, 1) := by decide +kernel
theorem rm_count_d12 : decode rm_count_b 12 = .ok (.iload_n 1, 1) := by decide +kernel
theorem rm_count_d13 : decode rm_count_b 13 = .ok (.bipush 8, 2) := by decide +kernel
theorem rm_count_d15 : decode rm_count_b 15 = .ok (.if_icmp .ne 11, 3) := by decide +kernel
theorem rm_count_d18 : decode rm_count_b 18 = .ok (.aload_n 0, 1) := by decide +kernel
theorem rm_count_d19 : decode rm_count_b 19 = .ok (.getfield 19, 3) := by decide +kernel
theorem rm_count_d22 : decode rm_count_b 22 = .ok (.getfield 157, 3) := by decide +kernel
theorem rm_count_d25 : decode rm_count_b 25 = .ok (.ireturn, 1) := by decide +kernel
theorem rm_count_d26 : decode rm_count_b 26 = .ok (.aload_n 0, 1) := by decide +kernel
theorem rm_count_d27 : decode rm_count_b 27 = .ok (.getfield 55, 3) := by decide +kernel
theorem rm_count_d30 : decode rm_count_b 30 = .ok (.ifCond .eq 14, 3) := by decide +kernel
theorem rm_count_d33 : decode rm_count_b 33 = .ok (.aload_n 0, 1) := by decide +kernel
theorem rm_count_d34 : decode rm_count_b 34 = .ok (.getfield 40, 3) := by decide +kernel
theorem rm_count_d37 : decode rm_count_b 37 = .ok (.iload_n 1, 1) := by decide +kernel
theorem rm_count_d38 : decode rm_count_b 38 = .ok (.invokevirtual 160, 3) := by decide +kernel
theorem rm_count_d41 : decode rm_count_b 41 = .ok (.goto 4, 3) := by decide +kernel
theorem rm_count_d44 : decode rm_count_b 44 = .ok (.iconst (-1), 1) := by decide +kernel
theorem rm_count_d45 : decode rm_count_b 45 = .ok (.ireturn, 1) := by decide +kernel
abbrev rm_count_rm : Room := { frames := 2, cells := 0, slots := 0, locals := 41 }
theorem rm_count_w : rb_cw rm_count_y rm_count_b 2 (some .int) 1 := ⟨rw_241, rw_1, ⟨by decide, by decide⟩, by decide +kernel⟩
section
variable {p : Program} {l : Launch} {e : Env} {s : State} {m : MethodId} {args : Array Value} {below : List Frame} {meth : Method} {c : Code} {A : Nat → Prop} {Z : rb_Z}
def rm_count_p_45 (K : Int32 → rb_S → Prop) (x1 : Int32) (y0 : Int32) (S : rb_S) : Prop := K y0 S
theorem rm_count_k_45 {K : Int32 → rb_S → Prop}  (X : rb_X p s m args meth c A Z rm_count_b 2 "RoomMaker" (some .int))  {x1 : Int32} {y0 : Int32} {S : rb_S} (h : rm_count_p_45 K x1 y0 S) : rb_V p l e rm_count_rm s m args below meth c A (MQ below (va_Qi K (rb_B Z A) A) args s rm_count_rm.cells rm_count_rm.slots A) Z 2 45 [(0, .ref (Z.1 0)), (1, .int x1)] [.int y0] S 0 0 := by
  unfold rm_count_p_45 at h
  exact rb_iret X rm_count_d45 h
def rm_count_p_0 (K : Int32 → rb_S → Prop) (x1 : Int32) (S : rb_S) : Prop := (¬ x1 = 0 → (¬ x1 = 8 → ((S 0 0) = 0 → rm_count_p_45 K x1 (-1) S) ∧ (¬ (S 0 0) = 0 → ma_tally_p_0 (fun r38 S38 => rm_count_p_45 K x1 r38 S38) x1 S)) ∧ (x1 = 8 → K (S 0 3) S)) ∧ (x1 = 0 → K (S 0 1) S)
theorem rm_count_k_0 {K : Int32 → rb_S → Prop}  (X : rb_X p s m args meth c A Z rm_count_b 2 "RoomMaker" (some .int))  {x1 : Int32} {S : rb_S} (h : rm_count_p_0 K x1 S) : rb_V p l e rm_count_rm s m args below meth c A (MQ below (va_Qi K (rb_B Z A) A) args s rm_count_rm.cells rm_count_rm.slots A) Z 2 0 [(0, .ref (Z.1 0)), (1, .int x1)] [] S 0 0 := by
  unfold rm_count_p_0 at h
  refine rb_iload_n X 1 rm_count_d0 rfl 1 rfl ?_
  refine rb_if_ne X 12 rm_count_d1 (by decide) (fun hc => ?_) (fun hc => ?_)
  · replace h := h.1 hc
    refine rb_iload_n X 1 rm_count_d12 rfl 1 rfl ?_
    refine rb_bipush X 8 rm_count_d13 (by decide) ?_
    refine rb_icmp_ne X 26 rm_count_d15 (by decide) (fun hc => ?_) (fun hc => ?_)
    · replace h := h.1 hc
      refine rb_aload_n X 0 rm_count_d26 rfl 0 rfl ?_
      refine rm_g55 X rm_count_d27 ?_
      refine rb_if_eq X 44 rm_count_d30 (by decide) (fun hc => ?_) (fun hc => ?_)
      · replace h := h.1 hc
        refine rb_iconst X (-1) rm_count_d44 (by decide) ?_
        exact rm_count_k_45 X h
      · replace h := h.2 hc
        refine rb_aload_n X 0 rm_count_d33 rfl 0 rfl ?_
        refine rm_g40 X rm_count_d34 ?_
        refine rb_iload_n X 1 rm_count_d37 rfl 1 rfl ?_
        refine rb_callVNi (As := [.int x1]) (rest := []) X (ma_tally_c l Z h) ma_tally_w ⟨by decide, by decide⟩ rn_242 rw_244 rs_6 (q0 := 5) rfl rfl rfl rfl (Nat.le_of_ble_eq_true rfl) rm_count_d38 ⟨by decide, by decide⟩ (fun r38 S38 h => ?_)
        refine rb_goto X 45 rm_count_d41 (by decide) ?_
        exact rm_count_k_45 X h
    · replace h := h.2 hc
      refine rb_aload_n X 0 rm_count_d18 rfl 0 rfl ?_
      refine rm_g19 X rm_count_d19 ?_
      refine rm_g157 X rm_count_d22 ?_
      exact rb_iret X rm_count_d25 h
  · replace h := h.2 hc
    refine rb_aload_n X 0 rm_count_d4 rfl 0 rfl ?_
    refine rm_g12 X rm_count_d5 ?_
    refine rm_g63 X rm_count_d8 ?_
    exact rb_iret X rm_count_d11 h
theorem rm_count_c (l : Launch) (Z : rb_Z) {K : Int32 → rb_S → Prop} {x1 : Int32} {S : rb_S} (h : rm_count_p_0 K x1 S) : rb_Mi l rm_count_y rm_count_b 2 (some .int) rm_count_rm Z [.ref (Z.1 0), .int x1] S K := rb_startI (by decide) (Nat.le_of_ble_eq_true rfl) (fun p e s m args below meth c A X => rm_count_k_0 X h)
end
theorem rm_put_d0 : decode rm_put_b 0 = .ok (.iload_n 1, 1) := by decide +kernel
theorem rm_put_d1 : decode rm_put_b 1 = .ok (.iload_n 2, 1) := by decide +kernel
theorem rm_put_d2 : decode rm_put_b 2 = .ok (.iload_n 3, 1) := by decide +kernel
theorem rm_put_d3 : decode rm_put_b 3 = .ok (.iload 4, 2) := by decide +kernel
theorem rm_put_d5 : decode rm_put_b 5 = .ok (.invokestatic 44, 3) := by decide +kernel
theorem rm_put_d8 : decode rm_put_b 8 = .ok (.ifCond .ne 13, 3) := by decide +kernel
theorem rm_put_d11 : decode rm_put_b 11 = .ok (.new 48, 3) := by decide +kernel
theorem rm_put_d14 : decode rm_put_b 14 = .ok (.dup, 1) := by decide +kernel
theorem rm_put_d15 : decode rm_put_b 15 = .ok (.ldc 50, 2) := by decide +kernel
theorem rm_put_d17 : decode rm_put_b 17 = .ok (.invokespecial 52, 3) := by decide +kernel
theorem rm_put_d20 : decode rm_put_b 20 = .ok (.athrow, 1) := by decide +kernel
theorem rm_put_d21 : decode rm_put_b 21 = .ok (.aload_n 0, 1) := by decide +kernel
theorem rm_put_d22 : decode rm_put_b 22 = .ok (.iconst 0, 1) := by decide +kernel
theorem rm_put_d23 : decode rm_put_b 23 = .ok (.putfield 55, 3) := by decide +kernel
theorem rm_put_d26 : decode rm_put_b 26 = .ok (.aload_n 0, 1) := by decide +kernel
theorem rm_put_d27 : decode rm_put_b 27 = .ok (.getfield 12, 3) := by decide +kernel
theorem rm_put_d30 : decode rm_put_b 30 = .ok (.iload_n 1, 1) := by decide +kernel
theorem rm_put_d31 : decode rm_put_b 31 = .ok (.iload_n 2, 1) := by decide +kernel
theorem rm_put_d32 : decode rm_put_b 32 = .ok (.iload_n 3, 1) := by decide +kernel
theorem rm_put_d33 : decode rm_put_b 33 = .ok (.iload 4, 2) := by decide +kernel
theorem rm_put_d35 : decode rm_put_b 35 = .ok (.invokevirtual 59, 3) := by decide +kernel
theorem rm_put_d38 : decode rm_put_b 38 = .ok (.ireturn, 1) := by decide +kernel
abbrev rm_put_rm : Room := { frames := 6, cells := 1, slots := 6, locals := 82 }
theorem rm_put_w : rb_cw rm_put_y rm_put_b 5 (some .int) 4 := ⟨rw_257, rw_1, ⟨by decide, by decide⟩, by decide +kernel⟩
section
variable {p : Program} {l : Launch} {e : Env} {s : State} {m : MethodId} {args : Array Value} {below : List Frame} {meth : Method} {c : Code} {A : Nat → Prop} {Z : rb_Z}
def rm_put_p_0 (K : Int32 → rb_S → Prop) (KX : Nat → rb_S → Prop) (x1 : Int32) (x2 : Int32) (x3 : Int32) (x4 : Int32) (S : rb_S) : Prop := pg_allows_p_0 (fun r5 S5 => (¬ r5 = 0 → ∀ S23 : rb_S, S23 = rb_u S5 0 0 0 → (pg_append_p_0 (fun r35 S35 => K r35 S35) x1 x2 x3 x4 S23)) ∧ (r5 = 0 → KX 1 S5)) x1 x2 x3 x4 S
theorem rm_put_k_0 {K : Int32 → rb_S → Prop} {KX : Nat → rb_S → Prop}  (X : rb_X p s m args meth c A Z rm_put_b 5 "RoomMaker" (some .int)) (hno : c.exceptionTable.toList = []) (hlt : l.stackTraces = false)  {x1 : Int32} {x2 : Int32} {x3 : Int32} {x4 : Int32} {S : rb_S} (h : rm_put_p_0 K KX x1 x2 x3 x4 S) : rb_V p l e rm_put_rm s m args below meth c A (rx_MQ below Z A K KX args s rm_put_rm.cells rm_put_rm.slots) Z 5 0 [(0, .ref (Z.1 0)), (1, .int x1), (2, .int x2), (3, .int x3), (4, .int x4)] [] S 0 0 := by
  unfold rm_put_p_0 at h
  refine rb_iload_n X 1 rm_put_d0 rfl 1 rfl ?_
  refine rb_iload_n X 2 rm_put_d1 rfl 2 rfl ?_
  refine rb_iload_n X 3 rm_put_d2 rfl 3 rfl ?_
  refine rb_iload X 4 rm_put_d3 4 rfl ?_
  refine rb_callSNi (As := [.int x1, .int x2, .int x3, .int x4]) (rest := []) X (pg_allows_c l Z h) pg_allows_w ⟨by decide, by decide⟩ rn_258 rw_259 rfl rfl (Nat.le_of_ble_eq_true rfl) rm_put_d5 ⟨by decide, by decide⟩ (fun r5 S5 h => ?_)
  refine rb_if_ne X 21 rm_put_d8 (by decide) (fun hc => ?_) (fun hc => ?_)
  · replace h := h.1 hc
    refine rb_aload_n X 0 rm_put_d21 rfl 0 rfl ?_
    refine rb_iconst X 0 rm_put_d22 (by decide) ?_
    refine rm_q55 X rm_put_d23 rfl rfl (fun S23 e23 => ?_)
    replace h := h S23 e23
    refine rb_aload_n X 0 rm_put_d26 rfl 0 rfl ?_
    refine rm_g12 X rm_put_d27 ?_
    refine rb_iload_n X 1 rm_put_d30 rfl 1 rfl ?_
    refine rb_iload_n X 2 rm_put_d31 rfl 2 rfl ?_
    refine rb_iload_n X 3 rm_put_d32 rfl 3 rfl ?_
    refine rb_iload X 4 rm_put_d33 4 rfl ?_
    refine rb_callVNi (As := [.int x1, .int x2, .int x3, .int x4]) (rest := []) X (pg_append_c l Z h) pg_append_w ⟨by decide, by decide⟩ rn_341 rw_343 rs_9 (q0 := 1) rfl rfl rfl rfl (Nat.le_of_ble_eq_true rfl) rm_put_d35 ⟨by decide, by decide⟩ (fun r35 S35 h => ?_)
    refine rx_ret ?_
    refine rb_widen (kc' := rm_put_rm.cells) (ks' := rm_put_rm.slots) (by decide) (by decide) ?_
    exact rb_iret X rm_put_d38 h
  · replace h := h.2 hc
    exact rx_throw 1 "no such instruction" hlt X hno (by decide) (by decide) rw_273 rw_11 (by decide) rx_at_1_52 rx_re_1_52 rm_put_d11 rm_put_d14 rm_put_d15 rm_put_d17 rm_put_d20 (by decide) (Nat.le_of_ble_eq_true rfl) (by decide) (by decide) (by decide) (by decide) h
theorem rm_put_c (l : Launch) (Z : rb_Z) {K : Int32 → rb_S → Prop} {KX : Nat → rb_S → Prop} (hlt : l.stackTraces = false) {x1 : Int32} {x2 : Int32} {x3 : Int32} {x4 : Int32} {S : rb_S} (h : rm_put_p_0 K KX x1 x2 x3 x4 S) : rx_M l rm_put_y rm_put_b 5 (some .int) rm_put_rm Z [.ref (Z.1 0), .int x1, .int x2, .int x3, .int x4] S K KX := rx_start (by decide) (Nat.le_of_ble_eq_true rfl) (fun p e s m args below meth c A X hno => rm_put_k_0 X hno hlt h)
end
theorem rm_build_d0 : decode rm_build_b 0 = .ok (.iload_n 1, 1) := by decide +kernel
theorem rm_build_d1 : decode rm_build_b 1 = .ok (.iconst 1, 1) := by decide +kernel
theorem rm_build_d2 : decode rm_build_b 2 = .ok (.if_icmp .lt 9, 3) := by decide +kernel
theorem rm_build_d5 : decode rm_build_b 5 = .ok (.iload_n 1, 1) := by decide +kernel
theorem rm_build_d6 : decode rm_build_b 6 = .ok (.bipush 8, 2) := by decide +kernel
theorem rm_build_d8 : decode rm_build_b 8 = .ok (.if_icmp .le 13, 3) := by decide +kernel
theorem rm_build_d11 : decode rm_build_b 11 = .ok (.new 48, 3) := by decide +kernel
theorem rm_build_d14 : decode rm_build_b 14 = .ok (.dup, 1) := by decide +kernel
theorem rm_build_d15 : decode rm_build_b 15 = .ok (.ldc 73, 2) := by decide +kernel
theorem rm_build_d17 : decode rm_build_b 17 = .ok (.invokespecial 52, 3) := by decide +kernel
theorem rm_build_d20 : decode rm_build_b 20 = .ok (.athrow, 1) := by decide +kernel
theorem rm_build_d21 : decode rm_build_b 21 = .ok (.aload_n 0, 1) := by decide +kernel
theorem rm_build_d22 : decode rm_build_b 22 = .ok (.getfield 12, 3) := by decide +kernel
theorem rm_build_d25 : decode rm_build_b 25 = .ok (.invokevirtual 75, 3) := by decide +kernel
theorem rm_build_d28 : decode rm_build_b 28 = .ok (.ifCond .eq 13, 3) := by decide +kernel
theorem rm_build_d31 : decode rm_build_b 31 = .ok (.new 79, 3) := by decide +kernel
theorem rm_build_d34 : decode rm_build_b 34 = .ok (.dup, 1) := by decide +kernel
theorem rm_build_d35 : decode rm_build_b 35 = .ok (.ldc 81, 2) := by decide +kernel
theorem rm_build_d37 : decode rm_build_b 37 = .ok (.invokespecial 83, 3) := by decide +kernel
theorem rm_build_d40 : decode rm_build_b 40 = .ok (.athrow, 1) := by decide +kernel
theorem rm_build_d41 : decode rm_build_b 41 = .ok (.aload_n 0, 1) := by decide +kernel
theorem rm_build_d42 : decode rm_build_b 42 = .ok (.getfield 26, 3) := by decide +kernel
theorem rm_build_d45 : decode rm_build_b 45 = .ok (.aload_n 0, 1) := by decide +kernel
theorem rm_build_d46 : decode rm_build_b 46 = .ok (.getfield 12, 3) := by decide +kernel
theorem rm_build_d49 : decode rm_build_b 49 = .ok (.invokevirtual 84, 3) := by decide +kernel
theorem rm_build_d52 : decode rm_build_b 52 = .ok (.aload_n 0, 1) := by decide +kernel
theorem rm_build_d53 : decode rm_build_b 53 = .ok (.getfield 33, 3) := by decide +kernel
theorem rm_build_d56 : decode rm_build_b 56 = .ok (.aload_n 0, 1) := by decide +kernel
theorem rm_build_d57 : decode rm_build_b 57 = .ok (.getfield 26, 3) := by decide +kernel
theorem rm_build_d60 : decode rm_build_b 60 = .ok (.iload_n 1, 1) := by decide +kernel
theorem rm_build_d61 : decode rm_build_b 61 = .ok (.invokevirtual 88, 3) := by decide +kernel
theorem rm_build_d64 : decode rm_build_b 64 = .ok (.aload_n 0, 1) := by decide +kernel
theorem rm_build_d65 : decode rm_build_b 65 = .ok (.getfield 40, 3) := by decide +kernel
theorem rm_build_d68 : decode rm_build_b 68 = .ok (.aload_n 0, 1) := by decide +kernel
theorem rm_build_d69 : decode rm_build_b 69 = .ok (.getfield 12, 3) := by decide +kernel
theorem rm_build_d72 : decode rm_build_b 72 = .ok (.aload_n 0, 1) := by decide +kernel
theorem rm_build_d73 : decode rm_build_b 73 = .ok (.getfield 33, 3) := by decide +kernel
theorem rm_build_d76 : decode rm_build_b 76 = .ok (.invokevirtual 92, 3) := by decide +kernel
theorem rm_build_d79 : decode rm_build_b 79 = .ok (.aload_n 0, 1) := by decide +kernel
theorem rm_build_d80 : decode rm_build_b 80 = .ok (.getfield 40, 3) := by decide +kernel
theorem rm_build_d83 : decode rm_build_b 83 = .ok (.invokevirtual 96, 3) := by decide +kernel
theorem rm_build_d86 : decode rm_build_b 86 = .ok (.aload_n 0, 1) := by decide +kernel
theorem rm_build_d87 : decode rm_build_b 87 = .ok (.iconst 1, 1) := by decide +kernel
theorem rm_build_d88 : decode rm_build_b 88 = .ok (.putfield 55, 3) := by decide +kernel
theorem rm_build_d91 : decode rm_build_b 91 = .ok (.aload_n 0, 1) := by decide +kernel
theorem rm_build_d92 : decode rm_build_b 92 = .ok (.getfield 33, 3) := by decide +kernel
theorem rm_build_d95 : decode rm_build_b 95 = .ok (.getfield 99, 3) := by decide +kernel
theorem rm_build_d98 : decode rm_build_b 98 = .ok (.ireturn, 1) := by decide +kernel
abbrev rm_build_rm : Room := { frames := 6, cells := 1, slots := 6, locals := 94 }
theorem rm_build_w : rb_cw rm_build_y rm_build_b 2 (some .int) 1 := ⟨rw_352, rw_1, ⟨by decide, by decide⟩, by decide +kernel⟩
section
variable {p : Program} {l : Launch} {e : Env} {s : State} {m : MethodId} {args : Array Value} {below : List Frame} {meth : Method} {c : Code} {A : Nat → Prop} {Z : rb_Z}
def rm_build_p_11 (K : Int32 → rb_S → Prop) (KX : Nat → rb_S → Prop) (x1 : Int32) (S : rb_S) : Prop := KX 1 S
theorem rm_build_k_11 {K : Int32 → rb_S → Prop} {KX : Nat → rb_S → Prop}  (X : rb_X p s m args meth c A Z rm_build_b 2 "RoomMaker" (some .int)) (hno : c.exceptionTable.toList = []) (hlt : l.stackTraces = false)  {x1 : Int32} {S : rb_S} (h : rm_build_p_11 K KX x1 S) : rb_V p l e rm_build_rm s m args below meth c A (rx_MQ below Z A K KX args s rm_build_rm.cells rm_build_rm.slots) Z 2 11 [(0, .ref (Z.1 0)), (1, .int x1)] [] S 0 0 := by
  unfold rm_build_p_11 at h
  exact rx_throw 1 "no such number of registers" hlt X hno (by decide) (by decide) rw_273 rw_11 (by decide) rx_at_1_52 rx_re_1_52 rm_build_d11 rm_build_d14 rm_build_d15 rm_build_d17 rm_build_d20 (by decide) (Nat.le_of_ble_eq_true rfl) (by decide) (by decide) (by decide) (by decide) h
def rm_build_p_0 (K : Int32 → rb_S → Prop) (KX : Nat → rb_S → Prop) (x1 : Int32) (S : rb_S) : Prop := (x1 < 1 → rm_build_p_11 K KX x1 S) ∧ (¬ x1 < 1 → (x1 ≤ 8 → pg_leadsAstray_p_0 (fun r25 S25 => (r25 = 0 → sp_find_p_0 (fun S49 => ro_share_p_0 (fun S61 => ma_take_p_0 (fun S76 => ma_begin_p_0 (fun S83 => ∀ S88 : rb_S, S88 = rb_u S83 0 0 1 → (K (S88 0 6) S88)) S76) S61) x1 S49) S25) ∧ (¬ r25 = 0 → KX 2 S25)) S) ∧ (¬ x1 ≤ 8 → rm_build_p_11 K KX x1 S))
theorem rm_build_k_0 {K : Int32 → rb_S → Prop} {KX : Nat → rb_S → Prop}  (X : rb_X p s m args meth c A Z rm_build_b 2 "RoomMaker" (some .int)) (hno : c.exceptionTable.toList = []) (hlt : l.stackTraces = false)  {x1 : Int32} {S : rb_S} (h : rm_build_p_0 K KX x1 S) : rb_V p l e rm_build_rm s m args below meth c A (rx_MQ below Z A K KX args s rm_build_rm.cells rm_build_rm.slots) Z 2 0 [(0, .ref (Z.1 0)), (1, .int x1)] [] S 0 0 := by
  unfold rm_build_p_0 at h
  refine rb_iload_n X 1 rm_build_d0 rfl 1 rfl ?_
  refine rb_iconst X 1 rm_build_d1 (by decide) ?_
  refine rb_icmp_lt X 11 rm_build_d2 (by decide) (fun hc => ?_) (fun hc => ?_)
  · replace h := h.1 hc
    exact rm_build_k_11 X hno hlt h
  · replace h := h.2 hc
    refine rb_iload_n X 1 rm_build_d5 rfl 1 rfl ?_
    refine rb_bipush X 8 rm_build_d6 (by decide) ?_
    refine rb_icmp_le X 21 rm_build_d8 (by decide) (fun hc => ?_) (fun hc => ?_)
    · replace h := h.1 hc
      refine rb_aload_n X 0 rm_build_d21 rfl 0 rfl ?_
      refine rm_g12 X rm_build_d22 ?_
      refine rb_callVNi (As := []) (rest := []) X (pg_leadsAstray_c l Z h) pg_leadsAstray_w ⟨by decide, by decide⟩ rn_354 rw_356 rs_10 (q0 := 1) rfl rfl rfl rfl (Nat.le_of_ble_eq_true rfl) rm_build_d25 ⟨by decide, by decide⟩ (fun r25 S25 h => ?_)
      refine rb_if_eq X 41 rm_build_d28 (by decide) (fun hc => ?_) (fun hc => ?_)
      · replace h := h.1 hc
        refine rb_aload_n X 0 rm_build_d41 rfl 0 rfl ?_
        refine rm_g26 X rm_build_d42 ?_
        refine rb_aload_n X 0 rm_build_d45 rfl 0 rfl ?_
        refine rm_g12 X rm_build_d46 ?_
        refine rb_callVNv (As := [.ref (Z.1 1)]) (rest := []) X (sp_find_c l Z h) sp_find_w ⟨by decide, by decide⟩ rn_378 rw_380 rs_12 (q0 := 3) rfl rfl rfl rfl (Nat.le_of_ble_eq_true rfl) rm_build_d49 ⟨by decide, by decide⟩ (fun S49 h => ?_)
        refine rb_aload_n X 0 rm_build_d52 rfl 0 rfl ?_
        refine rm_g33 X rm_build_d53 ?_
        refine rb_aload_n X 0 rm_build_d56 rfl 0 rfl ?_
        refine rm_g26 X rm_build_d57 ?_
        refine rb_iload_n X 1 rm_build_d60 rfl 1 rfl ?_
        refine rb_callVNv (As := [.ref (Z.1 3), .int x1]) (rest := []) X (ro_share_c l Z h) ro_share_w ⟨by decide, by decide⟩ rn_419 rw_421 rs_21 (q0 := 4) rfl rfl rfl rfl (Nat.le_of_ble_eq_true rfl) rm_build_d61 ⟨by decide, by decide⟩ (fun S61 h => ?_)
        refine rb_aload_n X 0 rm_build_d64 rfl 0 rfl ?_
        refine rm_g40 X rm_build_d65 ?_
        refine rb_aload_n X 0 rm_build_d68 rfl 0 rfl ?_
        refine rm_g12 X rm_build_d69 ?_
        refine rb_aload_n X 0 rm_build_d72 rfl 0 rfl ?_
        refine rm_g33 X rm_build_d73 ?_
        refine rb_callVNv (As := [.ref (Z.1 1), .ref (Z.1 4)]) (rest := []) X (ma_take_c l Z h) ma_take_w ⟨by decide, by decide⟩ rn_444 rw_446 rs_27 (q0 := 5) rfl rfl rfl rfl (Nat.le_of_ble_eq_true rfl) rm_build_d76 ⟨by decide, by decide⟩ (fun S76 h => ?_)
        refine rb_aload_n X 0 rm_build_d79 rfl 0 rfl ?_
        refine rm_g40 X rm_build_d80 ?_
        refine rb_callVNv (As := []) (rest := []) X (ma_begin_c l Z h) ma_begin_w ⟨by decide, by decide⟩ rn_223 rw_225 rs_4 (q0 := 5) rfl rfl rfl rfl (Nat.le_of_ble_eq_true rfl) rm_build_d83 ⟨by decide, by decide⟩ (fun S83 h => ?_)
        refine rb_aload_n X 0 rm_build_d86 rfl 0 rfl ?_
        refine rb_iconst X 1 rm_build_d87 (by decide) ?_
        refine rm_q55 X rm_build_d88 rfl rfl (fun S88 e88 => ?_)
        replace h := h S88 e88
        refine rb_aload_n X 0 rm_build_d91 rfl 0 rfl ?_
        refine rm_g33 X rm_build_d92 ?_
        refine rm_g99 X rm_build_d95 ?_
        refine rx_ret ?_
        refine rb_widen (kc' := rm_build_rm.cells) (ks' := rm_build_rm.slots) (by decide) (by decide) ?_
        exact rb_iret X rm_build_d98 h
      · replace h := h.2 hc
        exact rx_throw 2 "an instruction goes to where nothing is" hlt X hno (by decide) (by decide) rw_362 rw_12 (by decide) rx_at_2_83 rx_re_2_83 rm_build_d31 rm_build_d34 rm_build_d35 rm_build_d37 rm_build_d40 (by decide) (Nat.le_of_ble_eq_true rfl) (by decide) (by decide) (by decide) (by decide) h
    · replace h := h.2 hc
      exact rm_build_k_11 X hno hlt h
theorem rm_build_c (l : Launch) (Z : rb_Z) {K : Int32 → rb_S → Prop} {KX : Nat → rb_S → Prop} (hlt : l.stackTraces = false) {x1 : Int32} {S : rb_S} (h : rm_build_p_0 K KX x1 S) : rx_M l rm_build_y rm_build_b 2 (some .int) rm_build_rm Z [.ref (Z.1 0), .int x1] S K KX := rx_start (by decide) (Nat.le_of_ble_eq_true rfl) (fun p e s m args below meth c A X hno => rm_build_k_0 X hno hlt h)
end
theorem rm_span_d0 : decode rm_span_b 0 = .ok (.iload_n 1, 1) := by decide +kernel
theorem rm_span_d1 : decode rm_span_b 1 = .ok (.invokestatic 102, 3) := by decide +kernel
theorem rm_span_d4 : decode rm_span_b 4 = .ok (.ifCond .ne 13, 3) := by decide +kernel
theorem rm_span_d7 : decode rm_span_b 7 = .ok (.new 106, 3) := by decide +kernel
theorem rm_span_d10 : decode rm_span_b 10 = .ok (.dup, 1) := by decide +kernel
theorem rm_span_d11 : decode rm_span_b 11 = .ok (.ldc 108, 2) := by decide +kernel
theorem rm_span_d13 : decode rm_span_b 13 = .ok (.invokespecial 110, 3) := by decide +kernel
theorem rm_span_d16 : decode rm_span_b 16 = .ok (.athrow, 1) := by decide +kernel
theorem rm_span_d17 : decode rm_span_b 17 = .ok (.aload_n 0, 1) := by decide +kernel
theorem rm_span_d18 : decode rm_span_b 18 = .ok (.getfield 55, 3) := by decide +kernel
theorem rm_span_d21 : decode rm_span_b 21 = .ok (.ifCond .ne 5, 3) := by decide +kernel
theorem rm_span_d24 : decode rm_span_b 24 = .ok (.iconst (-1), 1) := by decide +kernel
theorem rm_span_d25 : decode rm_span_b 25 = .ok (.ireturn, 1) := by decide +kernel
theorem rm_span_d26 : decode rm_span_b 26 = .ok (.iload_n 2, 1) := by decide +kernel
theorem rm_span_d27 : decode rm_span_b 27 = .ok (.ifCond .eq 15, 3) := by decide +kernel
theorem rm_span_d30 : decode rm_span_b 30 = .ok (.aload_n 0, 1) := by decide +kernel
theorem rm_span_d31 : decode rm_span_b 31 = .ok (.getfield 26, 3) := by decide +kernel
theorem rm_span_d34 : decode rm_span_b 34 = .ok (.getfield 111, 3) := by decide +kernel
theorem rm_span_d37 : decode rm_span_b 37 = .ok (.iload_n 1, 1) := by decide +kernel
theorem rm_span_d38 : decode rm_span_b 38 = .ok (.iaload, 1) := by decide +kernel
theorem rm_span_d39 : decode rm_span_b 39 = .ok (.goto 12, 3) := by decide +kernel
theorem rm_span_d42 : decode rm_span_b 42 = .ok (.aload_n 0, 1) := by decide +kernel
theorem rm_span_d43 : decode rm_span_b 43 = .ok (.getfield 26, 3) := by decide +kernel
theorem rm_span_d46 : decode rm_span_b 46 = .ok (.getfield 115, 3) := by decide +kernel
theorem rm_span_d49 : decode rm_span_b 49 = .ok (.iload_n 1, 1) := by decide +kernel
theorem rm_span_d50 : decode rm_span_b 50 = .ok (.iaload, 1) := by decide +kernel
theorem rm_span_d51 : decode rm_span_b 51 = .ok (.ireturn, 1) := by decide +kernel
abbrev rm_span_rm : Room := { frames := 6, cells := 1, slots := 6, locals := 82 }
theorem rm_span_w : rb_cw rm_span_y rm_span_b 3 (some .int) 2 := ⟨rw_461, rw_1, ⟨by decide, by decide⟩, by decide +kernel⟩
section
variable {p : Program} {l : Launch} {e : Env} {s : State} {m : MethodId} {args : Array Value} {below : List Frame} {meth : Method} {c : Code} {A : Nat → Prop} {Z : rb_Z}
def rm_span_p_51 (K : Int32 → rb_S → Prop) (KX : Nat → rb_S → Prop) (x1 : Int32) (x2 : Int32) (y0 : Int32) (S : rb_S) : Prop := K y0 S
theorem rm_span_k_51 {K : Int32 → rb_S → Prop} {KX : Nat → rb_S → Prop}  (X : rb_X p s m args meth c A Z rm_span_b 3 "RoomMaker" (some .int)) (hno : c.exceptionTable.toList = []) (hlt : l.stackTraces = false)  {x1 : Int32} {x2 : Int32} {y0 : Int32} {S : rb_S} (h : rm_span_p_51 K KX x1 x2 y0 S) : rb_V p l e rm_span_rm s m args below meth c A (rx_MQ below Z A K KX args s rm_span_rm.cells rm_span_rm.slots) Z 3 51 [(0, .ref (Z.1 0)), (1, .int x1), (2, .int x2)] [.int y0] S 0 0 := by
  unfold rm_span_p_51 at h
  refine rx_ret ?_
  refine rb_widen (kc' := rm_span_rm.cells) (ks' := rm_span_rm.slots) (by decide) (by decide) ?_
  exact rb_iret X rm_span_d51 h
def rm_span_p_0 (K : Int32 → rb_S → Prop) (KX : Nat → rb_S → Prop) (x1 : Int32) (x2 : Int32) (S : rb_S) : Prop := rm_isValue_p_0 (fun r1 S1 => (¬ r1 = 0 → (¬ (S1 0 0) = 0 → (x2 = 0 → vp_in x1 16 ∧ (rm_span_p_51 K KX x1 x2 (S1 12 x1.toNatClampNeg) S1)) ∧ (¬ x2 = 0 → vp_in x1 16 ∧ (rm_span_p_51 K KX x1 x2 (S1 13 x1.toNatClampNeg) S1))) ∧ ((S1 0 0) = 0 → K (-1) S1)) ∧ (r1 = 0 → KX 3 S1)) x1 S
theorem rm_span_k_0 {K : Int32 → rb_S → Prop} {KX : Nat → rb_S → Prop}  (X : rb_X p s m args meth c A Z rm_span_b 3 "RoomMaker" (some .int)) (hno : c.exceptionTable.toList = []) (hlt : l.stackTraces = false)  {x1 : Int32} {x2 : Int32} {S : rb_S} (h : rm_span_p_0 K KX x1 x2 S) : rb_V p l e rm_span_rm s m args below meth c A (rx_MQ below Z A K KX args s rm_span_rm.cells rm_span_rm.slots) Z 3 0 [(0, .ref (Z.1 0)), (1, .int x1), (2, .int x2)] [] S 0 0 := by
  unfold rm_span_p_0 at h
  refine rb_iload_n X 1 rm_span_d0 rfl 1 rfl ?_
  refine rb_callSi (As := [.int x1]) (rest := []) X (rm_isValue_c l Z h) rm_isValue_w ⟨by decide, by decide⟩ rw_462 rw_267 rfl rfl (Nat.le_of_ble_eq_true rfl) rm_span_d1 ⟨by decide, by decide⟩ (fun r1 S1 h => ?_)
  refine rb_if_ne X 17 rm_span_d4 (by decide) (fun hc => ?_) (fun hc => ?_)
  · replace h := h.1 hc
    refine rb_aload_n X 0 rm_span_d17 rfl 0 rfl ?_
    refine rm_g55 X rm_span_d18 ?_
    refine rb_if_ne X 26 rm_span_d21 (by decide) (fun hc => ?_) (fun hc => ?_)
    · replace h := h.1 hc
      refine rb_iload_n X 2 rm_span_d26 rfl 2 rfl ?_
      refine rb_if_eq X 42 rm_span_d27 (by decide) (fun hc => ?_) (fun hc => ?_)
      · replace h := h.1 hc
        refine rb_aload_n X 0 rm_span_d42 rfl 0 rfl ?_
        refine rm_g26 X rm_span_d43 ?_
        refine rm_g115 X rm_span_d46 ?_
        refine rb_iload_n X 1 rm_span_d49 rfl 1 rfl ?_
        obtain ⟨hin, h⟩ := h
        refine rb_iald X 12 (rb_a12 Z) rm_span_d50 hin ?_
        exact rm_span_k_51 X hno hlt h
      · replace h := h.2 hc
        refine rb_aload_n X 0 rm_span_d30 rfl 0 rfl ?_
        refine rm_g26 X rm_span_d31 ?_
        refine rm_g111 X rm_span_d34 ?_
        refine rb_iload_n X 1 rm_span_d37 rfl 1 rfl ?_
        obtain ⟨hin, h⟩ := h
        refine rb_iald X 13 (rb_a13 Z) rm_span_d38 hin ?_
        refine rb_goto X 51 rm_span_d39 (by decide) ?_
        exact rm_span_k_51 X hno hlt h
    · replace h := h.2 hc
      refine rb_iconst X (-1) rm_span_d24 (by decide) ?_
      refine rx_ret ?_
      refine rb_widen (kc' := rm_span_rm.cells) (ks' := rm_span_rm.slots) (by decide) (by decide) ?_
      exact rb_iret X rm_span_d25 h
  · replace h := h.2 hc
    exact rx_throw 3 "no such value" hlt X hno (by decide) (by decide) rw_463 rw_14 (by decide) rx_at_3_110 rx_re_3_110 rm_span_d7 rm_span_d10 rm_span_d11 rm_span_d13 rm_span_d16 (by decide) (Nat.le_of_ble_eq_true rfl) (by decide) (by decide) (by decide) (by decide) h
theorem rm_span_c (l : Launch) (Z : rb_Z) {K : Int32 → rb_S → Prop} {KX : Nat → rb_S → Prop} (hlt : l.stackTraces = false) {x1 : Int32} {x2 : Int32} {S : rb_S} (h : rm_span_p_0 K KX x1 x2 S) : rx_M l rm_span_y rm_span_b 3 (some .int) rm_span_rm Z [.ref (Z.1 0), .int x1, .int x2] S K KX := rx_start (by decide) (Nat.le_of_ble_eq_true rfl) (fun p e s m args below meth c A X hno => rm_span_k_0 X hno hlt h)
end
theorem rm_lives_d0 : decode rm_lives_b 0 = .ok (.iload_n 1, 1) := by decide +kernel
theorem rm_lives_d1 : decode rm_lives_b 1 = .ok (.invokestatic 102, 3) := by decide +kernel
theorem rm_lives_d4 : decode rm_lives_b 4 = .ok (.ifCond .ne 13, 3) := by decide +kernel
theorem rm_lives_d7 : decode rm_lives_b 7 = .ok (.new 106, 3) := by decide +kernel
theorem rm_lives_d10 : decode rm_lives_b 10 = .ok (.dup, 1) := by decide +kernel
theorem rm_lives_d11 : decode rm_lives_b 11 = .ok (.ldc 108, 2) := by decide +kernel
theorem rm_lives_d13 : decode rm_lives_b 13 = .ok (.invokespecial 110, 3) := by decide +kernel
theorem rm_lives_d16 : decode rm_lives_b 16 = .ok (.athrow, 1) := by decide +kernel
theorem rm_lives_d17 : decode rm_lives_b 17 = .ok (.aload_n 0, 1) := by decide +kernel
theorem rm_lives_d18 : decode rm_lives_b 18 = .ok (.getfield 55, 3) := by decide +kernel
theorem rm_lives_d21 : decode rm_lives_b 21 = .ok (.ifCond .ne 5, 3) := by decide +kernel
theorem rm_lives_d24 : decode rm_lives_b 24 = .ok (.iconst 0, 1) := by decide +kernel
theorem rm_lives_d25 : decode rm_lives_b 25 = .ok (.ireturn, 1) := by decide +kernel
theorem rm_lives_d26 : decode rm_lives_b 26 = .ok (.iload_n 2, 1) := by decide +kernel
theorem rm_lives_d27 : decode rm_lives_b 27 = .ok (.ifCond .lt 14, 3) := by decide +kernel
theorem rm_lives_d30 : decode rm_lives_b 30 = .ok (.iload_n 2, 1) := by decide +kernel
theorem rm_lives_d31 : decode rm_lives_b 31 = .ok (.aload_n 0, 1) := by decide +kernel
theorem rm_lives_d32 : decode rm_lives_b 32 = .ok (.getfield 26, 3) := by decide +kernel
theorem rm_lives_d35 : decode rm_lives_b 35 = .ok (.getfield 118, 3) := by decide +kernel
theorem rm_lives_d38 : decode rm_lives_b 38 = .ok (.if_icmp .lt 13, 3) := by decide +kernel
theorem rm_lives_d41 : decode rm_lives_b 41 = .ok (.new 106, 3) := by decide +kernel
theorem rm_lives_d44 : decode rm_lives_b 44 = .ok (.dup, 1) := by decide +kernel
theorem rm_lives_d45 : decode rm_lives_b 45 = .ok (.ldc 121, 2) := by decide +kernel
theorem rm_lives_d47 : decode rm_lives_b 47 = .ok (.invokespecial 110, 3) := by decide +kernel
theorem rm_lives_d50 : decode rm_lives_b 50 = .ok (.athrow, 1) := by decide +kernel
theorem rm_lives_d51 : decode rm_lives_b 51 = .ok (.aload_n 0, 1) := by decide +kernel
theorem rm_lives_d52 : decode rm_lives_b 52 = .ok (.getfield 26, 3) := by decide +kernel
theorem rm_lives_d55 : decode rm_lives_b 55 = .ok (.getfield 123, 3) := by decide +kernel
theorem rm_lives_d58 : decode rm_lives_b 58 = .ok (.iload_n 2, 1) := by decide +kernel
theorem rm_lives_d59 : decode rm_lives_b 59 = .ok (.iaload, 1) := by decide +kernel
theorem rm_lives_d60 : decode rm_lives_b 60 = .ok (.iload_n 1, 1) := by decide +kernel
theorem rm_lives_d61 : decode rm_lives_b 61 = .ok (.ishr, 1) := by decide +kernel
theorem rm_lives_d62 : decode rm_lives_b 62 = .ok (.iconst 1, 1) := by decide +kernel
theorem rm_lives_d63 : decode rm_lives_b 63 = .ok (.iand, 1) := by decide +kernel
theorem rm_lives_d64 : decode rm_lives_b 64 = .ok (.iconst 1, 1) := by decide +kernel
theorem rm_lives_d65 : decode rm_lives_b 65 = .ok (.if_icmp .ne 7, 3) := by decide +kernel
theorem rm_lives_d68 : decode rm_lives_b 68 = .ok (.iconst 1, 1) := by decide +kernel
theorem rm_lives_d69 : decode rm_lives_b 69 = .ok (.goto 4, 3) := by decide +kernel
theorem rm_lives_d72 : decode rm_lives_b 72 = .ok (.iconst 0, 1) := by decide +kernel
theorem rm_lives_d73 : decode rm_lives_b 73 = .ok (.ireturn, 1) := by decide +kernel
abbrev rm_lives_rm : Room := { frames := 6, cells := 1, slots := 6, locals := 82 }
theorem rm_lives_w : rb_cw rm_lives_y rm_lives_b 3 (some .boolean) 2 := ⟨rw_485, rw_1, ⟨by decide, by decide⟩, by decide +kernel⟩
section
variable {p : Program} {l : Launch} {e : Env} {s : State} {m : MethodId} {args : Array Value} {below : List Frame} {meth : Method} {c : Code} {A : Nat → Prop} {Z : rb_Z}
def rm_lives_p_41 (K : Int32 → rb_S → Prop) (KX : Nat → rb_S → Prop) (x1 : Int32) (x2 : Int32) (S : rb_S) : Prop := KX 3 S
theorem rm_lives_k_41 {K : Int32 → rb_S → Prop} {KX : Nat → rb_S → Prop}  (X : rb_X p s m args meth c A Z rm_lives_b 3 "RoomMaker" (some .boolean)) (hno : c.exceptionTable.toList = []) (hlt : l.stackTraces = false)  {x1 : Int32} {x2 : Int32} {S : rb_S} (h : rm_lives_p_41 K KX x1 x2 S) : rb_V p l e rm_lives_rm s m args below meth c A (rx_MQ below Z A K KX args s rm_lives_rm.cells rm_lives_rm.slots) Z 3 41 [(0, .ref (Z.1 0)), (1, .int x1), (2, .int x2)] [] S 0 0 := by
  unfold rm_lives_p_41 at h
  exact rx_throw 3 "no such point" hlt X hno (by decide) (by decide) rw_463 rw_14 (by decide) rx_at_3_110 rx_re_3_110 rm_lives_d41 rm_lives_d44 rm_lives_d45 rm_lives_d47 rm_lives_d50 (by decide) (Nat.le_of_ble_eq_true rfl) (by decide) (by decide) (by decide) (by decide) h
def rm_lives_p_73 (K : Int32 → rb_S → Prop) (KX : Nat → rb_S → Prop) (x1 : Int32) (x2 : Int32) (y0 : Int32) (S : rb_S) : Prop := narrow .boolean (.int y0) = .int y0 ∧ K y0 S
theorem rm_lives_k_73 {K : Int32 → rb_S → Prop} {KX : Nat → rb_S → Prop}  (X : rb_X p s m args meth c A Z rm_lives_b 3 "RoomMaker" (some .boolean)) (hno : c.exceptionTable.toList = []) (hlt : l.stackTraces = false)  {x1 : Int32} {x2 : Int32} {y0 : Int32} {S : rb_S} (h : rm_lives_p_73 K KX x1 x2 y0 S) : rb_V p l e rm_lives_rm s m args below meth c A (rx_MQ below Z A K KX args s rm_lives_rm.cells rm_lives_rm.slots) Z 3 73 [(0, .ref (Z.1 0)), (1, .int x1), (2, .int x2)] [.int y0] S 0 0 := by
  unfold rm_lives_p_73 at h
  obtain ⟨hn, h⟩ := h
  refine rx_ret ?_
  refine rb_widen (kc' := rm_lives_rm.cells) (ks' := rm_lives_rm.slots) (by decide) (by decide) ?_
  exact rb_zret X rm_lives_d73 hn h
def rm_lives_p_0 (K : Int32 → rb_S → Prop) (KX : Nat → rb_S → Prop) (x1 : Int32) (x2 : Int32) (S : rb_S) : Prop := rm_isValue_p_0 (fun r1 S1 => (¬ r1 = 0 → (¬ (S1 0 0) = 0 → (x2 < 0 → rm_lives_p_41 K KX x1 x2 S1) ∧ (¬ x2 < 0 → (x2 < (S1 0 4) → vp_in x2 128 ∧ ((¬ (((S1 11 x2.toNatClampNeg) >>> (x1 &&& 31)) &&& 1) = 1 → rm_lives_p_73 K KX x1 x2 0 S1) ∧ ((((S1 11 x2.toNatClampNeg) >>> (x1 &&& 31)) &&& 1) = 1 → rm_lives_p_73 K KX x1 x2 1 S1))) ∧ (¬ x2 < (S1 0 4) → rm_lives_p_41 K KX x1 x2 S1))) ∧ ((S1 0 0) = 0 → narrow .boolean (.int 0) = .int 0 ∧ K 0 S1)) ∧ (r1 = 0 → KX 3 S1)) x1 S
theorem rm_lives_k_0 {K : Int32 → rb_S → Prop} {KX : Nat → rb_S → Prop}  (X : rb_X p s m args meth c A Z rm_lives_b 3 "RoomMaker" (some .boolean)) (hno : c.exceptionTable.toList = []) (hlt : l.stackTraces = false)  {x1 : Int32} {x2 : Int32} {S : rb_S} (h : rm_lives_p_0 K KX x1 x2 S) : rb_V p l e rm_lives_rm s m args below meth c A (rx_MQ below Z A K KX args s rm_lives_rm.cells rm_lives_rm.slots) Z 3 0 [(0, .ref (Z.1 0)), (1, .int x1), (2, .int x2)] [] S 0 0 := by
  unfold rm_lives_p_0 at h
  refine rb_iload_n X 1 rm_lives_d0 rfl 1 rfl ?_
  refine rb_callSi (As := [.int x1]) (rest := []) X (rm_isValue_c l Z h) rm_isValue_w ⟨by decide, by decide⟩ rw_462 rw_267 rfl rfl (Nat.le_of_ble_eq_true rfl) rm_lives_d1 ⟨by decide, by decide⟩ (fun r1 S1 h => ?_)
  refine rb_if_ne X 17 rm_lives_d4 (by decide) (fun hc => ?_) (fun hc => ?_)
  · replace h := h.1 hc
    refine rb_aload_n X 0 rm_lives_d17 rfl 0 rfl ?_
    refine rm_g55 X rm_lives_d18 ?_
    refine rb_if_ne X 26 rm_lives_d21 (by decide) (fun hc => ?_) (fun hc => ?_)
    · replace h := h.1 hc
      refine rb_iload_n X 2 rm_lives_d26 rfl 2 rfl ?_
      refine rb_if_lt X 41 rm_lives_d27 (by decide) (fun hc => ?_) (fun hc => ?_)
      · replace h := h.1 hc
        exact rm_lives_k_41 X hno hlt h
      · replace h := h.2 hc
        refine rb_iload_n X 2 rm_lives_d30 rfl 2 rfl ?_
        refine rb_aload_n X 0 rm_lives_d31 rfl 0 rfl ?_
        refine rm_g26 X rm_lives_d32 ?_
        refine rm_g118 X rm_lives_d35 ?_
        refine rb_icmp_lt X 51 rm_lives_d38 (by decide) (fun hc => ?_) (fun hc => ?_)
        · replace h := h.1 hc
          refine rb_aload_n X 0 rm_lives_d51 rfl 0 rfl ?_
          refine rm_g26 X rm_lives_d52 ?_
          refine rm_g123 X rm_lives_d55 ?_
          refine rb_iload_n X 2 rm_lives_d58 rfl 2 rfl ?_
          obtain ⟨hin, h⟩ := h
          refine rb_iald X 11 (rb_a11 Z) rm_lives_d59 hin ?_
          refine rb_iload_n X 1 rm_lives_d60 rfl 1 rfl ?_
          refine rb_ishr X rm_lives_d61 ?_
          refine rb_iconst X 1 rm_lives_d62 (by decide) ?_
          refine rb_iand X rm_lives_d63 ?_
          refine rb_iconst X 1 rm_lives_d64 (by decide) ?_
          refine rb_icmp_ne X 72 rm_lives_d65 (by decide) (fun hc => ?_) (fun hc => ?_)
          · replace h := h.1 hc
            refine rb_iconst X 0 rm_lives_d72 (by decide) ?_
            exact rm_lives_k_73 X hno hlt h
          · replace h := h.2 hc
            refine rb_iconst X 1 rm_lives_d68 (by decide) ?_
            refine rb_goto X 73 rm_lives_d69 (by decide) ?_
            exact rm_lives_k_73 X hno hlt h
        · replace h := h.2 hc
          exact rm_lives_k_41 X hno hlt h
    · replace h := h.2 hc
      refine rb_iconst X 0 rm_lives_d24 (by decide) ?_
      obtain ⟨hn, h⟩ := h
      refine rx_ret ?_
      refine rb_widen (kc' := rm_lives_rm.cells) (ks' := rm_lives_rm.slots) (by decide) (by decide) ?_
      exact rb_zret X rm_lives_d25 hn h
  · replace h := h.2 hc
    exact rx_throw 3 "no such value" hlt X hno (by decide) (by decide) rw_463 rw_14 (by decide) rx_at_3_110 rx_re_3_110 rm_lives_d7 rm_lives_d10 rm_lives_d11 rm_lives_d13 rm_lives_d16 (by decide) (Nat.le_of_ble_eq_true rfl) (by decide) (by decide) (by decide) (by decide) h
theorem rm_lives_c (l : Launch) (Z : rb_Z) {K : Int32 → rb_S → Prop} {KX : Nat → rb_S → Prop} (hlt : l.stackTraces = false) {x1 : Int32} {x2 : Int32} {S : rb_S} (h : rm_lives_p_0 K KX x1 x2 S) : rx_M l rm_lives_y rm_lives_b 3 (some .boolean) rm_lives_rm Z [.ref (Z.1 0), .int x1, .int x2] S K KX := rx_start (by decide) (Nat.le_of_ble_eq_true rfl) (fun p e s m args below meth c A X hno => rm_lives_k_0 X hno hlt h)
end
theorem rm_place_d0 : decode rm_place_b 0 = .ok (.iload_n 1, 1) := by decide +kernel
theorem rm_place_d1 : decode rm_place_b 1 = .ok (.invokestatic 102, 3) := by decide +kernel
theorem rm_place_d4 : decode rm_place_b 4 = .ok (.ifCond .ne 13, 3) := by decide +kernel
theorem rm_place_d7 : decode rm_place_b 7 = .ok (.new 106, 3) := by decide +kernel
theorem rm_place_d10 : decode rm_place_b 10 = .ok (.dup, 1) := by decide +kernel
theorem rm_place_d11 : decode rm_place_b 11 = .ok (.ldc 108, 2) := by decide +kernel
theorem rm_place_d13 : decode rm_place_b 13 = .ok (.invokespecial 110, 3) := by decide +kernel
theorem rm_place_d16 : decode rm_place_b 16 = .ok (.athrow, 1) := by decide +kernel
theorem rm_place_d17 : decode rm_place_b 17 = .ok (.aload_n 0, 1) := by decide +kernel
theorem rm_place_d18 : decode rm_place_b 18 = .ok (.getfield 55, 3) := by decide +kernel
theorem rm_place_d21 : decode rm_place_b 21 = .ok (.ifCond .eq 15, 3) := by decide +kernel
theorem rm_place_d24 : decode rm_place_b 24 = .ok (.aload_n 0, 1) := by decide +kernel
theorem rm_place_d25 : decode rm_place_b 25 = .ok (.getfield 33, 3) := by decide +kernel
theorem rm_place_d28 : decode rm_place_b 28 = .ok (.getfield 126, 3) := by decide +kernel
theorem rm_place_d31 : decode rm_place_b 31 = .ok (.iload_n 1, 1) := by decide +kernel
theorem rm_place_d32 : decode rm_place_b 32 = .ok (.iaload, 1) := by decide +kernel
theorem rm_place_d33 : decode rm_place_b 33 = .ok (.goto 4, 3) := by decide +kernel
theorem rm_place_d36 : decode rm_place_b 36 = .ok (.iconst (-1), 1) := by decide +kernel
theorem rm_place_d37 : decode rm_place_b 37 = .ok (.ireturn, 1) := by decide +kernel
abbrev rm_place_rm : Room := { frames := 6, cells := 1, slots := 6, locals := 82 }
theorem rm_place_w : rb_cw rm_place_y rm_place_b 2 (some .int) 1 := ⟨rw_493, rw_1, ⟨by decide, by decide⟩, by decide +kernel⟩
section
variable {p : Program} {l : Launch} {e : Env} {s : State} {m : MethodId} {args : Array Value} {below : List Frame} {meth : Method} {c : Code} {A : Nat → Prop} {Z : rb_Z}
def rm_place_p_37 (K : Int32 → rb_S → Prop) (KX : Nat → rb_S → Prop) (x1 : Int32) (y0 : Int32) (S : rb_S) : Prop := K y0 S
theorem rm_place_k_37 {K : Int32 → rb_S → Prop} {KX : Nat → rb_S → Prop}  (X : rb_X p s m args meth c A Z rm_place_b 2 "RoomMaker" (some .int)) (hno : c.exceptionTable.toList = []) (hlt : l.stackTraces = false)  {x1 : Int32} {y0 : Int32} {S : rb_S} (h : rm_place_p_37 K KX x1 y0 S) : rb_V p l e rm_place_rm s m args below meth c A (rx_MQ below Z A K KX args s rm_place_rm.cells rm_place_rm.slots) Z 2 37 [(0, .ref (Z.1 0)), (1, .int x1)] [.int y0] S 0 0 := by
  unfold rm_place_p_37 at h
  refine rx_ret ?_
  refine rb_widen (kc' := rm_place_rm.cells) (ks' := rm_place_rm.slots) (by decide) (by decide) ?_
  exact rb_iret X rm_place_d37 h
def rm_place_p_0 (K : Int32 → rb_S → Prop) (KX : Nat → rb_S → Prop) (x1 : Int32) (S : rb_S) : Prop := rm_isValue_p_0 (fun r1 S1 => (¬ r1 = 0 → ((S1 0 0) = 0 → rm_place_p_37 K KX x1 (-1) S1) ∧ (¬ (S1 0 0) = 0 → vp_in x1 16 ∧ (rm_place_p_37 K KX x1 (S1 14 x1.toNatClampNeg) S1))) ∧ (r1 = 0 → KX 3 S1)) x1 S
theorem rm_place_k_0 {K : Int32 → rb_S → Prop} {KX : Nat → rb_S → Prop}  (X : rb_X p s m args meth c A Z rm_place_b 2 "RoomMaker" (some .int)) (hno : c.exceptionTable.toList = []) (hlt : l.stackTraces = false)  {x1 : Int32} {S : rb_S} (h : rm_place_p_0 K KX x1 S) : rb_V p l e rm_place_rm s m args below meth c A (rx_MQ below Z A K KX args s rm_place_rm.cells rm_place_rm.slots) Z 2 0 [(0, .ref (Z.1 0)), (1, .int x1)] [] S 0 0 := by
  unfold rm_place_p_0 at h
  refine rb_iload_n X 1 rm_place_d0 rfl 1 rfl ?_
  refine rb_callSi (As := [.int x1]) (rest := []) X (rm_isValue_c l Z h) rm_isValue_w ⟨by decide, by decide⟩ rw_462 rw_267 rfl rfl (Nat.le_of_ble_eq_true rfl) rm_place_d1 ⟨by decide, by decide⟩ (fun r1 S1 h => ?_)
  refine rb_if_ne X 17 rm_place_d4 (by decide) (fun hc => ?_) (fun hc => ?_)
  · replace h := h.1 hc
    refine rb_aload_n X 0 rm_place_d17 rfl 0 rfl ?_
    refine rm_g55 X rm_place_d18 ?_
    refine rb_if_eq X 36 rm_place_d21 (by decide) (fun hc => ?_) (fun hc => ?_)
    · replace h := h.1 hc
      refine rb_iconst X (-1) rm_place_d36 (by decide) ?_
      exact rm_place_k_37 X hno hlt h
    · replace h := h.2 hc
      refine rb_aload_n X 0 rm_place_d24 rfl 0 rfl ?_
      refine rm_g33 X rm_place_d25 ?_
      refine rm_g126 X rm_place_d28 ?_
      refine rb_iload_n X 1 rm_place_d31 rfl 1 rfl ?_
      obtain ⟨hin, h⟩ := h
      refine rb_iald X 14 (rb_a14 Z) rm_place_d32 hin ?_
      refine rb_goto X 37 rm_place_d33 (by decide) ?_
      exact rm_place_k_37 X hno hlt h
  · replace h := h.2 hc
    exact rx_throw 3 "no such value" hlt X hno (by decide) (by decide) rw_463 rw_14 (by decide) rx_at_3_110 rx_re_3_110 rm_place_d7 rm_place_d10 rm_place_d11 rm_place_d13 rm_place_d16 (by decide) (Nat.le_of_ble_eq_true rfl) (by decide) (by decide) (by decide) (by decide) h
theorem rm_place_c (l : Launch) (Z : rb_Z) {K : Int32 → rb_S → Prop} {KX : Nat → rb_S → Prop} (hlt : l.stackTraces = false) {x1 : Int32} {S : rb_S} (h : rm_place_p_0 K KX x1 S) : rx_M l rm_place_y rm_place_b 2 (some .int) rm_place_rm Z [.ref (Z.1 0), .int x1] S K KX := rx_start (by decide) (Nat.le_of_ble_eq_true rfl) (fun p e s m args below meth c A X hno => rm_place_k_0 X hno hlt h)
end
theorem rm_run_d0 : decode rm_run_b 0 = .ok (.aload_n 0, 1) := by decide +kernel
theorem rm_run_d1 : decode rm_run_b 1 = .ok (.getfield 55, 3) := by decide +kernel
theorem rm_run_d4 : decode rm_run_b 4 = .ok (.ifCond .eq 13, 3) := by decide +kernel
theorem rm_run_d7 : decode rm_run_b 7 = .ok (.aload_n 0, 1) := by decide +kernel
theorem rm_run_d8 : decode rm_run_b 8 = .ok (.getfield 40, 3) := by decide +kernel
theorem rm_run_d11 : decode rm_run_b 11 = .ok (.invokevirtual 133, 3) := by decide +kernel
theorem rm_run_d14 : decode rm_run_b 14 = .ok (.ifCond .eq 13, 3) := by decide +kernel
theorem rm_run_d17 : decode rm_run_b 17 = .ok (.new 79, 3) := by decide +kernel
theorem rm_run_d20 : decode rm_run_b 20 = .ok (.dup, 1) := by decide +kernel
theorem rm_run_d21 : decode rm_run_b 21 = .ok (.ldc 136, 2) := by decide +kernel
theorem rm_run_d23 : decode rm_run_b 23 = .ok (.invokespecial 83, 3) := by decide +kernel
theorem rm_run_d26 : decode rm_run_b 26 = .ok (.athrow, 1) := by decide +kernel
theorem rm_run_d27 : decode rm_run_b 27 = .ok (.iload_n 1, 1) := by decide +kernel
theorem rm_run_d28 : decode rm_run_b 28 = .ok (.iconst 1, 1) := by decide +kernel
theorem rm_run_d29 : decode rm_run_b 29 = .ok (.if_icmp .lt 10, 3) := by decide +kernel
theorem rm_run_d32 : decode rm_run_b 32 = .ok (.iload_n 1, 1) := by decide +kernel
theorem rm_run_d33 : decode rm_run_b 33 = .ok (.sipush 5000, 3) := by decide +kernel
theorem rm_run_d36 : decode rm_run_b 36 = .ok (.if_icmp .le 13, 3) := by decide +kernel
theorem rm_run_d39 : decode rm_run_b 39 = .ok (.new 48, 3) := by decide +kernel
theorem rm_run_d42 : decode rm_run_b 42 = .ok (.dup, 1) := by decide +kernel
theorem rm_run_d43 : decode rm_run_b 43 = .ok (.ldc 138, 2) := by decide +kernel
theorem rm_run_d45 : decode rm_run_b 45 = .ok (.invokespecial 52, 3) := by decide +kernel
theorem rm_run_d48 : decode rm_run_b 48 = .ok (.athrow, 1) := by decide +kernel
theorem rm_run_d49 : decode rm_run_b 49 = .ok (.aload_n 0, 1) := by decide +kernel
theorem rm_run_d50 : decode rm_run_b 50 = .ok (.getfield 40, 3) := by decide +kernel
theorem rm_run_d53 : decode rm_run_b 53 = .ok (.iload_n 1, 1) := by decide +kernel
theorem rm_run_d54 : decode rm_run_b 54 = .ok (.aload_n 0, 1) := by decide +kernel
theorem rm_run_d55 : decode rm_run_b 55 = .ok (.getfield 19, 3) := by decide +kernel
theorem rm_run_d58 : decode rm_run_b 58 = .ok (.invokevirtual 140, 3) := by decide +kernel
theorem rm_run_d61 : decode rm_run_b 61 = .ok (.ireturn, 1) := by decide +kernel
abbrev rm_run_rm : Room := { frames := 6, cells := 1, slots := 6, locals := 115 }
theorem rm_run_w : rb_cw rm_run_y rm_run_b 2 (some .int) 1 := ⟨rw_500, rw_1, ⟨by decide, by decide⟩, by decide +kernel⟩
section
variable {p : Program} {l : Launch} {e : Env} {s : State} {m : MethodId} {args : Array Value} {below : List Frame} {meth : Method} {c : Code} {A : Nat → Prop} {Z : rb_Z}
def rm_run_p_17 (K : Int32 → rb_S → Prop) (KX : Nat → rb_S → Prop) (x1 : Int32) (S : rb_S) : Prop := KX 2 S
theorem rm_run_k_17 {K : Int32 → rb_S → Prop} {KX : Nat → rb_S → Prop}  (X : rb_X p s m args meth c A Z rm_run_b 2 "RoomMaker" (some .int)) (hno : c.exceptionTable.toList = []) (hlt : l.stackTraces = false)  {x1 : Int32} {S : rb_S} (h : rm_run_p_17 K KX x1 S) : rb_V p l e rm_run_rm s m args below meth c A (rx_MQ below Z A K KX args s rm_run_rm.cells rm_run_rm.slots) Z 2 17 [(0, .ref (Z.1 0)), (1, .int x1)] [] S 0 0 := by
  unfold rm_run_p_17 at h
  exact rx_throw 2 "nothing is left to run" hlt X hno (by decide) (by decide) rw_362 rw_12 (by decide) rx_at_2_83 rx_re_2_83 rm_run_d17 rm_run_d20 rm_run_d21 rm_run_d23 rm_run_d26 (by decide) (Nat.le_of_ble_eq_true rfl) (by decide) (by decide) (by decide) (by decide) h
def rm_run_p_39 (K : Int32 → rb_S → Prop) (KX : Nat → rb_S → Prop) (x1 : Int32) (S : rb_S) : Prop := KX 1 S
theorem rm_run_k_39 {K : Int32 → rb_S → Prop} {KX : Nat → rb_S → Prop}  (X : rb_X p s m args meth c A Z rm_run_b 2 "RoomMaker" (some .int)) (hno : c.exceptionTable.toList = []) (hlt : l.stackTraces = false)  {x1 : Int32} {S : rb_S} (h : rm_run_p_39 K KX x1 S) : rb_V p l e rm_run_rm s m args below meth c A (rx_MQ below Z A K KX args s rm_run_rm.cells rm_run_rm.slots) Z 2 39 [(0, .ref (Z.1 0)), (1, .int x1)] [] S 0 0 := by
  unfold rm_run_p_39 at h
  exact rx_throw 1 "no such number of instructions" hlt X hno (by decide) (by decide) rw_273 rw_11 (by decide) rx_at_1_52 rx_re_1_52 rm_run_d39 rm_run_d42 rm_run_d43 rm_run_d45 rm_run_d48 (by decide) (Nat.le_of_ble_eq_true rfl) (by decide) (by decide) (by decide) (by decide) h
def rm_run_p_0 (K : Int32 → rb_S → Prop) (KX : Nat → rb_S → Prop) (x1 : Int32) (S : rb_S) : Prop := ((S 0 0) = 0 → rm_run_p_17 K KX x1 S) ∧ (¬ (S 0 0) = 0 → ma_isAtEnd_p_0 (fun r11 S11 => (r11 = 0 → (x1 < 1 → rm_run_p_39 K KX x1 S11) ∧ (¬ x1 < 1 → (x1 ≤ 5000 → ma_advance_p_0 (fun r58 S58 => K r58 S58) x1 S11) ∧ (¬ x1 ≤ 5000 → rm_run_p_39 K KX x1 S11))) ∧ (¬ r11 = 0 → rm_run_p_17 K KX x1 S11)) S)
theorem rm_run_k_0 {K : Int32 → rb_S → Prop} {KX : Nat → rb_S → Prop}  (X : rb_X p s m args meth c A Z rm_run_b 2 "RoomMaker" (some .int)) (hno : c.exceptionTable.toList = []) (hlt : l.stackTraces = false)  {x1 : Int32} {S : rb_S} (h : rm_run_p_0 K KX x1 S) : rb_V p l e rm_run_rm s m args below meth c A (rx_MQ below Z A K KX args s rm_run_rm.cells rm_run_rm.slots) Z 2 0 [(0, .ref (Z.1 0)), (1, .int x1)] [] S 0 0 := by
  unfold rm_run_p_0 at h
  refine rb_aload_n X 0 rm_run_d0 rfl 0 rfl ?_
  refine rm_g55 X rm_run_d1 ?_
  refine rb_if_eq X 17 rm_run_d4 (by decide) (fun hc => ?_) (fun hc => ?_)
  · replace h := h.1 hc
    exact rm_run_k_17 X hno hlt h
  · replace h := h.2 hc
    refine rb_aload_n X 0 rm_run_d7 rfl 0 rfl ?_
    refine rm_g40 X rm_run_d8 ?_
    refine rb_callVNi (As := []) (rest := []) X (ma_isAtEnd_c l Z h) ma_isAtEnd_w ⟨by decide, by decide⟩ rn_501 rw_248 rs_7 (q0 := 5) rfl rfl rfl rfl (Nat.le_of_ble_eq_true rfl) rm_run_d11 ⟨by decide, by decide⟩ (fun r11 S11 h => ?_)
    refine rb_if_eq X 27 rm_run_d14 (by decide) (fun hc => ?_) (fun hc => ?_)
    · replace h := h.1 hc
      refine rb_iload_n X 1 rm_run_d27 rfl 1 rfl ?_
      refine rb_iconst X 1 rm_run_d28 (by decide) ?_
      refine rb_icmp_lt X 39 rm_run_d29 (by decide) (fun hc => ?_) (fun hc => ?_)
      · replace h := h.1 hc
        exact rm_run_k_39 X hno hlt h
      · replace h := h.2 hc
        refine rb_iload_n X 1 rm_run_d32 rfl 1 rfl ?_
        refine rb_sipush X 5000 rm_run_d33 (by decide) ?_
        refine rb_icmp_le X 49 rm_run_d36 (by decide) (fun hc => ?_) (fun hc => ?_)
        · replace h := h.1 hc
          refine rb_aload_n X 0 rm_run_d49 rfl 0 rfl ?_
          refine rm_g40 X rm_run_d50 ?_
          refine rb_iload_n X 1 rm_run_d53 rfl 1 rfl ?_
          refine rb_aload_n X 0 rm_run_d54 rfl 0 rfl ?_
          refine rm_g19 X rm_run_d55 ?_
          refine rb_callVNi (As := [.int x1, .ref (Z.1 2)]) (rest := []) X (ma_advance_c l Z h) ma_advance_w ⟨by decide, by decide⟩ rn_504 rw_506 rs_28 (q0 := 5) rfl rfl rfl rfl (Nat.le_of_ble_eq_true rfl) rm_run_d58 ⟨by decide, by decide⟩ (fun r58 S58 h => ?_)
          refine rx_ret ?_
          refine rb_widen (kc' := rm_run_rm.cells) (ks' := rm_run_rm.slots) (by decide) (by decide) ?_
          exact rb_iret X rm_run_d61 h
        · replace h := h.2 hc
          exact rm_run_k_39 X hno hlt h
    · replace h := h.2 hc
      exact rm_run_k_17 X hno hlt h
theorem rm_run_c (l : Launch) (Z : rb_Z) {K : Int32 → rb_S → Prop} {KX : Nat → rb_S → Prop} (hlt : l.stackTraces = false) {x1 : Int32} {S : rb_S} (h : rm_run_p_0 K KX x1 S) : rx_M l rm_run_y rm_run_b 2 (some .int) rm_run_rm Z [.ref (Z.1 0), .int x1] S K KX := rx_start (by decide) (Nat.le_of_ble_eq_true rfl) (fun p e s m args below meth c A X hno => rm_run_k_0 X hno hlt h)
end
theorem rm_value_d0 : decode rm_value_b 0 = .ok (.aload_n 0, 1) := by decide +kernel
theorem rm_value_d1 : decode rm_value_b 1 = .ok (.getfield 55, 3) := by decide +kernel
theorem rm_value_d4 : decode rm_value_b 4 = .ok (.ifCond .ne 13, 3) := by decide +kernel
theorem rm_value_d7 : decode rm_value_b 7 = .ok (.new 79, 3) := by decide +kernel
theorem rm_value_d10 : decode rm_value_b 10 = .ok (.dup, 1) := by decide +kernel
theorem rm_value_d11 : decode rm_value_b 11 = .ok (.ldc 144, 2) := by decide +kernel
theorem rm_value_d13 : decode rm_value_b 13 = .ok (.invokespecial 83, 3) := by decide +kernel
theorem rm_value_d16 : decode rm_value_b 16 = .ok (.athrow, 1) := by decide +kernel
theorem rm_value_d17 : decode rm_value_b 17 = .ok (.iload_n 1, 1) := by decide +kernel
theorem rm_value_d18 : decode rm_value_b 18 = .ok (.ifCond .lt 9, 3) := by decide +kernel
theorem rm_value_d21 : decode rm_value_b 21 = .ok (.iload_n 1, 1) := by decide +kernel
theorem rm_value_d22 : decode rm_value_b 22 = .ok (.bipush 32, 2) := by decide +kernel
theorem rm_value_d24 : decode rm_value_b 24 = .ok (.if_icmp .lt 13, 3) := by decide +kernel
theorem rm_value_d27 : decode rm_value_b 27 = .ok (.new 106, 3) := by decide +kernel
theorem rm_value_d30 : decode rm_value_b 30 = .ok (.dup, 1) := by decide +kernel
theorem rm_value_d31 : decode rm_value_b 31 = .ok (.ldc 146, 2) := by decide +kernel
theorem rm_value_d33 : decode rm_value_b 33 = .ok (.invokespecial 110, 3) := by decide +kernel
theorem rm_value_d36 : decode rm_value_b 36 = .ok (.athrow, 1) := by decide +kernel
theorem rm_value_d37 : decode rm_value_b 37 = .ok (.iload_n 1, 1) := by decide +kernel
theorem rm_value_d38 : decode rm_value_b 38 = .ok (.bipush 16, 2) := by decide +kernel
theorem rm_value_d40 : decode rm_value_b 40 = .ok (.if_icmp .ge 22, 3) := by decide +kernel
theorem rm_value_d43 : decode rm_value_b 43 = .ok (.aload_n 0, 1) := by decide +kernel
theorem rm_value_d44 : decode rm_value_b 44 = .ok (.getfield 40, 3) := by decide +kernel
theorem rm_value_d47 : decode rm_value_b 47 = .ok (.aload_n 0, 1) := by decide +kernel
theorem rm_value_d48 : decode rm_value_b 48 = .ok (.getfield 33, 3) := by decide +kernel
theorem rm_value_d51 : decode rm_value_b 51 = .ok (.getfield 126, 3) := by decide +kernel
theorem rm_value_d54 : decode rm_value_b 54 = .ok (.iload_n 1, 1) := by decide +kernel
theorem rm_value_d55 : decode rm_value_b 55 = .ok (.iaload, 1) := by decide +kernel
theorem rm_value_d56 : decode rm_value_b 56 = .ok (.invokevirtual 148, 3) := by decide +kernel
theorem rm_value_d59 : decode rm_value_b 59 = .ok (.goto 15, 3) := by decide +kernel
theorem rm_value_d62 : decode rm_value_b 62 = .ok (.aload_n 0, 1) := by decide +kernel
theorem rm_value_d63 : decode rm_value_b 63 = .ok (.getfield 40, 3) := by decide +kernel
theorem rm_value_d66 : decode rm_value_b 66 = .ok (.getfield 151, 3) := by decide +kernel
theorem rm_value_d69 : decode rm_value_b 69 = .ok (.iload_n 1, 1) := by decide +kernel
theorem rm_value_d70 : decode rm_value_b 70 = .ok (.bipush 16, 2) := by decide +kernel
theorem rm_value_d72 : decode rm_value_b 72 = .ok (.isub, 1) := by decide +kernel
theorem rm_value_d73 : decode rm_value_b 73 = .ok (.iaload, 1) := by decide +kernel
theorem rm_value_d74 : decode rm_value_b 74 = .ok (.ireturn, 1) := by decide +kernel
abbrev rm_value_rm : Room := { frames := 6, cells := 1, slots := 6, locals := 82 }
theorem rm_value_w : rb_cw rm_value_y rm_value_b 2 (some .int) 1 := ⟨rw_546, rw_1, ⟨by decide, by decide⟩, by decide +kernel⟩
section
variable {p : Program} {l : Launch} {e : Env} {s : State} {m : MethodId} {args : Array Value} {below : List Frame} {meth : Method} {c : Code} {A : Nat → Prop} {Z : rb_Z}
def rm_value_p_27 (K : Int32 → rb_S → Prop) (KX : Nat → rb_S → Prop) (x1 : Int32) (S : rb_S) : Prop := KX 3 S
theorem rm_value_k_27 {K : Int32 → rb_S → Prop} {KX : Nat → rb_S → Prop}  (X : rb_X p s m args meth c A Z rm_value_b 2 "RoomMaker" (some .int)) (hno : c.exceptionTable.toList = []) (hlt : l.stackTraces = false)  {x1 : Int32} {S : rb_S} (h : rm_value_p_27 K KX x1 S) : rb_V p l e rm_value_rm s m args below meth c A (rx_MQ below Z A K KX args s rm_value_rm.cells rm_value_rm.slots) Z 2 27 [(0, .ref (Z.1 0)), (1, .int x1)] [] S 0 0 := by
  unfold rm_value_p_27 at h
  exact rx_throw 3 "no such value or cell" hlt X hno (by decide) (by decide) rw_463 rw_14 (by decide) rx_at_3_110 rx_re_3_110 rm_value_d27 rm_value_d30 rm_value_d31 rm_value_d33 rm_value_d36 (by decide) (Nat.le_of_ble_eq_true rfl) (by decide) (by decide) (by decide) (by decide) h
def rm_value_p_74 (K : Int32 → rb_S → Prop) (KX : Nat → rb_S → Prop) (x1 : Int32) (y0 : Int32) (S : rb_S) : Prop := K y0 S
theorem rm_value_k_74 {K : Int32 → rb_S → Prop} {KX : Nat → rb_S → Prop}  (X : rb_X p s m args meth c A Z rm_value_b 2 "RoomMaker" (some .int)) (hno : c.exceptionTable.toList = []) (hlt : l.stackTraces = false)  {x1 : Int32} {y0 : Int32} {S : rb_S} (h : rm_value_p_74 K KX x1 y0 S) : rb_V p l e rm_value_rm s m args below meth c A (rx_MQ below Z A K KX args s rm_value_rm.cells rm_value_rm.slots) Z 2 74 [(0, .ref (Z.1 0)), (1, .int x1)] [.int y0] S 0 0 := by
  unfold rm_value_p_74 at h
  refine rx_ret ?_
  refine rb_widen (kc' := rm_value_rm.cells) (ks' := rm_value_rm.slots) (by decide) (by decide) ?_
  exact rb_iret X rm_value_d74 h
def rm_value_p_0 (K : Int32 → rb_S → Prop) (KX : Nat → rb_S → Prop) (x1 : Int32) (S : rb_S) : Prop := (¬ (S 0 0) = 0 → (x1 < 0 → rm_value_p_27 K KX x1 S) ∧ (¬ x1 < 0 → (x1 < 32 → (16 ≤ x1 → vp_in (x1 - 16) 16 ∧ (rm_value_p_74 K KX x1 (S 21 (x1 - 16).toNatClampNeg) S)) ∧ (¬ 16 ≤ x1 → vp_in x1 16 ∧ (ma_contentOf_p_0 (fun r56 S56 => rm_value_p_74 K KX x1 r56 S56) (S 14 x1.toNatClampNeg) S))) ∧ (¬ x1 < 32 → rm_value_p_27 K KX x1 S))) ∧ ((S 0 0) = 0 → KX 2 S)
theorem rm_value_k_0 {K : Int32 → rb_S → Prop} {KX : Nat → rb_S → Prop}  (X : rb_X p s m args meth c A Z rm_value_b 2 "RoomMaker" (some .int)) (hno : c.exceptionTable.toList = []) (hlt : l.stackTraces = false)  {x1 : Int32} {S : rb_S} (h : rm_value_p_0 K KX x1 S) : rb_V p l e rm_value_rm s m args below meth c A (rx_MQ below Z A K KX args s rm_value_rm.cells rm_value_rm.slots) Z 2 0 [(0, .ref (Z.1 0)), (1, .int x1)] [] S 0 0 := by
  unfold rm_value_p_0 at h
  refine rb_aload_n X 0 rm_value_d0 rfl 0 rfl ?_
  refine rm_g55 X rm_value_d1 ?_
  refine rb_if_ne X 17 rm_value_d4 (by decide) (fun hc => ?_) (fun hc => ?_)
  · replace h := h.1 hc
    refine rb_iload_n X 1 rm_value_d17 rfl 1 rfl ?_
    refine rb_if_lt X 27 rm_value_d18 (by decide) (fun hc => ?_) (fun hc => ?_)
    · replace h := h.1 hc
      exact rm_value_k_27 X hno hlt h
    · replace h := h.2 hc
      refine rb_iload_n X 1 rm_value_d21 rfl 1 rfl ?_
      refine rb_bipush X 32 rm_value_d22 (by decide) ?_
      refine rb_icmp_lt X 37 rm_value_d24 (by decide) (fun hc => ?_) (fun hc => ?_)
      · replace h := h.1 hc
        refine rb_iload_n X 1 rm_value_d37 rfl 1 rfl ?_
        refine rb_bipush X 16 rm_value_d38 (by decide) ?_
        refine rb_icmp_ge X 62 rm_value_d40 (by decide) (fun hc => ?_) (fun hc => ?_)
        · replace h := h.1 hc
          refine rb_aload_n X 0 rm_value_d62 rfl 0 rfl ?_
          refine rm_g40 X rm_value_d63 ?_
          refine rm_g151 X rm_value_d66 ?_
          refine rb_iload_n X 1 rm_value_d69 rfl 1 rfl ?_
          refine rb_bipush X 16 rm_value_d70 (by decide) ?_
          refine rb_isub X rm_value_d72 ?_
          obtain ⟨hin, h⟩ := h
          refine rb_iald X 21 (rb_a21 Z) rm_value_d73 hin ?_
          exact rm_value_k_74 X hno hlt h
        · replace h := h.2 hc
          refine rb_aload_n X 0 rm_value_d43 rfl 0 rfl ?_
          refine rm_g40 X rm_value_d44 ?_
          refine rb_aload_n X 0 rm_value_d47 rfl 0 rfl ?_
          refine rm_g33 X rm_value_d48 ?_
          refine rm_g126 X rm_value_d51 ?_
          refine rb_iload_n X 1 rm_value_d54 rfl 1 rfl ?_
          obtain ⟨hin, h⟩ := h
          refine rb_iald X 14 (rb_a14 Z) rm_value_d55 hin ?_
          refine rb_callVNi (As := [.int (S 14 x1.toNatClampNeg)]) (rest := []) X (ma_contentOf_c l Z h) ma_contentOf_w ⟨by decide, by decide⟩ rn_549 rw_522 rs_32 (q0 := 5) rfl rfl rfl rfl (Nat.le_of_ble_eq_true rfl) rm_value_d56 ⟨by decide, by decide⟩ (fun r56 S56 h => ?_)
          refine rb_goto X 74 rm_value_d59 (by decide) ?_
          exact rm_value_k_74 X hno hlt h
      · replace h := h.2 hc
        exact rm_value_k_27 X hno hlt h
  · replace h := h.2 hc
    exact rx_throw 2 "nothing is built" hlt X hno (by decide) (by decide) rw_362 rw_12 (by decide) rx_at_2_83 rx_re_2_83 rm_value_d7 rm_value_d10 rm_value_d11 rm_value_d13 rm_value_d16 (by decide) (Nat.le_of_ble_eq_true rfl) (by decide) (by decide) (by decide) (by decide) h
theorem rm_value_c (l : Launch) (Z : rb_Z) {K : Int32 → rb_S → Prop} {KX : Nat → rb_S → Prop} (hlt : l.stackTraces = false) {x1 : Int32} {S : rb_S} (h : rm_value_p_0 K KX x1 S) : rx_M l rm_value_y rm_value_b 2 (some .int) rm_value_rm Z [.ref (Z.1 0), .int x1] S K KX := rx_start (by decide) (Nat.le_of_ble_eq_true rfl) (fun p e s m args below meth c A X hno => rm_value_k_0 X hno hlt h)
end
