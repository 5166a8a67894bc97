theorem ma_begin_d0 : decode ma_begin_b 0 = .ok (.aload_n 0, 1) := by decide +kernel
theorem ma_begin_d1 : decode ma_begin_b 1 = .ok (.getfield 24, 3) := by decide +kernel
theorem ma_begin_d4 : decode ma_begin_b 4 = .ok (.iconst 0, 1) := by decide +kernel
theorem ma_begin_d5 : decode ma_begin_b 5 = .ok (.invokestatic 62, 3) := by decide +kernel
theorem ma_begin_d8 : decode ma_begin_b 8 = .ok (.aload_n 0, 1) := by decide +kernel
theorem ma_begin_d9 : decode ma_begin_b 9 = .ok (.getfield 27, 3) := by decide +kernel
theorem ma_begin_d12 : decode ma_begin_b 12 = .ok (.iconst 0, 1) := by decide +kernel
theorem ma_begin_d13 : decode ma_begin_b 13 = .ok (.invokestatic 62, 3) := by decide +kernel
theorem ma_begin_d16 : decode ma_begin_b 16 = .ok (.aload_n 0, 1) := by decide +kernel
theorem ma_begin_d17 : decode ma_begin_b 17 = .ok (.iconst 0, 1) := by decide +kernel
theorem ma_begin_d18 : decode ma_begin_b 18 = .ok (.putfield 68, 3) := by decide +kernel
theorem ma_begin_d21 : decode ma_begin_b 21 = .ok (.aload_n 0, 1) := by decide +kernel
theorem ma_begin_d22 : decode ma_begin_b 22 = .ok (.iconst 0, 1) := by decide +kernel
theorem ma_begin_d23 : decode ma_begin_b 23 = .ok (.putfield 71, 3) := by decide +kernel
theorem ma_begin_d26 : decode ma_begin_b 26 = .ok (.aload_n 0, 1) := by decide +kernel
theorem ma_begin_d27 : decode ma_begin_b 27 = .ok (.iconst 0, 1) := by decide +kernel
theorem ma_begin_d28 : decode ma_begin_b 28 = .ok (.putfield 74, 3) := by decide +kernel
theorem ma_begin_d31 : decode ma_begin_b 31 = .ok (.aload_n 0, 1) := by decide +kernel
theorem ma_begin_d32 : decode ma_begin_b 32 = .ok (.iconst 0, 1) := by decide +kernel
theorem ma_begin_d33 : decode ma_begin_b 33 = .ok (.putfield 77, 3) := by decide +kernel
theorem ma_begin_d36 : decode ma_begin_b 36 = .ok (.aload_n 0, 1) := by decide +kernel
theorem ma_begin_d37 : decode ma_begin_b 37 = .ok (.iconst 0, 1) := by decide +kernel
theorem ma_begin_d38 : decode ma_begin_b 38 = .ok (.putfield 80, 3) := by decide +kernel
theorem ma_begin_d41 : decode ma_begin_b 41 = .ok (.aload_n 0, 1) := by decide +kernel
theorem ma_begin_d42 : decode ma_begin_b 42 = .ok (.iconst 0, 1) := by decide +kernel
theorem ma_begin_d43 : decode ma_begin_b 43 = .ok (.putfield 83, 3) := by decide +kernel
theorem ma_begin_d46 : decode ma_begin_b 46 = .ok (.return_, 1) := by decide +kernel
abbrev ma_begin_rm : Room := { frames := 1, cells := 0, slots := 0, locals := 23 }
theorem ma_begin_w : rb_cw ma_begin_y ma_begin_b 1 none 0 := ⟨rw_226, rw_6, ⟨by decide, by decide⟩, by decide +kernel⟩
section
variable {p : Program} {l : Launch} {e : Env} {s : State} {m : MethodId} {args : Array Value} {below : List Frame} {meth : Method} {c : Code} {A : Nat → Prop} {Z : rb_Z}
def ma_begin_p_0 (K : rb_S → Prop)  (S : rb_S) : Prop := ar_fill_p_0 20 32 (fun S5 => ar_fill_p_0 21 16 (fun S13 => ∀ S18 : rb_S, S18 = rb_u S13 0 8 0 → (∀ S23 : rb_S, S23 = rb_u S18 0 9 0 → (∀ S28 : rb_S, S28 = rb_u S23 0 10 0 → (∀ S33 : rb_S, S33 = rb_u S28 0 11 0 → (∀ S38 : rb_S, S38 = rb_u S33 0 12 0 → (∀ S43 : rb_S, S43 = rb_u S38 0 13 0 → (K S43))))))) 0 S5) 0 S
theorem ma_begin_k_0 {K : rb_S → Prop}  (X : rb_X p s m args meth c A Z ma_begin_b 1 "RoomMaker$Machine" none)   {S : rb_S} (h : ma_begin_p_0 K S) : rb_V p l e ma_begin_rm s m args below meth c A (MQ below (va_Qv K (rb_B Z A) A) args s ma_begin_rm.cells ma_begin_rm.slots A) Z 1 0 [(0, .ref (Z.1 5))] [] S 0 0 := by
  unfold ma_begin_p_0 at h
  refine rb_aload_n X 0 ma_begin_d0 rfl 0 rfl ?_
  refine ma_g24 X ma_begin_d1 ?_
  refine rb_iconst X 0 ma_begin_d4 (by decide) ?_
  refine rb_callSv (As := [.ref (Z.1 20), .int 0]) (rest := []) X (ar_fill_c l Z (rb_a20 Z) h) ar_fill_w ⟨by decide, by decide⟩ rw_227 rw_228 rfl rfl (Nat.le_of_ble_eq_true rfl) ma_begin_d5 ⟨by decide, by decide⟩ (fun S5 h => ?_)
  refine rb_aload_n X 0 ma_begin_d8 rfl 0 rfl ?_
  refine ma_g27 X ma_begin_d9 ?_
  refine rb_iconst X 0 ma_begin_d12 (by decide) ?_
  refine rb_callSv (As := [.ref (Z.1 21), .int 0]) (rest := []) X (ar_fill_c l Z (rb_a21 Z) h) ar_fill_w ⟨by decide, by decide⟩ rw_227 rw_228 rfl rfl (Nat.le_of_ble_eq_true rfl) ma_begin_d13 ⟨by decide, by decide⟩ (fun S13 h => ?_)
  refine rb_aload_n X 0 ma_begin_d16 rfl 0 rfl ?_
  refine rb_iconst X 0 ma_begin_d17 (by decide) ?_
  refine ma_q68 X ma_begin_d18 (fun S18 e18 => ?_)
  replace h := h S18 e18
  refine rb_aload_n X 0 ma_begin_d21 rfl 0 rfl ?_
  refine rb_iconst X 0 ma_begin_d22 (by decide) ?_
  refine ma_q71 X ma_begin_d23 (fun S23 e23 => ?_)
  replace h := h S23 e23
  refine rb_aload_n X 0 ma_begin_d26 rfl 0 rfl ?_
  refine rb_iconst X 0 ma_begin_d27 (by decide) ?_
  refine ma_q74 X ma_begin_d28 (fun S28 e28 => ?_)
  replace h := h S28 e28
  refine rb_aload_n X 0 ma_begin_d31 rfl 0 rfl ?_
  refine rb_iconst X 0 ma_begin_d32 (by decide) ?_
  refine ma_q77 X ma_begin_d33 (fun S33 e33 => ?_)
  replace h := h S33 e33
  refine rb_aload_n X 0 ma_begin_d36 rfl 0 rfl ?_
  refine rb_iconst X 0 ma_begin_d37 (by decide) ?_
  refine ma_q80 X ma_begin_d38 (fun S38 e38 => ?_)
  replace h := h S38 e38
  refine rb_aload_n X 0 ma_begin_d41 rfl 0 rfl ?_
  refine rb_iconst X 0 ma_begin_d42 (by decide) ?_
  refine ma_q83 X ma_begin_d43 (fun S43 e43 => ?_)
  replace h := h S43 e43
  exact rb_vret X ma_begin_d46 h
theorem ma_begin_c (l : Launch) (Z : rb_Z) {K : rb_S → Prop}  {S : rb_S} (h : ma_begin_p_0 K S) : rb_Mv l ma_begin_y ma_begin_b 1 ma_begin_rm Z [.ref (Z.1 5)] S K := rb_startV (by decide) (Nat.le_of_ble_eq_true rfl) (fun p e s m args below meth c A X => ma_begin_k_0 X h)
end
theorem ma_written_d0 : decode ma_written_b 0 = .ok (.iload_n 1, 1) := by decide +kernel
theorem ma_written_d1 : decode ma_written_b 1 = .ok (.ifCond .lt 17, 3) := by decide +kernel
theorem ma_written_d4 : decode ma_written_b 4 = .ok (.iload_n 1, 1) := by decide +kernel
theorem ma_written_d5 : decode ma_written_b 5 = .ok (.bipush 16, 2) := by decide +kernel
theorem ma_written_d7 : decode ma_written_b 7 = .ok (.if_icmp .ge 11, 3) := by decide +kernel
theorem ma_written_d10 : decode ma_written_b 10 = .ok (.iload_n 1, 1) := by decide +kernel
theorem ma_written_d11 : decode ma_written_b 11 = .ok (.aload_n 0, 1) := by decide +kernel
theorem ma_written_d12 : decode ma_written_b 12 = .ok (.getfield 83, 3) := by decide +kernel
theorem ma_written_d15 : decode ma_written_b 15 = .ok (.if_icmp .lt 5, 3) := by decide +kernel
theorem ma_written_d18 : decode ma_written_b 18 = .ok (.iconst 0, 1) := by decide +kernel
theorem ma_written_d19 : decode ma_written_b 19 = .ok (.ireturn, 1) := by decide +kernel
theorem ma_written_d20 : decode ma_written_b 20 = .ok (.aload_n 0, 1) := by decide +kernel
theorem ma_written_d21 : decode ma_written_b 21 = .ok (.getfield 30, 3) := by decide +kernel
theorem ma_written_d24 : decode ma_written_b 24 = .ok (.aload_n 0, 1) := by decide +kernel
theorem ma_written_d25 : decode ma_written_b 25 = .ok (.getfield 83, 3) := by decide +kernel
theorem ma_written_d28 : decode ma_written_b 28 = .ok (.iconst 1, 1) := by decide +kernel
theorem ma_written_d29 : decode ma_written_b 29 = .ok (.isub, 1) := by decide +kernel
theorem ma_written_d30 : decode ma_written_b 30 = .ok (.iload_n 1, 1) := by decide +kernel
theorem ma_written_d31 : decode ma_written_b 31 = .ok (.isub, 1) := by decide +kernel
theorem ma_written_d32 : decode ma_written_b 32 = .ok (.bipush 15, 2) := by decide +kernel
theorem ma_written_d34 : decode ma_written_b 34 = .ok (.iand, 1) := by decide +kernel
theorem ma_written_d35 : decode ma_written_b 35 = .ok (.iaload, 1) := by decide +kernel
theorem ma_written_d36 : decode ma_written_b 36 = .ok (.ireturn, 1) := by decide +kernel
abbrev ma_written_rm : Room := { frames := 0, cells := 0, slots := 0, locals := 0 }
theorem ma_written_w : rb_cw ma_written_y ma_written_b 2 (some .int) 1 := ⟨rw_237, rw_6, ⟨by decide, by decide⟩, by decide +kernel⟩
section
variable {p : Program} {l : Launch} {e : Env} {s : State} {m : MethodId} {args : Array Value} {below : List Frame} {meth : Method} {c : Code} {A : Nat → Prop} {Z : rb_Z}
def ma_written_p_18 (K : Int32 → rb_S → Prop) (x1 : Int32) (S : rb_S) : Prop := K 0 S
theorem ma_written_k_18 {K : Int32 → rb_S → Prop}  (X : rb_X p s m args meth c A Z ma_written_b 2 "RoomMaker$Machine" (some .int))  {x1 : Int32} {S : rb_S} (h : ma_written_p_18 K x1 S) : rb_V p l e ma_written_rm s m args below meth c A (MQ below (va_Qi K (rb_B Z A) A) args s ma_written_rm.cells ma_written_rm.slots A) Z 2 18 [(0, .ref (Z.1 5)), (1, .int x1)] [] S 0 0 := by
  unfold ma_written_p_18 at h
  refine rb_iconst X 0 ma_written_d18 (by decide) ?_
  exact rb_iret X ma_written_d19 h
def ma_written_p_0 (K : Int32 → rb_S → Prop) (x1 : Int32) (S : rb_S) : Prop := (x1 < 0 → ma_written_p_18 K x1 S) ∧ (¬ x1 < 0 → (16 ≤ x1 → ma_written_p_18 K x1 S) ∧ (¬ 16 ≤ x1 → (x1 < (S 0 13) → vp_in ((((S 0 13) - 1) - x1) &&& 15) 16 ∧ (K (S 22 ((((S 0 13) - 1) - x1) &&& 15).toNatClampNeg) S)) ∧ (¬ x1 < (S 0 13) → ma_written_p_18 K x1 S)))
theorem ma_written_k_0 {K : Int32 → rb_S → Prop}  (X : rb_X p s m args meth c A Z ma_written_b 2 "RoomMaker$Machine" (some .int))  {x1 : Int32} {S : rb_S} (h : ma_written_p_0 K x1 S) : rb_V p l e ma_written_rm s m args below meth c A (MQ below (va_Qi K (rb_B Z A) A) args s ma_written_rm.cells ma_written_rm.slots A) Z 2 0 [(0, .ref (Z.1 5)), (1, .int x1)] [] S 0 0 := by
  unfold ma_written_p_0 at h
  refine rb_iload_n X 1 ma_written_d0 rfl 1 rfl ?_
  refine rb_if_lt X 18 ma_written_d1 (by decide) (fun hc => ?_) (fun hc => ?_)
  · replace h := h.1 hc
    exact ma_written_k_18 X h
  · replace h := h.2 hc
    refine rb_iload_n X 1 ma_written_d4 rfl 1 rfl ?_
    refine rb_bipush X 16 ma_written_d5 (by decide) ?_
    refine rb_icmp_ge X 18 ma_written_d7 (by decide) (fun hc => ?_) (fun hc => ?_)
    · replace h := h.1 hc
      exact ma_written_k_18 X h
    · replace h := h.2 hc
      refine rb_iload_n X 1 ma_written_d10 rfl 1 rfl ?_
      refine rb_aload_n X 0 ma_written_d11 rfl 0 rfl ?_
      refine ma_g83 X ma_written_d12 ?_
      refine rb_icmp_lt X 20 ma_written_d15 (by decide) (fun hc => ?_) (fun hc => ?_)
      · replace h := h.1 hc
        refine rb_aload_n X 0 ma_written_d20 rfl 0 rfl ?_
        refine ma_g30 X ma_written_d21 ?_
        refine rb_aload_n X 0 ma_written_d24 rfl 0 rfl ?_
        refine ma_g83 X ma_written_d25 ?_
        refine rb_iconst X 1 ma_written_d28 (by decide) ?_
        refine rb_isub X ma_written_d29 ?_
        refine rb_iload_n X 1 ma_written_d30 rfl 1 rfl ?_
        refine rb_isub X ma_written_d31 ?_
        refine rb_bipush X 15 ma_written_d32 (by decide) ?_
        refine rb_iand X ma_written_d34 ?_
        obtain ⟨hin, h⟩ := h
        refine rb_iald X 22 (rb_a22 Z) ma_written_d35 hin ?_
        exact rb_iret X ma_written_d36 h
      · replace h := h.2 hc
        exact ma_written_k_18 X h
theorem ma_written_c (l : Launch) (Z : rb_Z) {K : Int32 → rb_S → Prop} {x1 : Int32} {S : rb_S} (h : ma_written_p_0 K x1 S) : rb_Mi l ma_written_y ma_written_b 2 (some .int) ma_written_rm Z [.ref (Z.1 5), .int x1] S K := rb_startI (by decide) (Nat.le_of_ble_eq_true rfl) (fun p e s m args below meth c A X => ma_written_k_0 X h)
end
theorem ma_isAtEnd_d0 : decode ma_isAtEnd_b 0 = .ok (.aload_n 0, 1) := by decide +kernel
theorem ma_isAtEnd_d1 : decode ma_isAtEnd_b 1 = .ok (.getfield 68, 3) := by decide +kernel
theorem ma_isAtEnd_d4 : decode ma_isAtEnd_b 4 = .ok (.aload_n 0, 1) := by decide +kernel
theorem ma_isAtEnd_d5 : decode ma_isAtEnd_b 5 = .ok (.getfield 39, 3) := by decide +kernel
theorem ma_isAtEnd_d8 : decode ma_isAtEnd_b 8 = .ok (.if_icmp .lt 7, 3) := by decide +kernel
theorem ma_isAtEnd_d11 : decode ma_isAtEnd_b 11 = .ok (.iconst 1, 1) := by decide +kernel
theorem ma_isAtEnd_d12 : decode ma_isAtEnd_b 12 = .ok (.goto 4, 3) := by decide +kernel
theorem ma_isAtEnd_d15 : decode ma_isAtEnd_b 15 = .ok (.iconst 0, 1) := by decide +kernel
theorem ma_isAtEnd_d16 : decode ma_isAtEnd_b 16 = .ok (.ireturn, 1) := by decide +kernel
abbrev ma_isAtEnd_rm : Room := { frames := 0, cells := 0, slots := 0, locals := 0 }
theorem ma_isAtEnd_w : rb_cw ma_isAtEnd_y ma_isAtEnd_b 1 (some .boolean) 0 := ⟨rw_249, rw_6, ⟨by decide, by decide⟩, by decide +kernel⟩
section
variable {p : Program} {l : Launch} {e : Env} {s : State} {m : MethodId} {args : Array Value} {below : List Frame} {meth : Method} {c : Code} {A : Nat → Prop} {Z : rb_Z}
def ma_isAtEnd_p_16 (K : Int32 → rb_S → Prop) (y0 : Int32) (S : rb_S) : Prop := narrow .boolean (.int y0) = .int y0 ∧ K y0 S
theorem ma_isAtEnd_k_16 {K : Int32 → rb_S → Prop}  (X : rb_X p s m args meth c A Z ma_isAtEnd_b 1 "RoomMaker$Machine" (some .boolean))  {y0 : Int32} {S : rb_S} (h : ma_isAtEnd_p_16 K y0 S) : rb_V p l e ma_isAtEnd_rm s m args below meth c A (MQ below (va_Qi K (rb_B Z A) A) args s ma_isAtEnd_rm.cells ma_isAtEnd_rm.slots A) Z 1 16 [(0, .ref (Z.1 5))] [.int y0] S 0 0 := by
  unfold ma_isAtEnd_p_16 at h
  obtain ⟨hn, h⟩ := h
  exact rb_zret X ma_isAtEnd_d16 hn h
def ma_isAtEnd_p_0 (K : Int32 → rb_S → Prop)  (S : rb_S) : Prop := ((S 0 8) < (S 0 7) → ma_isAtEnd_p_16 K 0 S) ∧ (¬ (S 0 8) < (S 0 7) → ma_isAtEnd_p_16 K 1 S)
theorem ma_isAtEnd_k_0 {K : Int32 → rb_S → Prop}  (X : rb_X p s m args meth c A Z ma_isAtEnd_b 1 "RoomMaker$Machine" (some .boolean))   {S : rb_S} (h : ma_isAtEnd_p_0 K S) : rb_V p l e ma_isAtEnd_rm s m args below meth c A (MQ below (va_Qi K (rb_B Z A) A) args s ma_isAtEnd_rm.cells ma_isAtEnd_rm.slots A) Z 1 0 [(0, .ref (Z.1 5))] [] S 0 0 := by
  unfold ma_isAtEnd_p_0 at h
  refine rb_aload_n X 0 ma_isAtEnd_d0 rfl 0 rfl ?_
  refine ma_g68 X ma_isAtEnd_d1 ?_
  refine rb_aload_n X 0 ma_isAtEnd_d4 rfl 0 rfl ?_
  refine ma_g39 X ma_isAtEnd_d5 ?_
  refine rb_icmp_lt X 15 ma_isAtEnd_d8 (by decide) (fun hc => ?_) (fun hc => ?_)
  · replace h := h.1 hc
    refine rb_iconst X 0 ma_isAtEnd_d15 (by decide) ?_
    exact ma_isAtEnd_k_16 X h
  · replace h := h.2 hc
    refine rb_iconst X 1 ma_isAtEnd_d11 (by decide) ?_
    refine rb_goto X 16 ma_isAtEnd_d12 (by decide) ?_
    exact ma_isAtEnd_k_16 X h
theorem ma_isAtEnd_c (l : Launch) (Z : rb_Z) {K : Int32 → rb_S → Prop}  {S : rb_S} (h : ma_isAtEnd_p_0 K S) : rb_Mi l ma_isAtEnd_y ma_isAtEnd_b 1 (some .boolean) ma_isAtEnd_rm Z [.ref (Z.1 5)] S K := rb_startI (by decide) (Nat.le_of_ble_eq_true rfl) (fun p e s m args below meth c A X => ma_isAtEnd_k_0 X h)
end
theorem ma_tally_d0 : decode ma_tally_b 0 = .ok (.iload_n 1, 1) := by decide +kernel
theorem ma_tally_d1 : decode ma_tally_b 1 = .ok (.tableswitch 86 1 7 #[43, 48, 53, 58, 63, 68, 73], 43) := by decide +kernel
theorem ma_tally_d44 : decode ma_tally_b 44 = .ok (.aload_n 0, 1) := by decide +kernel
theorem ma_tally_d45 : decode ma_tally_b 45 = .ok (.getfield 68, 3) := by decide +kernel
theorem ma_tally_d48 : decode ma_tally_b 48 = .ok (.ireturn, 1) := by decide +kernel
theorem ma_tally_d49 : decode ma_tally_b 49 = .ok (.aload_n 0, 1) := by decide +kernel
theorem ma_tally_d50 : decode ma_tally_b 50 = .ok (.getfield 71, 3) := by decide +kernel
theorem ma_tally_d53 : decode ma_tally_b 53 = .ok (.ireturn, 1) := by decide +kernel
theorem ma_tally_d54 : decode ma_tally_b 54 = .ok (.aload_n 0, 1) := by decide +kernel
theorem ma_tally_d55 : decode ma_tally_b 55 = .ok (.getfield 74, 3) := by decide +kernel
theorem ma_tally_d58 : decode ma_tally_b 58 = .ok (.ireturn, 1) := by decide +kernel
theorem ma_tally_d59 : decode ma_tally_b 59 = .ok (.aload_n 0, 1) := by decide +kernel
theorem ma_tally_d60 : decode ma_tally_b 60 = .ok (.getfield 77, 3) := by decide +kernel
theorem ma_tally_d63 : decode ma_tally_b 63 = .ok (.ireturn, 1) := by decide +kernel
theorem ma_tally_d64 : decode ma_tally_b 64 = .ok (.aload_n 0, 1) := by decide +kernel
theorem ma_tally_d65 : decode ma_tally_b 65 = .ok (.getfield 80, 3) := by decide +kernel
theorem ma_tally_d68 : decode ma_tally_b 68 = .ok (.ireturn, 1) := by decide +kernel
theorem ma_tally_d69 : decode ma_tally_b 69 = .ok (.aload_n 0, 1) := by decide +kernel
theorem ma_tally_d70 : decode ma_tally_b 70 = .ok (.getfield 83, 3) := by decide +kernel
theorem ma_tally_d73 : decode ma_tally_b 73 = .ok (.ireturn, 1) := by decide +kernel
theorem ma_tally_d74 : decode ma_tally_b 74 = .ok (.aload_n 0, 1) := by decide +kernel
theorem ma_tally_d75 : decode ma_tally_b 75 = .ok (.invokevirtual 86, 3) := by decide +kernel
theorem ma_tally_d78 : decode ma_tally_b 78 = .ok (.ifCond .eq 7, 3) := by decide +kernel
theorem ma_tally_d81 : decode ma_tally_b 81 = .ok (.iconst 1, 1) := by decide +kernel
theorem ma_tally_d82 : decode ma_tally_b 82 = .ok (.goto 4, 3) := by decide +kernel
theorem ma_tally_d85 : decode ma_tally_b 85 = .ok (.iconst 0, 1) := by decide +kernel
theorem ma_tally_d86 : decode ma_tally_b 86 = .ok (.ireturn, 1) := by decide +kernel
theorem ma_tally_d87 : decode ma_tally_b 87 = .ok (.iconst (-1), 1) := by decide +kernel
theorem ma_tally_d88 : decode ma_tally_b 88 = .ok (.ireturn, 1) := by decide +kernel
abbrev ma_tally_rm : Room := { frames := 1, cells := 0, slots := 0, locals := 20 }
theorem ma_tally_w : rb_cw ma_tally_y ma_tally_b 2 (some .int) 1 := ⟨rw_245, rw_6, ⟨by decide, by decide⟩, by decide +kernel⟩
section
variable {p : Program} {l : Launch} {e : Env} {s : State} {m : MethodId} {args : Array Value} {below : List Frame} {meth : Method} {c : Code} {A : Nat → Prop} {Z : rb_Z}
def ma_tally_p_86 (K : Int32 → rb_S → Prop) (x1 : Int32) (y0 : Int32) (S : rb_S) : Prop := K y0 S
theorem ma_tally_k_86 {K : Int32 → rb_S → Prop}  (X : rb_X p s m args meth c A Z ma_tally_b 2 "RoomMaker$Machine" (some .int))  {x1 : Int32} {y0 : Int32} {S : rb_S} (h : ma_tally_p_86 K x1 y0 S) : rb_V p l e ma_tally_rm s m args below meth c A (MQ below (va_Qi K (rb_B Z A) A) args s ma_tally_rm.cells ma_tally_rm.slots A) Z 2 86 [(0, .ref (Z.1 5)), (1, .int x1)] [.int y0] S 0 0 := by
  unfold ma_tally_p_86 at h
  exact rb_iret X ma_tally_d86 h
def ma_tally_p_0 (K : Int32 → rb_S → Prop) (x1 : Int32) (S : rb_S) : Prop := (x1 = 1 → K (S 0 8) S) ∧ (x1 = 2 → K (S 0 9) S) ∧ (x1 = 3 → K (S 0 10) S) ∧ (x1 = 4 → K (S 0 11) S) ∧ (x1 = 5 → K (S 0 12) S) ∧ (x1 = 6 → K (S 0 13) S) ∧ (x1 = 7 → ma_isAtEnd_p_0 (fun r75 S75 => (r75 = 0 → ma_tally_p_86 K x1 0 S75) ∧ (¬ r75 = 0 → ma_tally_p_86 K x1 1 S75)) S) ∧ (x1.toInt < 1 ∨ 7 < x1.toInt → K (-1) S)
theorem ma_tally_k_0 {K : Int32 → rb_S → Prop}  (X : rb_X p s m args meth c A Z ma_tally_b 2 "RoomMaker$Machine" (some .int))  {x1 : Int32} {S : rb_S} (h : ma_tally_p_0 K x1 S) : rb_V p l e ma_tally_rm s m args below meth c A (MQ below (va_Qi K (rb_B Z A) A) args s ma_tally_rm.cells ma_tally_rm.slots A) Z 2 0 [(0, .ref (Z.1 5)), (1, .int x1)] [] S 0 0 := by
  unfold ma_tally_p_0 at h
  refine rb_iload_n X 1 ma_tally_d0 rfl 1 rfl ?_
  by_cases hc : x1 = 1
  · refine rb_tabIn X 44 ma_tally_d1 (by rw [hc]; decide) (by rw [hc]; decide) (by rw [hc]; rfl) (by decide) ?_
    replace h := h.1 hc
    refine rb_aload_n X 0 ma_tally_d44 rfl 0 rfl ?_
    refine ma_g68 X ma_tally_d45 ?_
    exact rb_iret X ma_tally_d48 h
  replace h := h.2
  have hc0 := lv_neT (k := 1) (a := 1) hc (by decide)
  clear hc
  by_cases hc : x1 = 2
  · refine rb_tabIn X 49 ma_tally_d1 (by rw [hc]; decide) (by rw [hc]; decide) (by rw [hc]; rfl) (by decide) ?_
    replace h := h.1 hc
    refine rb_aload_n X 0 ma_tally_d49 rfl 0 rfl ?_
    refine ma_g71 X ma_tally_d50 ?_
    exact rb_iret X ma_tally_d53 h
  replace h := h.2
  have hc1 := lv_neT (k := 2) (a := 2) hc (by decide)
  clear hc
  by_cases hc : x1 = 3
  · refine rb_tabIn X 54 ma_tally_d1 (by rw [hc]; decide) (by rw [hc]; decide) (by rw [hc]; rfl) (by decide) ?_
    replace h := h.1 hc
    refine rb_aload_n X 0 ma_tally_d54 rfl 0 rfl ?_
    refine ma_g74 X ma_tally_d55 ?_
    exact rb_iret X ma_tally_d58 h
  replace h := h.2
  have hc2 := lv_neT (k := 3) (a := 3) hc (by decide)
  clear hc
  by_cases hc : x1 = 4
  · refine rb_tabIn X 59 ma_tally_d1 (by rw [hc]; decide) (by rw [hc]; decide) (by rw [hc]; rfl) (by decide) ?_
    replace h := h.1 hc
    refine rb_aload_n X 0 ma_tally_d59 rfl 0 rfl ?_
    refine ma_g77 X ma_tally_d60 ?_
    exact rb_iret X ma_tally_d63 h
  replace h := h.2
  have hc3 := lv_neT (k := 4) (a := 4) hc (by decide)
  clear hc
  by_cases hc : x1 = 5
  · refine rb_tabIn X 64 ma_tally_d1 (by rw [hc]; decide) (by rw [hc]; decide) (by rw [hc]; rfl) (by decide) ?_
    replace h := h.1 hc
    refine rb_aload_n X 0 ma_tally_d64 rfl 0 rfl ?_
    refine ma_g80 X ma_tally_d65 ?_
    exact rb_iret X ma_tally_d68 h
  replace h := h.2
  have hc4 := lv_neT (k := 5) (a := 5) hc (by decide)
  clear hc
  by_cases hc : x1 = 6
  · refine rb_tabIn X 69 ma_tally_d1 (by rw [hc]; decide) (by rw [hc]; decide) (by rw [hc]; rfl) (by decide) ?_
    replace h := h.1 hc
    refine rb_aload_n X 0 ma_tally_d69 rfl 0 rfl ?_
    refine ma_g83 X ma_tally_d70 ?_
    exact rb_iret X ma_tally_d73 h
  replace h := h.2
  have hc5 := lv_neT (k := 6) (a := 6) hc (by decide)
  clear hc
  by_cases hc : x1 = 7
  · refine rb_tabIn X 74 ma_tally_d1 (by rw [hc]; decide) (by rw [hc]; decide) (by rw [hc]; rfl) (by decide) ?_
    replace h := h.1 hc
    refine rb_aload_n X 0 ma_tally_d74 rfl 0 rfl ?_
    refine rb_callVi (As := []) (rest := []) X (ma_isAtEnd_c l Z h) ma_isAtEnd_w ⟨by decide, by decide⟩ rw_246 rw_248 rs_7 (q0 := 5) rfl rfl rfl rfl (Nat.le_of_ble_eq_true rfl) ma_tally_d75 ⟨by decide, by decide⟩ (fun r75 S75 h => ?_)
    refine rb_if_eq X 85 ma_tally_d78 (by decide) (fun hc => ?_) (fun hc => ?_)
    · replace h := h.1 hc
      refine rb_iconst X 0 ma_tally_d85 (by decide) ?_
      exact ma_tally_k_86 X h
    · replace h := h.2 hc
      refine rb_iconst X 1 ma_tally_d81 (by decide) ?_
      refine rb_goto X 86 ma_tally_d82 (by decide) ?_
      exact ma_tally_k_86 X h
  replace h := h.2
  have hc6 := lv_neT (k := 7) (a := 7) hc (by decide)
  clear hc
  have hc : x1.toInt < 1 ∨ 7 < x1.toInt := by omega
  refine rb_tabOut X 87 ma_tally_d1 hc (by decide) ?_
  replace h := h hc
  refine rb_iconst X (-1) ma_tally_d87 (by decide) ?_
  exact rb_iret X ma_tally_d88 h
theorem ma_tally_c (l : Launch) (Z : rb_Z) {K : Int32 → rb_S → Prop} {x1 : Int32} {S : rb_S} (h : ma_tally_p_0 K x1 S) : rb_Mi l ma_tally_y ma_tally_b 2 (some .int) ma_tally_rm Z [.ref (Z.1 5), .int x1] S K := rb_startI (by decide) (Nat.le_of_ble_eq_true rfl) (fun p e s m args below meth c A X => ma_tally_k_0 X h)
end
theorem ma_operand_d0 : decode ma_operand_b 0 = .ok (.iload_n 0, 1) := by decide +kernel
theorem ma_operand_d1 : decode ma_operand_b 1 = .ok (.iconst 2, 1) := by decide +kernel
theorem ma_operand_d2 : decode ma_operand_b 2 = .ok (.if_icmp .eq 8, 3) := by decide +kernel
theorem ma_operand_d5 : decode ma_operand_b 5 = .ok (.iload_n 0, 1) := by decide +kernel
theorem ma_operand_d6 : decode ma_operand_b 6 = .ok (.iconst 3, 1) := by decide +kernel
theorem ma_operand_d7 : decode ma_operand_b 7 = .ok (.if_icmp .ne 12, 3) := by decide +kernel
theorem ma_operand_d10 : decode ma_operand_b 10 = .ok (.aload_n 2, 1) := by decide +kernel
theorem ma_operand_d11 : decode ma_operand_b 11 = .ok (.getfield 57, 3) := by decide +kernel
theorem ma_operand_d14 : decode ma_operand_b 14 = .ok (.iload_n 1, 1) := by decide +kernel
theorem ma_operand_d15 : decode ma_operand_b 15 = .ok (.iaload, 1) := by decide +kernel
theorem ma_operand_d16 : decode ma_operand_b 16 = .ok (.goto 4, 3) := by decide +kernel
theorem ma_operand_d19 : decode ma_operand_b 19 = .ok (.iload_n 1, 1) := by decide +kernel
theorem ma_operand_d20 : decode ma_operand_b 20 = .ok (.ireturn, 1) := by decide +kernel
abbrev ma_operand_rm : Room := { frames := 0, cells := 0, slots := 0, locals := 0 }
theorem ma_operand_w : rb_cw ma_operand_y ma_operand_b 3 (some .int) 3 := ⟨rw_451, rw_6, ⟨by decide, by decide⟩, by decide +kernel⟩
section
variable {p : Program} {l : Launch} {e : Env} {s : State} {m : MethodId} {args : Array Value} {below : List Frame} {meth : Method} {c : Code} {A : Nat → Prop} {Z : rb_Z}
def ma_operand_p_20 (K : Int32 → rb_S → Prop) (x0 : Int32) (x1 : Int32) (y0 : Int32) (S : rb_S) : Prop := K y0 S
theorem ma_operand_k_20 {K : Int32 → rb_S → Prop}  (X : rb_X p s m args meth c A Z ma_operand_b 3 "RoomMaker$Machine" (some .int))  {x0 : Int32} {x1 : Int32} {y0 : Int32} {S : rb_S} (h : ma_operand_p_20 K x0 x1 y0 S) : rb_V p l e ma_operand_rm s m args below meth c A (MQ below (va_Qi K (rb_B Z A) A) args s ma_operand_rm.cells ma_operand_rm.slots A) Z 3 20 [(0, .int x0), (1, .int x1), (2, .ref (Z.1 4))] [.int y0] S 0 0 := by
  unfold ma_operand_p_20 at h
  exact rb_iret X ma_operand_d20 h
def ma_operand_p_10 (K : Int32 → rb_S → Prop) (x0 : Int32) (x1 : Int32) (S : rb_S) : Prop := vp_in x1 16 ∧ (ma_operand_p_20 K x0 x1 (S 14 x1.toNatClampNeg) S)
theorem ma_operand_k_10 {K : Int32 → rb_S → Prop}  (X : rb_X p s m args meth c A Z ma_operand_b 3 "RoomMaker$Machine" (some .int))  {x0 : Int32} {x1 : Int32} {S : rb_S} (h : ma_operand_p_10 K x0 x1 S) : rb_V p l e ma_operand_rm s m args below meth c A (MQ below (va_Qi K (rb_B Z A) A) args s ma_operand_rm.cells ma_operand_rm.slots A) Z 3 10 [(0, .int x0), (1, .int x1), (2, .ref (Z.1 4))] [] S 0 0 := by
  unfold ma_operand_p_10 at h
  refine rb_aload_n X 2 ma_operand_d10 rfl 2 rfl ?_
  refine ma_g57 X ma_operand_d11 ?_
  refine rb_iload_n X 1 ma_operand_d14 rfl 1 rfl ?_
  obtain ⟨hin, h⟩ := h
  refine rb_iald X 14 (rb_a14 Z) ma_operand_d15 hin ?_
  refine rb_goto X 20 ma_operand_d16 (by decide) ?_
  exact ma_operand_k_20 X h
def ma_operand_p_0 (K : Int32 → rb_S → Prop) (x0 : Int32) (x1 : Int32) (S : rb_S) : Prop := (x0 = 2 → ma_operand_p_10 K x0 x1 S) ∧ (¬ x0 = 2 → (¬ x0 = 3 → ma_operand_p_20 K x0 x1 x1 S) ∧ (x0 = 3 → ma_operand_p_10 K x0 x1 S))
theorem ma_operand_k_0 {K : Int32 → rb_S → Prop}  (X : rb_X p s m args meth c A Z ma_operand_b 3 "RoomMaker$Machine" (some .int))  {x0 : Int32} {x1 : Int32} {S : rb_S} (h : ma_operand_p_0 K x0 x1 S) : rb_V p l e ma_operand_rm s m args below meth c A (MQ below (va_Qi K (rb_B Z A) A) args s ma_operand_rm.cells ma_operand_rm.slots A) Z 3 0 [(0, .int x0), (1, .int x1), (2, .ref (Z.1 4))] [] S 0 0 := by
  unfold ma_operand_p_0 at h
  refine rb_iload_n X 0 ma_operand_d0 rfl 0 rfl ?_
  refine rb_iconst X 2 ma_operand_d1 (by decide) ?_
  refine rb_icmp_eq X 10 ma_operand_d2 (by decide) (fun hc => ?_) (fun hc => ?_)
  · replace h := h.1 hc
    exact ma_operand_k_10 X h
  · replace h := h.2 hc
    refine rb_iload_n X 0 ma_operand_d5 rfl 0 rfl ?_
    refine rb_iconst X 3 ma_operand_d6 (by decide) ?_
    refine rb_icmp_ne X 19 ma_operand_d7 (by decide) (fun hc => ?_) (fun hc => ?_)
    · replace h := h.1 hc
      refine rb_iload_n X 1 ma_operand_d19 rfl 1 rfl ?_
      exact ma_operand_k_20 X h
    · replace h := h.2 hc
      exact ma_operand_k_10 X h
theorem ma_operand_c (l : Launch) (Z : rb_Z) {K : Int32 → rb_S → Prop} {x0 : Int32} {x1 : Int32} {S : rb_S} (h : ma_operand_p_0 K x0 x1 S) : rb_Mi l ma_operand_y ma_operand_b 3 (some .int) ma_operand_rm Z [.int x0, .int x1, .ref (Z.1 4)] S K := rb_startI (by decide) (Nat.le_of_ble_eq_true rfl) (fun p e s m args below meth c A X => ma_operand_k_0 X h)
end
theorem ma_take_d0 : decode ma_take_b 0 = .ok (.aload_n 0, 1) := by decide +kernel
theorem ma_take_d1 : decode ma_take_b 1 = .ok (.aload_n 1, 1) := by decide +kernel
theorem ma_take_d2 : decode ma_take_b 2 = .ok (.getfield 33, 3) := by decide +kernel
theorem ma_take_d5 : decode ma_take_b 5 = .ok (.putfield 39, 3) := by decide +kernel
theorem ma_take_d8 : decode ma_take_b 8 = .ok (.iconst 0, 1) := by decide +kernel
theorem ma_take_d9 : decode ma_take_b 9 = .ok (.istore_n 3, 1) := by decide +kernel
theorem ma_take_d10 : decode ma_take_b 10 = .ok (.iload_n 3, 1) := by decide +kernel
theorem ma_take_d11 : decode ma_take_b 11 = .ok (.aload_n 0, 1) := by decide +kernel
theorem ma_take_d12 : decode ma_take_b 12 = .ok (.getfield 39, 3) := by decide +kernel
theorem ma_take_d15 : decode ma_take_b 15 = .ok (.if_icmp .ge 140, 3) := by decide +kernel
theorem ma_take_d18 : decode ma_take_b 18 = .ok (.aload_n 1, 1) := by decide +kernel
theorem ma_take_d19 : decode ma_take_b 19 = .ok (.getfield 40, 3) := by decide +kernel
theorem ma_take_d22 : decode ma_take_b 22 = .ok (.iload_n 3, 1) := by decide +kernel
theorem ma_take_d23 : decode ma_take_b 23 = .ok (.iaload, 1) := by decide +kernel
theorem ma_take_d24 : decode ma_take_b 24 = .ok (.istore 4, 2) := by decide +kernel
theorem ma_take_d26 : decode ma_take_b 26 = .ok (.aload_n 0, 1) := by decide +kernel
theorem ma_take_d27 : decode ma_take_b 27 = .ok (.getfield 15, 3) := by decide +kernel
theorem ma_take_d30 : decode ma_take_b 30 = .ok (.iload_n 3, 1) := by decide +kernel
theorem ma_take_d31 : decode ma_take_b 31 = .ok (.getstatic 41, 3) := by decide +kernel
theorem ma_take_d34 : decode ma_take_b 34 = .ok (.iload 4, 2) := by decide +kernel
theorem ma_take_d36 : decode ma_take_b 36 = .ok (.iaload, 1) := by decide +kernel
theorem ma_take_d37 : decode ma_take_b 37 = .ok (.aload_n 1, 1) := by decide +kernel
theorem ma_take_d38 : decode ma_take_b 38 = .ok (.getfield 44, 3) := by decide +kernel
theorem ma_take_d41 : decode ma_take_b 41 = .ok (.iload_n 3, 1) := by decide +kernel
theorem ma_take_d42 : decode ma_take_b 42 = .ok (.iaload, 1) := by decide +kernel
theorem ma_take_d43 : decode ma_take_b 43 = .ok (.aload_n 2, 1) := by decide +kernel
theorem ma_take_d44 : decode ma_take_b 44 = .ok (.invokestatic 45, 3) := by decide +kernel
theorem ma_take_d47 : decode ma_take_b 47 = .ok (.iastore, 1) := by decide +kernel
theorem ma_take_d48 : decode ma_take_b 48 = .ok (.aload_n 0, 1) := by decide +kernel
theorem ma_take_d49 : decode ma_take_b 49 = .ok (.getfield 18, 3) := by decide +kernel
theorem ma_take_d52 : decode ma_take_b 52 = .ok (.iload_n 3, 1) := by decide +kernel
theorem ma_take_d53 : decode ma_take_b 53 = .ok (.getstatic 49, 3) := by decide +kernel
theorem ma_take_d56 : decode ma_take_b 56 = .ok (.iload 4, 2) := by decide +kernel
theorem ma_take_d58 : decode ma_take_b 58 = .ok (.iaload, 1) := by decide +kernel
theorem ma_take_d59 : decode ma_take_b 59 = .ok (.aload_n 1, 1) := by decide +kernel
theorem ma_take_d60 : decode ma_take_b 60 = .ok (.getfield 52, 3) := by decide +kernel
theorem ma_take_d63 : decode ma_take_b 63 = .ok (.iload_n 3, 1) := by decide +kernel
theorem ma_take_d64 : decode ma_take_b 64 = .ok (.iaload, 1) := by decide +kernel
theorem ma_take_d65 : decode ma_take_b 65 = .ok (.aload_n 2, 1) := by decide +kernel
theorem ma_take_d66 : decode ma_take_b 66 = .ok (.invokestatic 45, 3) := by decide +kernel
theorem ma_take_d69 : decode ma_take_b 69 = .ok (.iastore, 1) := by decide +kernel
theorem ma_take_d70 : decode ma_take_b 70 = .ok (.aload_n 0, 1) := by decide +kernel
theorem ma_take_d71 : decode ma_take_b 71 = .ok (.getfield 21, 3) := by decide +kernel
theorem ma_take_d74 : decode ma_take_b 74 = .ok (.iload_n 3, 1) := by decide +kernel
theorem ma_take_d75 : decode ma_take_b 75 = .ok (.getstatic 53, 3) := by decide +kernel
theorem ma_take_d78 : decode ma_take_b 78 = .ok (.iload 4, 2) := by decide +kernel
theorem ma_take_d80 : decode ma_take_b 80 = .ok (.iaload, 1) := by decide +kernel
theorem ma_take_d81 : decode ma_take_b 81 = .ok (.aload_n 1, 1) := by decide +kernel
theorem ma_take_d82 : decode ma_take_b 82 = .ok (.getfield 56, 3) := by decide +kernel
theorem ma_take_d85 : decode ma_take_b 85 = .ok (.iload_n 3, 1) := by decide +kernel
theorem ma_take_d86 : decode ma_take_b 86 = .ok (.iaload, 1) := by decide +kernel
theorem ma_take_d87 : decode ma_take_b 87 = .ok (.aload_n 2, 1) := by decide +kernel
theorem ma_take_d88 : decode ma_take_b 88 = .ok (.invokestatic 45, 3) := by decide +kernel
theorem ma_take_d91 : decode ma_take_b 91 = .ok (.iastore, 1) := by decide +kernel
theorem ma_take_d92 : decode ma_take_b 92 = .ok (.iload 4, 2) := by decide +kernel
theorem ma_take_d94 : decode ma_take_b 94 = .ok (.iconst 4, 1) := by decide +kernel
theorem ma_take_d95 : decode ma_take_b 95 = .ok (.if_icmp .ne 33, 3) := by decide +kernel
theorem ma_take_d98 : decode ma_take_b 98 = .ok (.aload_n 0, 1) := by decide +kernel
theorem ma_take_d99 : decode ma_take_b 99 = .ok (.getfield 15, 3) := by decide +kernel
theorem ma_take_d102 : decode ma_take_b 102 = .ok (.iload_n 3, 1) := by decide +kernel
theorem ma_take_d103 : decode ma_take_b 103 = .ok (.iaload, 1) := by decide +kernel
theorem ma_take_d104 : decode ma_take_b 104 = .ok (.aload_n 0, 1) := by decide +kernel
theorem ma_take_d105 : decode ma_take_b 105 = .ok (.getfield 18, 3) := by decide +kernel
theorem ma_take_d108 : decode ma_take_b 108 = .ok (.iload_n 3, 1) := by decide +kernel
theorem ma_take_d109 : decode ma_take_b 109 = .ok (.iaload, 1) := by decide +kernel
theorem ma_take_d110 : decode ma_take_b 110 = .ok (.if_icmp .ne 18, 3) := by decide +kernel
theorem ma_take_d113 : decode ma_take_b 113 = .ok (.aload_n 0, 1) := by decide +kernel
theorem ma_take_d114 : decode ma_take_b 114 = .ok (.getfield 15, 3) := by decide +kernel
theorem ma_take_d117 : decode ma_take_b 117 = .ok (.iload_n 3, 1) := by decide +kernel
theorem ma_take_d118 : decode ma_take_b 118 = .ok (.iaload, 1) := by decide +kernel
theorem ma_take_d119 : decode ma_take_b 119 = .ok (.bipush 16, 2) := by decide +kernel
theorem ma_take_d121 : decode ma_take_b 121 = .ok (.if_icmp .ge 7, 3) := by decide +kernel
theorem ma_take_d124 : decode ma_take_b 124 = .ok (.iconst 1, 1) := by decide +kernel
theorem ma_take_d125 : decode ma_take_b 125 = .ok (.goto 4, 3) := by decide +kernel
theorem ma_take_d128 : decode ma_take_b 128 = .ok (.iconst 0, 1) := by decide +kernel
theorem ma_take_d129 : decode ma_take_b 129 = .ok (.istore 5, 2) := by decide +kernel
theorem ma_take_d131 : decode ma_take_b 131 = .ok (.aload_n 0, 1) := by decide +kernel
theorem ma_take_d132 : decode ma_take_b 132 = .ok (.getfield 9, 3) := by decide +kernel
theorem ma_take_d135 : decode ma_take_b 135 = .ok (.iload_n 3, 1) := by decide +kernel
theorem ma_take_d136 : decode ma_take_b 136 = .ok (.iload 5, 2) := by decide +kernel
theorem ma_take_d138 : decode ma_take_b 138 = .ok (.ifCond .eq 8, 3) := by decide +kernel
theorem ma_take_d141 : decode ma_take_b 141 = .ok (.bipush 12, 2) := by decide +kernel
theorem ma_take_d143 : decode ma_take_b 143 = .ok (.goto 5, 3) := by decide +kernel
theorem ma_take_d146 : decode ma_take_b 146 = .ok (.iload 4, 2) := by decide +kernel
theorem ma_take_d148 : decode ma_take_b 148 = .ok (.iastore, 1) := by decide +kernel
theorem ma_take_d149 : decode ma_take_b 149 = .ok (.iinc 3 1, 3) := by decide +kernel
theorem ma_take_d152 : decode ma_take_b 152 = .ok (.goto (-142), 3) := by decide +kernel
theorem ma_take_d155 : decode ma_take_b 155 = .ok (.return_, 1) := by decide +kernel
abbrev ma_take_rm : Room := { frames := 1, cells := 0, slots := 0, locals := 22 }
theorem ma_take_w : rb_cw ma_take_y ma_take_b 6 none 2 := ⟨rw_447, rw_6, ⟨by decide, by decide⟩, by decide +kernel⟩
section
variable {p : Program} {l : Launch} {e : Env} {s : State} {m : MethodId} {args : Array Value} {below : List Frame} {meth : Method} {c : Code} {A : Nat → Prop} {Z : rb_Z}
def ma_take_p_155 (K : rb_S → Prop) (x3 : Int32) (S : rb_S) : Prop := K S
theorem ma_take_k_155 {K : rb_S → Prop}  (X : rb_X p s m args meth c A Z ma_take_b 6 "RoomMaker$Machine" none)  {x3 : Int32} {S : rb_S} (h : ma_take_p_155 K x3 S) : rb_V p l e ma_take_rm s m args below meth c A (MQ below (va_Qv K (rb_B Z A) A) args s ma_take_rm.cells ma_take_rm.slots A) Z 6 155 [(0, .ref (Z.1 5)), (1, .ref (Z.1 1)), (2, .ref (Z.1 4)), (3, .int x3)] [] S 0 0 := by
  unfold ma_take_p_155 at h
  exact rb_vret X ma_take_d155 h
def ma_take_p_148 (K : rb_S → Prop) (B10 : Int32 → rb_S → Prop) (x3 : Int32) (x4 : Int32) (x5 : Int32) (y0 : Int32) (y1 : Int32) (S : rb_S) : Prop := vp_in y1 64 ∧ ∀ S148 : rb_S, S148 = rb_u S 16 y1.toNatClampNeg y0 → (∀ v149 : Int32, v149 = x3 + 1 → (B10 v149 S148))
theorem ma_take_k_148 {K : rb_S → Prop} {B10 : Int32 → rb_S → Prop} (X : rb_X p s m args meth c A Z ma_take_b 6 "RoomMaker$Machine" none) (hB10 : ∀ (x3 : Int32) (S : rb_S), B10 x3 S → rb_V p l e ma_take_rm s m args below meth c A (MQ below (va_Qv K (rb_B Z A) A) args s ma_take_rm.cells ma_take_rm.slots A) Z 6 10 [(0, .ref (Z.1 5)), (1, .ref (Z.1 1)), (2, .ref (Z.1 4)), (3, .int x3)] [] S 0 0) {x3 : Int32} {x4 : Int32} {x5 : Int32} {y0 : Int32} {y1 : Int32} {S : rb_S} (h : ma_take_p_148 K B10 x3 x4 x5 y0 y1 S) : rb_V p l e ma_take_rm s m args below meth c A (MQ below (va_Qv K (rb_B Z A) A) args s ma_take_rm.cells ma_take_rm.slots A) Z 6 148 [(0, .ref (Z.1 5)), (1, .ref (Z.1 1)), (2, .ref (Z.1 4)), (3, .int x3), (4, .int x4), (5, .int x5)] [.int y0, .int y1, .ref (Z.1 16)] S 0 0 := by
  unfold ma_take_p_148 at h
  obtain ⟨hin, h⟩ := h
  refine rb_iast X 16 (rb_a16 Z) ma_take_d148 hin (fun S148 e148 => ?_)
  replace h := h S148 e148
  refine rb_iinc X 1 3 [1, 2, 3, 0, 4, 5] (fun v149 => [(0, .ref (Z.1 5)), (1, .ref (Z.1 1)), (2, .ref (Z.1 4)), (3, .int v149), (4, .int x4), (5, .int x5)]) ma_take_d149 3 rfl (by decide) (by decide) (fun _ => rfl) (fun v149 e149 => ?_)
  replace h := h v149 e149
  refine rb_goto X 10 ma_take_d152 (by decide) ?_
  refine rb_cut [0, 1, 2, 3] (L' := [(0, .ref (Z.1 5)), (1, .ref (Z.1 1)), (2, .ref (Z.1 4)), (3, .int v149)]) rfl ?_
  exact hB10 _ _ h
def ma_take_p_129 (K : rb_S → Prop) (B10 : Int32 → rb_S → Prop) (x3 : Int32) (x4 : Int32) (y0 : Int32) (S : rb_S) : Prop := (y0 = 0 → ma_take_p_148 K B10 x3 x4 y0 x4 x3 S) ∧ (¬ y0 = 0 → ma_take_p_148 K B10 x3 x4 y0 12 x3 S)
theorem ma_take_k_129 {K : rb_S → Prop} {B10 : Int32 → rb_S → Prop} (X : rb_X p s m args meth c A Z ma_take_b 6 "RoomMaker$Machine" none) (hB10 : ∀ (x3 : Int32) (S : rb_S), B10 x3 S → rb_V p l e ma_take_rm s m args below meth c A (MQ below (va_Qv K (rb_B Z A) A) args s ma_take_rm.cells ma_take_rm.slots A) Z 6 10 [(0, .ref (Z.1 5)), (1, .ref (Z.1 1)), (2, .ref (Z.1 4)), (3, .int x3)] [] S 0 0) {x3 : Int32} {x4 : Int32} {y0 : Int32} {S : rb_S} (h : ma_take_p_129 K B10 x3 x4 y0 S) : rb_V p l e ma_take_rm s m args below meth c A (MQ below (va_Qv K (rb_B Z A) A) args s ma_take_rm.cells ma_take_rm.slots A) Z 6 129 [(0, .ref (Z.1 5)), (1, .ref (Z.1 1)), (2, .ref (Z.1 4)), (3, .int x3), (4, .int x4)] [.int y0] S 0 0 := by
  unfold ma_take_p_129 at h
  refine rb_istore X 5 [1, 2, 3, 4, 5, 0] (L' := [(0, .ref (Z.1 5)), (1, .ref (Z.1 1)), (2, .ref (Z.1 4)), (3, .int x3), (4, .int x4), (5, .int y0)]) ma_take_d129 (by decide) rfl ?_
  refine rb_aload_n X 0 ma_take_d131 rfl 0 rfl ?_
  refine ma_g9 X ma_take_d132 ?_
  refine rb_iload_n X 3 ma_take_d135 rfl 3 rfl ?_
  refine rb_iload X 5 ma_take_d136 5 rfl ?_
  refine rb_if_eq X 146 ma_take_d138 (by decide) (fun hc => ?_) (fun hc => ?_)
  · replace h := h.1 hc
    refine rb_iload X 4 ma_take_d146 4 rfl ?_
    exact ma_take_k_148 X hB10 h
  · replace h := h.2 hc
    refine rb_bipush X 12 ma_take_d141 (by decide) ?_
    refine rb_goto X 148 ma_take_d143 (by decide) ?_
    exact ma_take_k_148 X hB10 h
def ma_take_p_128 (K : rb_S → Prop) (B10 : Int32 → rb_S → Prop) (x3 : Int32) (x4 : Int32) (S : rb_S) : Prop := ma_take_p_129 K B10 x3 x4 0 S
theorem ma_take_k_128 {K : rb_S → Prop} {B10 : Int32 → rb_S → Prop} (X : rb_X p s m args meth c A Z ma_take_b 6 "RoomMaker$Machine" none) (hB10 : ∀ (x3 : Int32) (S : rb_S), B10 x3 S → rb_V p l e ma_take_rm s m args below meth c A (MQ below (va_Qv K (rb_B Z A) A) args s ma_take_rm.cells ma_take_rm.slots A) Z 6 10 [(0, .ref (Z.1 5)), (1, .ref (Z.1 1)), (2, .ref (Z.1 4)), (3, .int x3)] [] S 0 0) {x3 : Int32} {x4 : Int32} {S : rb_S} (h : ma_take_p_128 K B10 x3 x4 S) : rb_V p l e ma_take_rm s m args below meth c A (MQ below (va_Qv K (rb_B Z A) A) args s ma_take_rm.cells ma_take_rm.slots A) Z 6 128 [(0, .ref (Z.1 5)), (1, .ref (Z.1 1)), (2, .ref (Z.1 4)), (3, .int x3), (4, .int x4)] [] S 0 0 := by
  unfold ma_take_p_128 at h
  refine rb_iconst X 0 ma_take_d128 (by decide) ?_
  exact ma_take_k_129 X hB10 h
def ma_take_p_10 (K : rb_S → Prop) : Nat → Int32 → rb_S → Prop
  | 0, _, _ => False
  | n10 + 1, x3, S => ((S 0 7) ≤ x3 → ma_take_p_155 K x3 S) ∧ (¬ (S 0 7) ≤ x3 → vp_in x3 64 ∧ (∀ v24 : Int32, v24 = (S 6 x3.toNatClampNeg) → (vp_in v24 12 ∧ (vp_in x3 64 ∧ (ma_operand_p_0 (fun r44 S44 => vp_in x3 64 ∧ ∀ S47 : rb_S, S47 = rb_u S44 17 x3.toNatClampNeg r44 → (vp_in v24 12 ∧ (vp_in x3 64 ∧ (ma_operand_p_0 (fun r66 S66 => vp_in x3 64 ∧ ∀ S69 : rb_S, S69 = rb_u S66 18 x3.toNatClampNeg r66 → (vp_in v24 12 ∧ (vp_in x3 64 ∧ (ma_operand_p_0 (fun r88 S88 => vp_in x3 64 ∧ ∀ S91 : rb_S, S91 = rb_u S88 19 x3.toNatClampNeg r88 → ((¬ v24 = 4 → ma_take_p_128 K (fun a0 T => ma_take_p_10 K n10 a0 T) x3 v24 S91) ∧ (v24 = 4 → vp_in x3 64 ∧ (vp_in x3 64 ∧ ((¬ (S91 17 x3.toNatClampNeg) = (S91 18 x3.toNatClampNeg) → ma_take_p_128 K (fun a0 T => ma_take_p_10 K n10 a0 T) x3 v24 S91) ∧ ((S91 17 x3.toNatClampNeg) = (S91 18 x3.toNatClampNeg) → vp_in x3 64 ∧ ((16 ≤ (S91 17 x3.toNatClampNeg) → ma_take_p_128 K (fun a0 T => ma_take_p_10 K n10 a0 T) x3 v24 S91) ∧ (¬ 16 ≤ (S91 17 x3.toNatClampNeg) → ma_take_p_129 K (fun a0 T => ma_take_p_10 K n10 a0 T) x3 v24 1 S91)))))))) (rb_rz v24.toNatClampNeg) (S69 9 x3.toNatClampNeg) S69)))) (rb_ry v24.toNatClampNeg) (S47 8 x3.toNatClampNeg) S47)))) (rb_rx v24.toNatClampNeg) (S 7 x3.toNatClampNeg) S)))))
theorem ma_take_k_10 {K : rb_S → Prop}  (X : rb_X p s m args meth c A Z ma_take_b 6 "RoomMaker$Machine" none)  : ∀ (n : Nat) (x3 : Int32) (S : rb_S), ma_take_p_10 K n x3 S → rb_V p l e ma_take_rm s m args below meth c A (MQ below (va_Qv K (rb_B Z A) A) args s ma_take_rm.cells ma_take_rm.slots A) Z 6 10 [(0, .ref (Z.1 5)), (1, .ref (Z.1 1)), (2, .ref (Z.1 4)), (3, .int x3)] [] S 0 0 := by
  intro n
  induction n with
  | zero =>
    intro x3 S h
    exact (show False from h).elim
  | succ n ih =>
    intro x3 S h
    have hB10 := ih
    rw [ma_take_p_10] at h
    refine rb_iload_n X 3 ma_take_d10 rfl 3 rfl ?_
    refine rb_aload_n X 0 ma_take_d11 rfl 0 rfl ?_
    refine ma_g39 X ma_take_d12 ?_
    refine rb_icmp_ge X 155 ma_take_d15 (by decide) (fun hc => ?_) (fun hc => ?_)
    · replace h := h.1 hc
      exact ma_take_k_155 X h
    · replace h := h.2 hc
      refine rb_aload_n X 1 ma_take_d18 rfl 1 rfl ?_
      refine ma_g40 X ma_take_d19 ?_
      refine rb_iload_n X 3 ma_take_d22 rfl 3 rfl ?_
      obtain ⟨hin, h⟩ := h
      refine rb_iald X 6 (rb_a6 Z) ma_take_d23 hin ?_
      refine rb_topi (fun v24 e24 => ?_)
      replace h := h v24 e24
      refine rb_istore X 4 [1, 2, 3, 4, 0] (L' := [(0, .ref (Z.1 5)), (1, .ref (Z.1 1)), (2, .ref (Z.1 4)), (3, .int x3), (4, .int v24)]) ma_take_d24 (by decide) rfl ?_
      refine rb_aload_n X 0 ma_take_d26 rfl 0 rfl ?_
      refine ma_g15 X ma_take_d27 ?_
      refine rb_iload_n X 3 ma_take_d30 rfl 3 rfl ?_
      refine ma_s41 X ma_take_d31 ?_
      refine rb_iload X 4 ma_take_d34 4 rfl ?_
      obtain ⟨hin, h⟩ := h
      refine rb_tald0 X ma_take_d36 hin ?_
      refine rb_aload_n X 1 ma_take_d37 rfl 1 rfl ?_
      refine ma_g44 X ma_take_d38 ?_
      refine rb_iload_n X 3 ma_take_d41 rfl 3 rfl ?_
      obtain ⟨hin, h⟩ := h
      refine rb_iald X 7 (rb_a7 Z) ma_take_d42 hin ?_
      refine rb_aload_n X 2 ma_take_d43 rfl 2 rfl ?_
      refine rb_callSi (As := [.int (rb_rx v24.toNatClampNeg), .int (S 7 x3.toNatClampNeg), .ref (Z.1 4)]) (rest := [.int x3, .ref (Z.1 17)]) X (ma_operand_c l Z h) ma_operand_w ⟨by decide, by decide⟩ rw_449 rw_450 rfl rfl (Nat.le_of_ble_eq_true rfl) ma_take_d44 ⟨by decide, by decide⟩ (fun r44 S44 h => ?_)
      obtain ⟨hin, h⟩ := h
      refine rb_iast X 17 (rb_a17 Z) ma_take_d47 hin (fun S47 e47 => ?_)
      replace h := h S47 e47
      refine rb_aload_n X 0 ma_take_d48 rfl 0 rfl ?_
      refine ma_g18 X ma_take_d49 ?_
      refine rb_iload_n X 3 ma_take_d52 rfl 3 rfl ?_
      refine ma_s49 X ma_take_d53 ?_
      refine rb_iload X 4 ma_take_d56 4 rfl ?_
      obtain ⟨hin, h⟩ := h
      refine rb_tald1 X ma_take_d58 hin ?_
      refine rb_aload_n X 1 ma_take_d59 rfl 1 rfl ?_
      refine ma_g52 X ma_take_d60 ?_
      refine rb_iload_n X 3 ma_take_d63 rfl 3 rfl ?_
      obtain ⟨hin, h⟩ := h
      refine rb_iald X 8 (rb_a8 Z) ma_take_d64 hin ?_
      refine rb_aload_n X 2 ma_take_d65 rfl 2 rfl ?_
      refine rb_callSi (As := [.int (rb_ry v24.toNatClampNeg), .int (S47 8 x3.toNatClampNeg), .ref (Z.1 4)]) (rest := [.int x3, .ref (Z.1 18)]) X (ma_operand_c l Z h) ma_operand_w ⟨by decide, by decide⟩ rw_449 rw_450 rfl rfl (Nat.le_of_ble_eq_true rfl) ma_take_d66 ⟨by decide, by decide⟩ (fun r66 S66 h => ?_)
      obtain ⟨hin, h⟩ := h
      refine rb_iast X 18 (rb_a18 Z) ma_take_d69 hin (fun S69 e69 => ?_)
      replace h := h S69 e69
      refine rb_aload_n X 0 ma_take_d70 rfl 0 rfl ?_
      refine ma_g21 X ma_take_d71 ?_
      refine rb_iload_n X 3 ma_take_d74 rfl 3 rfl ?_
      refine ma_s53 X ma_take_d75 ?_
      refine rb_iload X 4 ma_take_d78 4 rfl ?_
      obtain ⟨hin, h⟩ := h
      refine rb_tald2 X ma_take_d80 hin ?_
      refine rb_aload_n X 1 ma_take_d81 rfl 1 rfl ?_
      refine ma_g56 X ma_take_d82 ?_
      refine rb_iload_n X 3 ma_take_d85 rfl 3 rfl ?_
      obtain ⟨hin, h⟩ := h
      refine rb_iald X 9 (rb_a9 Z) ma_take_d86 hin ?_
      refine rb_aload_n X 2 ma_take_d87 rfl 2 rfl ?_
      refine rb_callSi (As := [.int (rb_rz v24.toNatClampNeg), .int (S69 9 x3.toNatClampNeg), .ref (Z.1 4)]) (rest := [.int x3, .ref (Z.1 19)]) X (ma_operand_c l Z h) ma_operand_w ⟨by decide, by decide⟩ rw_449 rw_450 rfl rfl (Nat.le_of_ble_eq_true rfl) ma_take_d88 ⟨by decide, by decide⟩ (fun r88 S88 h => ?_)
      obtain ⟨hin, h⟩ := h
      refine rb_iast X 19 (rb_a19 Z) ma_take_d91 hin (fun S91 e91 => ?_)
      replace h := h S91 e91
      refine rb_iload X 4 ma_take_d92 4 rfl ?_
      refine rb_iconst X 4 ma_take_d94 (by decide) ?_
      refine rb_icmp_ne X 128 ma_take_d95 (by decide) (fun hc => ?_) (fun hc => ?_)
      · replace h := h.1 hc
        exact ma_take_k_128 X hB10 h
      · replace h := h.2 hc
        refine rb_aload_n X 0 ma_take_d98 rfl 0 rfl ?_
        refine ma_g15 X ma_take_d99 ?_
        refine rb_iload_n X 3 ma_take_d102 rfl 3 rfl ?_
        obtain ⟨hin, h⟩ := h
        refine rb_iald X 17 (rb_a17 Z) ma_take_d103 hin ?_
        refine rb_aload_n X 0 ma_take_d104 rfl 0 rfl ?_
        refine ma_g18 X ma_take_d105 ?_
        refine rb_iload_n X 3 ma_take_d108 rfl 3 rfl ?_
        obtain ⟨hin, h⟩ := h
        refine rb_iald X 18 (rb_a18 Z) ma_take_d109 hin ?_
        refine rb_icmp_ne X 128 ma_take_d110 (by decide) (fun hc => ?_) (fun hc => ?_)
        · replace h := h.1 hc
          exact ma_take_k_128 X hB10 h
        · replace h := h.2 hc
          refine rb_aload_n X 0 ma_take_d113 rfl 0 rfl ?_
          refine ma_g15 X ma_take_d114 ?_
          refine rb_iload_n X 3 ma_take_d117 rfl 3 rfl ?_
          obtain ⟨hin, h⟩ := h
          refine rb_iald X 17 (rb_a17 Z) ma_take_d118 hin ?_
          refine rb_bipush X 16 ma_take_d119 (by decide) ?_
          refine rb_icmp_ge X 128 ma_take_d121 (by decide) (fun hc => ?_) (fun hc => ?_)
          · replace h := h.1 hc
            exact ma_take_k_128 X hB10 h
          · replace h := h.2 hc
            refine rb_iconst X 1 ma_take_d124 (by decide) ?_
            refine rb_goto X 129 ma_take_d125 (by decide) ?_
            exact ma_take_k_129 X hB10 h
def ma_take_p_0 (K : rb_S → Prop)  (S : rb_S) : Prop := ∀ S5 : rb_S, S5 = rb_u S 0 7 (S 0 1) → (∃ j10 : Nat, ma_take_p_10 K j10 0 S5)
theorem ma_take_k_0 {K : rb_S → Prop}  (X : rb_X p s m args meth c A Z ma_take_b 6 "RoomMaker$Machine" none)   {S : rb_S} (h : ma_take_p_0 K S) : rb_V p l e ma_take_rm s m args below meth c A (MQ below (va_Qv K (rb_B Z A) A) args s ma_take_rm.cells ma_take_rm.slots A) Z 6 0 [(0, .ref (Z.1 5)), (1, .ref (Z.1 1)), (2, .ref (Z.1 4))] [] S 0 0 := by
  unfold ma_take_p_0 at h
  refine rb_aload_n X 0 ma_take_d0 rfl 0 rfl ?_
  refine rb_aload_n X 1 ma_take_d1 rfl 1 rfl ?_
  refine ma_g33 X ma_take_d2 ?_
  refine ma_q39 X ma_take_d5 (fun S5 e5 => ?_)
  replace h := h S5 e5
  refine rb_iconst X 0 ma_take_d8 (by decide) ?_
  refine rb_istore_n X 3 [1, 2, 3, 0] (L' := [(0, .ref (Z.1 5)), (1, .ref (Z.1 1)), (2, .ref (Z.1 4)), (3, .int 0)]) ma_take_d9 rfl (by decide) rfl ?_
  obtain ⟨j10, h⟩ := h
  exact ma_take_k_10 X j10 _ _ h
theorem ma_take_c (l : Launch) (Z : rb_Z) {K : rb_S → Prop}  {S : rb_S} (h : ma_take_p_0 K S) : rb_Mv l ma_take_y ma_take_b 6 ma_take_rm Z [.ref (Z.1 5), .ref (Z.1 1), .ref (Z.1 4)] S K := rb_startV (by decide) (Nat.le_of_ble_eq_true rfl) (fun p e s m args below meth c A X => ma_take_k_0 X h)
end
theorem ma_assign_d0 : decode ma_assign_b 0 = .ok (.iload_n 1, 1) := by decide +kernel
theorem ma_assign_d1 : decode ma_assign_b 1 = .ok (.bipush 16, 2) := by decide +kernel
theorem ma_assign_d3 : decode ma_assign_b 3 = .ok (.if_icmp .lt 13, 3) := by decide +kernel
theorem ma_assign_d6 : decode ma_assign_b 6 = .ok (.aload_n 0, 1) := by decide +kernel
theorem ma_assign_d7 : decode ma_assign_b 7 = .ok (.dup, 1) := by decide +kernel
theorem ma_assign_d8 : decode ma_assign_b 8 = .ok (.getfield 77, 3) := by decide +kernel
theorem ma_assign_d11 : decode ma_assign_b 11 = .ok (.iconst 1, 1) := by decide +kernel
theorem ma_assign_d12 : decode ma_assign_b 12 = .ok (.iadd, 1) := by decide +kernel
theorem ma_assign_d13 : decode ma_assign_b 13 = .ok (.putfield 77, 3) := by decide +kernel
theorem ma_assign_d16 : decode ma_assign_b 16 = .ok (.iload_n 1, 1) := by decide +kernel
theorem ma_assign_d17 : decode ma_assign_b 17 = .ok (.ifCond .lt 16, 3) := by decide +kernel
theorem ma_assign_d20 : decode ma_assign_b 20 = .ok (.iload_n 1, 1) := by decide +kernel
theorem ma_assign_d21 : decode ma_assign_b 21 = .ok (.bipush 32, 2) := by decide +kernel
theorem ma_assign_d23 : decode ma_assign_b 23 = .ok (.if_icmp .ge 10, 3) := by decide +kernel
theorem ma_assign_d26 : decode ma_assign_b 26 = .ok (.aload_n 0, 1) := by decide +kernel
theorem ma_assign_d27 : decode ma_assign_b 27 = .ok (.getfield 24, 3) := by decide +kernel
theorem ma_assign_d30 : decode ma_assign_b 30 = .ok (.iload_n 1, 1) := by decide +kernel
theorem ma_assign_d31 : decode ma_assign_b 31 = .ok (.iload_n 2, 1) := by decide +kernel
theorem ma_assign_d32 : decode ma_assign_b 32 = .ok (.iastore, 1) := by decide +kernel
theorem ma_assign_d33 : decode ma_assign_b 33 = .ok (.return_, 1) := by decide +kernel
abbrev ma_assign_rm : Room := { frames := 0, cells := 0, slots := 0, locals := 0 }
theorem ma_assign_w : rb_cw ma_assign_y ma_assign_b 3 none 2 := ⟨rw_515, rw_6, ⟨by decide, by decide⟩, by decide +kernel⟩
section
variable {p : Program} {l : Launch} {e : Env} {s : State} {m : MethodId} {args : Array Value} {below : List Frame} {meth : Method} {c : Code} {A : Nat → Prop} {Z : rb_Z}
def ma_assign_p_33 (K : rb_S → Prop) (x1 : Int32) (x2 : Int32) (S : rb_S) : Prop := K S
theorem ma_assign_k_33 {K : rb_S → Prop}  (X : rb_X p s m args meth c A Z ma_assign_b 3 "RoomMaker$Machine" none)  {x1 : Int32} {x2 : Int32} {S : rb_S} (h : ma_assign_p_33 K x1 x2 S) : rb_V p l e ma_assign_rm s m args below meth c A (MQ below (va_Qv K (rb_B Z A) A) args s ma_assign_rm.cells ma_assign_rm.slots A) Z 3 33 [(0, .ref (Z.1 5)), (1, .int x1), (2, .int x2)] [] S 0 0 := by
  unfold ma_assign_p_33 at h
  exact rb_vret X ma_assign_d33 h
def ma_assign_p_16 (K : rb_S → Prop) (x1 : Int32) (x2 : Int32) (S : rb_S) : Prop := (x1 < 0 → ma_assign_p_33 K x1 x2 S) ∧ (¬ x1 < 0 → (32 ≤ x1 → ma_assign_p_33 K x1 x2 S) ∧ (¬ 32 ≤ x1 → vp_in x1 32 ∧ ∀ S32 : rb_S, S32 = rb_u S 20 x1.toNatClampNeg x2 → (ma_assign_p_33 K x1 x2 S32)))
theorem ma_assign_k_16 {K : rb_S → Prop}  (X : rb_X p s m args meth c A Z ma_assign_b 3 "RoomMaker$Machine" none)  {x1 : Int32} {x2 : Int32} {S : rb_S} (h : ma_assign_p_16 K x1 x2 S) : rb_V p l e ma_assign_rm s m args below meth c A (MQ below (va_Qv K (rb_B Z A) A) args s ma_assign_rm.cells ma_assign_rm.slots A) Z 3 16 [(0, .ref (Z.1 5)), (1, .int x1), (2, .int x2)] [] S 0 0 := by
  unfold ma_assign_p_16 at h
  refine rb_iload_n X 1 ma_assign_d16 rfl 1 rfl ?_
  refine rb_if_lt X 33 ma_assign_d17 (by decide) (fun hc => ?_) (fun hc => ?_)
  · replace h := h.1 hc
    exact ma_assign_k_33 X h
  · replace h := h.2 hc
    refine rb_iload_n X 1 ma_assign_d20 rfl 1 rfl ?_
    refine rb_bipush X 32 ma_assign_d21 (by decide) ?_
    refine rb_icmp_ge X 33 ma_assign_d23 (by decide) (fun hc => ?_) (fun hc => ?_)
    · replace h := h.1 hc
      exact ma_assign_k_33 X h
    · replace h := h.2 hc
      refine rb_aload_n X 0 ma_assign_d26 rfl 0 rfl ?_
      refine ma_g24 X ma_assign_d27 ?_
      refine rb_iload_n X 1 ma_assign_d30 rfl 1 rfl ?_
      refine rb_iload_n X 2 ma_assign_d31 rfl 2 rfl ?_
      obtain ⟨hin, h⟩ := h
      refine rb_iast X 20 (rb_a20 Z) ma_assign_d32 hin (fun S32 e32 => ?_)
      replace h := h S32 e32
      exact ma_assign_k_33 X h
def ma_assign_p_0 (K : rb_S → Prop) (x1 : Int32) (x2 : Int32) (S : rb_S) : Prop := (x1 < 16 → ma_assign_p_16 K x1 x2 S) ∧ (¬ x1 < 16 → ∀ S13 : rb_S, S13 = rb_u S 0 11 ((S 0 11) + 1) → (ma_assign_p_16 K x1 x2 S13))
theorem ma_assign_k_0 {K : rb_S → Prop}  (X : rb_X p s m args meth c A Z ma_assign_b 3 "RoomMaker$Machine" none)  {x1 : Int32} {x2 : Int32} {S : rb_S} (h : ma_assign_p_0 K x1 x2 S) : rb_V p l e ma_assign_rm s m args below meth c A (MQ below (va_Qv K (rb_B Z A) A) args s ma_assign_rm.cells ma_assign_rm.slots A) Z 3 0 [(0, .ref (Z.1 5)), (1, .int x1), (2, .int x2)] [] S 0 0 := by
  unfold ma_assign_p_0 at h
  refine rb_iload_n X 1 ma_assign_d0 rfl 1 rfl ?_
  refine rb_bipush X 16 ma_assign_d1 (by decide) ?_
  refine rb_icmp_lt X 16 ma_assign_d3 (by decide) (fun hc => ?_) (fun hc => ?_)
  · replace h := h.1 hc
    exact ma_assign_k_16 X h
  · replace h := h.2 hc
    refine rb_aload_n X 0 ma_assign_d6 rfl 0 rfl ?_
    refine rb_dup X ma_assign_d7 rfl ?_
    refine ma_g77 X ma_assign_d8 ?_
    refine rb_iconst X 1 ma_assign_d11 (by decide) ?_
    refine rb_iadd X ma_assign_d12 ?_
    refine ma_q77 X ma_assign_d13 (fun S13 e13 => ?_)
    replace h := h S13 e13
    exact ma_assign_k_16 X h
theorem ma_assign_c (l : Launch) (Z : rb_Z) {K : rb_S → Prop} {x1 : Int32} {x2 : Int32} {S : rb_S} (h : ma_assign_p_0 K x1 x2 S) : rb_Mv l ma_assign_y ma_assign_b 3 ma_assign_rm Z [.ref (Z.1 5), .int x1, .int x2] S K := rb_startV (by decide) (Nat.le_of_ble_eq_true rfl) (fun p e s m args below meth c A X => ma_assign_k_0 X h)
end
theorem ma_contentOf_d0 : decode ma_contentOf_b 0 = .ok (.iload_n 1, 1) := by decide +kernel
theorem ma_contentOf_d1 : decode ma_contentOf_b 1 = .ok (.ifCond .lt 18, 3) := by decide +kernel
theorem ma_contentOf_d4 : decode ma_contentOf_b 4 = .ok (.iload_n 1, 1) := by decide +kernel
theorem ma_contentOf_d5 : decode ma_contentOf_b 5 = .ok (.bipush 32, 2) := by decide +kernel
theorem ma_contentOf_d7 : decode ma_contentOf_b 7 = .ok (.if_icmp .ge 12, 3) := by decide +kernel
theorem ma_contentOf_d10 : decode ma_contentOf_b 10 = .ok (.aload_n 0, 1) := by decide +kernel
theorem ma_contentOf_d11 : decode ma_contentOf_b 11 = .ok (.getfield 24, 3) := by decide +kernel
theorem ma_contentOf_d14 : decode ma_contentOf_b 14 = .ok (.iload_n 1, 1) := by decide +kernel
theorem ma_contentOf_d15 : decode ma_contentOf_b 15 = .ok (.iaload, 1) := by decide +kernel
theorem ma_contentOf_d16 : decode ma_contentOf_b 16 = .ok (.goto 4, 3) := by decide +kernel
theorem ma_contentOf_d19 : decode ma_contentOf_b 19 = .ok (.iconst 0, 1) := by decide +kernel
theorem ma_contentOf_d20 : decode ma_contentOf_b 20 = .ok (.ireturn, 1) := by decide +kernel
abbrev ma_contentOf_rm : Room := { frames := 0, cells := 0, slots := 0, locals := 0 }
theorem ma_contentOf_w : rb_cw ma_contentOf_y ma_contentOf_b 2 (some .int) 1 := ⟨rw_523, rw_6, ⟨by decide, by decide⟩, by decide +kernel⟩
section
variable {p : Program} {l : Launch} {e : Env} {s : State} {m : MethodId} {args : Array Value} {below : List Frame} {meth : Method} {c : Code} {A : Nat → Prop} {Z : rb_Z}
def ma_contentOf_p_20 (K : Int32 → rb_S → Prop) (x1 : Int32) (y0 : Int32) (S : rb_S) : Prop := K y0 S
theorem ma_contentOf_k_20 {K : Int32 → rb_S → Prop}  (X : rb_X p s m args meth c A Z ma_contentOf_b 2 "RoomMaker$Machine" (some .int))  {x1 : Int32} {y0 : Int32} {S : rb_S} (h : ma_contentOf_p_20 K x1 y0 S) : rb_V p l e ma_contentOf_rm s m args below meth c A (MQ below (va_Qi K (rb_B Z A) A) args s ma_contentOf_rm.cells ma_contentOf_rm.slots A) Z 2 20 [(0, .ref (Z.1 5)), (1, .int x1)] [.int y0] S 0 0 := by
  unfold ma_contentOf_p_20 at h
  exact rb_iret X ma_contentOf_d20 h
def ma_contentOf_p_19 (K : Int32 → rb_S → Prop) (x1 : Int32) (S : rb_S) : Prop := ma_contentOf_p_20 K x1 0 S
theorem ma_contentOf_k_19 {K : Int32 → rb_S → Prop}  (X : rb_X p s m args meth c A Z ma_contentOf_b 2 "RoomMaker$Machine" (some .int))  {x1 : Int32} {S : rb_S} (h : ma_contentOf_p_19 K x1 S) : rb_V p l e ma_contentOf_rm s m args below meth c A (MQ below (va_Qi K (rb_B Z A) A) args s ma_contentOf_rm.cells ma_contentOf_rm.slots A) Z 2 19 [(0, .ref (Z.1 5)), (1, .int x1)] [] S 0 0 := by
  unfold ma_contentOf_p_19 at h
  refine rb_iconst X 0 ma_contentOf_d19 (by decide) ?_
  exact ma_contentOf_k_20 X h
def ma_contentOf_p_0 (K : Int32 → rb_S → Prop) (x1 : Int32) (S : rb_S) : Prop := (x1 < 0 → ma_contentOf_p_19 K x1 S) ∧ (¬ x1 < 0 → (32 ≤ x1 → ma_contentOf_p_19 K x1 S) ∧ (¬ 32 ≤ x1 → vp_in x1 32 ∧ (ma_contentOf_p_20 K x1 (S 20 x1.toNatClampNeg) S)))
theorem ma_contentOf_k_0 {K : Int32 → rb_S → Prop}  (X : rb_X p s m args meth c A Z ma_contentOf_b 2 "RoomMaker$Machine" (some .int))  {x1 : Int32} {S : rb_S} (h : ma_contentOf_p_0 K x1 S) : rb_V p l e ma_contentOf_rm s m args below meth c A (MQ below (va_Qi K (rb_B Z A) A) args s ma_contentOf_rm.cells ma_contentOf_rm.slots A) Z 2 0 [(0, .ref (Z.1 5)), (1, .int x1)] [] S 0 0 := by
  unfold ma_contentOf_p_0 at h
  refine rb_iload_n X 1 ma_contentOf_d0 rfl 1 rfl ?_
  refine rb_if_lt X 19 ma_contentOf_d1 (by decide) (fun hc => ?_) (fun hc => ?_)
  · replace h := h.1 hc
    exact ma_contentOf_k_19 X h
  · replace h := h.2 hc
    refine rb_iload_n X 1 ma_contentOf_d4 rfl 1 rfl ?_
    refine rb_bipush X 32 ma_contentOf_d5 (by decide) ?_
    refine rb_icmp_ge X 19 ma_contentOf_d7 (by decide) (fun hc => ?_) (fun hc => ?_)
    · replace h := h.1 hc
      exact ma_contentOf_k_19 X h
    · replace h := h.2 hc
      refine rb_aload_n X 0 ma_contentOf_d10 rfl 0 rfl ?_
      refine ma_g24 X ma_contentOf_d11 ?_
      refine rb_iload_n X 1 ma_contentOf_d14 rfl 1 rfl ?_
      obtain ⟨hin, h⟩ := h
      refine rb_iald X 20 (rb_a20 Z) ma_contentOf_d15 hin ?_
      refine rb_goto X 20 ma_contentOf_d16 (by decide) ?_
      exact ma_contentOf_k_20 X h
theorem ma_contentOf_c (l : Launch) (Z : rb_Z) {K : Int32 → rb_S → Prop} {x1 : Int32} {S : rb_S} (h : ma_contentOf_p_0 K x1 S) : rb_Mi l ma_contentOf_y ma_contentOf_b 2 (some .int) ma_contentOf_rm Z [.ref (Z.1 5), .int x1] S K := rb_startI (by decide) (Nat.le_of_ble_eq_true rfl) (fun p e s m args below meth c A X => ma_contentOf_k_0 X h)
end
theorem ma_fetch_d0 : decode ma_fetch_b 0 = .ok (.iload_n 1, 1) := by decide +kernel
theorem ma_fetch_d1 : decode ma_fetch_b 1 = .ok (.bipush 16, 2) := by decide +kernel
theorem ma_fetch_d3 : decode ma_fetch_b 3 = .ok (.if_icmp .lt 13, 3) := by decide +kernel
theorem ma_fetch_d6 : decode ma_fetch_b 6 = .ok (.aload_n 0, 1) := by decide +kernel
theorem ma_fetch_d7 : decode ma_fetch_b 7 = .ok (.dup, 1) := by decide +kernel
theorem ma_fetch_d8 : decode ma_fetch_b 8 = .ok (.getfield 74, 3) := by decide +kernel
theorem ma_fetch_d11 : decode ma_fetch_b 11 = .ok (.iconst 1, 1) := by decide +kernel
theorem ma_fetch_d12 : decode ma_fetch_b 12 = .ok (.iadd, 1) := by decide +kernel
theorem ma_fetch_d13 : decode ma_fetch_b 13 = .ok (.putfield 74, 3) := by decide +kernel
theorem ma_fetch_d16 : decode ma_fetch_b 16 = .ok (.aload_n 0, 1) := by decide +kernel
theorem ma_fetch_d17 : decode ma_fetch_b 17 = .ok (.iload_n 1, 1) := by decide +kernel
theorem ma_fetch_d18 : decode ma_fetch_b 18 = .ok (.invokevirtual 118, 3) := by decide +kernel
theorem ma_fetch_d21 : decode ma_fetch_b 21 = .ok (.ireturn, 1) := by decide +kernel
abbrev ma_fetch_rm : Room := { frames := 1, cells := 0, slots := 0, locals := 21 }
theorem ma_fetch_w : rb_cw ma_fetch_y ma_fetch_b 2 (some .int) 1 := ⟨rw_519, rw_6, ⟨by decide, by decide⟩, by decide +kernel⟩
section
variable {p : Program} {l : Launch} {e : Env} {s : State} {m : MethodId} {args : Array Value} {below : List Frame} {meth : Method} {c : Code} {A : Nat → Prop} {Z : rb_Z}
def ma_fetch_p_16 (K : Int32 → rb_S → Prop) (x1 : Int32) (S : rb_S) : Prop := ma_contentOf_p_0 (fun r18 S18 => K r18 S18) x1 S
theorem ma_fetch_k_16 {K : Int32 → rb_S → Prop}  (X : rb_X p s m args meth c A Z ma_fetch_b 2 "RoomMaker$Machine" (some .int))  {x1 : Int32} {S : rb_S} (h : ma_fetch_p_16 K x1 S) : rb_V p l e ma_fetch_rm s m args below meth c A (MQ below (va_Qi K (rb_B Z A) A) args s ma_fetch_rm.cells ma_fetch_rm.slots A) Z 2 16 [(0, .ref (Z.1 5)), (1, .int x1)] [] S 0 0 := by
  unfold ma_fetch_p_16 at h
  refine rb_aload_n X 0 ma_fetch_d16 rfl 0 rfl ?_
  refine rb_iload_n X 1 ma_fetch_d17 rfl 1 rfl ?_
  refine rb_callVi (As := [.int x1]) (rest := []) X (ma_contentOf_c l Z h) ma_contentOf_w ⟨by decide, by decide⟩ rw_520 rw_522 rs_32 (q0 := 5) rfl rfl rfl rfl (Nat.le_of_ble_eq_true rfl) ma_fetch_d18 ⟨by decide, by decide⟩ (fun r18 S18 h => ?_)
  exact rb_iret X ma_fetch_d21 h
def ma_fetch_p_0 (K : Int32 → rb_S → Prop) (x1 : Int32) (S : rb_S) : Prop := (x1 < 16 → ma_fetch_p_16 K x1 S) ∧ (¬ x1 < 16 → ∀ S13 : rb_S, S13 = rb_u S 0 10 ((S 0 10) + 1) → (ma_fetch_p_16 K x1 S13))
theorem ma_fetch_k_0 {K : Int32 → rb_S → Prop}  (X : rb_X p s m args meth c A Z ma_fetch_b 2 "RoomMaker$Machine" (some .int))  {x1 : Int32} {S : rb_S} (h : ma_fetch_p_0 K x1 S) : rb_V p l e ma_fetch_rm s m args below meth c A (MQ below (va_Qi K (rb_B Z A) A) args s ma_fetch_rm.cells ma_fetch_rm.slots A) Z 2 0 [(0, .ref (Z.1 5)), (1, .int x1)] [] S 0 0 := by
  unfold ma_fetch_p_0 at h
  refine rb_iload_n X 1 ma_fetch_d0 rfl 1 rfl ?_
  refine rb_bipush X 16 ma_fetch_d1 (by decide) ?_
  refine rb_icmp_lt X 16 ma_fetch_d3 (by decide) (fun hc => ?_) (fun hc => ?_)
  · replace h := h.1 hc
    exact ma_fetch_k_16 X h
  · replace h := h.2 hc
    refine rb_aload_n X 0 ma_fetch_d6 rfl 0 rfl ?_
    refine rb_dup X ma_fetch_d7 rfl ?_
    refine ma_g74 X ma_fetch_d8 ?_
    refine rb_iconst X 1 ma_fetch_d11 (by decide) ?_
    refine rb_iadd X ma_fetch_d12 ?_
    refine ma_q74 X ma_fetch_d13 (fun S13 e13 => ?_)
    replace h := h S13 e13
    exact ma_fetch_k_16 X h
theorem ma_fetch_c (l : Launch) (Z : rb_Z) {K : Int32 → rb_S → Prop} {x1 : Int32} {S : rb_S} (h : ma_fetch_p_0 K x1 S) : rb_Mi l ma_fetch_y ma_fetch_b 2 (some .int) ma_fetch_rm Z [.ref (Z.1 5), .int x1] S K := rb_startI (by decide) (Nat.le_of_ble_eq_true rfl) (fun p e s m args below meth c A X => ma_fetch_k_0 X h)
end
theorem ma_write_d0 : decode ma_write_b 0 = .ok (.aload_n 0, 1) := by decide +kernel
theorem ma_write_d1 : decode ma_write_b 1 = .ok (.getfield 30, 3) := by decide +kernel
theorem ma_write_d4 : decode ma_write_b 4 = .ok (.aload_n 0, 1) := by decide +kernel
theorem ma_write_d5 : decode ma_write_b 5 = .ok (.getfield 83, 3) := by decide +kernel
theorem ma_write_d8 : decode ma_write_b 8 = .ok (.bipush 15, 2) := by decide +kernel
theorem ma_write_d10 : decode ma_write_b 10 = .ok (.iand, 1) := by decide +kernel
theorem ma_write_d11 : decode ma_write_b 11 = .ok (.iload_n 1, 1) := by decide +kernel
theorem ma_write_d12 : decode ma_write_b 12 = .ok (.iastore, 1) := by decide +kernel
theorem ma_write_d13 : decode ma_write_b 13 = .ok (.aload_n 0, 1) := by decide +kernel
theorem ma_write_d14 : decode ma_write_b 14 = .ok (.dup, 1) := by decide +kernel
theorem ma_write_d15 : decode ma_write_b 15 = .ok (.getfield 83, 3) := by decide +kernel
theorem ma_write_d18 : decode ma_write_b 18 = .ok (.iconst 1, 1) := by decide +kernel
theorem ma_write_d19 : decode ma_write_b 19 = .ok (.iadd, 1) := by decide +kernel
theorem ma_write_d20 : decode ma_write_b 20 = .ok (.putfield 83, 3) := by decide +kernel
theorem ma_write_d23 : decode ma_write_b 23 = .ok (.return_, 1) := by decide +kernel
abbrev ma_write_rm : Room := { frames := 0, cells := 0, slots := 0, locals := 0 }
theorem ma_write_w : rb_cw ma_write_y ma_write_b 2 none 1 := ⟨rw_531, rw_6, ⟨by decide, by decide⟩, by decide +kernel⟩
section
variable {p : Program} {l : Launch} {e : Env} {s : State} {m : MethodId} {args : Array Value} {below : List Frame} {meth : Method} {c : Code} {A : Nat → Prop} {Z : rb_Z}
def ma_write_p_0 (K : rb_S → Prop) (x1 : Int32) (S : rb_S) : Prop := vp_in ((S 0 13) &&& 15) 16 ∧ ∀ S12 : rb_S, S12 = rb_u S 22 ((S 0 13) &&& 15).toNatClampNeg x1 → (∀ S20 : rb_S, S20 = rb_u S12 0 13 ((S12 0 13) + 1) → (K S20))
theorem ma_write_k_0 {K : rb_S → Prop}  (X : rb_X p s m args meth c A Z ma_write_b 2 "RoomMaker$Machine" none)  {x1 : Int32} {S : rb_S} (h : ma_write_p_0 K x1 S) : rb_V p l e ma_write_rm s m args below meth c A (MQ below (va_Qv K (rb_B Z A) A) args s ma_write_rm.cells ma_write_rm.slots A) Z 2 0 [(0, .ref (Z.1 5)), (1, .int x1)] [] S 0 0 := by
  unfold ma_write_p_0 at h
  refine rb_aload_n X 0 ma_write_d0 rfl 0 rfl ?_
  refine ma_g30 X ma_write_d1 ?_
  refine rb_aload_n X 0 ma_write_d4 rfl 0 rfl ?_
  refine ma_g83 X ma_write_d5 ?_
  refine rb_bipush X 15 ma_write_d8 (by decide) ?_
  refine rb_iand X ma_write_d10 ?_
  refine rb_iload_n X 1 ma_write_d11 rfl 1 rfl ?_
  obtain ⟨hin, h⟩ := h
  refine rb_iast X 22 (rb_a22 Z) ma_write_d12 hin (fun S12 e12 => ?_)
  replace h := h S12 e12
  refine rb_aload_n X 0 ma_write_d13 rfl 0 rfl ?_
  refine rb_dup X ma_write_d14 rfl ?_
  refine ma_g83 X ma_write_d15 ?_
  refine rb_iconst X 1 ma_write_d18 (by decide) ?_
  refine rb_iadd X ma_write_d19 ?_
  refine ma_q83 X ma_write_d20 (fun S20 e20 => ?_)
  replace h := h S20 e20
  exact rb_vret X ma_write_d23 h
theorem ma_write_c (l : Launch) (Z : rb_Z) {K : rb_S → Prop} {x1 : Int32} {S : rb_S} (h : ma_write_p_0 K x1 S) : rb_Mv l ma_write_y ma_write_b 2 ma_write_rm Z [.ref (Z.1 5), .int x1] S K := rb_startV (by decide) (Nat.le_of_ble_eq_true rfl) (fun p e s m args below meth c A X => ma_write_k_0 X h)
end
theorem ma_reckon_d0 : decode ma_reckon_b 0 = .ok (.aload_n 0, 1) := by decide +kernel
theorem ma_reckon_d1 : decode ma_reckon_b 1 = .ok (.iload_n 3, 1) := by decide +kernel
theorem ma_reckon_d2 : decode ma_reckon_b 2 = .ok (.invokevirtual 98, 3) := by decide +kernel
theorem ma_reckon_d5 : decode ma_reckon_b 5 = .ok (.istore 5, 2) := by decide +kernel
theorem ma_reckon_d7 : decode ma_reckon_b 7 = .ok (.aload_n 0, 1) := by decide +kernel
theorem ma_reckon_d8 : decode ma_reckon_b 8 = .ok (.iload 4, 2) := by decide +kernel
theorem ma_reckon_d10 : decode ma_reckon_b 10 = .ok (.invokevirtual 98, 3) := by decide +kernel
theorem ma_reckon_d13 : decode ma_reckon_b 13 = .ok (.istore 6, 2) := by decide +kernel
theorem ma_reckon_d15 : decode ma_reckon_b 15 = .ok (.iload_n 1, 1) := by decide +kernel
theorem ma_reckon_d16 : decode ma_reckon_b 16 = .ok (.lookupswitch 54 #[(1, 28), (2, 41)], 28) := by decide +kernel
theorem ma_reckon_d44 : decode ma_reckon_b 44 = .ok (.aload_n 0, 1) := by decide +kernel
theorem ma_reckon_d45 : decode ma_reckon_b 45 = .ok (.iload_n 2, 1) := by decide +kernel
theorem ma_reckon_d46 : decode ma_reckon_b 46 = .ok (.iload 5, 2) := by decide +kernel
theorem ma_reckon_d48 : decode ma_reckon_b 48 = .ok (.iload 6, 2) := by decide +kernel
theorem ma_reckon_d50 : decode ma_reckon_b 50 = .ok (.iadd, 1) := by decide +kernel
theorem ma_reckon_d51 : decode ma_reckon_b 51 = .ok (.invokevirtual 94, 3) := by decide +kernel
theorem ma_reckon_d54 : decode ma_reckon_b 54 = .ok (.goto 26, 3) := by decide +kernel
theorem ma_reckon_d57 : decode ma_reckon_b 57 = .ok (.aload_n 0, 1) := by decide +kernel
theorem ma_reckon_d58 : decode ma_reckon_b 58 = .ok (.iload_n 2, 1) := by decide +kernel
theorem ma_reckon_d59 : decode ma_reckon_b 59 = .ok (.iload 5, 2) := by decide +kernel
theorem ma_reckon_d61 : decode ma_reckon_b 61 = .ok (.iload 6, 2) := by decide +kernel
theorem ma_reckon_d63 : decode ma_reckon_b 63 = .ok (.isub, 1) := by decide +kernel
theorem ma_reckon_d64 : decode ma_reckon_b 64 = .ok (.invokevirtual 94, 3) := by decide +kernel
theorem ma_reckon_d67 : decode ma_reckon_b 67 = .ok (.goto 13, 3) := by decide +kernel
theorem ma_reckon_d70 : decode ma_reckon_b 70 = .ok (.aload_n 0, 1) := by decide +kernel
theorem ma_reckon_d71 : decode ma_reckon_b 71 = .ok (.iload_n 2, 1) := by decide +kernel
theorem ma_reckon_d72 : decode ma_reckon_b 72 = .ok (.iload 5, 2) := by decide +kernel
theorem ma_reckon_d74 : decode ma_reckon_b 74 = .ok (.iload 6, 2) := by decide +kernel
theorem ma_reckon_d76 : decode ma_reckon_b 76 = .ok (.imul, 1) := by decide +kernel
theorem ma_reckon_d77 : decode ma_reckon_b 77 = .ok (.invokevirtual 94, 3) := by decide +kernel
theorem ma_reckon_d80 : decode ma_reckon_b 80 = .ok (.return_, 1) := by decide +kernel
abbrev ma_reckon_rm : Room := { frames := 2, cells := 0, slots := 0, locals := 42 }
theorem ma_reckon_w : rb_cw ma_reckon_y ma_reckon_b 7 none 4 := ⟨rw_535, rw_6, ⟨by decide, by decide⟩, by decide +kernel⟩
section
variable {p : Program} {l : Launch} {e : Env} {s : State} {m : MethodId} {args : Array Value} {below : List Frame} {meth : Method} {c : Code} {A : Nat → Prop} {Z : rb_Z}
def ma_reckon_p_80 (K : rb_S → Prop) (x1 : Int32) (x2 : Int32) (x3 : Int32) (x4 : Int32) (x5 : Int32) (x6 : Int32) (S : rb_S) : Prop := K S
theorem ma_reckon_k_80 {K : rb_S → Prop}  (X : rb_X p s m args meth c A Z ma_reckon_b 7 "RoomMaker$Machine" none)  {x1 : Int32} {x2 : Int32} {x3 : Int32} {x4 : Int32} {x5 : Int32} {x6 : Int32} {S : rb_S} (h : ma_reckon_p_80 K x1 x2 x3 x4 x5 x6 S) : rb_V p l e ma_reckon_rm s m args below meth c A (MQ below (va_Qv K (rb_B Z A) A) args s ma_reckon_rm.cells ma_reckon_rm.slots A) Z 7 80 [(0, .ref (Z.1 5)), (1, .int x1), (2, .int x2), (3, .int x3), (4, .int x4), (5, .int x5), (6, .int x6)] [] S 0 0 := by
  unfold ma_reckon_p_80 at h
  exact rb_vret X ma_reckon_d80 h
def ma_reckon_p_0 (K : rb_S → Prop) (x1 : Int32) (x2 : Int32) (x3 : Int32) (x4 : Int32) (S : rb_S) : Prop := ma_fetch_p_0 (fun r2 S2 => ma_fetch_p_0 (fun r10 S10 => (x1 = 1 → ma_assign_p_0 (fun S51 => ma_reckon_p_80 K x1 x2 x3 x4 r2 r10 S51) x2 (r2 + r10) S10) ∧ (x1 = 2 → ma_assign_p_0 (fun S64 => ma_reckon_p_80 K x1 x2 x3 x4 r2 r10 S64) x2 (r2 - r10) S10) ∧ (¬ x1 = 1 ∧ ¬ x1 = 2 → ma_assign_p_0 (fun S77 => ma_reckon_p_80 K x1 x2 x3 x4 r2 r10 S77) x2 (r2 * r10) S10)) x4 S2) x3 S
theorem ma_reckon_k_0 {K : rb_S → Prop}  (X : rb_X p s m args meth c A Z ma_reckon_b 7 "RoomMaker$Machine" none)  {x1 : Int32} {x2 : Int32} {x3 : Int32} {x4 : Int32} {S : rb_S} (h : ma_reckon_p_0 K x1 x2 x3 x4 S) : rb_V p l e ma_reckon_rm s m args below meth c A (MQ below (va_Qv K (rb_B Z A) A) args s ma_reckon_rm.cells ma_reckon_rm.slots A) Z 7 0 [(0, .ref (Z.1 5)), (1, .int x1), (2, .int x2), (3, .int x3), (4, .int x4)] [] S 0 0 := by
  unfold ma_reckon_p_0 at h
  refine rb_aload_n X 0 ma_reckon_d0 rfl 0 rfl ?_
  refine rb_iload_n X 3 ma_reckon_d1 rfl 3 rfl ?_
  refine rb_callVi (As := [.int x3]) (rest := []) X (ma_fetch_c l Z h) ma_fetch_w ⟨by decide, by decide⟩ rw_516 rw_518 rs_31 (q0 := 5) rfl rfl rfl rfl (Nat.le_of_ble_eq_true rfl) ma_reckon_d2 ⟨by decide, by decide⟩ (fun r2 S2 h => ?_)
  refine rb_istore X 5 [1, 2, 3, 4, 5, 0] (L' := [(0, .ref (Z.1 5)), (1, .int x1), (2, .int x2), (3, .int x3), (4, .int x4), (5, .int r2)]) ma_reckon_d5 (by decide) rfl ?_
  refine rb_aload_n X 0 ma_reckon_d7 rfl 0 rfl ?_
  refine rb_iload X 4 ma_reckon_d8 4 rfl ?_
  refine rb_callVi (As := [.int x4]) (rest := []) X (ma_fetch_c l Z h) ma_fetch_w ⟨by decide, by decide⟩ rw_516 rw_518 rs_31 (q0 := 5) rfl rfl rfl rfl (Nat.le_of_ble_eq_true rfl) ma_reckon_d10 ⟨by decide, by decide⟩ (fun r10 S10 h => ?_)
  refine rb_istore X 6 [1, 2, 3, 4, 5, 6, 0] (L' := [(0, .ref (Z.1 5)), (1, .int x1), (2, .int x2), (3, .int x3), (4, .int x4), (5, .int r2), (6, .int r10)]) ma_reckon_d13 (by decide) rfl ?_
  refine rb_iload_n X 1 ma_reckon_d15 rfl 1 rfl ?_
  by_cases hc : x1 = 1
  · refine rb_lookup (off := 28) X 44 ma_reckon_d16 (by decide) (by rw [hc] <;> rfl) (by decide) ?_
    replace h := h.1 hc
    refine rb_aload_n X 0 ma_reckon_d44 rfl 0 rfl ?_
    refine rb_iload_n X 2 ma_reckon_d45 rfl 2 rfl ?_
    refine rb_iload X 5 ma_reckon_d46 5 rfl ?_
    refine rb_iload X 6 ma_reckon_d48 6 rfl ?_
    refine rb_iadd X ma_reckon_d50 ?_
    refine rb_callVv (As := [.int x2, .int (r2 + r10)]) (rest := []) X (ma_assign_c l Z h) ma_assign_w ⟨by decide, by decide⟩ rw_512 rw_514 rs_30 (q0 := 5) rfl rfl rfl rfl (Nat.le_of_ble_eq_true rfl) ma_reckon_d51 ⟨by decide, by decide⟩ (fun S51 h => ?_)
    refine rb_goto X 80 ma_reckon_d54 (by decide) ?_
    exact ma_reckon_k_80 X h
  replace h := h.2
  rename ¬ x1 = 1 => hc0
  by_cases hc : x1 = 2
  · refine rb_lookup (off := 41) X 57 ma_reckon_d16 (by decide) (by rw [hc] <;> rfl) (by decide) ?_
    replace h := h.1 hc
    refine rb_aload_n X 0 ma_reckon_d57 rfl 0 rfl ?_
    refine rb_iload_n X 2 ma_reckon_d58 rfl 2 rfl ?_
    refine rb_iload X 5 ma_reckon_d59 5 rfl ?_
    refine rb_iload X 6 ma_reckon_d61 6 rfl ?_
    refine rb_isub X ma_reckon_d63 ?_
    refine rb_callVv (As := [.int x2, .int (r2 - r10)]) (rest := []) X (ma_assign_c l Z h) ma_assign_w ⟨by decide, by decide⟩ rw_512 rw_514 rs_30 (q0 := 5) rfl rfl rfl rfl (Nat.le_of_ble_eq_true rfl) ma_reckon_d64 ⟨by decide, by decide⟩ (fun S64 h => ?_)
    refine rb_goto X 80 ma_reckon_d67 (by decide) ?_
    exact ma_reckon_k_80 X h
  replace h := h.2
  rename ¬ x1 = 2 => hc1
  refine rb_lookup (off := 54) X 70 ma_reckon_d16 (by decide) (by rw [lv_osw (k := 1) hc0 (by decide), lv_osw (k := 2) hc1 (by decide)] <;> rfl) (by decide) ?_
  replace h := h ⟨hc0, hc1⟩
  refine rb_aload_n X 0 ma_reckon_d70 rfl 0 rfl ?_
  refine rb_iload_n X 2 ma_reckon_d71 rfl 2 rfl ?_
  refine rb_iload X 5 ma_reckon_d72 5 rfl ?_
  refine rb_iload X 6 ma_reckon_d74 6 rfl ?_
  refine rb_imul X ma_reckon_d76 ?_
  refine rb_callVv (As := [.int x2, .int (r2 * r10)]) (rest := []) X (ma_assign_c l Z h) ma_assign_w ⟨by decide, by decide⟩ rw_512 rw_514 rs_30 (q0 := 5) rfl rfl rfl rfl (Nat.le_of_ble_eq_true rfl) ma_reckon_d77 ⟨by decide, by decide⟩ (fun S77 h => ?_)
  exact ma_reckon_k_80 X h
theorem ma_reckon_c (l : Launch) (Z : rb_Z) {K : rb_S → Prop} {x1 : Int32} {x2 : Int32} {x3 : Int32} {x4 : Int32} {S : rb_S} (h : ma_reckon_p_0 K x1 x2 x3 x4 S) : rb_Mv l ma_reckon_y ma_reckon_b 7 ma_reckon_rm Z [.ref (Z.1 5), .int x1, .int x2, .int x3, .int x4] S K := rb_startV (by decide) (Nat.le_of_ble_eq_true rfl) (fun p e s m args below meth c A X => ma_reckon_k_0 X h)
end
theorem ma_jump_d0 : decode ma_jump_b 0 = .ok (.iload_n 1, 1) := by decide +kernel
theorem ma_jump_d1 : decode ma_jump_b 1 = .ok (.bipush 9, 2) := by decide +kernel
theorem ma_jump_d3 : decode ma_jump_b 3 = .ok (.if_icmp .ne 9, 3) := by decide +kernel
theorem ma_jump_d6 : decode ma_jump_b 6 = .ok (.aload_n 0, 1) := by decide +kernel
theorem ma_jump_d7 : decode ma_jump_b 7 = .ok (.iload_n 2, 1) := by decide +kernel
theorem ma_jump_d8 : decode ma_jump_b 8 = .ok (.putfield 68, 3) := by decide +kernel
theorem ma_jump_d11 : decode ma_jump_b 11 = .ok (.return_, 1) := by decide +kernel
theorem ma_jump_d12 : decode ma_jump_b 12 = .ok (.aload_n 0, 1) := by decide +kernel
theorem ma_jump_d13 : decode ma_jump_b 13 = .ok (.iload_n 2, 1) := by decide +kernel
theorem ma_jump_d14 : decode ma_jump_b 14 = .ok (.invokevirtual 98, 3) := by decide +kernel
theorem ma_jump_d17 : decode ma_jump_b 17 = .ok (.istore 5, 2) := by decide +kernel
theorem ma_jump_d19 : decode ma_jump_b 19 = .ok (.aload_n 0, 1) := by decide +kernel
theorem ma_jump_d20 : decode ma_jump_b 20 = .ok (.iload_n 3, 1) := by decide +kernel
theorem ma_jump_d21 : decode ma_jump_b 21 = .ok (.invokevirtual 98, 3) := by decide +kernel
theorem ma_jump_d24 : decode ma_jump_b 24 = .ok (.istore 6, 2) := by decide +kernel
theorem ma_jump_d26 : decode ma_jump_b 26 = .ok (.iload_n 1, 1) := by decide +kernel
theorem ma_jump_d27 : decode ma_jump_b 27 = .ok (.bipush 10, 2) := by decide +kernel
theorem ma_jump_d29 : decode ma_jump_b 29 = .ok (.if_icmp .ne 10, 3) := by decide +kernel
theorem ma_jump_d32 : decode ma_jump_b 32 = .ok (.iload 5, 2) := by decide +kernel
theorem ma_jump_d34 : decode ma_jump_b 34 = .ok (.iload 6, 2) := by decide +kernel
theorem ma_jump_d36 : decode ma_jump_b 36 = .ok (.if_icmp .lt 16, 3) := by decide +kernel
theorem ma_jump_d39 : decode ma_jump_b 39 = .ok (.iload_n 1, 1) := by decide +kernel
theorem ma_jump_d40 : decode ma_jump_b 40 = .ok (.bipush 11, 2) := by decide +kernel
theorem ma_jump_d42 : decode ma_jump_b 42 = .ok (.if_icmp .ne 16, 3) := by decide +kernel
theorem ma_jump_d45 : decode ma_jump_b 45 = .ok (.iload 5, 2) := by decide +kernel
theorem ma_jump_d47 : decode ma_jump_b 47 = .ok (.iload 6, 2) := by decide +kernel
theorem ma_jump_d49 : decode ma_jump_b 49 = .ok (.if_icmp .ne 9, 3) := by decide +kernel
theorem ma_jump_d52 : decode ma_jump_b 52 = .ok (.aload_n 0, 1) := by decide +kernel
theorem ma_jump_d53 : decode ma_jump_b 53 = .ok (.iload 4, 2) := by decide +kernel
theorem ma_jump_d55 : decode ma_jump_b 55 = .ok (.putfield 68, 3) := by decide +kernel
theorem ma_jump_d58 : decode ma_jump_b 58 = .ok (.return_, 1) := by decide +kernel
abbrev ma_jump_rm : Room := { frames := 2, cells := 0, slots := 0, locals := 42 }
theorem ma_jump_w : rb_cw ma_jump_y ma_jump_b 7 none 4 := ⟨rw_539, rw_6, ⟨by decide, by decide⟩, by decide +kernel⟩
section
variable {p : Program} {l : Launch} {e : Env} {s : State} {m : MethodId} {args : Array Value} {below : List Frame} {meth : Method} {c : Code} {A : Nat → Prop} {Z : rb_Z}
def ma_jump_p_58 (K : rb_S → Prop) (x1 : Int32) (x2 : Int32) (x3 : Int32) (x4 : Int32) (x5 : Int32) (x6 : Int32) (S : rb_S) : Prop := K S
theorem ma_jump_k_58 {K : rb_S → Prop}  (X : rb_X p s m args meth c A Z ma_jump_b 7 "RoomMaker$Machine" none)  {x1 : Int32} {x2 : Int32} {x3 : Int32} {x4 : Int32} {x5 : Int32} {x6 : Int32} {S : rb_S} (h : ma_jump_p_58 K x1 x2 x3 x4 x5 x6 S) : rb_V p l e ma_jump_rm s m args below meth c A (MQ below (va_Qv K (rb_B Z A) A) args s ma_jump_rm.cells ma_jump_rm.slots A) Z 7 58 [(0, .ref (Z.1 5)), (1, .int x1), (2, .int x2), (3, .int x3), (4, .int x4), (5, .int x5), (6, .int x6)] [] S 0 0 := by
  unfold ma_jump_p_58 at h
  exact rb_vret X ma_jump_d58 h
def ma_jump_p_52 (K : rb_S → Prop) (x1 : Int32) (x2 : Int32) (x3 : Int32) (x4 : Int32) (x5 : Int32) (x6 : Int32) (S : rb_S) : Prop := ∀ S55 : rb_S, S55 = rb_u S 0 8 x4 → (ma_jump_p_58 K x1 x2 x3 x4 x5 x6 S55)
theorem ma_jump_k_52 {K : rb_S → Prop}  (X : rb_X p s m args meth c A Z ma_jump_b 7 "RoomMaker$Machine" none)  {x1 : Int32} {x2 : Int32} {x3 : Int32} {x4 : Int32} {x5 : Int32} {x6 : Int32} {S : rb_S} (h : ma_jump_p_52 K x1 x2 x3 x4 x5 x6 S) : rb_V p l e ma_jump_rm s m args below meth c A (MQ below (va_Qv K (rb_B Z A) A) args s ma_jump_rm.cells ma_jump_rm.slots A) Z 7 52 [(0, .ref (Z.1 5)), (1, .int x1), (2, .int x2), (3, .int x3), (4, .int x4), (5, .int x5), (6, .int x6)] [] S 0 0 := by
  unfold ma_jump_p_52 at h
  refine rb_aload_n X 0 ma_jump_d52 rfl 0 rfl ?_
  refine rb_iload X 4 ma_jump_d53 4 rfl ?_
  refine ma_q68 X ma_jump_d55 (fun S55 e55 => ?_)
  replace h := h S55 e55
  exact ma_jump_k_58 X h
def ma_jump_p_39 (K : rb_S → Prop) (x1 : Int32) (x2 : Int32) (x3 : Int32) (x4 : Int32) (x5 : Int32) (x6 : Int32) (S : rb_S) : Prop := (¬ x1 = 11 → ma_jump_p_58 K x1 x2 x3 x4 x5 x6 S) ∧ (x1 = 11 → (¬ x5 = x6 → ma_jump_p_58 K x1 x2 x3 x4 x5 x6 S) ∧ (x5 = x6 → ma_jump_p_52 K x1 x2 x3 x4 x5 x6 S))
theorem ma_jump_k_39 {K : rb_S → Prop}  (X : rb_X p s m args meth c A Z ma_jump_b 7 "RoomMaker$Machine" none)  {x1 : Int32} {x2 : Int32} {x3 : Int32} {x4 : Int32} {x5 : Int32} {x6 : Int32} {S : rb_S} (h : ma_jump_p_39 K x1 x2 x3 x4 x5 x6 S) : rb_V p l e ma_jump_rm s m args below meth c A (MQ below (va_Qv K (rb_B Z A) A) args s ma_jump_rm.cells ma_jump_rm.slots A) Z 7 39 [(0, .ref (Z.1 5)), (1, .int x1), (2, .int x2), (3, .int x3), (4, .int x4), (5, .int x5), (6, .int x6)] [] S 0 0 := by
  unfold ma_jump_p_39 at h
  refine rb_iload_n X 1 ma_jump_d39 rfl 1 rfl ?_
  refine rb_bipush X 11 ma_jump_d40 (by decide) ?_
  refine rb_icmp_ne X 58 ma_jump_d42 (by decide) (fun hc => ?_) (fun hc => ?_)
  · replace h := h.1 hc
    exact ma_jump_k_58 X h
  · replace h := h.2 hc
    refine rb_iload X 5 ma_jump_d45 5 rfl ?_
    refine rb_iload X 6 ma_jump_d47 6 rfl ?_
    refine rb_icmp_ne X 58 ma_jump_d49 (by decide) (fun hc => ?_) (fun hc => ?_)
    · replace h := h.1 hc
      exact ma_jump_k_58 X h
    · replace h := h.2 hc
      exact ma_jump_k_52 X h
def ma_jump_p_0 (K : rb_S → Prop) (x1 : Int32) (x2 : Int32) (x3 : Int32) (x4 : Int32) (S : rb_S) : Prop := (¬ x1 = 9 → ma_fetch_p_0 (fun r14 S14 => ma_fetch_p_0 (fun r21 S21 => (¬ x1 = 10 → ma_jump_p_39 K x1 x2 x3 x4 r14 r21 S21) ∧ (x1 = 10 → (r14 < r21 → ma_jump_p_52 K x1 x2 x3 x4 r14 r21 S21) ∧ (¬ r14 < r21 → ma_jump_p_39 K x1 x2 x3 x4 r14 r21 S21))) x3 S14) x2 S) ∧ (x1 = 9 → ∀ S8 : rb_S, S8 = rb_u S 0 8 x2 → (K S8))
theorem ma_jump_k_0 {K : rb_S → Prop}  (X : rb_X p s m args meth c A Z ma_jump_b 7 "RoomMaker$Machine" none)  {x1 : Int32} {x2 : Int32} {x3 : Int32} {x4 : Int32} {S : rb_S} (h : ma_jump_p_0 K x1 x2 x3 x4 S) : rb_V p l e ma_jump_rm s m args below meth c A (MQ below (va_Qv K (rb_B Z A) A) args s ma_jump_rm.cells ma_jump_rm.slots A) Z 7 0 [(0, .ref (Z.1 5)), (1, .int x1), (2, .int x2), (3, .int x3), (4, .int x4)] [] S 0 0 := by
  unfold ma_jump_p_0 at h
  refine rb_iload_n X 1 ma_jump_d0 rfl 1 rfl ?_
  refine rb_bipush X 9 ma_jump_d1 (by decide) ?_
  refine rb_icmp_ne X 12 ma_jump_d3 (by decide) (fun hc => ?_) (fun hc => ?_)
  · replace h := h.1 hc
    refine rb_aload_n X 0 ma_jump_d12 rfl 0 rfl ?_
    refine rb_iload_n X 2 ma_jump_d13 rfl 2 rfl ?_
    refine rb_callVi (As := [.int x2]) (rest := []) X (ma_fetch_c l Z h) ma_fetch_w ⟨by decide, by decide⟩ rw_516 rw_518 rs_31 (q0 := 5) rfl rfl rfl rfl (Nat.le_of_ble_eq_true rfl) ma_jump_d14 ⟨by decide, by decide⟩ (fun r14 S14 h => ?_)
    refine rb_istore X 5 [1, 2, 3, 4, 5, 0] (L' := [(0, .ref (Z.1 5)), (1, .int x1), (2, .int x2), (3, .int x3), (4, .int x4), (5, .int r14)]) ma_jump_d17 (by decide) rfl ?_
    refine rb_aload_n X 0 ma_jump_d19 rfl 0 rfl ?_
    refine rb_iload_n X 3 ma_jump_d20 rfl 3 rfl ?_
    refine rb_callVi (As := [.int x3]) (rest := []) X (ma_fetch_c l Z h) ma_fetch_w ⟨by decide, by decide⟩ rw_516 rw_518 rs_31 (q0 := 5) rfl rfl rfl rfl (Nat.le_of_ble_eq_true rfl) ma_jump_d21 ⟨by decide, by decide⟩ (fun r21 S21 h => ?_)
    refine rb_istore X 6 [1, 2, 3, 4, 5, 6, 0] (L' := [(0, .ref (Z.1 5)), (1, .int x1), (2, .int x2), (3, .int x3), (4, .int x4), (5, .int r14), (6, .int r21)]) ma_jump_d24 (by decide) rfl ?_
    refine rb_iload_n X 1 ma_jump_d26 rfl 1 rfl ?_
    refine rb_bipush X 10 ma_jump_d27 (by decide) ?_
    refine rb_icmp_ne X 39 ma_jump_d29 (by decide) (fun hc => ?_) (fun hc => ?_)
    · replace h := h.1 hc
      exact ma_jump_k_39 X h
    · replace h := h.2 hc
      refine rb_iload X 5 ma_jump_d32 5 rfl ?_
      refine rb_iload X 6 ma_jump_d34 6 rfl ?_
      refine rb_icmp_lt X 52 ma_jump_d36 (by decide) (fun hc => ?_) (fun hc => ?_)
      · replace h := h.1 hc
        exact ma_jump_k_52 X h
      · replace h := h.2 hc
        exact ma_jump_k_39 X h
  · replace h := h.2 hc
    refine rb_aload_n X 0 ma_jump_d6 rfl 0 rfl ?_
    refine rb_iload_n X 2 ma_jump_d7 rfl 2 rfl ?_
    refine ma_q68 X ma_jump_d8 (fun S8 e8 => ?_)
    replace h := h S8 e8
    exact rb_vret X ma_jump_d11 h
theorem ma_jump_c (l : Launch) (Z : rb_Z) {K : rb_S → Prop} {x1 : Int32} {x2 : Int32} {x3 : Int32} {x4 : Int32} {S : rb_S} (h : ma_jump_p_0 K x1 x2 x3 x4 S) : rb_Mv l ma_jump_y ma_jump_b 7 ma_jump_rm Z [.ref (Z.1 5), .int x1, .int x2, .int x3, .int x4] S K := rb_startV (by decide) (Nat.le_of_ble_eq_true rfl) (fun p e s m args below meth c A X => ma_jump_k_0 X h)
end
theorem ma_step_d0 : decode ma_step_b 0 = .ok (.aload_n 0, 1) := by decide +kernel
theorem ma_step_d1 : decode ma_step_b 1 = .ok (.getfield 68, 3) := by decide +kernel
theorem ma_step_d4 : decode ma_step_b 4 = .ok (.istore_n 2, 1) := by decide +kernel
theorem ma_step_d5 : decode ma_step_b 5 = .ok (.aload_n 0, 1) := by decide +kernel
theorem ma_step_d6 : decode ma_step_b 6 = .ok (.getfield 15, 3) := by decide +kernel
theorem ma_step_d9 : decode ma_step_b 9 = .ok (.iload_n 2, 1) := by decide +kernel
theorem ma_step_d10 : decode ma_step_b 10 = .ok (.iaload, 1) := by decide +kernel
theorem ma_step_d11 : decode ma_step_b 11 = .ok (.istore_n 3, 1) := by decide +kernel
theorem ma_step_d12 : decode ma_step_b 12 = .ok (.aload_n 0, 1) := by decide +kernel
theorem ma_step_d13 : decode ma_step_b 13 = .ok (.getfield 18, 3) := by decide +kernel
theorem ma_step_d16 : decode ma_step_b 16 = .ok (.iload_n 2, 1) := by decide +kernel
theorem ma_step_d17 : decode ma_step_b 17 = .ok (.iaload, 1) := by decide +kernel
theorem ma_step_d18 : decode ma_step_b 18 = .ok (.istore 4, 2) := by decide +kernel
theorem ma_step_d20 : decode ma_step_b 20 = .ok (.aload_n 0, 1) := by decide +kernel
theorem ma_step_d21 : decode ma_step_b 21 = .ok (.iload_n 2, 1) := by decide +kernel
theorem ma_step_d22 : decode ma_step_b 22 = .ok (.iconst 1, 1) := by decide +kernel
theorem ma_step_d23 : decode ma_step_b 23 = .ok (.iadd, 1) := by decide +kernel
theorem ma_step_d24 : decode ma_step_b 24 = .ok (.putfield 68, 3) := by decide +kernel
theorem ma_step_d27 : decode ma_step_b 27 = .ok (.aload_n 0, 1) := by decide +kernel
theorem ma_step_d28 : decode ma_step_b 28 = .ok (.getfield 9, 3) := by decide +kernel
theorem ma_step_d31 : decode ma_step_b 31 = .ok (.iload_n 2, 1) := by decide +kernel
theorem ma_step_d32 : decode ma_step_b 32 = .ok (.iaload, 1) := by decide +kernel
theorem ma_step_d33 : decode ma_step_b 33 = .ok (.tableswitch 194 0 12 #[67, 172, 172, 172, 77, 91, 103, 125, 147, 194, 194, 194, 159], 67) := by decide +kernel
theorem ma_step_d100 : decode ma_step_b 100 = .ok (.aload_n 0, 1) := by decide +kernel
theorem ma_step_d101 : decode ma_step_b 101 = .ok (.iload_n 3, 1) := by decide +kernel
theorem ma_step_d102 : decode ma_step_b 102 = .ok (.iload 4, 2) := by decide +kernel
theorem ma_step_d104 : decode ma_step_b 104 = .ok (.invokevirtual 94, 3) := by decide +kernel
theorem ma_step_d107 : decode ma_step_b 107 = .ok (.goto 139, 3) := by decide +kernel
theorem ma_step_d110 : decode ma_step_b 110 = .ok (.aload_n 0, 1) := by decide +kernel
theorem ma_step_d111 : decode ma_step_b 111 = .ok (.iload_n 3, 1) := by decide +kernel
theorem ma_step_d112 : decode ma_step_b 112 = .ok (.aload_n 0, 1) := by decide +kernel
theorem ma_step_d113 : decode ma_step_b 113 = .ok (.iload 4, 2) := by decide +kernel
theorem ma_step_d115 : decode ma_step_b 115 = .ok (.invokevirtual 98, 3) := by decide +kernel
theorem ma_step_d118 : decode ma_step_b 118 = .ok (.invokevirtual 94, 3) := by decide +kernel
theorem ma_step_d121 : decode ma_step_b 121 = .ok (.goto 125, 3) := by decide +kernel
theorem ma_step_d124 : decode ma_step_b 124 = .ok (.aload_n 0, 1) := by decide +kernel
theorem ma_step_d125 : decode ma_step_b 125 = .ok (.iload_n 3, 1) := by decide +kernel
theorem ma_step_d126 : decode ma_step_b 126 = .ok (.aload_n 1, 1) := by decide +kernel
theorem ma_step_d127 : decode ma_step_b 127 = .ok (.invokevirtual 102, 3) := by decide +kernel
theorem ma_step_d130 : decode ma_step_b 130 = .ok (.invokevirtual 94, 3) := by decide +kernel
theorem ma_step_d133 : decode ma_step_b 133 = .ok (.goto 113, 3) := by decide +kernel
theorem ma_step_d136 : decode ma_step_b 136 = .ok (.aload_n 0, 1) := by decide +kernel
theorem ma_step_d137 : decode ma_step_b 137 = .ok (.iload_n 3, 1) := by decide +kernel
theorem ma_step_d138 : decode ma_step_b 138 = .ok (.aload_n 0, 1) := by decide +kernel
theorem ma_step_d139 : decode ma_step_b 139 = .ok (.getfield 27, 3) := by decide +kernel
theorem ma_step_d142 : decode ma_step_b 142 = .ok (.aload_n 0, 1) := by decide +kernel
theorem ma_step_d143 : decode ma_step_b 143 = .ok (.iload 4, 2) := by decide +kernel
theorem ma_step_d145 : decode ma_step_b 145 = .ok (.invokevirtual 98, 3) := by decide +kernel
theorem ma_step_d148 : decode ma_step_b 148 = .ok (.bipush 15, 2) := by decide +kernel
theorem ma_step_d150 : decode ma_step_b 150 = .ok (.iand, 1) := by decide +kernel
theorem ma_step_d151 : decode ma_step_b 151 = .ok (.iaload, 1) := by decide +kernel
theorem ma_step_d152 : decode ma_step_b 152 = .ok (.invokevirtual 94, 3) := by decide +kernel
theorem ma_step_d155 : decode ma_step_b 155 = .ok (.goto 91, 3) := by decide +kernel
theorem ma_step_d158 : decode ma_step_b 158 = .ok (.aload_n 0, 1) := by decide +kernel
theorem ma_step_d159 : decode ma_step_b 159 = .ok (.getfield 27, 3) := by decide +kernel
theorem ma_step_d162 : decode ma_step_b 162 = .ok (.aload_n 0, 1) := by decide +kernel
theorem ma_step_d163 : decode ma_step_b 163 = .ok (.iload_n 3, 1) := by decide +kernel
theorem ma_step_d164 : decode ma_step_b 164 = .ok (.invokevirtual 98, 3) := by decide +kernel
theorem ma_step_d167 : decode ma_step_b 167 = .ok (.bipush 15, 2) := by decide +kernel
theorem ma_step_d169 : decode ma_step_b 169 = .ok (.iand, 1) := by decide +kernel
theorem ma_step_d170 : decode ma_step_b 170 = .ok (.aload_n 0, 1) := by decide +kernel
theorem ma_step_d171 : decode ma_step_b 171 = .ok (.iload 4, 2) := by decide +kernel
theorem ma_step_d173 : decode ma_step_b 173 = .ok (.invokevirtual 98, 3) := by decide +kernel
theorem ma_step_d176 : decode ma_step_b 176 = .ok (.iastore, 1) := by decide +kernel
theorem ma_step_d177 : decode ma_step_b 177 = .ok (.goto 69, 3) := by decide +kernel
theorem ma_step_d180 : decode ma_step_b 180 = .ok (.aload_n 0, 1) := by decide +kernel
theorem ma_step_d181 : decode ma_step_b 181 = .ok (.aload_n 0, 1) := by decide +kernel
theorem ma_step_d182 : decode ma_step_b 182 = .ok (.iload_n 3, 1) := by decide +kernel
theorem ma_step_d183 : decode ma_step_b 183 = .ok (.invokevirtual 98, 3) := by decide +kernel
theorem ma_step_d186 : decode ma_step_b 186 = .ok (.invokevirtual 107, 3) := by decide +kernel
theorem ma_step_d189 : decode ma_step_b 189 = .ok (.goto 57, 3) := by decide +kernel
theorem ma_step_d192 : decode ma_step_b 192 = .ok (.aload_n 0, 1) := by decide +kernel
theorem ma_step_d193 : decode ma_step_b 193 = .ok (.dup, 1) := by decide +kernel
theorem ma_step_d194 : decode ma_step_b 194 = .ok (.getfield 80, 3) := by decide +kernel
theorem ma_step_d197 : decode ma_step_b 197 = .ok (.iconst 1, 1) := by decide +kernel
theorem ma_step_d198 : decode ma_step_b 198 = .ok (.iadd, 1) := by decide +kernel
theorem ma_step_d199 : decode ma_step_b 199 = .ok (.putfield 80, 3) := by decide +kernel
theorem ma_step_d202 : decode ma_step_b 202 = .ok (.goto 44, 3) := by decide +kernel
theorem ma_step_d205 : decode ma_step_b 205 = .ok (.aload_n 0, 1) := by decide +kernel
theorem ma_step_d206 : decode ma_step_b 206 = .ok (.aload_n 0, 1) := by decide +kernel
theorem ma_step_d207 : decode ma_step_b 207 = .ok (.getfield 9, 3) := by decide +kernel
theorem ma_step_d210 : decode ma_step_b 210 = .ok (.iload_n 2, 1) := by decide +kernel
theorem ma_step_d211 : decode ma_step_b 211 = .ok (.iaload, 1) := by decide +kernel
theorem ma_step_d212 : decode ma_step_b 212 = .ok (.iload_n 3, 1) := by decide +kernel
theorem ma_step_d213 : decode ma_step_b 213 = .ok (.iload 4, 2) := by decide +kernel
theorem ma_step_d215 : decode ma_step_b 215 = .ok (.aload_n 0, 1) := by decide +kernel
theorem ma_step_d216 : decode ma_step_b 216 = .ok (.getfield 21, 3) := by decide +kernel
theorem ma_step_d219 : decode ma_step_b 219 = .ok (.iload_n 2, 1) := by decide +kernel
theorem ma_step_d220 : decode ma_step_b 220 = .ok (.iaload, 1) := by decide +kernel
theorem ma_step_d221 : decode ma_step_b 221 = .ok (.invokevirtual 111, 3) := by decide +kernel
theorem ma_step_d224 : decode ma_step_b 224 = .ok (.goto 22, 3) := by decide +kernel
theorem ma_step_d227 : decode ma_step_b 227 = .ok (.aload_n 0, 1) := by decide +kernel
theorem ma_step_d228 : decode ma_step_b 228 = .ok (.aload_n 0, 1) := by decide +kernel
theorem ma_step_d229 : decode ma_step_b 229 = .ok (.getfield 9, 3) := by decide +kernel
theorem ma_step_d232 : decode ma_step_b 232 = .ok (.iload_n 2, 1) := by decide +kernel
theorem ma_step_d233 : decode ma_step_b 233 = .ok (.iaload, 1) := by decide +kernel
theorem ma_step_d234 : decode ma_step_b 234 = .ok (.iload_n 3, 1) := by decide +kernel
theorem ma_step_d235 : decode ma_step_b 235 = .ok (.iload 4, 2) := by decide +kernel
theorem ma_step_d237 : decode ma_step_b 237 = .ok (.aload_n 0, 1) := by decide +kernel
theorem ma_step_d238 : decode ma_step_b 238 = .ok (.getfield 21, 3) := by decide +kernel
theorem ma_step_d241 : decode ma_step_b 241 = .ok (.iload_n 2, 1) := by decide +kernel
theorem ma_step_d242 : decode ma_step_b 242 = .ok (.iaload, 1) := by decide +kernel
theorem ma_step_d243 : decode ma_step_b 243 = .ok (.invokevirtual 115, 3) := by decide +kernel
theorem ma_step_d246 : decode ma_step_b 246 = .ok (.return_, 1) := by decide +kernel
abbrev ma_step_rm : Room := { frames := 3, cells := 0, slots := 0, locals := 68 }
theorem ma_step_w : rb_cw ma_step_y ma_step_b 5 none 1 := ⟨rw_511, rw_6, ⟨by decide, by decide⟩, by decide +kernel⟩
section
variable {p : Program} {l : Launch} {e : Env} {s : State} {m : MethodId} {args : Array Value} {below : List Frame} {meth : Method} {c : Code} {A : Nat → Prop} {Z : rb_Z}
def ma_step_p_246 (K : rb_S → Prop) (x2 : Int32) (x3 : Int32) (x4 : Int32) (S : rb_S) : Prop := K S
theorem ma_step_k_246 {K : rb_S → Prop}  (X : rb_X p s m args meth c A Z ma_step_b 5 "RoomMaker$Machine" none)  {x2 : Int32} {x3 : Int32} {x4 : Int32} {S : rb_S} (h : ma_step_p_246 K x2 x3 x4 S) : rb_V p l e ma_step_rm s m args below meth c A (MQ below (va_Qv K (rb_B Z A) A) args s ma_step_rm.cells ma_step_rm.slots A) Z 5 246 [(0, .ref (Z.1 5)), (1, .ref (Z.1 2)), (2, .int x2), (3, .int x3), (4, .int x4)] [] S 0 0 := by
  unfold ma_step_p_246 at h
  exact rb_vret X ma_step_d246 h
def ma_step_p_0 (K : rb_S → Prop)  (S : rb_S) : Prop := ∀ v4 : Int32, v4 = (S 0 8) → (vp_in v4 64 ∧ (∀ v11 : Int32, v11 = (S 17 v4.toNatClampNeg) → (vp_in v4 64 ∧ (∀ v18 : Int32, v18 = (S 18 v4.toNatClampNeg) → (∀ S24 : rb_S, S24 = rb_u S 0 8 (v4 + 1) → (vp_in v4 64 ∧ (((S24 16 v4.toNatClampNeg) = 0 → ma_assign_p_0 (fun S104 => ma_step_p_246 K v4 v11 v18 S104) v11 v18 S24) ∧ ((S24 16 v4.toNatClampNeg) = 1 → vp_in v4 64 ∧ (vp_in v4 64 ∧ (ma_reckon_p_0 (fun S221 => ma_step_p_246 K v4 v11 v18 S221) (S24 16 v4.toNatClampNeg) v11 v18 (S24 19 v4.toNatClampNeg) S24))) ∧ ((S24 16 v4.toNatClampNeg) = 2 → vp_in v4 64 ∧ (vp_in v4 64 ∧ (ma_reckon_p_0 (fun S221 => ma_step_p_246 K v4 v11 v18 S221) (S24 16 v4.toNatClampNeg) v11 v18 (S24 19 v4.toNatClampNeg) S24))) ∧ ((S24 16 v4.toNatClampNeg) = 3 → vp_in v4 64 ∧ (vp_in v4 64 ∧ (ma_reckon_p_0 (fun S221 => ma_step_p_246 K v4 v11 v18 S221) (S24 16 v4.toNatClampNeg) v11 v18 (S24 19 v4.toNatClampNeg) S24))) ∧ ((S24 16 v4.toNatClampNeg) = 4 → ma_fetch_p_0 (fun r115 S115 => ma_assign_p_0 (fun S118 => ma_step_p_246 K v4 v11 v18 S118) v11 r115 S115) v18 S24) ∧ ((S24 16 v4.toNatClampNeg) = 5 → ip_next_p_0 (fun r127 S127 => ma_assign_p_0 (fun S130 => ma_step_p_246 K v4 v11 v18 S130) v11 r127 S127) S24) ∧ ((S24 16 v4.toNatClampNeg) = 6 → ma_fetch_p_0 (fun r145 S145 => vp_in (r145 &&& 15) 16 ∧ (ma_assign_p_0 (fun S152 => ma_step_p_246 K v4 v11 v18 S152) v11 (S145 21 (r145 &&& 15).toNatClampNeg) S145)) v18 S24) ∧ ((S24 16 v4.toNatClampNeg) = 7 → ma_fetch_p_0 (fun r164 S164 => ma_fetch_p_0 (fun r173 S173 => vp_in (r164 &&& 15) 16 ∧ ∀ S176 : rb_S, S176 = rb_u S173 21 (r164 &&& 15).toNatClampNeg r173 → (ma_step_p_246 K v4 v11 v18 S176)) v18 S164) v11 S24) ∧ ((S24 16 v4.toNatClampNeg) = 8 → ma_fetch_p_0 (fun r183 S183 => ma_write_p_0 (fun S186 => ma_step_p_246 K v4 v11 v18 S186) r183 S183) v11 S24) ∧ ((S24 16 v4.toNatClampNeg) = 9 → vp_in v4 64 ∧ (vp_in v4 64 ∧ (ma_jump_p_0 (fun S243 => ma_step_p_246 K v4 v11 v18 S243) (S24 16 v4.toNatClampNeg) v11 v18 (S24 19 v4.toNatClampNeg) S24))) ∧ ((S24 16 v4.toNatClampNeg) = 10 → vp_in v4 64 ∧ (vp_in v4 64 ∧ (ma_jump_p_0 (fun S243 => ma_step_p_246 K v4 v11 v18 S243) (S24 16 v4.toNatClampNeg) v11 v18 (S24 19 v4.toNatClampNeg) S24))) ∧ ((S24 16 v4.toNatClampNeg) = 11 → vp_in v4 64 ∧ (vp_in v4 64 ∧ (ma_jump_p_0 (fun S243 => ma_step_p_246 K v4 v11 v18 S243) (S24 16 v4.toNatClampNeg) v11 v18 (S24 19 v4.toNatClampNeg) S24))) ∧ ((S24 16 v4.toNatClampNeg) = 12 → ∀ S199 : rb_S, S199 = rb_u S24 0 12 ((S24 0 12) + 1) → (ma_step_p_246 K v4 v11 v18 S199)) ∧ ((S24 16 v4.toNatClampNeg).toInt < 0 ∨ 12 < (S24 16 v4.toNatClampNeg).toInt → vp_in v4 64 ∧ (vp_in v4 64 ∧ (ma_jump_p_0 (fun S243 => ma_step_p_246 K v4 v11 v18 S243) (S24 16 v4.toNatClampNeg) v11 v18 (S24 19 v4.toNatClampNeg) S24))))))))))
theorem ma_step_k_0 {K : rb_S → Prop}  (X : rb_X p s m args meth c A Z ma_step_b 5 "RoomMaker$Machine" none)   {S : rb_S} (h : ma_step_p_0 K S) : rb_V p l e ma_step_rm s m args below meth c A (MQ below (va_Qv K (rb_B Z A) A) args s ma_step_rm.cells ma_step_rm.slots A) Z 5 0 [(0, .ref (Z.1 5)), (1, .ref (Z.1 2))] [] S 0 0 := by
  unfold ma_step_p_0 at h
  refine rb_aload_n X 0 ma_step_d0 rfl 0 rfl ?_
  refine ma_g68 X ma_step_d1 ?_
  refine rb_topi (fun v4 e4 => ?_)
  replace h := h v4 e4
  refine rb_istore_n X 2 [1, 2, 0] (L' := [(0, .ref (Z.1 5)), (1, .ref (Z.1 2)), (2, .int v4)]) ma_step_d4 rfl (by decide) rfl ?_
  refine rb_aload_n X 0 ma_step_d5 rfl 0 rfl ?_
  refine ma_g15 X ma_step_d6 ?_
  refine rb_iload_n X 2 ma_step_d9 rfl 2 rfl ?_
  obtain ⟨hin, h⟩ := h
  refine rb_iald X 17 (rb_a17 Z) ma_step_d10 hin ?_
  refine rb_topi (fun v11 e11 => ?_)
  replace h := h v11 e11
  refine rb_istore_n X 3 [1, 2, 3, 0] (L' := [(0, .ref (Z.1 5)), (1, .ref (Z.1 2)), (2, .int v4), (3, .int v11)]) ma_step_d11 rfl (by decide) rfl ?_
  refine rb_aload_n X 0 ma_step_d12 rfl 0 rfl ?_
  refine ma_g18 X ma_step_d13 ?_
  refine rb_iload_n X 2 ma_step_d16 rfl 2 rfl ?_
  obtain ⟨hin, h⟩ := h
  refine rb_iald X 18 (rb_a18 Z) ma_step_d17 hin ?_
  refine rb_topi (fun v18 e18 => ?_)
  replace h := h v18 e18
  refine rb_istore X 4 [1, 2, 3, 4, 0] (L' := [(0, .ref (Z.1 5)), (1, .ref (Z.1 2)), (2, .int v4), (3, .int v11), (4, .int v18)]) ma_step_d18 (by decide) rfl ?_
  refine rb_aload_n X 0 ma_step_d20 rfl 0 rfl ?_
  refine rb_iload_n X 2 ma_step_d21 rfl 2 rfl ?_
  refine rb_iconst X 1 ma_step_d22 (by decide) ?_
  refine rb_iadd X ma_step_d23 ?_
  refine ma_q68 X ma_step_d24 (fun S24 e24 => ?_)
  replace h := h S24 e24
  refine rb_aload_n X 0 ma_step_d27 rfl 0 rfl ?_
  refine ma_g9 X ma_step_d28 ?_
  refine rb_iload_n X 2 ma_step_d31 rfl 2 rfl ?_
  obtain ⟨hin, h⟩ := h
  refine rb_iald X 16 (rb_a16 Z) ma_step_d32 hin ?_
  by_cases hc : (S24 16 v4.toNatClampNeg) = 0
  · refine rb_tabIn X 100 ma_step_d33 (by rw [hc]; decide) (by rw [hc]; decide) (by rw [hc]; rfl) (by decide) ?_
    replace h := h.1 hc
    refine rb_aload_n X 0 ma_step_d100 rfl 0 rfl ?_
    refine rb_iload_n X 3 ma_step_d101 rfl 3 rfl ?_
    refine rb_iload X 4 ma_step_d102 4 rfl ?_
    refine rb_callVv (As := [.int v11, .int v18]) (rest := []) X (ma_assign_c l Z h) ma_assign_w ⟨by decide, by decide⟩ rw_512 rw_514 rs_30 (q0 := 5) rfl rfl rfl rfl (Nat.le_of_ble_eq_true rfl) ma_step_d104 ⟨by decide, by decide⟩ (fun S104 h => ?_)
    refine rb_goto X 246 ma_step_d107 (by decide) ?_
    exact ma_step_k_246 X h
  replace h := h.2
  have hc0 := lv_neT (k := 0) (a := 0) hc (by decide)
  clear hc
  by_cases hc : (S24 16 v4.toNatClampNeg) = 1
  · refine rb_tabIn X 205 ma_step_d33 (by rw [hc]; decide) (by rw [hc]; decide) (by rw [hc]; rfl) (by decide) ?_
    replace h := h.1 hc
    refine rb_aload_n X 0 ma_step_d205 rfl 0 rfl ?_
    refine rb_aload_n X 0 ma_step_d206 rfl 0 rfl ?_
    refine ma_g9 X ma_step_d207 ?_
    refine rb_iload_n X 2 ma_step_d210 rfl 2 rfl ?_
    obtain ⟨hin, h⟩ := h
    refine rb_iald X 16 (rb_a16 Z) ma_step_d211 hin ?_
    refine rb_iload_n X 3 ma_step_d212 rfl 3 rfl ?_
    refine rb_iload X 4 ma_step_d213 4 rfl ?_
    refine rb_aload_n X 0 ma_step_d215 rfl 0 rfl ?_
    refine ma_g21 X ma_step_d216 ?_
    refine rb_iload_n X 2 ma_step_d219 rfl 2 rfl ?_
    obtain ⟨hin, h⟩ := h
    refine rb_iald X 19 (rb_a19 Z) ma_step_d220 hin ?_
    refine rb_callVv (As := [.int (S24 16 v4.toNatClampNeg), .int v11, .int v18, .int (S24 19 v4.toNatClampNeg)]) (rest := []) X (ma_reckon_c l Z h) ma_reckon_w ⟨by decide, by decide⟩ rw_532 rw_534 rs_35 (q0 := 5) rfl rfl rfl rfl (Nat.le_of_ble_eq_true rfl) ma_step_d221 ⟨by decide, by decide⟩ (fun S221 h => ?_)
    refine rb_goto X 246 ma_step_d224 (by decide) ?_
    exact ma_step_k_246 X h
  replace h := h.2
  have hc1 := lv_neT (k := 1) (a := 1) hc (by decide)
  clear hc
  by_cases hc : (S24 16 v4.toNatClampNeg) = 2
  · refine rb_tabIn X 205 ma_step_d33 (by rw [hc]; decide) (by rw [hc]; decide) (by rw [hc]; rfl) (by decide) ?_
    replace h := h.1 hc
    refine rb_aload_n X 0 ma_step_d205 rfl 0 rfl ?_
    refine rb_aload_n X 0 ma_step_d206 rfl 0 rfl ?_
    refine ma_g9 X ma_step_d207 ?_
    refine rb_iload_n X 2 ma_step_d210 rfl 2 rfl ?_
    obtain ⟨hin, h⟩ := h
    refine rb_iald X 16 (rb_a16 Z) ma_step_d211 hin ?_
    refine rb_iload_n X 3 ma_step_d212 rfl 3 rfl ?_
    refine rb_iload X 4 ma_step_d213 4 rfl ?_
    refine rb_aload_n X 0 ma_step_d215 rfl 0 rfl ?_
    refine ma_g21 X ma_step_d216 ?_
    refine rb_iload_n X 2 ma_step_d219 rfl 2 rfl ?_
    obtain ⟨hin, h⟩ := h
    refine rb_iald X 19 (rb_a19 Z) ma_step_d220 hin ?_
    refine rb_callVv (As := [.int (S24 16 v4.toNatClampNeg), .int v11, .int v18, .int (S24 19 v4.toNatClampNeg)]) (rest := []) X (ma_reckon_c l Z h) ma_reckon_w ⟨by decide, by decide⟩ rw_532 rw_534 rs_35 (q0 := 5) rfl rfl rfl rfl (Nat.le_of_ble_eq_true rfl) ma_step_d221 ⟨by decide, by decide⟩ (fun S221 h => ?_)
    refine rb_goto X 246 ma_step_d224 (by decide) ?_
    exact ma_step_k_246 X h
  replace h := h.2
  have hc2 := lv_neT (k := 2) (a := 2) hc (by decide)
  clear hc
  by_cases hc : (S24 16 v4.toNatClampNeg) = 3
  · refine rb_tabIn X 205 ma_step_d33 (by rw [hc]; decide) (by rw [hc]; decide) (by rw [hc]; rfl) (by decide) ?_
    replace h := h.1 hc
    refine rb_aload_n X 0 ma_step_d205 rfl 0 rfl ?_
    refine rb_aload_n X 0 ma_step_d206 rfl 0 rfl ?_
    refine ma_g9 X ma_step_d207 ?_
    refine rb_iload_n X 2 ma_step_d210 rfl 2 rfl ?_
    obtain ⟨hin, h⟩ := h
    refine rb_iald X 16 (rb_a16 Z) ma_step_d211 hin ?_
    refine rb_iload_n X 3 ma_step_d212 rfl 3 rfl ?_
    refine rb_iload X 4 ma_step_d213 4 rfl ?_
    refine rb_aload_n X 0 ma_step_d215 rfl 0 rfl ?_
    refine ma_g21 X ma_step_d216 ?_
    refine rb_iload_n X 2 ma_step_d219 rfl 2 rfl ?_
    obtain ⟨hin, h⟩ := h
    refine rb_iald X 19 (rb_a19 Z) ma_step_d220 hin ?_
    refine rb_callVv (As := [.int (S24 16 v4.toNatClampNeg), .int v11, .int v18, .int (S24 19 v4.toNatClampNeg)]) (rest := []) X (ma_reckon_c l Z h) ma_reckon_w ⟨by decide, by decide⟩ rw_532 rw_534 rs_35 (q0 := 5) rfl rfl rfl rfl (Nat.le_of_ble_eq_true rfl) ma_step_d221 ⟨by decide, by decide⟩ (fun S221 h => ?_)
    refine rb_goto X 246 ma_step_d224 (by decide) ?_
    exact ma_step_k_246 X h
  replace h := h.2
  have hc3 := lv_neT (k := 3) (a := 3) hc (by decide)
  clear hc
  by_cases hc : (S24 16 v4.toNatClampNeg) = 4
  · refine rb_tabIn X 110 ma_step_d33 (by rw [hc]; decide) (by rw [hc]; decide) (by rw [hc]; rfl) (by decide) ?_
    replace h := h.1 hc
    refine rb_aload_n X 0 ma_step_d110 rfl 0 rfl ?_
    refine rb_iload_n X 3 ma_step_d111 rfl 3 rfl ?_
    refine rb_aload_n X 0 ma_step_d112 rfl 0 rfl ?_
    refine rb_iload X 4 ma_step_d113 4 rfl ?_
    refine rb_callVi (As := [.int v18]) (rest := [.int v11, .ref (Z.1 5)]) X (ma_fetch_c l Z h) ma_fetch_w ⟨by decide, by decide⟩ rw_516 rw_518 rs_31 (q0 := 5) rfl rfl rfl rfl (Nat.le_of_ble_eq_true rfl) ma_step_d115 ⟨by decide, by decide⟩ (fun r115 S115 h => ?_)
    refine rb_callVv (As := [.int v11, .int r115]) (rest := []) X (ma_assign_c l Z h) ma_assign_w ⟨by decide, by decide⟩ rw_512 rw_514 rs_30 (q0 := 5) rfl rfl rfl rfl (Nat.le_of_ble_eq_true rfl) ma_step_d118 ⟨by decide, by decide⟩ (fun S118 h => ?_)
    refine rb_goto X 246 ma_step_d121 (by decide) ?_
    exact ma_step_k_246 X h
  replace h := h.2
  have hc4 := lv_neT (k := 4) (a := 4) hc (by decide)
  clear hc
  by_cases hc : (S24 16 v4.toNatClampNeg) = 5
  · refine rb_tabIn X 124 ma_step_d33 (by rw [hc]; decide) (by rw [hc]; decide) (by rw [hc]; rfl) (by decide) ?_
    replace h := h.1 hc
    refine rb_aload_n X 0 ma_step_d124 rfl 0 rfl ?_
    refine rb_iload_n X 3 ma_step_d125 rfl 3 rfl ?_
    refine rb_aload_n X 1 ma_step_d126 rfl 1 rfl ?_
    refine rb_callVNi (As := []) (rest := [.int v11, .ref (Z.1 5)]) X (ip_next_c l Z h) ip_next_w ⟨by decide, by decide⟩ rn_524 rw_526 rs_33 (q0 := 2) rfl rfl rfl rfl (Nat.le_of_ble_eq_true rfl) ma_step_d127 ⟨by decide, by decide⟩ (fun r127 S127 h => ?_)
    refine rb_callVv (As := [.int v11, .int r127]) (rest := []) X (ma_assign_c l Z h) ma_assign_w ⟨by decide, by decide⟩ rw_512 rw_514 rs_30 (q0 := 5) rfl rfl rfl rfl (Nat.le_of_ble_eq_true rfl) ma_step_d130 ⟨by decide, by decide⟩ (fun S130 h => ?_)
    refine rb_goto X 246 ma_step_d133 (by decide) ?_
    exact ma_step_k_246 X h
  replace h := h.2
  have hc5 := lv_neT (k := 5) (a := 5) hc (by decide)
  clear hc
  by_cases hc : (S24 16 v4.toNatClampNeg) = 6
  · refine rb_tabIn X 136 ma_step_d33 (by rw [hc]; decide) (by rw [hc]; decide) (by rw [hc]; rfl) (by decide) ?_
    replace h := h.1 hc
    refine rb_aload_n X 0 ma_step_d136 rfl 0 rfl ?_
    refine rb_iload_n X 3 ma_step_d137 rfl 3 rfl ?_
    refine rb_aload_n X 0 ma_step_d138 rfl 0 rfl ?_
    refine ma_g27 X ma_step_d139 ?_
    refine rb_aload_n X 0 ma_step_d142 rfl 0 rfl ?_
    refine rb_iload X 4 ma_step_d143 4 rfl ?_
    refine rb_callVi (As := [.int v18]) (rest := [.ref (Z.1 21), .int v11, .ref (Z.1 5)]) X (ma_fetch_c l Z h) ma_fetch_w ⟨by decide, by decide⟩ rw_516 rw_518 rs_31 (q0 := 5) rfl rfl rfl rfl (Nat.le_of_ble_eq_true rfl) ma_step_d145 ⟨by decide, by decide⟩ (fun r145 S145 h => ?_)
    refine rb_bipush X 15 ma_step_d148 (by decide) ?_
    refine rb_iand X ma_step_d150 ?_
    obtain ⟨hin, h⟩ := h
    refine rb_iald X 21 (rb_a21 Z) ma_step_d151 hin ?_
    refine rb_callVv (As := [.int v11, .int (S145 21 (r145 &&& 15).toNatClampNeg)]) (rest := []) X (ma_assign_c l Z h) ma_assign_w ⟨by decide, by decide⟩ rw_512 rw_514 rs_30 (q0 := 5) rfl rfl rfl rfl (Nat.le_of_ble_eq_true rfl) ma_step_d152 ⟨by decide, by decide⟩ (fun S152 h => ?_)
    refine rb_goto X 246 ma_step_d155 (by decide) ?_
    exact ma_step_k_246 X h
  replace h := h.2
  have hc6 := lv_neT (k := 6) (a := 6) hc (by decide)
  clear hc
  by_cases hc : (S24 16 v4.toNatClampNeg) = 7
  · refine rb_tabIn X 158 ma_step_d33 (by rw [hc]; decide) (by rw [hc]; decide) (by rw [hc]; rfl) (by decide) ?_
    replace h := h.1 hc
    refine rb_aload_n X 0 ma_step_d158 rfl 0 rfl ?_
    refine ma_g27 X ma_step_d159 ?_
    refine rb_aload_n X 0 ma_step_d162 rfl 0 rfl ?_
    refine rb_iload_n X 3 ma_step_d163 rfl 3 rfl ?_
    refine rb_callVi (As := [.int v11]) (rest := [.ref (Z.1 21)]) X (ma_fetch_c l Z h) ma_fetch_w ⟨by decide, by decide⟩ rw_516 rw_518 rs_31 (q0 := 5) rfl rfl rfl rfl (Nat.le_of_ble_eq_true rfl) ma_step_d164 ⟨by decide, by decide⟩ (fun r164 S164 h => ?_)
    refine rb_bipush X 15 ma_step_d167 (by decide) ?_
    refine rb_iand X ma_step_d169 ?_
    refine rb_aload_n X 0 ma_step_d170 rfl 0 rfl ?_
    refine rb_iload X 4 ma_step_d171 4 rfl ?_
    refine rb_callVi (As := [.int v18]) (rest := [.int (r164 &&& 15), .ref (Z.1 21)]) X (ma_fetch_c l Z h) ma_fetch_w ⟨by decide, by decide⟩ rw_516 rw_518 rs_31 (q0 := 5) rfl rfl rfl rfl (Nat.le_of_ble_eq_true rfl) ma_step_d173 ⟨by decide, by decide⟩ (fun r173 S173 h => ?_)
    obtain ⟨hin, h⟩ := h
    refine rb_iast X 21 (rb_a21 Z) ma_step_d176 hin (fun S176 e176 => ?_)
    replace h := h S176 e176
    refine rb_goto X 246 ma_step_d177 (by decide) ?_
    exact ma_step_k_246 X h
  replace h := h.2
  have hc7 := lv_neT (k := 7) (a := 7) hc (by decide)
  clear hc
  by_cases hc : (S24 16 v4.toNatClampNeg) = 8
  · refine rb_tabIn X 180 ma_step_d33 (by rw [hc]; decide) (by rw [hc]; decide) (by rw [hc]; rfl) (by decide) ?_
    replace h := h.1 hc
    refine rb_aload_n X 0 ma_step_d180 rfl 0 rfl ?_
    refine rb_aload_n X 0 ma_step_d181 rfl 0 rfl ?_
    refine rb_iload_n X 3 ma_step_d182 rfl 3 rfl ?_
    refine rb_callVi (As := [.int v11]) (rest := [.ref (Z.1 5)]) X (ma_fetch_c l Z h) ma_fetch_w ⟨by decide, by decide⟩ rw_516 rw_518 rs_31 (q0 := 5) rfl rfl rfl rfl (Nat.le_of_ble_eq_true rfl) ma_step_d183 ⟨by decide, by decide⟩ (fun r183 S183 h => ?_)
    refine rb_callVv (As := [.int r183]) (rest := []) X (ma_write_c l Z h) ma_write_w ⟨by decide, by decide⟩ rw_528 rw_530 rs_34 (q0 := 5) rfl rfl rfl rfl (Nat.le_of_ble_eq_true rfl) ma_step_d186 ⟨by decide, by decide⟩ (fun S186 h => ?_)
    refine rb_goto X 246 ma_step_d189 (by decide) ?_
    exact ma_step_k_246 X h
  replace h := h.2
  have hc8 := lv_neT (k := 8) (a := 8) hc (by decide)
  clear hc
  by_cases hc : (S24 16 v4.toNatClampNeg) = 9
  · refine rb_tabIn X 227 ma_step_d33 (by rw [hc]; decide) (by rw [hc]; decide) (by rw [hc]; rfl) (by decide) ?_
    replace h := h.1 hc
    refine rb_aload_n X 0 ma_step_d227 rfl 0 rfl ?_
    refine rb_aload_n X 0 ma_step_d228 rfl 0 rfl ?_
    refine ma_g9 X ma_step_d229 ?_
    refine rb_iload_n X 2 ma_step_d232 rfl 2 rfl ?_
    obtain ⟨hin, h⟩ := h
    refine rb_iald X 16 (rb_a16 Z) ma_step_d233 hin ?_
    refine rb_iload_n X 3 ma_step_d234 rfl 3 rfl ?_
    refine rb_iload X 4 ma_step_d235 4 rfl ?_
    refine rb_aload_n X 0 ma_step_d237 rfl 0 rfl ?_
    refine ma_g21 X ma_step_d238 ?_
    refine rb_iload_n X 2 ma_step_d241 rfl 2 rfl ?_
    obtain ⟨hin, h⟩ := h
    refine rb_iald X 19 (rb_a19 Z) ma_step_d242 hin ?_
    refine rb_callVv (As := [.int (S24 16 v4.toNatClampNeg), .int v11, .int v18, .int (S24 19 v4.toNatClampNeg)]) (rest := []) X (ma_jump_c l Z h) ma_jump_w ⟨by decide, by decide⟩ rw_536 rw_538 rs_36 (q0 := 5) rfl rfl rfl rfl (Nat.le_of_ble_eq_true rfl) ma_step_d243 ⟨by decide, by decide⟩ (fun S243 h => ?_)
    exact ma_step_k_246 X h
  replace h := h.2
  have hc9 := lv_neT (k := 9) (a := 9) hc (by decide)
  clear hc
  by_cases hc : (S24 16 v4.toNatClampNeg) = 10
  · refine rb_tabIn X 227 ma_step_d33 (by rw [hc]; decide) (by rw [hc]; decide) (by rw [hc]; rfl) (by decide) ?_
    replace h := h.1 hc
    refine rb_aload_n X 0 ma_step_d227 rfl 0 rfl ?_
    refine rb_aload_n X 0 ma_step_d228 rfl 0 rfl ?_
    refine ma_g9 X ma_step_d229 ?_
    refine rb_iload_n X 2 ma_step_d232 rfl 2 rfl ?_
    obtain ⟨hin, h⟩ := h
    refine rb_iald X 16 (rb_a16 Z) ma_step_d233 hin ?_
    refine rb_iload_n X 3 ma_step_d234 rfl 3 rfl ?_
    refine rb_iload X 4 ma_step_d235 4 rfl ?_
    refine rb_aload_n X 0 ma_step_d237 rfl 0 rfl ?_
    refine ma_g21 X ma_step_d238 ?_
    refine rb_iload_n X 2 ma_step_d241 rfl 2 rfl ?_
    obtain ⟨hin, h⟩ := h
    refine rb_iald X 19 (rb_a19 Z) ma_step_d242 hin ?_
    refine rb_callVv (As := [.int (S24 16 v4.toNatClampNeg), .int v11, .int v18, .int (S24 19 v4.toNatClampNeg)]) (rest := []) X (ma_jump_c l Z h) ma_jump_w ⟨by decide, by decide⟩ rw_536 rw_538 rs_36 (q0 := 5) rfl rfl rfl rfl (Nat.le_of_ble_eq_true rfl) ma_step_d243 ⟨by decide, by decide⟩ (fun S243 h => ?_)
    exact ma_step_k_246 X h
  replace h := h.2
  have hc10 := lv_neT (k := 10) (a := 10) hc (by decide)
  clear hc
  by_cases hc : (S24 16 v4.toNatClampNeg) = 11
  · refine rb_tabIn X 227 ma_step_d33 (by rw [hc]; decide) (by rw [hc]; decide) (by rw [hc]; rfl) (by decide) ?_
    replace h := h.1 hc
    refine rb_aload_n X 0 ma_step_d227 rfl 0 rfl ?_
    refine rb_aload_n X 0 ma_step_d228 rfl 0 rfl ?_
    refine ma_g9 X ma_step_d229 ?_
    refine rb_iload_n X 2 ma_step_d232 rfl 2 rfl ?_
    obtain ⟨hin, h⟩ := h
    refine rb_iald X 16 (rb_a16 Z) ma_step_d233 hin ?_
    refine rb_iload_n X 3 ma_step_d234 rfl 3 rfl ?_
    refine rb_iload X 4 ma_step_d235 4 rfl ?_
    refine rb_aload_n X 0 ma_step_d237 rfl 0 rfl ?_
    refine ma_g21 X ma_step_d238 ?_
    refine rb_iload_n X 2 ma_step_d241 rfl 2 rfl ?_
    obtain ⟨hin, h⟩ := h
    refine rb_iald X 19 (rb_a19 Z) ma_step_d242 hin ?_
    refine rb_callVv (As := [.int (S24 16 v4.toNatClampNeg), .int v11, .int v18, .int (S24 19 v4.toNatClampNeg)]) (rest := []) X (ma_jump_c l Z h) ma_jump_w ⟨by decide, by decide⟩ rw_536 rw_538 rs_36 (q0 := 5) rfl rfl rfl rfl (Nat.le_of_ble_eq_true rfl) ma_step_d243 ⟨by decide, by decide⟩ (fun S243 h => ?_)
    exact ma_step_k_246 X h
  replace h := h.2
  have hc11 := lv_neT (k := 11) (a := 11) hc (by decide)
  clear hc
  by_cases hc : (S24 16 v4.toNatClampNeg) = 12
  · refine rb_tabIn X 192 ma_step_d33 (by rw [hc]; decide) (by rw [hc]; decide) (by rw [hc]; rfl) (by decide) ?_
    replace h := h.1 hc
    refine rb_aload_n X 0 ma_step_d192 rfl 0 rfl ?_
    refine rb_dup X ma_step_d193 rfl ?_
    refine ma_g80 X ma_step_d194 ?_
    refine rb_iconst X 1 ma_step_d197 (by decide) ?_
    refine rb_iadd X ma_step_d198 ?_
    refine ma_q80 X ma_step_d199 (fun S199 e199 => ?_)
    replace h := h S199 e199
    refine rb_goto X 246 ma_step_d202 (by decide) ?_
    exact ma_step_k_246 X h
  replace h := h.2
  have hc12 := lv_neT (k := 12) (a := 12) hc (by decide)
  clear hc
  have hc : (S24 16 v4.toNatClampNeg).toInt < 0 ∨ 12 < (S24 16 v4.toNatClampNeg).toInt := by omega
  refine rb_tabOut X 227 ma_step_d33 hc (by decide) ?_
  replace h := h hc
  refine rb_aload_n X 0 ma_step_d227 rfl 0 rfl ?_
  refine rb_aload_n X 0 ma_step_d228 rfl 0 rfl ?_
  refine ma_g9 X ma_step_d229 ?_
  refine rb_iload_n X 2 ma_step_d232 rfl 2 rfl ?_
  obtain ⟨hin, h⟩ := h
  refine rb_iald X 16 (rb_a16 Z) ma_step_d233 hin ?_
  refine rb_iload_n X 3 ma_step_d234 rfl 3 rfl ?_
  refine rb_iload X 4 ma_step_d235 4 rfl ?_
  refine rb_aload_n X 0 ma_step_d237 rfl 0 rfl ?_
  refine ma_g21 X ma_step_d238 ?_
  refine rb_iload_n X 2 ma_step_d241 rfl 2 rfl ?_
  obtain ⟨hin, h⟩ := h
  refine rb_iald X 19 (rb_a19 Z) ma_step_d242 hin ?_
  refine rb_callVv (As := [.int (S24 16 v4.toNatClampNeg), .int v11, .int v18, .int (S24 19 v4.toNatClampNeg)]) (rest := []) X (ma_jump_c l Z h) ma_jump_w ⟨by decide, by decide⟩ rw_536 rw_538 rs_36 (q0 := 5) rfl rfl rfl rfl (Nat.le_of_ble_eq_true rfl) ma_step_d243 ⟨by decide, by decide⟩ (fun S243 h => ?_)
  exact ma_step_k_246 X h
theorem ma_step_c (l : Launch) (Z : rb_Z) {K : rb_S → Prop}  {S : rb_S} (h : ma_step_p_0 K S) : rb_Mv l ma_step_y ma_step_b 5 ma_step_rm Z [.ref (Z.1 5), .ref (Z.1 2)] S K := rb_startV (by decide) (Nat.le_of_ble_eq_true rfl) (fun p e s m args below meth c A X => ma_step_k_0 X h)
end
theorem ma_advance_d0 : decode ma_advance_b 0 = .ok (.iconst 0, 1) := by decide +kernel
theorem ma_advance_d1 : decode ma_advance_b 1 = .ok (.istore_n 3, 1) := by decide +kernel
theorem ma_advance_d2 : decode ma_advance_b 2 = .ok (.iload_n 3, 1) := by decide +kernel
theorem ma_advance_d3 : decode ma_advance_b 3 = .ok (.iload_n 1, 1) := by decide +kernel
theorem ma_advance_d4 : decode ma_advance_b 4 = .ok (.if_icmp .ge 21, 3) := by decide +kernel
theorem ma_advance_d7 : decode ma_advance_b 7 = .ok (.aload_n 0, 1) := by decide +kernel
theorem ma_advance_d8 : decode ma_advance_b 8 = .ok (.invokevirtual 86, 3) := by decide +kernel
theorem ma_advance_d11 : decode ma_advance_b 11 = .ok (.ifCond .ne 14, 3) := by decide +kernel
theorem ma_advance_d14 : decode ma_advance_b 14 = .ok (.aload_n 0, 1) := by decide +kernel
theorem ma_advance_d15 : decode ma_advance_b 15 = .ok (.aload_n 2, 1) := by decide +kernel
theorem ma_advance_d16 : decode ma_advance_b 16 = .ok (.invokevirtual 90, 3) := by decide +kernel
theorem ma_advance_d19 : decode ma_advance_b 19 = .ok (.iinc 3 1, 3) := by decide +kernel
theorem ma_advance_d22 : decode ma_advance_b 22 = .ok (.goto (-20), 3) := by decide +kernel
theorem ma_advance_d25 : decode ma_advance_b 25 = .ok (.aload_n 0, 1) := by decide +kernel
theorem ma_advance_d26 : decode ma_advance_b 26 = .ok (.dup, 1) := by decide +kernel
theorem ma_advance_d27 : decode ma_advance_b 27 = .ok (.getfield 71, 3) := by decide +kernel
theorem ma_advance_d30 : decode ma_advance_b 30 = .ok (.iload_n 3, 1) := by decide +kernel
theorem ma_advance_d31 : decode ma_advance_b 31 = .ok (.iadd, 1) := by decide +kernel
theorem ma_advance_d32 : decode ma_advance_b 32 = .ok (.putfield 71, 3) := by decide +kernel
theorem ma_advance_d35 : decode ma_advance_b 35 = .ok (.iload_n 3, 1) := by decide +kernel
theorem ma_advance_d36 : decode ma_advance_b 36 = .ok (.ireturn, 1) := by decide +kernel
abbrev ma_advance_rm : Room := { frames := 4, cells := 0, slots := 0, locals := 92 }
theorem ma_advance_w : rb_cw ma_advance_y ma_advance_b 4 (some .int) 2 := ⟨rw_507, rw_6, ⟨by decide, by decide⟩, by decide +kernel⟩
section
variable {p : Program} {l : Launch} {e : Env} {s : State} {m : MethodId} {args : Array Value} {below : List Frame} {meth : Method} {c : Code} {A : Nat → Prop} {Z : rb_Z}
def ma_advance_p_25 (K : Int32 → rb_S → Prop) (x1 : Int32) (x3 : Int32) (S : rb_S) : Prop := ∀ S32 : rb_S, S32 = rb_u S 0 9 ((S 0 9) + x3) → (K x3 S32)
theorem ma_advance_k_25 {K : Int32 → rb_S → Prop}  (X : rb_X p s m args meth c A Z ma_advance_b 4 "RoomMaker$Machine" (some .int))  {x1 : Int32} {x3 : Int32} {S : rb_S} (h : ma_advance_p_25 K x1 x3 S) : rb_V p l e ma_advance_rm s m args below meth c A (MQ below (va_Qi K (rb_B Z A) A) args s ma_advance_rm.cells ma_advance_rm.slots A) Z 4 25 [(0, .ref (Z.1 5)), (1, .int x1), (2, .ref (Z.1 2)), (3, .int x3)] [] S 0 0 := by
  unfold ma_advance_p_25 at h
  refine rb_aload_n X 0 ma_advance_d25 rfl 0 rfl ?_
  refine rb_dup X ma_advance_d26 rfl ?_
  refine ma_g71 X ma_advance_d27 ?_
  refine rb_iload_n X 3 ma_advance_d30 rfl 3 rfl ?_
  refine rb_iadd X ma_advance_d31 ?_
  refine ma_q71 X ma_advance_d32 (fun S32 e32 => ?_)
  replace h := h S32 e32
  refine rb_iload_n X 3 ma_advance_d35 rfl 3 rfl ?_
  exact rb_iret X ma_advance_d36 h
def ma_advance_p_2 (K : Int32 → rb_S → Prop) : Nat → Int32 → Int32 → rb_S → Prop
  | 0, _, _, _ => False
  | n2 + 1, x1, x3, S => (x1 ≤ x3 → ma_advance_p_25 K x1 x3 S) ∧ (¬ x1 ≤ x3 → ma_isAtEnd_p_0 (fun r8 S8 => (¬ r8 = 0 → ma_advance_p_25 K x1 x3 S8) ∧ (r8 = 0 → ma_step_p_0 (fun S16 => ∀ v19 : Int32, v19 = x3 + 1 → ((fun a0 a1 T => ma_advance_p_2 K n2 a0 a1 T) x1 v19 S16)) S8)) S)
theorem ma_advance_k_2 {K : Int32 → rb_S → Prop}  (X : rb_X p s m args meth c A Z ma_advance_b 4 "RoomMaker$Machine" (some .int))  : ∀ (n : Nat) (x1 : Int32) (x3 : Int32) (S : rb_S), ma_advance_p_2 K n x1 x3 S → rb_V p l e ma_advance_rm s m args below meth c A (MQ below (va_Qi K (rb_B Z A) A) args s ma_advance_rm.cells ma_advance_rm.slots A) Z 4 2 [(0, .ref (Z.1 5)), (1, .int x1), (2, .ref (Z.1 2)), (3, .int x3)] [] S 0 0 := by
  intro n
  induction n with
  | zero =>
    intro x1 x3 S h
    exact (show False from h).elim
  | succ n ih =>
    intro x1 x3 S h
    have hB2 := ih
    rw [ma_advance_p_2] at h
    refine rb_iload_n X 3 ma_advance_d2 rfl 3 rfl ?_
    refine rb_iload_n X 1 ma_advance_d3 rfl 1 rfl ?_
    refine rb_icmp_ge X 25 ma_advance_d4 (by decide) (fun hc => ?_) (fun hc => ?_)
    · replace h := h.1 hc
      exact ma_advance_k_25 X h
    · replace h := h.2 hc
      refine rb_aload_n X 0 ma_advance_d7 rfl 0 rfl ?_
      refine rb_callVi (As := []) (rest := []) X (ma_isAtEnd_c l Z h) ma_isAtEnd_w ⟨by decide, by decide⟩ rw_246 rw_248 rs_7 (q0 := 5) rfl rfl rfl rfl (Nat.le_of_ble_eq_true rfl) ma_advance_d8 ⟨by decide, by decide⟩ (fun r8 S8 h => ?_)
      refine rb_if_ne X 25 ma_advance_d11 (by decide) (fun hc => ?_) (fun hc => ?_)
      · replace h := h.1 hc
        exact ma_advance_k_25 X h
      · replace h := h.2 hc
        refine rb_aload_n X 0 ma_advance_d14 rfl 0 rfl ?_
        refine rb_aload_n X 2 ma_advance_d15 rfl 2 rfl ?_
        refine rb_callVv (As := [.ref (Z.1 2)]) (rest := []) X (ma_step_c l Z h) ma_step_w ⟨by decide, by decide⟩ rw_508 rw_510 rs_29 (q0 := 5) rfl rfl rfl rfl (Nat.le_of_ble_eq_true rfl) ma_advance_d16 ⟨by decide, by decide⟩ (fun S16 h => ?_)
        refine rb_iinc X 1 3 [1, 2, 3, 0] (fun v19 => [(0, .ref (Z.1 5)), (1, .int x1), (2, .ref (Z.1 2)), (3, .int v19)]) ma_advance_d19 3 rfl (by decide) (by decide) (fun _ => rfl) (fun v19 e19 => ?_)
        replace h := h v19 e19
        refine rb_goto X 2 ma_advance_d22 (by decide) ?_
        exact hB2 _ _ _ h
def ma_advance_p_0 (K : Int32 → rb_S → Prop) (x1 : Int32) (S : rb_S) : Prop := ∃ j2 : Nat, ma_advance_p_2 K j2 x1 0 S
theorem ma_advance_k_0 {K : Int32 → rb_S → Prop}  (X : rb_X p s m args meth c A Z ma_advance_b 4 "RoomMaker$Machine" (some .int))  {x1 : Int32} {S : rb_S} (h : ma_advance_p_0 K x1 S) : rb_V p l e ma_advance_rm s m args below meth c A (MQ below (va_Qi K (rb_B Z A) A) args s ma_advance_rm.cells ma_advance_rm.slots A) Z 4 0 [(0, .ref (Z.1 5)), (1, .int x1), (2, .ref (Z.1 2))] [] S 0 0 := by
  unfold ma_advance_p_0 at h
  refine rb_iconst X 0 ma_advance_d0 (by decide) ?_
  refine rb_istore_n X 3 [1, 2, 3, 0] (L' := [(0, .ref (Z.1 5)), (1, .int x1), (2, .ref (Z.1 2)), (3, .int 0)]) ma_advance_d1 rfl (by decide) rfl ?_
  obtain ⟨j2, h⟩ := h
  exact ma_advance_k_2 X j2 _ _ _ h
theorem ma_advance_c (l : Launch) (Z : rb_Z) {K : Int32 → rb_S → Prop} {x1 : Int32} {S : rb_S} (h : ma_advance_p_0 K x1 S) : rb_Mi l ma_advance_y ma_advance_b 4 (some .int) ma_advance_rm Z [.ref (Z.1 5), .int x1, .ref (Z.1 2)] S K := rb_startI (by decide) (Nat.le_of_ble_eq_true rfl) (fun p e s m args below meth c A X => ma_advance_k_0 X h)
end
