theorem la_put_d0 : decode la_put_b 0 = .ok (.aload 5, 2) := by decide +kernel
theorem la_put_d2 : decode la_put_b 2 = .ok (.iconst 0, 1) := by decide +kernel
theorem la_put_d3 : decode la_put_b 3 = .ok (.aload_n 0, 1) := by decide +kernel
theorem la_put_d4 : decode la_put_b 4 = .ok (.iload_n 1, 1) := by decide +kernel
theorem la_put_d5 : decode la_put_b 5 = .ok (.iload_n 2, 1) := by decide +kernel
theorem la_put_d6 : decode la_put_b 6 = .ok (.iload_n 3, 1) := by decide +kernel
theorem la_put_d7 : decode la_put_b 7 = .ok (.iload 4, 2) := by decide +kernel
theorem la_put_d9 : decode la_put_b 9 = .ok (.invokevirtual 7, 3) := by decide +kernel
theorem la_put_d12 : decode la_put_b 12 = .ok (.i2l, 1) := by decide +kernel
theorem la_put_d13 : decode la_put_b 13 = .ok (.lastore, 1) := by decide +kernel
theorem la_put_d14 : decode la_put_b 14 = .ok (.goto 7, 3) := by decide +kernel
theorem la_put_d17 : decode la_put_b 17 = .ok (.astore 6, 2) := by decide +kernel
theorem la_put_d19 : decode la_put_b 19 = .ok (.iconst 1, 1) := by decide +kernel
theorem la_put_d20 : decode la_put_b 20 = .ok (.ireturn, 1) := by decide +kernel
theorem la_put_d21 : decode la_put_b 21 = .ok (.iconst 0, 1) := by decide +kernel
theorem la_put_d22 : decode la_put_b 22 = .ok (.ireturn, 1) := by decide +kernel
abbrev la_put_rm : Room := { frames := 7, cells := 1, slots := 6, locals := 106 }
section
variable {p : Program} {l : Launch} {e : Env} {s : State} {m : MethodId} {args : Array Value} {below : List Frame} {meth : Method} {c : Code} {A : Nat → Prop} {Z : rb_Z}
def la_put_p_0 (K : Int32 → rb_S → Prop) (x1 : Int32) (x2 : Int32) (x3 : Int32) (x4 : Int32) (S : rb_S) : Prop := rm_put_p_0 (fun r9 S9 => ∀ S13 : rb_S, S13 = rb_u S9 36 0 r9 → (K 0 S13)) (fun n9 X9 => (n9 = 1 ∧ K 1 X9)) x1 x2 x3 x4 S
theorem la_put_k_0 {K : Int32 → rb_S → Prop}  (X : rb_X p s m args meth c A Z la_put_b 7 "RoomMakerLaw" (some .int)) (hT : c.exceptionTable.toList.map (fun h => (h.startPc, h.endPc, h.handlerPc, h.catchType)) = [(0, 14, 17, 13)]) (hlt : l.stackTraces = false)  {x1 : Int32} {x2 : Int32} {x3 : Int32} {x4 : Int32} {S : rb_S} (h : la_put_p_0 K x1 x2 x3 x4 S) : rb_V p l e la_put_rm s m args below meth c A (MQ below (va_Qi K (rb_B Z A) A) args s la_put_rm.cells la_put_rm.slots A) Z 7 0 [(0, .ref (Z.1 0)), (1, .int x1), (2, .int x2), (3, .int x3), (4, .int x4), (5, .ref (Z.1 36))] [] S 0 0 := by
  unfold la_put_p_0 at h
  refine rb_aload X 5 la_put_d0 5 rfl ?_
  refine rb_iconst X 0 la_put_d2 (by decide) ?_
  refine rb_aload_n X 0 la_put_d3 rfl 0 rfl ?_
  refine rb_iload_n X 1 la_put_d4 rfl 1 rfl ?_
  refine rb_iload_n X 2 la_put_d5 rfl 2 rfl ?_
  refine rb_iload_n X 3 la_put_d6 rfl 3 rfl ?_
  refine rb_iload X 4 la_put_d7 4 rfl ?_
  refine rx_callV (As := [.int x1, .int x2, .int x3, .int x4]) (rest := [.int 0, .ref (Z.1 36)]) X (rm_put_c l Z hlt h) rm_put_w ⟨by decide, by decide⟩ rw_254 rw_255 rw_256 (q0 := 0) rfl rfl rfl rfl (Nat.le_of_ble_eq_true rfl) la_put_d9 ⟨by decide, by decide⟩ (fun r9 S9 h => ?_) (fun n9 X9 h => ?_)
  · refine rb_i2l X la_put_d12 ?_
    refine rb_last X la_put_d13 (fun S13 e13 => ?_)
    replace h := h S13 e13
    refine rb_goto X 21 la_put_d14 (by decide) ?_
    refine rb_iconst X 0 la_put_d21 (by decide) ?_
    exact rb_iret X la_put_d22 h
  · obtain ⟨rfl, h⟩ := h
    refine ⟨17, rx_H1 hT (by decide) (by decide) (by decide) rw_253 (by decide), fun q => ?_⟩
    refine rb_astoreE2 X 6 la_put_d17 (by decide) ?_
    refine rb_iconst X 1 la_put_d19 (by decide) ?_
    exact rb_iret X la_put_d20 h
theorem la_put_c (l : Launch) (Z : rb_Z) {K : Int32 → rb_S → Prop} (hlt : l.stackTraces = false) {x1 : Int32} {x2 : Int32} {x3 : Int32} {x4 : Int32} {S : rb_S} (h : la_put_p_0 K x1 x2 x3 x4 S) : rx_Mw l la_put_y la_put_b 7 (some .int) [(0, 14, 17, 13)] la_put_rm Z [.ref (Z.1 0), .int x1, .int x2, .int x3, .int x4, .ref (Z.1 36)] S K := rx_startW (by decide) (Nat.le_of_ble_eq_true rfl) (fun p e s m args below meth c A X hT => la_put_k_0 X hT hlt h)
end
theorem la_build_d0 : decode la_build_b 0 = .ok (.aload_n 2, 1) := by decide +kernel
theorem la_build_d1 : decode la_build_b 1 = .ok (.iconst 0, 1) := by decide +kernel
theorem la_build_d2 : decode la_build_b 2 = .ok (.aload_n 0, 1) := by decide +kernel
theorem la_build_d3 : decode la_build_b 3 = .ok (.iload_n 1, 1) := by decide +kernel
theorem la_build_d4 : decode la_build_b 4 = .ok (.invokevirtual 15, 3) := by decide +kernel
theorem la_build_d7 : decode la_build_b 7 = .ok (.i2l, 1) := by decide +kernel
theorem la_build_d8 : decode la_build_b 8 = .ok (.lastore, 1) := by decide +kernel
theorem la_build_d9 : decode la_build_b 9 = .ok (.goto 9, 3) := by decide +kernel
theorem la_build_d12 : decode la_build_b 12 = .ok (.astore_n 3, 1) := by decide +kernel
theorem la_build_d13 : decode la_build_b 13 = .ok (.iconst 1, 1) := by decide +kernel
theorem la_build_d14 : decode la_build_b 14 = .ok (.ireturn, 1) := by decide +kernel
theorem la_build_d15 : decode la_build_b 15 = .ok (.astore_n 3, 1) := by decide +kernel
theorem la_build_d16 : decode la_build_b 16 = .ok (.iconst 2, 1) := by decide +kernel
theorem la_build_d17 : decode la_build_b 17 = .ok (.ireturn, 1) := by decide +kernel
theorem la_build_d18 : decode la_build_b 18 = .ok (.iconst 0, 1) := by decide +kernel
theorem la_build_d19 : decode la_build_b 19 = .ok (.ireturn, 1) := by decide +kernel
abbrev la_build_rm : Room := { frames := 7, cells := 1, slots := 6, locals := 115 }
section
variable {p : Program} {l : Launch} {e : Env} {s : State} {m : MethodId} {args : Array Value} {below : List Frame} {meth : Method} {c : Code} {A : Nat → Prop} {Z : rb_Z}
def la_build_p_0 (K : Int32 → rb_S → Prop) (x1 : Int32) (S : rb_S) : Prop := rm_build_p_0 (fun r4 S4 => ∀ S8 : rb_S, S8 = rb_u S4 36 0 r4 → (K 0 S8)) (fun n4 X4 => (n4 = 1 ∧ K 1 X4) ∨ (n4 = 2 ∧ K 2 X4)) x1 S
theorem la_build_k_0 {K : Int32 → rb_S → Prop}  (X : rb_X p s m args meth c A Z la_build_b 4 "RoomMakerLaw" (some .int)) (hT : c.exceptionTable.toList.map (fun h => (h.startPc, h.endPc, h.handlerPc, h.catchType)) = [(0, 9, 12, 13), (0, 9, 15, 19)]) (hlt : l.stackTraces = false)  {x1 : Int32} {S : rb_S} (h : la_build_p_0 K x1 S) : rb_V p l e la_build_rm s m args below meth c A (MQ below (va_Qi K (rb_B Z A) A) args s la_build_rm.cells la_build_rm.slots A) Z 4 0 [(0, .ref (Z.1 0)), (1, .int x1), (2, .ref (Z.1 36))] [] S 0 0 := by
  unfold la_build_p_0 at h
  refine rb_aload_n X 2 la_build_d0 rfl 2 rfl ?_
  refine rb_iconst X 0 la_build_d1 (by decide) ?_
  refine rb_aload_n X 0 la_build_d2 rfl 0 rfl ?_
  refine rb_iload_n X 1 la_build_d3 rfl 1 rfl ?_
  refine rx_callV (As := [.int x1]) (rest := [.int 0, .ref (Z.1 36)]) X (rm_build_c l Z hlt h) rm_build_w ⟨by decide, by decide⟩ rw_349 rw_350 rw_351 (q0 := 0) rfl rfl rfl rfl (Nat.le_of_ble_eq_true rfl) la_build_d4 ⟨by decide, by decide⟩ (fun r4 S4 h => ?_) (fun n4 X4 h => ?_)
  · refine rb_i2l X la_build_d7 ?_
    refine rb_last X la_build_d8 (fun S8 e8 => ?_)
    replace h := h S8 e8
    refine rb_goto X 18 la_build_d9 (by decide) ?_
    refine rb_iconst X 0 la_build_d18 (by decide) ?_
    exact rb_iret X la_build_d19 h
  · rcases h with ⟨rfl, h⟩ | ⟨rfl, h⟩
    · refine ⟨12, rx_H1 hT (by decide) (by decide) (by decide) rw_253 (by decide), fun q => ?_⟩
      refine rb_astoreE X 3 la_build_d12 rfl (by decide) ?_
      refine rb_iconst X 1 la_build_d13 (by decide) ?_
      exact rb_iret X la_build_d14 h
    · refine ⟨15, rx_H2 hT (by decide) (by decide) (by decide) rw_253 (by decide) (by decide) (by decide) (by decide) rw_348 (by decide), fun q => ?_⟩
      refine rb_astoreE X 3 la_build_d15 rfl (by decide) ?_
      refine rb_iconst X 2 la_build_d16 (by decide) ?_
      exact rb_iret X la_build_d17 h
theorem la_build_c (l : Launch) (Z : rb_Z) {K : Int32 → rb_S → Prop} (hlt : l.stackTraces = false) {x1 : Int32} {S : rb_S} (h : la_build_p_0 K x1 S) : rx_Mw l la_build_y la_build_b 4 (some .int) [(0, 9, 12, 13), (0, 9, 15, 19)] la_build_rm Z [.ref (Z.1 0), .int x1, .ref (Z.1 36)] S K := rx_startW (by decide) (Nat.le_of_ble_eq_true rfl) (fun p e s m args below meth c A X hT => la_build_k_0 X hT hlt h)
end
theorem la_span_d0 : decode la_span_b 0 = .ok (.aload_n 3, 1) := by decide +kernel
theorem la_span_d1 : decode la_span_b 1 = .ok (.iconst 0, 1) := by decide +kernel
theorem la_span_d2 : decode la_span_b 2 = .ok (.aload_n 0, 1) := by decide +kernel
theorem la_span_d3 : decode la_span_b 3 = .ok (.iload_n 1, 1) := by decide +kernel
theorem la_span_d4 : decode la_span_b 4 = .ok (.iload_n 2, 1) := by decide +kernel
theorem la_span_d5 : decode la_span_b 5 = .ok (.invokevirtual 21, 3) := by decide +kernel
theorem la_span_d8 : decode la_span_b 8 = .ok (.i2l, 1) := by decide +kernel
theorem la_span_d9 : decode la_span_b 9 = .ok (.lastore, 1) := by decide +kernel
theorem la_span_d10 : decode la_span_b 10 = .ok (.goto 7, 3) := by decide +kernel
theorem la_span_d13 : decode la_span_b 13 = .ok (.astore 4, 2) := by decide +kernel
theorem la_span_d15 : decode la_span_b 15 = .ok (.iconst 1, 1) := by decide +kernel
theorem la_span_d16 : decode la_span_b 16 = .ok (.ireturn, 1) := by decide +kernel
theorem la_span_d17 : decode la_span_b 17 = .ok (.iconst 0, 1) := by decide +kernel
theorem la_span_d18 : decode la_span_b 18 = .ok (.ireturn, 1) := by decide +kernel
abbrev la_span_rm : Room := { frames := 7, cells := 1, slots := 6, locals := 104 }
section
variable {p : Program} {l : Launch} {e : Env} {s : State} {m : MethodId} {args : Array Value} {below : List Frame} {meth : Method} {c : Code} {A : Nat → Prop} {Z : rb_Z}
def la_span_p_0 (K : Int32 → rb_S → Prop) (x1 : Int32) (x2 : Int32) (S : rb_S) : Prop := rm_span_p_0 (fun r5 S5 => ∀ S9 : rb_S, S9 = rb_u S5 36 0 r5 → (K 0 S9)) (fun n5 X5 => (n5 = 3 ∧ K 1 X5)) x1 x2 S
theorem la_span_k_0 {K : Int32 → rb_S → Prop}  (X : rb_X p s m args meth c A Z la_span_b 5 "RoomMakerLaw" (some .int)) (hT : c.exceptionTable.toList.map (fun h => (h.startPc, h.endPc, h.handlerPc, h.catchType)) = [(0, 10, 13, 25)]) (hlt : l.stackTraces = false)  {x1 : Int32} {x2 : Int32} {S : rb_S} (h : la_span_p_0 K x1 x2 S) : rb_V p l e la_span_rm s m args below meth c A (MQ below (va_Qi K (rb_B Z A) A) args s la_span_rm.cells la_span_rm.slots A) Z 5 0 [(0, .ref (Z.1 0)), (1, .int x1), (2, .int x2), (3, .ref (Z.1 36))] [] S 0 0 := by
  unfold la_span_p_0 at h
  refine rb_aload_n X 3 la_span_d0 rfl 3 rfl ?_
  refine rb_iconst X 0 la_span_d1 (by decide) ?_
  refine rb_aload_n X 0 la_span_d2 rfl 0 rfl ?_
  refine rb_iload_n X 1 la_span_d3 rfl 1 rfl ?_
  refine rb_iload_n X 2 la_span_d4 rfl 2 rfl ?_
  refine rx_callV (As := [.int x1, .int x2]) (rest := [.int 0, .ref (Z.1 36)]) X (rm_span_c l Z hlt h) rm_span_w ⟨by decide, by decide⟩ rw_458 rw_459 rw_460 (q0 := 0) rfl rfl rfl rfl (Nat.le_of_ble_eq_true rfl) la_span_d5 ⟨by decide, by decide⟩ (fun r5 S5 h => ?_) (fun n5 X5 h => ?_)
  · refine rb_i2l X la_span_d8 ?_
    refine rb_last X la_span_d9 (fun S9 e9 => ?_)
    replace h := h S9 e9
    refine rb_goto X 17 la_span_d10 (by decide) ?_
    refine rb_iconst X 0 la_span_d17 (by decide) ?_
    exact rb_iret X la_span_d18 h
  · obtain ⟨rfl, h⟩ := h
    refine ⟨13, rx_H1 hT (by decide) (by decide) (by decide) rw_457 (by decide), fun q => ?_⟩
    refine rb_astoreE2 X 4 la_span_d13 (by decide) ?_
    refine rb_iconst X 1 la_span_d15 (by decide) ?_
    exact rb_iret X la_span_d16 h
theorem la_span_c (l : Launch) (Z : rb_Z) {K : Int32 → rb_S → Prop} (hlt : l.stackTraces = false) {x1 : Int32} {x2 : Int32} {S : rb_S} (h : la_span_p_0 K x1 x2 S) : rx_Mw l la_span_y la_span_b 5 (some .int) [(0, 10, 13, 25)] la_span_rm Z [.ref (Z.1 0), .int x1, .int x2, .ref (Z.1 36)] S K := rx_startW (by decide) (Nat.le_of_ble_eq_true rfl) (fun p e s m args below meth c A X hT => la_span_k_0 X hT hlt h)
end
theorem la_lives_d0 : decode la_lives_b 0 = .ok (.aload_n 3, 1) := by decide +kernel
theorem la_lives_d1 : decode la_lives_b 1 = .ok (.iconst 0, 1) := by decide +kernel
theorem la_lives_d2 : decode la_lives_b 2 = .ok (.aload_n 0, 1) := by decide +kernel
theorem la_lives_d3 : decode la_lives_b 3 = .ok (.iload_n 1, 1) := by decide +kernel
theorem la_lives_d4 : decode la_lives_b 4 = .ok (.iload_n 2, 1) := by decide +kernel
theorem la_lives_d5 : decode la_lives_b 5 = .ok (.invokevirtual 27, 3) := by decide +kernel
theorem la_lives_d8 : decode la_lives_b 8 = .ok (.ifCond .eq 7, 3) := by decide +kernel
theorem la_lives_d11 : decode la_lives_b 11 = .ok (.lconst 1, 1) := by decide +kernel
theorem la_lives_d12 : decode la_lives_b 12 = .ok (.goto 4, 3) := by decide +kernel
theorem la_lives_d15 : decode la_lives_b 15 = .ok (.lconst 0, 1) := by decide +kernel
theorem la_lives_d16 : decode la_lives_b 16 = .ok (.lastore, 1) := by decide +kernel
theorem la_lives_d17 : decode la_lives_b 17 = .ok (.goto 7, 3) := by decide +kernel
theorem la_lives_d20 : decode la_lives_b 20 = .ok (.astore 4, 2) := by decide +kernel
theorem la_lives_d22 : decode la_lives_b 22 = .ok (.iconst 1, 1) := by decide +kernel
theorem la_lives_d23 : decode la_lives_b 23 = .ok (.ireturn, 1) := by decide +kernel
theorem la_lives_d24 : decode la_lives_b 24 = .ok (.iconst 0, 1) := by decide +kernel
theorem la_lives_d25 : decode la_lives_b 25 = .ok (.ireturn, 1) := by decide +kernel
abbrev la_lives_rm : Room := { frames := 7, cells := 1, slots := 6, locals := 104 }
section
variable {p : Program} {l : Launch} {e : Env} {s : State} {m : MethodId} {args : Array Value} {below : List Frame} {meth : Method} {c : Code} {A : Nat → Prop} {Z : rb_Z}
def la_lives_p_0 (K : Int32 → rb_S → Prop) (x1 : Int32) (x2 : Int32) (S : rb_S) : Prop := rm_lives_p_0 (fun r5 S5 => (r5 = 0 → ∀ S16 : rb_S, S16 = rb_u S5 36 0 0 → (K 0 S16)) ∧ (¬ r5 = 0 → ∀ S16 : rb_S, S16 = rb_u S5 36 0 1 → (K 0 S16))) (fun n5 X5 => (n5 = 3 ∧ K 1 X5)) x1 x2 S
theorem la_lives_k_0 {K : Int32 → rb_S → Prop}  (X : rb_X p s m args meth c A Z la_lives_b 5 "RoomMakerLaw" (some .int)) (hT : c.exceptionTable.toList.map (fun h => (h.startPc, h.endPc, h.handlerPc, h.catchType)) = [(0, 17, 20, 25)]) (hlt : l.stackTraces = false)  {x1 : Int32} {x2 : Int32} {S : rb_S} (h : la_lives_p_0 K x1 x2 S) : rb_V p l e la_lives_rm s m args below meth c A (MQ below (va_Qi K (rb_B Z A) A) args s la_lives_rm.cells la_lives_rm.slots A) Z 5 0 [(0, .ref (Z.1 0)), (1, .int x1), (2, .int x2), (3, .ref (Z.1 36))] [] S 0 0 := by
  unfold la_lives_p_0 at h
  refine rb_aload_n X 3 la_lives_d0 rfl 3 rfl ?_
  refine rb_iconst X 0 la_lives_d1 (by decide) ?_
  refine rb_aload_n X 0 la_lives_d2 rfl 0 rfl ?_
  refine rb_iload_n X 1 la_lives_d3 rfl 1 rfl ?_
  refine rb_iload_n X 2 la_lives_d4 rfl 2 rfl ?_
  refine rx_callV (As := [.int x1, .int x2]) (rest := [.int 0, .ref (Z.1 36)]) X (rm_lives_c l Z hlt h) rm_lives_w ⟨by decide, by decide⟩ rw_482 rw_483 rw_484 (q0 := 0) rfl rfl rfl rfl (Nat.le_of_ble_eq_true rfl) la_lives_d5 ⟨by decide, by decide⟩ (fun r5 S5 h => ?_) (fun n5 X5 h => ?_)
  · refine rb_if_eq X 15 la_lives_d8 (by decide) (fun hc => ?_) (fun hc => ?_)
    · replace h := h.1 hc
      refine rb_lconst X (0 : Int32).toInt64 la_lives_d15 (by decide) ?_
      refine rb_last X la_lives_d16 (fun S16 e16 => ?_)
      replace h := h S16 e16
      refine rb_goto X 24 la_lives_d17 (by decide) ?_
      refine rb_iconst X 0 la_lives_d24 (by decide) ?_
      exact rb_iret X la_lives_d25 h
    · replace h := h.2 hc
      refine rb_lconst X (1 : Int32).toInt64 la_lives_d11 (by decide) ?_
      refine rb_goto X 16 la_lives_d12 (by decide) ?_
      refine rb_last X la_lives_d16 (fun S16 e16 => ?_)
      replace h := h S16 e16
      refine rb_goto X 24 la_lives_d17 (by decide) ?_
      refine rb_iconst X 0 la_lives_d24 (by decide) ?_
      exact rb_iret X la_lives_d25 h
  · obtain ⟨rfl, h⟩ := h
    refine ⟨20, rx_H1 hT (by decide) (by decide) (by decide) rw_457 (by decide), fun q => ?_⟩
    refine rb_astoreE2 X 4 la_lives_d20 (by decide) ?_
    refine rb_iconst X 1 la_lives_d22 (by decide) ?_
    exact rb_iret X la_lives_d23 h
theorem la_lives_c (l : Launch) (Z : rb_Z) {K : Int32 → rb_S → Prop} (hlt : l.stackTraces = false) {x1 : Int32} {x2 : Int32} {S : rb_S} (h : la_lives_p_0 K x1 x2 S) : rx_Mw l la_lives_y la_lives_b 5 (some .int) [(0, 17, 20, 25)] la_lives_rm Z [.ref (Z.1 0), .int x1, .int x2, .ref (Z.1 36)] S K := rx_startW (by decide) (Nat.le_of_ble_eq_true rfl) (fun p e s m args below meth c A X hT => la_lives_k_0 X hT hlt h)
end
theorem la_place_d0 : decode la_place_b 0 = .ok (.aload_n 2, 1) := by decide +kernel
theorem la_place_d1 : decode la_place_b 1 = .ok (.iconst 0, 1) := by decide +kernel
theorem la_place_d2 : decode la_place_b 2 = .ok (.aload_n 0, 1) := by decide +kernel
theorem la_place_d3 : decode la_place_b 3 = .ok (.iload_n 1, 1) := by decide +kernel
theorem la_place_d4 : decode la_place_b 4 = .ok (.invokevirtual 31, 3) := by decide +kernel
theorem la_place_d7 : decode la_place_b 7 = .ok (.i2l, 1) := by decide +kernel
theorem la_place_d8 : decode la_place_b 8 = .ok (.lastore, 1) := by decide +kernel
theorem la_place_d9 : decode la_place_b 9 = .ok (.goto 6, 3) := by decide +kernel
theorem la_place_d12 : decode la_place_b 12 = .ok (.astore_n 3, 1) := by decide +kernel
theorem la_place_d13 : decode la_place_b 13 = .ok (.iconst 1, 1) := by decide +kernel
theorem la_place_d14 : decode la_place_b 14 = .ok (.ireturn, 1) := by decide +kernel
theorem la_place_d15 : decode la_place_b 15 = .ok (.iconst 0, 1) := by decide +kernel
theorem la_place_d16 : decode la_place_b 16 = .ok (.ireturn, 1) := by decide +kernel
abbrev la_place_rm : Room := { frames := 7, cells := 1, slots := 6, locals := 103 }
section
variable {p : Program} {l : Launch} {e : Env} {s : State} {m : MethodId} {args : Array Value} {below : List Frame} {meth : Method} {c : Code} {A : Nat → Prop} {Z : rb_Z}
def la_place_p_0 (K : Int32 → rb_S → Prop) (x1 : Int32) (S : rb_S) : Prop := rm_place_p_0 (fun r4 S4 => ∀ S8 : rb_S, S8 = rb_u S4 36 0 r4 → (K 0 S8)) (fun n4 X4 => (n4 = 3 ∧ K 1 X4)) x1 S
theorem la_place_k_0 {K : Int32 → rb_S → Prop}  (X : rb_X p s m args meth c A Z la_place_b 4 "RoomMakerLaw" (some .int)) (hT : c.exceptionTable.toList.map (fun h => (h.startPc, h.endPc, h.handlerPc, h.catchType)) = [(0, 9, 12, 25)]) (hlt : l.stackTraces = false)  {x1 : Int32} {S : rb_S} (h : la_place_p_0 K x1 S) : rb_V p l e la_place_rm s m args below meth c A (MQ below (va_Qi K (rb_B Z A) A) args s la_place_rm.cells la_place_rm.slots A) Z 4 0 [(0, .ref (Z.1 0)), (1, .int x1), (2, .ref (Z.1 36))] [] S 0 0 := by
  unfold la_place_p_0 at h
  refine rb_aload_n X 2 la_place_d0 rfl 2 rfl ?_
  refine rb_iconst X 0 la_place_d1 (by decide) ?_
  refine rb_aload_n X 0 la_place_d2 rfl 0 rfl ?_
  refine rb_iload_n X 1 la_place_d3 rfl 1 rfl ?_
  refine rx_callV (As := [.int x1]) (rest := [.int 0, .ref (Z.1 36)]) X (rm_place_c l Z hlt h) rm_place_w ⟨by decide, by decide⟩ rw_490 rw_491 rw_492 (q0 := 0) rfl rfl rfl rfl (Nat.le_of_ble_eq_true rfl) la_place_d4 ⟨by decide, by decide⟩ (fun r4 S4 h => ?_) (fun n4 X4 h => ?_)
  · refine rb_i2l X la_place_d7 ?_
    refine rb_last X la_place_d8 (fun S8 e8 => ?_)
    replace h := h S8 e8
    refine rb_goto X 15 la_place_d9 (by decide) ?_
    refine rb_iconst X 0 la_place_d15 (by decide) ?_
    exact rb_iret X la_place_d16 h
  · obtain ⟨rfl, h⟩ := h
    refine ⟨12, rx_H1 hT (by decide) (by decide) (by decide) rw_457 (by decide), fun q => ?_⟩
    refine rb_astoreE X 3 la_place_d12 rfl (by decide) ?_
    refine rb_iconst X 1 la_place_d13 (by decide) ?_
    exact rb_iret X la_place_d14 h
theorem la_place_c (l : Launch) (Z : rb_Z) {K : Int32 → rb_S → Prop} (hlt : l.stackTraces = false) {x1 : Int32} {S : rb_S} (h : la_place_p_0 K x1 S) : rx_Mw l la_place_y la_place_b 4 (some .int) [(0, 9, 12, 25)] la_place_rm Z [.ref (Z.1 0), .int x1, .ref (Z.1 36)] S K := rx_startW (by decide) (Nat.le_of_ble_eq_true rfl) (fun p e s m args below meth c A X hT => la_place_k_0 X hT hlt h)
end
theorem la_run_d0 : decode la_run_b 0 = .ok (.aload_n 2, 1) := by decide +kernel
theorem la_run_d1 : decode la_run_b 1 = .ok (.iconst 0, 1) := by decide +kernel
theorem la_run_d2 : decode la_run_b 2 = .ok (.aload_n 0, 1) := by decide +kernel
theorem la_run_d3 : decode la_run_b 3 = .ok (.iload_n 1, 1) := by decide +kernel
theorem la_run_d4 : decode la_run_b 4 = .ok (.invokevirtual 34, 3) := by decide +kernel
theorem la_run_d7 : decode la_run_b 7 = .ok (.i2l, 1) := by decide +kernel
theorem la_run_d8 : decode la_run_b 8 = .ok (.lastore, 1) := by decide +kernel
theorem la_run_d9 : decode la_run_b 9 = .ok (.goto 9, 3) := by decide +kernel
theorem la_run_d12 : decode la_run_b 12 = .ok (.astore_n 3, 1) := by decide +kernel
theorem la_run_d13 : decode la_run_b 13 = .ok (.iconst 1, 1) := by decide +kernel
theorem la_run_d14 : decode la_run_b 14 = .ok (.ireturn, 1) := by decide +kernel
theorem la_run_d15 : decode la_run_b 15 = .ok (.astore_n 3, 1) := by decide +kernel
theorem la_run_d16 : decode la_run_b 16 = .ok (.iconst 2, 1) := by decide +kernel
theorem la_run_d17 : decode la_run_b 17 = .ok (.ireturn, 1) := by decide +kernel
theorem la_run_d18 : decode la_run_b 18 = .ok (.iconst 0, 1) := by decide +kernel
theorem la_run_d19 : decode la_run_b 19 = .ok (.ireturn, 1) := by decide +kernel
abbrev la_run_rm : Room := { frames := 7, cells := 1, slots := 6, locals := 136 }
section
variable {p : Program} {l : Launch} {e : Env} {s : State} {m : MethodId} {args : Array Value} {below : List Frame} {meth : Method} {c : Code} {A : Nat → Prop} {Z : rb_Z}
def la_run_p_0 (K : Int32 → rb_S → Prop) (x1 : Int32) (S : rb_S) : Prop := rm_run_p_0 (fun r4 S4 => ∀ S8 : rb_S, S8 = rb_u S4 36 0 r4 → (K 0 S8)) (fun n4 X4 => (n4 = 2 ∧ K 1 X4) ∨ (n4 = 1 ∧ K 2 X4)) x1 S
theorem la_run_k_0 {K : Int32 → rb_S → Prop}  (X : rb_X p s m args meth c A Z la_run_b 4 "RoomMakerLaw" (some .int)) (hT : c.exceptionTable.toList.map (fun h => (h.startPc, h.endPc, h.handlerPc, h.catchType)) = [(0, 9, 12, 19), (0, 9, 15, 13)]) (hlt : l.stackTraces = false)  {x1 : Int32} {S : rb_S} (h : la_run_p_0 K x1 S) : rb_V p l e la_run_rm s m args below meth c A (MQ below (va_Qi K (rb_B Z A) A) args s la_run_rm.cells la_run_rm.slots A) Z 4 0 [(0, .ref (Z.1 0)), (1, .int x1), (2, .ref (Z.1 36))] [] S 0 0 := by
  unfold la_run_p_0 at h
  refine rb_aload_n X 2 la_run_d0 rfl 2 rfl ?_
  refine rb_iconst X 0 la_run_d1 (by decide) ?_
  refine rb_aload_n X 0 la_run_d2 rfl 0 rfl ?_
  refine rb_iload_n X 1 la_run_d3 rfl 1 rfl ?_
  refine rx_callV (As := [.int x1]) (rest := [.int 0, .ref (Z.1 36)]) X (rm_run_c l Z hlt h) rm_run_w ⟨by decide, by decide⟩ rw_497 rw_498 rw_499 (q0 := 0) rfl rfl rfl rfl (Nat.le_of_ble_eq_true rfl) la_run_d4 ⟨by decide, by decide⟩ (fun r4 S4 h => ?_) (fun n4 X4 h => ?_)
  · refine rb_i2l X la_run_d7 ?_
    refine rb_last X la_run_d8 (fun S8 e8 => ?_)
    replace h := h S8 e8
    refine rb_goto X 18 la_run_d9 (by decide) ?_
    refine rb_iconst X 0 la_run_d18 (by decide) ?_
    exact rb_iret X la_run_d19 h
  · rcases h with ⟨rfl, h⟩ | ⟨rfl, h⟩
    · refine ⟨12, rx_H1 hT (by decide) (by decide) (by decide) rw_348 (by decide), fun q => ?_⟩
      refine rb_astoreE X 3 la_run_d12 rfl (by decide) ?_
      refine rb_iconst X 1 la_run_d13 (by decide) ?_
      exact rb_iret X la_run_d14 h
    · refine ⟨15, rx_H2 hT (by decide) (by decide) (by decide) rw_348 (by decide) (by decide) (by decide) (by decide) rw_253 (by decide), fun q => ?_⟩
      refine rb_astoreE X 3 la_run_d15 rfl (by decide) ?_
      refine rb_iconst X 2 la_run_d16 (by decide) ?_
      exact rb_iret X la_run_d17 h
theorem la_run_c (l : Launch) (Z : rb_Z) {K : Int32 → rb_S → Prop} (hlt : l.stackTraces = false) {x1 : Int32} {S : rb_S} (h : la_run_p_0 K x1 S) : rx_Mw l la_run_y la_run_b 4 (some .int) [(0, 9, 12, 19), (0, 9, 15, 13)] la_run_rm Z [.ref (Z.1 0), .int x1, .ref (Z.1 36)] S K := rx_startW (by decide) (Nat.le_of_ble_eq_true rfl) (fun p e s m args below meth c A X hT => la_run_k_0 X hT hlt h)
end
theorem la_value_d0 : decode la_value_b 0 = .ok (.aload_n 2, 1) := by decide +kernel
theorem la_value_d1 : decode la_value_b 1 = .ok (.iconst 0, 1) := by decide +kernel
theorem la_value_d2 : decode la_value_b 2 = .ok (.aload_n 0, 1) := by decide +kernel
theorem la_value_d3 : decode la_value_b 3 = .ok (.iload_n 1, 1) := by decide +kernel
theorem la_value_d4 : decode la_value_b 4 = .ok (.invokevirtual 37, 3) := by decide +kernel
theorem la_value_d7 : decode la_value_b 7 = .ok (.i2l, 1) := by decide +kernel
theorem la_value_d8 : decode la_value_b 8 = .ok (.lastore, 1) := by decide +kernel
theorem la_value_d9 : decode la_value_b 9 = .ok (.goto 9, 3) := by decide +kernel
theorem la_value_d12 : decode la_value_b 12 = .ok (.astore_n 3, 1) := by decide +kernel
theorem la_value_d13 : decode la_value_b 13 = .ok (.iconst 1, 1) := by decide +kernel
theorem la_value_d14 : decode la_value_b 14 = .ok (.ireturn, 1) := by decide +kernel
theorem la_value_d15 : decode la_value_b 15 = .ok (.astore_n 3, 1) := by decide +kernel
theorem la_value_d16 : decode la_value_b 16 = .ok (.iconst 2, 1) := by decide +kernel
theorem la_value_d17 : decode la_value_b 17 = .ok (.ireturn, 1) := by decide +kernel
theorem la_value_d18 : decode la_value_b 18 = .ok (.iconst 0, 1) := by decide +kernel
theorem la_value_d19 : decode la_value_b 19 = .ok (.ireturn, 1) := by decide +kernel
abbrev la_value_rm : Room := { frames := 7, cells := 1, slots := 6, locals := 103 }
section
variable {p : Program} {l : Launch} {e : Env} {s : State} {m : MethodId} {args : Array Value} {below : List Frame} {meth : Method} {c : Code} {A : Nat → Prop} {Z : rb_Z}
def la_value_p_0 (K : Int32 → rb_S → Prop) (x1 : Int32) (S : rb_S) : Prop := rm_value_p_0 (fun r4 S4 => ∀ S8 : rb_S, S8 = rb_u S4 36 0 r4 → (K 0 S8)) (fun n4 X4 => (n4 = 2 ∧ K 1 X4) ∨ (n4 = 3 ∧ K 2 X4)) x1 S
theorem la_value_k_0 {K : Int32 → rb_S → Prop}  (X : rb_X p s m args meth c A Z la_value_b 4 "RoomMakerLaw" (some .int)) (hT : c.exceptionTable.toList.map (fun h => (h.startPc, h.endPc, h.handlerPc, h.catchType)) = [(0, 9, 12, 19), (0, 9, 15, 25)]) (hlt : l.stackTraces = false)  {x1 : Int32} {S : rb_S} (h : la_value_p_0 K x1 S) : rb_V p l e la_value_rm s m args below meth c A (MQ below (va_Qi K (rb_B Z A) A) args s la_value_rm.cells la_value_rm.slots A) Z 4 0 [(0, .ref (Z.1 0)), (1, .int x1), (2, .ref (Z.1 36))] [] S 0 0 := by
  unfold la_value_p_0 at h
  refine rb_aload_n X 2 la_value_d0 rfl 2 rfl ?_
  refine rb_iconst X 0 la_value_d1 (by decide) ?_
  refine rb_aload_n X 0 la_value_d2 rfl 0 rfl ?_
  refine rb_iload_n X 1 la_value_d3 rfl 1 rfl ?_
  refine rx_callV (As := [.int x1]) (rest := [.int 0, .ref (Z.1 36)]) X (rm_value_c l Z hlt h) rm_value_w ⟨by decide, by decide⟩ rw_543 rw_544 rw_545 (q0 := 0) rfl rfl rfl rfl (Nat.le_of_ble_eq_true rfl) la_value_d4 ⟨by decide, by decide⟩ (fun r4 S4 h => ?_) (fun n4 X4 h => ?_)
  · refine rb_i2l X la_value_d7 ?_
    refine rb_last X la_value_d8 (fun S8 e8 => ?_)
    replace h := h S8 e8
    refine rb_goto X 18 la_value_d9 (by decide) ?_
    refine rb_iconst X 0 la_value_d18 (by decide) ?_
    exact rb_iret X la_value_d19 h
  · rcases h with ⟨rfl, h⟩ | ⟨rfl, h⟩
    · refine ⟨12, rx_H1 hT (by decide) (by decide) (by decide) rw_348 (by decide), fun q => ?_⟩
      refine rb_astoreE X 3 la_value_d12 rfl (by decide) ?_
      refine rb_iconst X 1 la_value_d13 (by decide) ?_
      exact rb_iret X la_value_d14 h
    · refine ⟨15, rx_H2 hT (by decide) (by decide) (by decide) rw_348 (by decide) (by decide) (by decide) (by decide) rw_457 (by decide), fun q => ?_⟩
      refine rb_astoreE X 3 la_value_d15 rfl (by decide) ?_
      refine rb_iconst X 2 la_value_d16 (by decide) ?_
      exact rb_iret X la_value_d17 h
theorem la_value_c (l : Launch) (Z : rb_Z) {K : Int32 → rb_S → Prop} (hlt : l.stackTraces = false) {x1 : Int32} {S : rb_S} (h : la_value_p_0 K x1 S) : rx_Mw l la_value_y la_value_b 4 (some .int) [(0, 9, 12, 19), (0, 9, 15, 25)] la_value_rm Z [.ref (Z.1 0), .int x1, .ref (Z.1 36)] S K := rx_startW (by decide) (Nat.le_of_ble_eq_true rfl) (fun p e s m args below meth c A X hT => la_value_k_0 X hT hlt h)
end
