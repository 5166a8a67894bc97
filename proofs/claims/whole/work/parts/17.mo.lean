theorem mo_thrown_d0 : decode mo_thrown_b 0 = .ok (.aload_n 0, 1) := by decide +kernel
theorem mo_thrown_d1 : decode mo_thrown_b 1 = .ok (.getfield 47, 3) := by decide +kernel
theorem mo_thrown_d4 : decode mo_thrown_b 4 = .ok (.ireturn, 1) := by decide +kernel
abbrev mo_thrown_rm : Room := { frames := 0, cells := 0, slots := 0, locals := 0 }
theorem mo_thrown_w : rb_cw mo_thrown_y mo_thrown_b 1 (some .int) 0 := ⟨rw_633, rw_7, ⟨by decide, by decide⟩, by decide +kernel⟩
section
variable {p : Program} {l : Launch} {e : Env} {s : State} {m : MethodId} {args : Array Value} {below : List Frame} {meth : Method} {c : Code} {A : Nat → Prop} {Z : rb_Z}
def mo_thrown_p_0 (K : Int32 → rb_S → Prop)  (S : rb_S) : Prop := K (S 1 0) S
theorem mo_thrown_k_0 {K : Int32 → rb_S → Prop}  (X : rb_X p s m args meth c A Z mo_thrown_b 1 "RoomMakerModel" (some .int))   {S : rb_S} (h : mo_thrown_p_0 K S) : rb_V p l e mo_thrown_rm s m args below meth c A (MQ below (va_Qi K (rb_B Z A) A) args s mo_thrown_rm.cells mo_thrown_rm.slots A) Z 1 0 [(0, .ref (Z.1 23))] [] S 0 0 := by
  unfold mo_thrown_p_0 at h
  refine rb_aload_n X 0 mo_thrown_d0 rfl 0 rfl ?_
  refine mo_g47 X mo_thrown_d1 ?_
  exact rb_iret X mo_thrown_d4 h
theorem mo_thrown_c (l : Launch) (Z : rb_Z) {K : Int32 → rb_S → Prop}  {S : rb_S} (h : mo_thrown_p_0 K S) : rb_Mi l mo_thrown_y mo_thrown_b 1 (some .int) mo_thrown_rm Z [.ref (Z.1 23)] S K := rb_startI (by decide) (Nat.le_of_ble_eq_true rfl) (fun p e s m args below meth c A X => mo_thrown_k_0 X h)
end
theorem mo_isValue_d0 : decode mo_isValue_b 0 = .ok (.iload_n 0, 1) := by decide +kernel
theorem mo_isValue_d1 : decode mo_isValue_b 1 = .ok (.ifCond .lt 13, 3) := by decide +kernel
theorem mo_isValue_d4 : decode mo_isValue_b 4 = .ok (.iload_n 0, 1) := by decide +kernel
theorem mo_isValue_d5 : decode mo_isValue_b 5 = .ok (.bipush 16, 2) := by decide +kernel
theorem mo_isValue_d7 : decode mo_isValue_b 7 = .ok (.if_icmp .ge 7, 3) := by decide +kernel
theorem mo_isValue_d10 : decode mo_isValue_b 10 = .ok (.iconst 1, 1) := by decide +kernel
theorem mo_isValue_d11 : decode mo_isValue_b 11 = .ok (.goto 4, 3) := by decide +kernel
theorem mo_isValue_d14 : decode mo_isValue_b 14 = .ok (.iconst 0, 1) := by decide +kernel
theorem mo_isValue_d15 : decode mo_isValue_b 15 = .ok (.ireturn, 1) := by decide +kernel
abbrev mo_isValue_rm : Room := { frames := 0, cells := 0, slots := 0, locals := 0 }
theorem mo_isValue_w : rb_cw mo_isValue_y mo_isValue_b 1 (some .boolean) 1 := ⟨rw_643, rw_7, ⟨by decide, by decide⟩, by decide +kernel⟩
section
variable {p : Program} {l : Launch} {e : Env} {s : State} {m : MethodId} {args : Array Value} {below : List Frame} {meth : Method} {c : Code} {A : Nat → Prop} {Z : rb_Z}
def mo_isValue_p_15 (K : Int32 → rb_S → Prop) (x0 : Int32) (y0 : Int32) (S : rb_S) : Prop := narrow .boolean (.int y0) = .int y0 ∧ K y0 S
theorem mo_isValue_k_15 {K : Int32 → rb_S → Prop}  (X : rb_X p s m args meth c A Z mo_isValue_b 1 "RoomMakerModel" (some .boolean))  {x0 : Int32} {y0 : Int32} {S : rb_S} (h : mo_isValue_p_15 K x0 y0 S) : rb_V p l e mo_isValue_rm s m args below meth c A (MQ below (va_Qi K (rb_B Z A) A) args s mo_isValue_rm.cells mo_isValue_rm.slots A) Z 1 15 [(0, .int x0)] [.int y0] S 0 0 := by
  unfold mo_isValue_p_15 at h
  obtain ⟨hn, h⟩ := h
  exact rb_zret X mo_isValue_d15 hn h
def mo_isValue_p_14 (K : Int32 → rb_S → Prop) (x0 : Int32) (S : rb_S) : Prop := mo_isValue_p_15 K x0 0 S
theorem mo_isValue_k_14 {K : Int32 → rb_S → Prop}  (X : rb_X p s m args meth c A Z mo_isValue_b 1 "RoomMakerModel" (some .boolean))  {x0 : Int32} {S : rb_S} (h : mo_isValue_p_14 K x0 S) : rb_V p l e mo_isValue_rm s m args below meth c A (MQ below (va_Qi K (rb_B Z A) A) args s mo_isValue_rm.cells mo_isValue_rm.slots A) Z 1 14 [(0, .int x0)] [] S 0 0 := by
  unfold mo_isValue_p_14 at h
  refine rb_iconst X 0 mo_isValue_d14 (by decide) ?_
  exact mo_isValue_k_15 X h
def mo_isValue_p_0 (K : Int32 → rb_S → Prop) (x0 : Int32) (S : rb_S) : Prop := (x0 < 0 → mo_isValue_p_14 K x0 S) ∧ (¬ x0 < 0 → (16 ≤ x0 → mo_isValue_p_14 K x0 S) ∧ (¬ 16 ≤ x0 → mo_isValue_p_15 K x0 1 S))
theorem mo_isValue_k_0 {K : Int32 → rb_S → Prop}  (X : rb_X p s m args meth c A Z mo_isValue_b 1 "RoomMakerModel" (some .boolean))  {x0 : Int32} {S : rb_S} (h : mo_isValue_p_0 K x0 S) : rb_V p l e mo_isValue_rm s m args below meth c A (MQ below (va_Qi K (rb_B Z A) A) args s mo_isValue_rm.cells mo_isValue_rm.slots A) Z 1 0 [(0, .int x0)] [] S 0 0 := by
  unfold mo_isValue_p_0 at h
  refine rb_iload_n X 0 mo_isValue_d0 rfl 0 rfl ?_
  refine rb_if_lt X 14 mo_isValue_d1 (by decide) (fun hc => ?_) (fun hc => ?_)
  · replace h := h.1 hc
    exact mo_isValue_k_14 X h
  · replace h := h.2 hc
    refine rb_iload_n X 0 mo_isValue_d4 rfl 0 rfl ?_
    refine rb_bipush X 16 mo_isValue_d5 (by decide) ?_
    refine rb_icmp_ge X 14 mo_isValue_d7 (by decide) (fun hc => ?_) (fun hc => ?_)
    · replace h := h.1 hc
      exact mo_isValue_k_14 X h
    · replace h := h.2 hc
      refine rb_iconst X 1 mo_isValue_d10 (by decide) ?_
      refine rb_goto X 15 mo_isValue_d11 (by decide) ?_
      exact mo_isValue_k_15 X h
theorem mo_isValue_c (l : Launch) (Z : rb_Z) {K : Int32 → rb_S → Prop} {x0 : Int32} {S : rb_S} (h : mo_isValue_p_0 K x0 S) : rb_Mi l mo_isValue_y mo_isValue_b 1 (some .boolean) mo_isValue_rm Z [.int x0] S K := rb_startI (by decide) (Nat.le_of_ble_eq_true rfl) (fun p e s m args below meth c A X => mo_isValue_k_0 X h)
end
theorem mo_isTarget_d0 : decode mo_isTarget_b 0 = .ok (.iload_n 0, 1) := by decide +kernel
theorem mo_isTarget_d1 : decode mo_isTarget_b 1 = .ok (.ifCond .lt 13, 3) := by decide +kernel
theorem mo_isTarget_d4 : decode mo_isTarget_b 4 = .ok (.iload_n 0, 1) := by decide +kernel
theorem mo_isTarget_d5 : decode mo_isTarget_b 5 = .ok (.bipush 64, 2) := by decide +kernel
theorem mo_isTarget_d7 : decode mo_isTarget_b 7 = .ok (.if_icmp .gt 7, 3) := by decide +kernel
theorem mo_isTarget_d10 : decode mo_isTarget_b 10 = .ok (.iconst 1, 1) := by decide +kernel
theorem mo_isTarget_d11 : decode mo_isTarget_b 11 = .ok (.goto 4, 3) := by decide +kernel
theorem mo_isTarget_d14 : decode mo_isTarget_b 14 = .ok (.iconst 0, 1) := by decide +kernel
theorem mo_isTarget_d15 : decode mo_isTarget_b 15 = .ok (.ireturn, 1) := by decide +kernel
abbrev mo_isTarget_rm : Room := { frames := 0, cells := 0, slots := 0, locals := 0 }
theorem mo_isTarget_w : rb_cw mo_isTarget_y mo_isTarget_b 1 (some .boolean) 1 := ⟨rw_646, rw_7, ⟨by decide, by decide⟩, by decide +kernel⟩
section
variable {p : Program} {l : Launch} {e : Env} {s : State} {m : MethodId} {args : Array Value} {below : List Frame} {meth : Method} {c : Code} {A : Nat → Prop} {Z : rb_Z}
def mo_isTarget_p_15 (K : Int32 → rb_S → Prop) (x0 : Int32) (y0 : Int32) (S : rb_S) : Prop := narrow .boolean (.int y0) = .int y0 ∧ K y0 S
theorem mo_isTarget_k_15 {K : Int32 → rb_S → Prop}  (X : rb_X p s m args meth c A Z mo_isTarget_b 1 "RoomMakerModel" (some .boolean))  {x0 : Int32} {y0 : Int32} {S : rb_S} (h : mo_isTarget_p_15 K x0 y0 S) : rb_V p l e mo_isTarget_rm s m args below meth c A (MQ below (va_Qi K (rb_B Z A) A) args s mo_isTarget_rm.cells mo_isTarget_rm.slots A) Z 1 15 [(0, .int x0)] [.int y0] S 0 0 := by
  unfold mo_isTarget_p_15 at h
  obtain ⟨hn, h⟩ := h
  exact rb_zret X mo_isTarget_d15 hn h
def mo_isTarget_p_14 (K : Int32 → rb_S → Prop) (x0 : Int32) (S : rb_S) : Prop := mo_isTarget_p_15 K x0 0 S
theorem mo_isTarget_k_14 {K : Int32 → rb_S → Prop}  (X : rb_X p s m args meth c A Z mo_isTarget_b 1 "RoomMakerModel" (some .boolean))  {x0 : Int32} {S : rb_S} (h : mo_isTarget_p_14 K x0 S) : rb_V p l e mo_isTarget_rm s m args below meth c A (MQ below (va_Qi K (rb_B Z A) A) args s mo_isTarget_rm.cells mo_isTarget_rm.slots A) Z 1 14 [(0, .int x0)] [] S 0 0 := by
  unfold mo_isTarget_p_14 at h
  refine rb_iconst X 0 mo_isTarget_d14 (by decide) ?_
  exact mo_isTarget_k_15 X h
def mo_isTarget_p_0 (K : Int32 → rb_S → Prop) (x0 : Int32) (S : rb_S) : Prop := (x0 < 0 → mo_isTarget_p_14 K x0 S) ∧ (¬ x0 < 0 → (64 < x0 → mo_isTarget_p_14 K x0 S) ∧ (¬ 64 < x0 → mo_isTarget_p_15 K x0 1 S))
theorem mo_isTarget_k_0 {K : Int32 → rb_S → Prop}  (X : rb_X p s m args meth c A Z mo_isTarget_b 1 "RoomMakerModel" (some .boolean))  {x0 : Int32} {S : rb_S} (h : mo_isTarget_p_0 K x0 S) : rb_V p l e mo_isTarget_rm s m args below meth c A (MQ below (va_Qi K (rb_B Z A) A) args s mo_isTarget_rm.cells mo_isTarget_rm.slots A) Z 1 0 [(0, .int x0)] [] S 0 0 := by
  unfold mo_isTarget_p_0 at h
  refine rb_iload_n X 0 mo_isTarget_d0 rfl 0 rfl ?_
  refine rb_if_lt X 14 mo_isTarget_d1 (by decide) (fun hc => ?_) (fun hc => ?_)
  · replace h := h.1 hc
    exact mo_isTarget_k_14 X h
  · replace h := h.2 hc
    refine rb_iload_n X 0 mo_isTarget_d4 rfl 0 rfl ?_
    refine rb_bipush X 64 mo_isTarget_d5 (by decide) ?_
    refine rb_icmp_gt X 14 mo_isTarget_d7 (by decide) (fun hc => ?_) (fun hc => ?_)
    · replace h := h.1 hc
      exact mo_isTarget_k_14 X h
    · replace h := h.2 hc
      refine rb_iconst X 1 mo_isTarget_d10 (by decide) ?_
      refine rb_goto X 15 mo_isTarget_d11 (by decide) ?_
      exact mo_isTarget_k_15 X h
theorem mo_isTarget_c (l : Launch) (Z : rb_Z) {K : Int32 → rb_S → Prop} {x0 : Int32} {S : rb_S} (h : mo_isTarget_p_0 K x0 S) : rb_Mi l mo_isTarget_y mo_isTarget_b 1 (some .boolean) mo_isTarget_rm Z [.int x0] S K := rb_startI (by decide) (Nat.le_of_ble_eq_true rfl) (fun p e s m args below meth c A X => mo_isTarget_k_0 X h)
end
theorem mo_isRight_d0 : decode mo_isRight_b 0 = .ok (.iload_n 0, 1) := by decide +kernel
theorem mo_isRight_d1 : decode mo_isRight_b 1 = .ok (.tableswitch 200 0 11 #[63, 80, 80, 80, 107, 131, 107, 107, 131, 152, 173, 173], 63) := by decide +kernel
theorem mo_isRight_d64 : decode mo_isRight_b 64 = .ok (.iload_n 1, 1) := by decide +kernel
theorem mo_isRight_d65 : decode mo_isRight_b 65 = .ok (.invokestatic 51, 3) := by decide +kernel
theorem mo_isRight_d68 : decode mo_isRight_b 68 = .ok (.ifCond .eq 11, 3) := by decide +kernel
theorem mo_isRight_d71 : decode mo_isRight_b 71 = .ok (.iload_n 3, 1) := by decide +kernel
theorem mo_isRight_d72 : decode mo_isRight_b 72 = .ok (.ifCond .ne 7, 3) := by decide +kernel
theorem mo_isRight_d75 : decode mo_isRight_b 75 = .ok (.iconst 1, 1) := by decide +kernel
theorem mo_isRight_d76 : decode mo_isRight_b 76 = .ok (.goto 4, 3) := by decide +kernel
theorem mo_isRight_d79 : decode mo_isRight_b 79 = .ok (.iconst 0, 1) := by decide +kernel
theorem mo_isRight_d80 : decode mo_isRight_b 80 = .ok (.ireturn, 1) := by decide +kernel
theorem mo_isRight_d81 : decode mo_isRight_b 81 = .ok (.iload_n 1, 1) := by decide +kernel
theorem mo_isRight_d82 : decode mo_isRight_b 82 = .ok (.invokestatic 51, 3) := by decide +kernel
theorem mo_isRight_d85 : decode mo_isRight_b 85 = .ok (.ifCond .eq 21, 3) := by decide +kernel
theorem mo_isRight_d88 : decode mo_isRight_b 88 = .ok (.iload_n 2, 1) := by decide +kernel
theorem mo_isRight_d89 : decode mo_isRight_b 89 = .ok (.invokestatic 51, 3) := by decide +kernel
theorem mo_isRight_d92 : decode mo_isRight_b 92 = .ok (.ifCond .eq 14, 3) := by decide +kernel
theorem mo_isRight_d95 : decode mo_isRight_b 95 = .ok (.iload_n 3, 1) := by decide +kernel
theorem mo_isRight_d96 : decode mo_isRight_b 96 = .ok (.invokestatic 51, 3) := by decide +kernel
theorem mo_isRight_d99 : decode mo_isRight_b 99 = .ok (.ifCond .eq 7, 3) := by decide +kernel
theorem mo_isRight_d102 : decode mo_isRight_b 102 = .ok (.iconst 1, 1) := by decide +kernel
theorem mo_isRight_d103 : decode mo_isRight_b 103 = .ok (.goto 4, 3) := by decide +kernel
theorem mo_isRight_d106 : decode mo_isRight_b 106 = .ok (.iconst 0, 1) := by decide +kernel
theorem mo_isRight_d107 : decode mo_isRight_b 107 = .ok (.ireturn, 1) := by decide +kernel
theorem mo_isRight_d108 : decode mo_isRight_b 108 = .ok (.iload_n 1, 1) := by decide +kernel
theorem mo_isRight_d109 : decode mo_isRight_b 109 = .ok (.invokestatic 51, 3) := by decide +kernel
theorem mo_isRight_d112 : decode mo_isRight_b 112 = .ok (.ifCond .eq 18, 3) := by decide +kernel
theorem mo_isRight_d115 : decode mo_isRight_b 115 = .ok (.iload_n 2, 1) := by decide +kernel
theorem mo_isRight_d116 : decode mo_isRight_b 116 = .ok (.invokestatic 51, 3) := by decide +kernel
theorem mo_isRight_d119 : decode mo_isRight_b 119 = .ok (.ifCond .eq 11, 3) := by decide +kernel
theorem mo_isRight_d122 : decode mo_isRight_b 122 = .ok (.iload_n 3, 1) := by decide +kernel
theorem mo_isRight_d123 : decode mo_isRight_b 123 = .ok (.ifCond .ne 7, 3) := by decide +kernel
theorem mo_isRight_d126 : decode mo_isRight_b 126 = .ok (.iconst 1, 1) := by decide +kernel
theorem mo_isRight_d127 : decode mo_isRight_b 127 = .ok (.goto 4, 3) := by decide +kernel
theorem mo_isRight_d130 : decode mo_isRight_b 130 = .ok (.iconst 0, 1) := by decide +kernel
theorem mo_isRight_d131 : decode mo_isRight_b 131 = .ok (.ireturn, 1) := by decide +kernel
theorem mo_isRight_d132 : decode mo_isRight_b 132 = .ok (.iload_n 1, 1) := by decide +kernel
theorem mo_isRight_d133 : decode mo_isRight_b 133 = .ok (.invokestatic 51, 3) := by decide +kernel
theorem mo_isRight_d136 : decode mo_isRight_b 136 = .ok (.ifCond .eq 15, 3) := by decide +kernel
theorem mo_isRight_d139 : decode mo_isRight_b 139 = .ok (.iload_n 2, 1) := by decide +kernel
theorem mo_isRight_d140 : decode mo_isRight_b 140 = .ok (.ifCond .ne 11, 3) := by decide +kernel
theorem mo_isRight_d143 : decode mo_isRight_b 143 = .ok (.iload_n 3, 1) := by decide +kernel
theorem mo_isRight_d144 : decode mo_isRight_b 144 = .ok (.ifCond .ne 7, 3) := by decide +kernel
theorem mo_isRight_d147 : decode mo_isRight_b 147 = .ok (.iconst 1, 1) := by decide +kernel
theorem mo_isRight_d148 : decode mo_isRight_b 148 = .ok (.goto 4, 3) := by decide +kernel
theorem mo_isRight_d151 : decode mo_isRight_b 151 = .ok (.iconst 0, 1) := by decide +kernel
theorem mo_isRight_d152 : decode mo_isRight_b 152 = .ok (.ireturn, 1) := by decide +kernel
theorem mo_isRight_d153 : decode mo_isRight_b 153 = .ok (.iload_n 1, 1) := by decide +kernel
theorem mo_isRight_d154 : decode mo_isRight_b 154 = .ok (.invokestatic 55, 3) := by decide +kernel
theorem mo_isRight_d157 : decode mo_isRight_b 157 = .ok (.ifCond .eq 15, 3) := by decide +kernel
theorem mo_isRight_d160 : decode mo_isRight_b 160 = .ok (.iload_n 2, 1) := by decide +kernel
theorem mo_isRight_d161 : decode mo_isRight_b 161 = .ok (.ifCond .ne 11, 3) := by decide +kernel
theorem mo_isRight_d164 : decode mo_isRight_b 164 = .ok (.iload_n 3, 1) := by decide +kernel
theorem mo_isRight_d165 : decode mo_isRight_b 165 = .ok (.ifCond .ne 7, 3) := by decide +kernel
theorem mo_isRight_d168 : decode mo_isRight_b 168 = .ok (.iconst 1, 1) := by decide +kernel
theorem mo_isRight_d169 : decode mo_isRight_b 169 = .ok (.goto 4, 3) := by decide +kernel
theorem mo_isRight_d172 : decode mo_isRight_b 172 = .ok (.iconst 0, 1) := by decide +kernel
theorem mo_isRight_d173 : decode mo_isRight_b 173 = .ok (.ireturn, 1) := by decide +kernel
theorem mo_isRight_d174 : decode mo_isRight_b 174 = .ok (.iload_n 1, 1) := by decide +kernel
theorem mo_isRight_d175 : decode mo_isRight_b 175 = .ok (.invokestatic 51, 3) := by decide +kernel
theorem mo_isRight_d178 : decode mo_isRight_b 178 = .ok (.ifCond .eq 21, 3) := by decide +kernel
theorem mo_isRight_d181 : decode mo_isRight_b 181 = .ok (.iload_n 2, 1) := by decide +kernel
theorem mo_isRight_d182 : decode mo_isRight_b 182 = .ok (.invokestatic 51, 3) := by decide +kernel
theorem mo_isRight_d185 : decode mo_isRight_b 185 = .ok (.ifCond .eq 14, 3) := by decide +kernel
theorem mo_isRight_d188 : decode mo_isRight_b 188 = .ok (.iload_n 3, 1) := by decide +kernel
theorem mo_isRight_d189 : decode mo_isRight_b 189 = .ok (.invokestatic 55, 3) := by decide +kernel
theorem mo_isRight_d192 : decode mo_isRight_b 192 = .ok (.ifCond .eq 7, 3) := by decide +kernel
theorem mo_isRight_d195 : decode mo_isRight_b 195 = .ok (.iconst 1, 1) := by decide +kernel
theorem mo_isRight_d196 : decode mo_isRight_b 196 = .ok (.goto 4, 3) := by decide +kernel
theorem mo_isRight_d199 : decode mo_isRight_b 199 = .ok (.iconst 0, 1) := by decide +kernel
theorem mo_isRight_d200 : decode mo_isRight_b 200 = .ok (.ireturn, 1) := by decide +kernel
theorem mo_isRight_d201 : decode mo_isRight_b 201 = .ok (.iconst 0, 1) := by decide +kernel
theorem mo_isRight_d202 : decode mo_isRight_b 202 = .ok (.ireturn, 1) := by decide +kernel
abbrev mo_isRight_rm : Room := { frames := 1, cells := 0, slots := 0, locals := 20 }
theorem mo_isRight_w : rb_cw mo_isRight_y mo_isRight_b 4 (some .boolean) 4 := ⟨rw_640, rw_7, ⟨by decide, by decide⟩, by decide +kernel⟩
section
variable {p : Program} {l : Launch} {e : Env} {s : State} {m : MethodId} {args : Array Value} {below : List Frame} {meth : Method} {c : Code} {A : Nat → Prop} {Z : rb_Z}
def mo_isRight_p_80 (K : Int32 → rb_S → Prop) (x0 : Int32) (x1 : Int32) (x2 : Int32) (x3 : Int32) (y0 : Int32) (S : rb_S) : Prop := narrow .boolean (.int y0) = .int y0 ∧ K y0 S
theorem mo_isRight_k_80 {K : Int32 → rb_S → Prop}  (X : rb_X p s m args meth c A Z mo_isRight_b 4 "RoomMakerModel" (some .boolean))  {x0 : Int32} {x1 : Int32} {x2 : Int32} {x3 : Int32} {y0 : Int32} {S : rb_S} (h : mo_isRight_p_80 K x0 x1 x2 x3 y0 S) : rb_V p l e mo_isRight_rm s m args below meth c A (MQ below (va_Qi K (rb_B Z A) A) args s mo_isRight_rm.cells mo_isRight_rm.slots A) Z 4 80 [(0, .int x0), (1, .int x1), (2, .int x2), (3, .int x3)] [.int y0] S 0 0 := by
  unfold mo_isRight_p_80 at h
  obtain ⟨hn, h⟩ := h
  exact rb_zret X mo_isRight_d80 hn h
def mo_isRight_p_79 (K : Int32 → rb_S → Prop) (x0 : Int32) (x1 : Int32) (x2 : Int32) (x3 : Int32) (S : rb_S) : Prop := mo_isRight_p_80 K x0 x1 x2 x3 0 S
theorem mo_isRight_k_79 {K : Int32 → rb_S → Prop}  (X : rb_X p s m args meth c A Z mo_isRight_b 4 "RoomMakerModel" (some .boolean))  {x0 : Int32} {x1 : Int32} {x2 : Int32} {x3 : Int32} {S : rb_S} (h : mo_isRight_p_79 K x0 x1 x2 x3 S) : rb_V p l e mo_isRight_rm s m args below meth c A (MQ below (va_Qi K (rb_B Z A) A) args s mo_isRight_rm.cells mo_isRight_rm.slots A) Z 4 79 [(0, .int x0), (1, .int x1), (2, .int x2), (3, .int x3)] [] S 0 0 := by
  unfold mo_isRight_p_79 at h
  refine rb_iconst X 0 mo_isRight_d79 (by decide) ?_
  exact mo_isRight_k_80 X h
def mo_isRight_p_107 (K : Int32 → rb_S → Prop) (x0 : Int32) (x1 : Int32) (x2 : Int32) (x3 : Int32) (y0 : Int32) (S : rb_S) : Prop := narrow .boolean (.int y0) = .int y0 ∧ K y0 S
theorem mo_isRight_k_107 {K : Int32 → rb_S → Prop}  (X : rb_X p s m args meth c A Z mo_isRight_b 4 "RoomMakerModel" (some .boolean))  {x0 : Int32} {x1 : Int32} {x2 : Int32} {x3 : Int32} {y0 : Int32} {S : rb_S} (h : mo_isRight_p_107 K x0 x1 x2 x3 y0 S) : rb_V p l e mo_isRight_rm s m args below meth c A (MQ below (va_Qi K (rb_B Z A) A) args s mo_isRight_rm.cells mo_isRight_rm.slots A) Z 4 107 [(0, .int x0), (1, .int x1), (2, .int x2), (3, .int x3)] [.int y0] S 0 0 := by
  unfold mo_isRight_p_107 at h
  obtain ⟨hn, h⟩ := h
  exact rb_zret X mo_isRight_d107 hn h
def mo_isRight_p_106 (K : Int32 → rb_S → Prop) (x0 : Int32) (x1 : Int32) (x2 : Int32) (x3 : Int32) (S : rb_S) : Prop := mo_isRight_p_107 K x0 x1 x2 x3 0 S
theorem mo_isRight_k_106 {K : Int32 → rb_S → Prop}  (X : rb_X p s m args meth c A Z mo_isRight_b 4 "RoomMakerModel" (some .boolean))  {x0 : Int32} {x1 : Int32} {x2 : Int32} {x3 : Int32} {S : rb_S} (h : mo_isRight_p_106 K x0 x1 x2 x3 S) : rb_V p l e mo_isRight_rm s m args below meth c A (MQ below (va_Qi K (rb_B Z A) A) args s mo_isRight_rm.cells mo_isRight_rm.slots A) Z 4 106 [(0, .int x0), (1, .int x1), (2, .int x2), (3, .int x3)] [] S 0 0 := by
  unfold mo_isRight_p_106 at h
  refine rb_iconst X 0 mo_isRight_d106 (by decide) ?_
  exact mo_isRight_k_107 X h
def mo_isRight_p_131 (K : Int32 → rb_S → Prop) (x0 : Int32) (x1 : Int32) (x2 : Int32) (x3 : Int32) (y0 : Int32) (S : rb_S) : Prop := narrow .boolean (.int y0) = .int y0 ∧ K y0 S
theorem mo_isRight_k_131 {K : Int32 → rb_S → Prop}  (X : rb_X p s m args meth c A Z mo_isRight_b 4 "RoomMakerModel" (some .boolean))  {x0 : Int32} {x1 : Int32} {x2 : Int32} {x3 : Int32} {y0 : Int32} {S : rb_S} (h : mo_isRight_p_131 K x0 x1 x2 x3 y0 S) : rb_V p l e mo_isRight_rm s m args below meth c A (MQ below (va_Qi K (rb_B Z A) A) args s mo_isRight_rm.cells mo_isRight_rm.slots A) Z 4 131 [(0, .int x0), (1, .int x1), (2, .int x2), (3, .int x3)] [.int y0] S 0 0 := by
  unfold mo_isRight_p_131 at h
  obtain ⟨hn, h⟩ := h
  exact rb_zret X mo_isRight_d131 hn h
def mo_isRight_p_130 (K : Int32 → rb_S → Prop) (x0 : Int32) (x1 : Int32) (x2 : Int32) (x3 : Int32) (S : rb_S) : Prop := mo_isRight_p_131 K x0 x1 x2 x3 0 S
theorem mo_isRight_k_130 {K : Int32 → rb_S → Prop}  (X : rb_X p s m args meth c A Z mo_isRight_b 4 "RoomMakerModel" (some .boolean))  {x0 : Int32} {x1 : Int32} {x2 : Int32} {x3 : Int32} {S : rb_S} (h : mo_isRight_p_130 K x0 x1 x2 x3 S) : rb_V p l e mo_isRight_rm s m args below meth c A (MQ below (va_Qi K (rb_B Z A) A) args s mo_isRight_rm.cells mo_isRight_rm.slots A) Z 4 130 [(0, .int x0), (1, .int x1), (2, .int x2), (3, .int x3)] [] S 0 0 := by
  unfold mo_isRight_p_130 at h
  refine rb_iconst X 0 mo_isRight_d130 (by decide) ?_
  exact mo_isRight_k_131 X h
def mo_isRight_p_152 (K : Int32 → rb_S → Prop) (x0 : Int32) (x1 : Int32) (x2 : Int32) (x3 : Int32) (y0 : Int32) (S : rb_S) : Prop := narrow .boolean (.int y0) = .int y0 ∧ K y0 S
theorem mo_isRight_k_152 {K : Int32 → rb_S → Prop}  (X : rb_X p s m args meth c A Z mo_isRight_b 4 "RoomMakerModel" (some .boolean))  {x0 : Int32} {x1 : Int32} {x2 : Int32} {x3 : Int32} {y0 : Int32} {S : rb_S} (h : mo_isRight_p_152 K x0 x1 x2 x3 y0 S) : rb_V p l e mo_isRight_rm s m args below meth c A (MQ below (va_Qi K (rb_B Z A) A) args s mo_isRight_rm.cells mo_isRight_rm.slots A) Z 4 152 [(0, .int x0), (1, .int x1), (2, .int x2), (3, .int x3)] [.int y0] S 0 0 := by
  unfold mo_isRight_p_152 at h
  obtain ⟨hn, h⟩ := h
  exact rb_zret X mo_isRight_d152 hn h
def mo_isRight_p_151 (K : Int32 → rb_S → Prop) (x0 : Int32) (x1 : Int32) (x2 : Int32) (x3 : Int32) (S : rb_S) : Prop := mo_isRight_p_152 K x0 x1 x2 x3 0 S
theorem mo_isRight_k_151 {K : Int32 → rb_S → Prop}  (X : rb_X p s m args meth c A Z mo_isRight_b 4 "RoomMakerModel" (some .boolean))  {x0 : Int32} {x1 : Int32} {x2 : Int32} {x3 : Int32} {S : rb_S} (h : mo_isRight_p_151 K x0 x1 x2 x3 S) : rb_V p l e mo_isRight_rm s m args below meth c A (MQ below (va_Qi K (rb_B Z A) A) args s mo_isRight_rm.cells mo_isRight_rm.slots A) Z 4 151 [(0, .int x0), (1, .int x1), (2, .int x2), (3, .int x3)] [] S 0 0 := by
  unfold mo_isRight_p_151 at h
  refine rb_iconst X 0 mo_isRight_d151 (by decide) ?_
  exact mo_isRight_k_152 X h
def mo_isRight_p_173 (K : Int32 → rb_S → Prop) (x0 : Int32) (x1 : Int32) (x2 : Int32) (x3 : Int32) (y0 : Int32) (S : rb_S) : Prop := narrow .boolean (.int y0) = .int y0 ∧ K y0 S
theorem mo_isRight_k_173 {K : Int32 → rb_S → Prop}  (X : rb_X p s m args meth c A Z mo_isRight_b 4 "RoomMakerModel" (some .boolean))  {x0 : Int32} {x1 : Int32} {x2 : Int32} {x3 : Int32} {y0 : Int32} {S : rb_S} (h : mo_isRight_p_173 K x0 x1 x2 x3 y0 S) : rb_V p l e mo_isRight_rm s m args below meth c A (MQ below (va_Qi K (rb_B Z A) A) args s mo_isRight_rm.cells mo_isRight_rm.slots A) Z 4 173 [(0, .int x0), (1, .int x1), (2, .int x2), (3, .int x3)] [.int y0] S 0 0 := by
  unfold mo_isRight_p_173 at h
  obtain ⟨hn, h⟩ := h
  exact rb_zret X mo_isRight_d173 hn h
def mo_isRight_p_172 (K : Int32 → rb_S → Prop) (x0 : Int32) (x1 : Int32) (x2 : Int32) (x3 : Int32) (S : rb_S) : Prop := mo_isRight_p_173 K x0 x1 x2 x3 0 S
theorem mo_isRight_k_172 {K : Int32 → rb_S → Prop}  (X : rb_X p s m args meth c A Z mo_isRight_b 4 "RoomMakerModel" (some .boolean))  {x0 : Int32} {x1 : Int32} {x2 : Int32} {x3 : Int32} {S : rb_S} (h : mo_isRight_p_172 K x0 x1 x2 x3 S) : rb_V p l e mo_isRight_rm s m args below meth c A (MQ below (va_Qi K (rb_B Z A) A) args s mo_isRight_rm.cells mo_isRight_rm.slots A) Z 4 172 [(0, .int x0), (1, .int x1), (2, .int x2), (3, .int x3)] [] S 0 0 := by
  unfold mo_isRight_p_172 at h
  refine rb_iconst X 0 mo_isRight_d172 (by decide) ?_
  exact mo_isRight_k_173 X h
def mo_isRight_p_200 (K : Int32 → rb_S → Prop) (x0 : Int32) (x1 : Int32) (x2 : Int32) (x3 : Int32) (y0 : Int32) (S : rb_S) : Prop := narrow .boolean (.int y0) = .int y0 ∧ K y0 S
theorem mo_isRight_k_200 {K : Int32 → rb_S → Prop}  (X : rb_X p s m args meth c A Z mo_isRight_b 4 "RoomMakerModel" (some .boolean))  {x0 : Int32} {x1 : Int32} {x2 : Int32} {x3 : Int32} {y0 : Int32} {S : rb_S} (h : mo_isRight_p_200 K x0 x1 x2 x3 y0 S) : rb_V p l e mo_isRight_rm s m args below meth c A (MQ below (va_Qi K (rb_B Z A) A) args s mo_isRight_rm.cells mo_isRight_rm.slots A) Z 4 200 [(0, .int x0), (1, .int x1), (2, .int x2), (3, .int x3)] [.int y0] S 0 0 := by
  unfold mo_isRight_p_200 at h
  obtain ⟨hn, h⟩ := h
  exact rb_zret X mo_isRight_d200 hn h
def mo_isRight_p_199 (K : Int32 → rb_S → Prop) (x0 : Int32) (x1 : Int32) (x2 : Int32) (x3 : Int32) (S : rb_S) : Prop := mo_isRight_p_200 K x0 x1 x2 x3 0 S
theorem mo_isRight_k_199 {K : Int32 → rb_S → Prop}  (X : rb_X p s m args meth c A Z mo_isRight_b 4 "RoomMakerModel" (some .boolean))  {x0 : Int32} {x1 : Int32} {x2 : Int32} {x3 : Int32} {S : rb_S} (h : mo_isRight_p_199 K x0 x1 x2 x3 S) : rb_V p l e mo_isRight_rm s m args below meth c A (MQ below (va_Qi K (rb_B Z A) A) args s mo_isRight_rm.cells mo_isRight_rm.slots A) Z 4 199 [(0, .int x0), (1, .int x1), (2, .int x2), (3, .int x3)] [] S 0 0 := by
  unfold mo_isRight_p_199 at h
  refine rb_iconst X 0 mo_isRight_d199 (by decide) ?_
  exact mo_isRight_k_200 X h
def mo_isRight_p_0 (K : Int32 → rb_S → Prop) (x0 : Int32) (x1 : Int32) (x2 : Int32) (x3 : Int32) (S : rb_S) : Prop := (x0 = 0 → mo_isValue_p_0 (fun r65 S65 => (r65 = 0 → mo_isRight_p_79 K x0 x1 x2 x3 S65) ∧ (¬ r65 = 0 → (¬ x3 = 0 → mo_isRight_p_79 K x0 x1 x2 x3 S65) ∧ (x3 = 0 → mo_isRight_p_80 K x0 x1 x2 x3 1 S65))) x1 S) ∧ (x0 = 1 → mo_isValue_p_0 (fun r82 S82 => (r82 = 0 → mo_isRight_p_106 K x0 x1 x2 x3 S82) ∧ (¬ r82 = 0 → mo_isValue_p_0 (fun r89 S89 => (r89 = 0 → mo_isRight_p_106 K x0 x1 x2 x3 S89) ∧ (¬ r89 = 0 → mo_isValue_p_0 (fun r96 S96 => (r96 = 0 → mo_isRight_p_106 K x0 x1 x2 x3 S96) ∧ (¬ r96 = 0 → mo_isRight_p_107 K x0 x1 x2 x3 1 S96)) x3 S89)) x2 S82)) x1 S) ∧ (x0 = 2 → mo_isValue_p_0 (fun r82 S82 => (r82 = 0 → mo_isRight_p_106 K x0 x1 x2 x3 S82) ∧ (¬ r82 = 0 → mo_isValue_p_0 (fun r89 S89 => (r89 = 0 → mo_isRight_p_106 K x0 x1 x2 x3 S89) ∧ (¬ r89 = 0 → mo_isValue_p_0 (fun r96 S96 => (r96 = 0 → mo_isRight_p_106 K x0 x1 x2 x3 S96) ∧ (¬ r96 = 0 → mo_isRight_p_107 K x0 x1 x2 x3 1 S96)) x3 S89)) x2 S82)) x1 S) ∧ (x0 = 3 → mo_isValue_p_0 (fun r82 S82 => (r82 = 0 → mo_isRight_p_106 K x0 x1 x2 x3 S82) ∧ (¬ r82 = 0 → mo_isValue_p_0 (fun r89 S89 => (r89 = 0 → mo_isRight_p_106 K x0 x1 x2 x3 S89) ∧ (¬ r89 = 0 → mo_isValue_p_0 (fun r96 S96 => (r96 = 0 → mo_isRight_p_106 K x0 x1 x2 x3 S96) ∧ (¬ r96 = 0 → mo_isRight_p_107 K x0 x1 x2 x3 1 S96)) x3 S89)) x2 S82)) x1 S) ∧ (x0 = 4 → mo_isValue_p_0 (fun r109 S109 => (r109 = 0 → mo_isRight_p_130 K x0 x1 x2 x3 S109) ∧ (¬ r109 = 0 → mo_isValue_p_0 (fun r116 S116 => (r116 = 0 → mo_isRight_p_130 K x0 x1 x2 x3 S116) ∧ (¬ r116 = 0 → (¬ x3 = 0 → mo_isRight_p_130 K x0 x1 x2 x3 S116) ∧ (x3 = 0 → mo_isRight_p_131 K x0 x1 x2 x3 1 S116))) x2 S109)) x1 S) ∧ (x0 = 5 → mo_isValue_p_0 (fun r133 S133 => (r133 = 0 → mo_isRight_p_151 K x0 x1 x2 x3 S133) ∧ (¬ r133 = 0 → (¬ x2 = 0 → mo_isRight_p_151 K x0 x1 x2 x3 S133) ∧ (x2 = 0 → (¬ x3 = 0 → mo_isRight_p_151 K x0 x1 x2 x3 S133) ∧ (x3 = 0 → mo_isRight_p_152 K x0 x1 x2 x3 1 S133)))) x1 S) ∧ (x0 = 6 → mo_isValue_p_0 (fun r109 S109 => (r109 = 0 → mo_isRight_p_130 K x0 x1 x2 x3 S109) ∧ (¬ r109 = 0 → mo_isValue_p_0 (fun r116 S116 => (r116 = 0 → mo_isRight_p_130 K x0 x1 x2 x3 S116) ∧ (¬ r116 = 0 → (¬ x3 = 0 → mo_isRight_p_130 K x0 x1 x2 x3 S116) ∧ (x3 = 0 → mo_isRight_p_131 K x0 x1 x2 x3 1 S116))) x2 S109)) x1 S) ∧ (x0 = 7 → mo_isValue_p_0 (fun r109 S109 => (r109 = 0 → mo_isRight_p_130 K x0 x1 x2 x3 S109) ∧ (¬ r109 = 0 → mo_isValue_p_0 (fun r116 S116 => (r116 = 0 → mo_isRight_p_130 K x0 x1 x2 x3 S116) ∧ (¬ r116 = 0 → (¬ x3 = 0 → mo_isRight_p_130 K x0 x1 x2 x3 S116) ∧ (x3 = 0 → mo_isRight_p_131 K x0 x1 x2 x3 1 S116))) x2 S109)) x1 S) ∧ (x0 = 8 → mo_isValue_p_0 (fun r133 S133 => (r133 = 0 → mo_isRight_p_151 K x0 x1 x2 x3 S133) ∧ (¬ r133 = 0 → (¬ x2 = 0 → mo_isRight_p_151 K x0 x1 x2 x3 S133) ∧ (x2 = 0 → (¬ x3 = 0 → mo_isRight_p_151 K x0 x1 x2 x3 S133) ∧ (x3 = 0 → mo_isRight_p_152 K x0 x1 x2 x3 1 S133)))) x1 S) ∧ (x0 = 9 → mo_isTarget_p_0 (fun r154 S154 => (r154 = 0 → mo_isRight_p_172 K x0 x1 x2 x3 S154) ∧ (¬ r154 = 0 → (¬ x2 = 0 → mo_isRight_p_172 K x0 x1 x2 x3 S154) ∧ (x2 = 0 → (¬ x3 = 0 → mo_isRight_p_172 K x0 x1 x2 x3 S154) ∧ (x3 = 0 → mo_isRight_p_173 K x0 x1 x2 x3 1 S154)))) x1 S) ∧ (x0 = 10 → mo_isValue_p_0 (fun r175 S175 => (r175 = 0 → mo_isRight_p_199 K x0 x1 x2 x3 S175) ∧ (¬ r175 = 0 → mo_isValue_p_0 (fun r182 S182 => (r182 = 0 → mo_isRight_p_199 K x0 x1 x2 x3 S182) ∧ (¬ r182 = 0 → mo_isTarget_p_0 (fun r189 S189 => (r189 = 0 → mo_isRight_p_199 K x0 x1 x2 x3 S189) ∧ (¬ r189 = 0 → mo_isRight_p_200 K x0 x1 x2 x3 1 S189)) x3 S182)) x2 S175)) x1 S) ∧ (x0 = 11 → mo_isValue_p_0 (fun r175 S175 => (r175 = 0 → mo_isRight_p_199 K x0 x1 x2 x3 S175) ∧ (¬ r175 = 0 → mo_isValue_p_0 (fun r182 S182 => (r182 = 0 → mo_isRight_p_199 K x0 x1 x2 x3 S182) ∧ (¬ r182 = 0 → mo_isTarget_p_0 (fun r189 S189 => (r189 = 0 → mo_isRight_p_199 K x0 x1 x2 x3 S189) ∧ (¬ r189 = 0 → mo_isRight_p_200 K x0 x1 x2 x3 1 S189)) x3 S182)) x2 S175)) x1 S) ∧ (x0.toInt < 0 ∨ 11 < x0.toInt → narrow .boolean (.int 0) = .int 0 ∧ K 0 S)
theorem mo_isRight_k_0 {K : Int32 → rb_S → Prop}  (X : rb_X p s m args meth c A Z mo_isRight_b 4 "RoomMakerModel" (some .boolean))  {x0 : Int32} {x1 : Int32} {x2 : Int32} {x3 : Int32} {S : rb_S} (h : mo_isRight_p_0 K x0 x1 x2 x3 S) : rb_V p l e mo_isRight_rm s m args below meth c A (MQ below (va_Qi K (rb_B Z A) A) args s mo_isRight_rm.cells mo_isRight_rm.slots A) Z 4 0 [(0, .int x0), (1, .int x1), (2, .int x2), (3, .int x3)] [] S 0 0 := by
  unfold mo_isRight_p_0 at h
  refine rb_iload_n X 0 mo_isRight_d0 rfl 0 rfl ?_
  by_cases hc : x0 = 0
  · refine rb_tabIn X 64 mo_isRight_d1 (by rw [hc]; decide) (by rw [hc]; decide) (by rw [hc]; rfl) (by decide) ?_
    replace h := h.1 hc
    refine rb_iload_n X 1 mo_isRight_d64 rfl 1 rfl ?_
    refine rb_callSi (As := [.int x1]) (rest := []) X (mo_isValue_c l Z h) mo_isValue_w ⟨by decide, by decide⟩ rw_641 rw_642 rfl rfl (Nat.le_of_ble_eq_true rfl) mo_isRight_d65 ⟨by decide, by decide⟩ (fun r65 S65 h => ?_)
    refine rb_if_eq X 79 mo_isRight_d68 (by decide) (fun hc => ?_) (fun hc => ?_)
    · replace h := h.1 hc
      exact mo_isRight_k_79 X h
    · replace h := h.2 hc
      refine rb_iload_n X 3 mo_isRight_d71 rfl 3 rfl ?_
      refine rb_if_ne X 79 mo_isRight_d72 (by decide) (fun hc => ?_) (fun hc => ?_)
      · replace h := h.1 hc
        exact mo_isRight_k_79 X h
      · replace h := h.2 hc
        refine rb_iconst X 1 mo_isRight_d75 (by decide) ?_
        refine rb_goto X 80 mo_isRight_d76 (by decide) ?_
        exact mo_isRight_k_80 X h
  replace h := h.2
  have hc0 := lv_neT (k := 0) (a := 0) hc (by decide)
  clear hc
  by_cases hc : x0 = 1
  · refine rb_tabIn X 81 mo_isRight_d1 (by rw [hc]; decide) (by rw [hc]; decide) (by rw [hc]; rfl) (by decide) ?_
    replace h := h.1 hc
    refine rb_iload_n X 1 mo_isRight_d81 rfl 1 rfl ?_
    refine rb_callSi (As := [.int x1]) (rest := []) X (mo_isValue_c l Z h) mo_isValue_w ⟨by decide, by decide⟩ rw_641 rw_642 rfl rfl (Nat.le_of_ble_eq_true rfl) mo_isRight_d82 ⟨by decide, by decide⟩ (fun r82 S82 h => ?_)
    refine rb_if_eq X 106 mo_isRight_d85 (by decide) (fun hc => ?_) (fun hc => ?_)
    · replace h := h.1 hc
      exact mo_isRight_k_106 X h
    · replace h := h.2 hc
      refine rb_iload_n X 2 mo_isRight_d88 rfl 2 rfl ?_
      refine rb_callSi (As := [.int x2]) (rest := []) X (mo_isValue_c l Z h) mo_isValue_w ⟨by decide, by decide⟩ rw_641 rw_642 rfl rfl (Nat.le_of_ble_eq_true rfl) mo_isRight_d89 ⟨by decide, by decide⟩ (fun r89 S89 h => ?_)
      refine rb_if_eq X 106 mo_isRight_d92 (by decide) (fun hc => ?_) (fun hc => ?_)
      · replace h := h.1 hc
        exact mo_isRight_k_106 X h
      · replace h := h.2 hc
        refine rb_iload_n X 3 mo_isRight_d95 rfl 3 rfl ?_
        refine rb_callSi (As := [.int x3]) (rest := []) X (mo_isValue_c l Z h) mo_isValue_w ⟨by decide, by decide⟩ rw_641 rw_642 rfl rfl (Nat.le_of_ble_eq_true rfl) mo_isRight_d96 ⟨by decide, by decide⟩ (fun r96 S96 h => ?_)
        refine rb_if_eq X 106 mo_isRight_d99 (by decide) (fun hc => ?_) (fun hc => ?_)
        · replace h := h.1 hc
          exact mo_isRight_k_106 X h
        · replace h := h.2 hc
          refine rb_iconst X 1 mo_isRight_d102 (by decide) ?_
          refine rb_goto X 107 mo_isRight_d103 (by decide) ?_
          exact mo_isRight_k_107 X h
  replace h := h.2
  have hc1 := lv_neT (k := 1) (a := 1) hc (by decide)
  clear hc
  by_cases hc : x0 = 2
  · refine rb_tabIn X 81 mo_isRight_d1 (by rw [hc]; decide) (by rw [hc]; decide) (by rw [hc]; rfl) (by decide) ?_
    replace h := h.1 hc
    refine rb_iload_n X 1 mo_isRight_d81 rfl 1 rfl ?_
    refine rb_callSi (As := [.int x1]) (rest := []) X (mo_isValue_c l Z h) mo_isValue_w ⟨by decide, by decide⟩ rw_641 rw_642 rfl rfl (Nat.le_of_ble_eq_true rfl) mo_isRight_d82 ⟨by decide, by decide⟩ (fun r82 S82 h => ?_)
    refine rb_if_eq X 106 mo_isRight_d85 (by decide) (fun hc => ?_) (fun hc => ?_)
    · replace h := h.1 hc
      exact mo_isRight_k_106 X h
    · replace h := h.2 hc
      refine rb_iload_n X 2 mo_isRight_d88 rfl 2 rfl ?_
      refine rb_callSi (As := [.int x2]) (rest := []) X (mo_isValue_c l Z h) mo_isValue_w ⟨by decide, by decide⟩ rw_641 rw_642 rfl rfl (Nat.le_of_ble_eq_true rfl) mo_isRight_d89 ⟨by decide, by decide⟩ (fun r89 S89 h => ?_)
      refine rb_if_eq X 106 mo_isRight_d92 (by decide) (fun hc => ?_) (fun hc => ?_)
      · replace h := h.1 hc
        exact mo_isRight_k_106 X h
      · replace h := h.2 hc
        refine rb_iload_n X 3 mo_isRight_d95 rfl 3 rfl ?_
        refine rb_callSi (As := [.int x3]) (rest := []) X (mo_isValue_c l Z h) mo_isValue_w ⟨by decide, by decide⟩ rw_641 rw_642 rfl rfl (Nat.le_of_ble_eq_true rfl) mo_isRight_d96 ⟨by decide, by decide⟩ (fun r96 S96 h => ?_)
        refine rb_if_eq X 106 mo_isRight_d99 (by decide) (fun hc => ?_) (fun hc => ?_)
        · replace h := h.1 hc
          exact mo_isRight_k_106 X h
        · replace h := h.2 hc
          refine rb_iconst X 1 mo_isRight_d102 (by decide) ?_
          refine rb_goto X 107 mo_isRight_d103 (by decide) ?_
          exact mo_isRight_k_107 X h
  replace h := h.2
  have hc2 := lv_neT (k := 2) (a := 2) hc (by decide)
  clear hc
  by_cases hc : x0 = 3
  · refine rb_tabIn X 81 mo_isRight_d1 (by rw [hc]; decide) (by rw [hc]; decide) (by rw [hc]; rfl) (by decide) ?_
    replace h := h.1 hc
    refine rb_iload_n X 1 mo_isRight_d81 rfl 1 rfl ?_
    refine rb_callSi (As := [.int x1]) (rest := []) X (mo_isValue_c l Z h) mo_isValue_w ⟨by decide, by decide⟩ rw_641 rw_642 rfl rfl (Nat.le_of_ble_eq_true rfl) mo_isRight_d82 ⟨by decide, by decide⟩ (fun r82 S82 h => ?_)
    refine rb_if_eq X 106 mo_isRight_d85 (by decide) (fun hc => ?_) (fun hc => ?_)
    · replace h := h.1 hc
      exact mo_isRight_k_106 X h
    · replace h := h.2 hc
      refine rb_iload_n X 2 mo_isRight_d88 rfl 2 rfl ?_
      refine rb_callSi (As := [.int x2]) (rest := []) X (mo_isValue_c l Z h) mo_isValue_w ⟨by decide, by decide⟩ rw_641 rw_642 rfl rfl (Nat.le_of_ble_eq_true rfl) mo_isRight_d89 ⟨by decide, by decide⟩ (fun r89 S89 h => ?_)
      refine rb_if_eq X 106 mo_isRight_d92 (by decide) (fun hc => ?_) (fun hc => ?_)
      · replace h := h.1 hc
        exact mo_isRight_k_106 X h
      · replace h := h.2 hc
        refine rb_iload_n X 3 mo_isRight_d95 rfl 3 rfl ?_
        refine rb_callSi (As := [.int x3]) (rest := []) X (mo_isValue_c l Z h) mo_isValue_w ⟨by decide, by decide⟩ rw_641 rw_642 rfl rfl (Nat.le_of_ble_eq_true rfl) mo_isRight_d96 ⟨by decide, by decide⟩ (fun r96 S96 h => ?_)
        refine rb_if_eq X 106 mo_isRight_d99 (by decide) (fun hc => ?_) (fun hc => ?_)
        · replace h := h.1 hc
          exact mo_isRight_k_106 X h
        · replace h := h.2 hc
          refine rb_iconst X 1 mo_isRight_d102 (by decide) ?_
          refine rb_goto X 107 mo_isRight_d103 (by decide) ?_
          exact mo_isRight_k_107 X h
  replace h := h.2
  have hc3 := lv_neT (k := 3) (a := 3) hc (by decide)
  clear hc
  by_cases hc : x0 = 4
  · refine rb_tabIn X 108 mo_isRight_d1 (by rw [hc]; decide) (by rw [hc]; decide) (by rw [hc]; rfl) (by decide) ?_
    replace h := h.1 hc
    refine rb_iload_n X 1 mo_isRight_d108 rfl 1 rfl ?_
    refine rb_callSi (As := [.int x1]) (rest := []) X (mo_isValue_c l Z h) mo_isValue_w ⟨by decide, by decide⟩ rw_641 rw_642 rfl rfl (Nat.le_of_ble_eq_true rfl) mo_isRight_d109 ⟨by decide, by decide⟩ (fun r109 S109 h => ?_)
    refine rb_if_eq X 130 mo_isRight_d112 (by decide) (fun hc => ?_) (fun hc => ?_)
    · replace h := h.1 hc
      exact mo_isRight_k_130 X h
    · replace h := h.2 hc
      refine rb_iload_n X 2 mo_isRight_d115 rfl 2 rfl ?_
      refine rb_callSi (As := [.int x2]) (rest := []) X (mo_isValue_c l Z h) mo_isValue_w ⟨by decide, by decide⟩ rw_641 rw_642 rfl rfl (Nat.le_of_ble_eq_true rfl) mo_isRight_d116 ⟨by decide, by decide⟩ (fun r116 S116 h => ?_)
      refine rb_if_eq X 130 mo_isRight_d119 (by decide) (fun hc => ?_) (fun hc => ?_)
      · replace h := h.1 hc
        exact mo_isRight_k_130 X h
      · replace h := h.2 hc
        refine rb_iload_n X 3 mo_isRight_d122 rfl 3 rfl ?_
        refine rb_if_ne X 130 mo_isRight_d123 (by decide) (fun hc => ?_) (fun hc => ?_)
        · replace h := h.1 hc
          exact mo_isRight_k_130 X h
        · replace h := h.2 hc
          refine rb_iconst X 1 mo_isRight_d126 (by decide) ?_
          refine rb_goto X 131 mo_isRight_d127 (by decide) ?_
          exact mo_isRight_k_131 X h
  replace h := h.2
  have hc4 := lv_neT (k := 4) (a := 4) hc (by decide)
  clear hc
  by_cases hc : x0 = 5
  · refine rb_tabIn X 132 mo_isRight_d1 (by rw [hc]; decide) (by rw [hc]; decide) (by rw [hc]; rfl) (by decide) ?_
    replace h := h.1 hc
    refine rb_iload_n X 1 mo_isRight_d132 rfl 1 rfl ?_
    refine rb_callSi (As := [.int x1]) (rest := []) X (mo_isValue_c l Z h) mo_isValue_w ⟨by decide, by decide⟩ rw_641 rw_642 rfl rfl (Nat.le_of_ble_eq_true rfl) mo_isRight_d133 ⟨by decide, by decide⟩ (fun r133 S133 h => ?_)
    refine rb_if_eq X 151 mo_isRight_d136 (by decide) (fun hc => ?_) (fun hc => ?_)
    · replace h := h.1 hc
      exact mo_isRight_k_151 X h
    · replace h := h.2 hc
      refine rb_iload_n X 2 mo_isRight_d139 rfl 2 rfl ?_
      refine rb_if_ne X 151 mo_isRight_d140 (by decide) (fun hc => ?_) (fun hc => ?_)
      · replace h := h.1 hc
        exact mo_isRight_k_151 X h
      · replace h := h.2 hc
        refine rb_iload_n X 3 mo_isRight_d143 rfl 3 rfl ?_
        refine rb_if_ne X 151 mo_isRight_d144 (by decide) (fun hc => ?_) (fun hc => ?_)
        · replace h := h.1 hc
          exact mo_isRight_k_151 X h
        · replace h := h.2 hc
          refine rb_iconst X 1 mo_isRight_d147 (by decide) ?_
          refine rb_goto X 152 mo_isRight_d148 (by decide) ?_
          exact mo_isRight_k_152 X h
  replace h := h.2
  have hc5 := lv_neT (k := 5) (a := 5) hc (by decide)
  clear hc
  by_cases hc : x0 = 6
  · refine rb_tabIn X 108 mo_isRight_d1 (by rw [hc]; decide) (by rw [hc]; decide) (by rw [hc]; rfl) (by decide) ?_
    replace h := h.1 hc
    refine rb_iload_n X 1 mo_isRight_d108 rfl 1 rfl ?_
    refine rb_callSi (As := [.int x1]) (rest := []) X (mo_isValue_c l Z h) mo_isValue_w ⟨by decide, by decide⟩ rw_641 rw_642 rfl rfl (Nat.le_of_ble_eq_true rfl) mo_isRight_d109 ⟨by decide, by decide⟩ (fun r109 S109 h => ?_)
    refine rb_if_eq X 130 mo_isRight_d112 (by decide) (fun hc => ?_) (fun hc => ?_)
    · replace h := h.1 hc
      exact mo_isRight_k_130 X h
    · replace h := h.2 hc
      refine rb_iload_n X 2 mo_isRight_d115 rfl 2 rfl ?_
      refine rb_callSi (As := [.int x2]) (rest := []) X (mo_isValue_c l Z h) mo_isValue_w ⟨by decide, by decide⟩ rw_641 rw_642 rfl rfl (Nat.le_of_ble_eq_true rfl) mo_isRight_d116 ⟨by decide, by decide⟩ (fun r116 S116 h => ?_)
      refine rb_if_eq X 130 mo_isRight_d119 (by decide) (fun hc => ?_) (fun hc => ?_)
      · replace h := h.1 hc
        exact mo_isRight_k_130 X h
      · replace h := h.2 hc
        refine rb_iload_n X 3 mo_isRight_d122 rfl 3 rfl ?_
        refine rb_if_ne X 130 mo_isRight_d123 (by decide) (fun hc => ?_) (fun hc => ?_)
        · replace h := h.1 hc
          exact mo_isRight_k_130 X h
        · replace h := h.2 hc
          refine rb_iconst X 1 mo_isRight_d126 (by decide) ?_
          refine rb_goto X 131 mo_isRight_d127 (by decide) ?_
          exact mo_isRight_k_131 X h
  replace h := h.2
  have hc6 := lv_neT (k := 6) (a := 6) hc (by decide)
  clear hc
  by_cases hc : x0 = 7
  · refine rb_tabIn X 108 mo_isRight_d1 (by rw [hc]; decide) (by rw [hc]; decide) (by rw [hc]; rfl) (by decide) ?_
    replace h := h.1 hc
    refine rb_iload_n X 1 mo_isRight_d108 rfl 1 rfl ?_
    refine rb_callSi (As := [.int x1]) (rest := []) X (mo_isValue_c l Z h) mo_isValue_w ⟨by decide, by decide⟩ rw_641 rw_642 rfl rfl (Nat.le_of_ble_eq_true rfl) mo_isRight_d109 ⟨by decide, by decide⟩ (fun r109 S109 h => ?_)
    refine rb_if_eq X 130 mo_isRight_d112 (by decide) (fun hc => ?_) (fun hc => ?_)
    · replace h := h.1 hc
      exact mo_isRight_k_130 X h
    · replace h := h.2 hc
      refine rb_iload_n X 2 mo_isRight_d115 rfl 2 rfl ?_
      refine rb_callSi (As := [.int x2]) (rest := []) X (mo_isValue_c l Z h) mo_isValue_w ⟨by decide, by decide⟩ rw_641 rw_642 rfl rfl (Nat.le_of_ble_eq_true rfl) mo_isRight_d116 ⟨by decide, by decide⟩ (fun r116 S116 h => ?_)
      refine rb_if_eq X 130 mo_isRight_d119 (by decide) (fun hc => ?_) (fun hc => ?_)
      · replace h := h.1 hc
        exact mo_isRight_k_130 X h
      · replace h := h.2 hc
        refine rb_iload_n X 3 mo_isRight_d122 rfl 3 rfl ?_
        refine rb_if_ne X 130 mo_isRight_d123 (by decide) (fun hc => ?_) (fun hc => ?_)
        · replace h := h.1 hc
          exact mo_isRight_k_130 X h
        · replace h := h.2 hc
          refine rb_iconst X 1 mo_isRight_d126 (by decide) ?_
          refine rb_goto X 131 mo_isRight_d127 (by decide) ?_
          exact mo_isRight_k_131 X h
  replace h := h.2
  have hc7 := lv_neT (k := 7) (a := 7) hc (by decide)
  clear hc
  by_cases hc : x0 = 8
  · refine rb_tabIn X 132 mo_isRight_d1 (by rw [hc]; decide) (by rw [hc]; decide) (by rw [hc]; rfl) (by decide) ?_
    replace h := h.1 hc
    refine rb_iload_n X 1 mo_isRight_d132 rfl 1 rfl ?_
    refine rb_callSi (As := [.int x1]) (rest := []) X (mo_isValue_c l Z h) mo_isValue_w ⟨by decide, by decide⟩ rw_641 rw_642 rfl rfl (Nat.le_of_ble_eq_true rfl) mo_isRight_d133 ⟨by decide, by decide⟩ (fun r133 S133 h => ?_)
    refine rb_if_eq X 151 mo_isRight_d136 (by decide) (fun hc => ?_) (fun hc => ?_)
    · replace h := h.1 hc
      exact mo_isRight_k_151 X h
    · replace h := h.2 hc
      refine rb_iload_n X 2 mo_isRight_d139 rfl 2 rfl ?_
      refine rb_if_ne X 151 mo_isRight_d140 (by decide) (fun hc => ?_) (fun hc => ?_)
      · replace h := h.1 hc
        exact mo_isRight_k_151 X h
      · replace h := h.2 hc
        refine rb_iload_n X 3 mo_isRight_d143 rfl 3 rfl ?_
        refine rb_if_ne X 151 mo_isRight_d144 (by decide) (fun hc => ?_) (fun hc => ?_)
        · replace h := h.1 hc
          exact mo_isRight_k_151 X h
        · replace h := h.2 hc
          refine rb_iconst X 1 mo_isRight_d147 (by decide) ?_
          refine rb_goto X 152 mo_isRight_d148 (by decide) ?_
          exact mo_isRight_k_152 X h
  replace h := h.2
  have hc8 := lv_neT (k := 8) (a := 8) hc (by decide)
  clear hc
  by_cases hc : x0 = 9
  · refine rb_tabIn X 153 mo_isRight_d1 (by rw [hc]; decide) (by rw [hc]; decide) (by rw [hc]; rfl) (by decide) ?_
    replace h := h.1 hc
    refine rb_iload_n X 1 mo_isRight_d153 rfl 1 rfl ?_
    refine rb_callSi (As := [.int x1]) (rest := []) X (mo_isTarget_c l Z h) mo_isTarget_w ⟨by decide, by decide⟩ rw_644 rw_645 rfl rfl (Nat.le_of_ble_eq_true rfl) mo_isRight_d154 ⟨by decide, by decide⟩ (fun r154 S154 h => ?_)
    refine rb_if_eq X 172 mo_isRight_d157 (by decide) (fun hc => ?_) (fun hc => ?_)
    · replace h := h.1 hc
      exact mo_isRight_k_172 X h
    · replace h := h.2 hc
      refine rb_iload_n X 2 mo_isRight_d160 rfl 2 rfl ?_
      refine rb_if_ne X 172 mo_isRight_d161 (by decide) (fun hc => ?_) (fun hc => ?_)
      · replace h := h.1 hc
        exact mo_isRight_k_172 X h
      · replace h := h.2 hc
        refine rb_iload_n X 3 mo_isRight_d164 rfl 3 rfl ?_
        refine rb_if_ne X 172 mo_isRight_d165 (by decide) (fun hc => ?_) (fun hc => ?_)
        · replace h := h.1 hc
          exact mo_isRight_k_172 X h
        · replace h := h.2 hc
          refine rb_iconst X 1 mo_isRight_d168 (by decide) ?_
          refine rb_goto X 173 mo_isRight_d169 (by decide) ?_
          exact mo_isRight_k_173 X h
  replace h := h.2
  have hc9 := lv_neT (k := 9) (a := 9) hc (by decide)
  clear hc
  by_cases hc : x0 = 10
  · refine rb_tabIn X 174 mo_isRight_d1 (by rw [hc]; decide) (by rw [hc]; decide) (by rw [hc]; rfl) (by decide) ?_
    replace h := h.1 hc
    refine rb_iload_n X 1 mo_isRight_d174 rfl 1 rfl ?_
    refine rb_callSi (As := [.int x1]) (rest := []) X (mo_isValue_c l Z h) mo_isValue_w ⟨by decide, by decide⟩ rw_641 rw_642 rfl rfl (Nat.le_of_ble_eq_true rfl) mo_isRight_d175 ⟨by decide, by decide⟩ (fun r175 S175 h => ?_)
    refine rb_if_eq X 199 mo_isRight_d178 (by decide) (fun hc => ?_) (fun hc => ?_)
    · replace h := h.1 hc
      exact mo_isRight_k_199 X h
    · replace h := h.2 hc
      refine rb_iload_n X 2 mo_isRight_d181 rfl 2 rfl ?_
      refine rb_callSi (As := [.int x2]) (rest := []) X (mo_isValue_c l Z h) mo_isValue_w ⟨by decide, by decide⟩ rw_641 rw_642 rfl rfl (Nat.le_of_ble_eq_true rfl) mo_isRight_d182 ⟨by decide, by decide⟩ (fun r182 S182 h => ?_)
      refine rb_if_eq X 199 mo_isRight_d185 (by decide) (fun hc => ?_) (fun hc => ?_)
      · replace h := h.1 hc
        exact mo_isRight_k_199 X h
      · replace h := h.2 hc
        refine rb_iload_n X 3 mo_isRight_d188 rfl 3 rfl ?_
        refine rb_callSi (As := [.int x3]) (rest := []) X (mo_isTarget_c l Z h) mo_isTarget_w ⟨by decide, by decide⟩ rw_644 rw_645 rfl rfl (Nat.le_of_ble_eq_true rfl) mo_isRight_d189 ⟨by decide, by decide⟩ (fun r189 S189 h => ?_)
        refine rb_if_eq X 199 mo_isRight_d192 (by decide) (fun hc => ?_) (fun hc => ?_)
        · replace h := h.1 hc
          exact mo_isRight_k_199 X h
        · replace h := h.2 hc
          refine rb_iconst X 1 mo_isRight_d195 (by decide) ?_
          refine rb_goto X 200 mo_isRight_d196 (by decide) ?_
          exact mo_isRight_k_200 X h
  replace h := h.2
  have hc10 := lv_neT (k := 10) (a := 10) hc (by decide)
  clear hc
  by_cases hc : x0 = 11
  · refine rb_tabIn X 174 mo_isRight_d1 (by rw [hc]; decide) (by rw [hc]; decide) (by rw [hc]; rfl) (by decide) ?_
    replace h := h.1 hc
    refine rb_iload_n X 1 mo_isRight_d174 rfl 1 rfl ?_
    refine rb_callSi (As := [.int x1]) (rest := []) X (mo_isValue_c l Z h) mo_isValue_w ⟨by decide, by decide⟩ rw_641 rw_642 rfl rfl (Nat.le_of_ble_eq_true rfl) mo_isRight_d175 ⟨by decide, by decide⟩ (fun r175 S175 h => ?_)
    refine rb_if_eq X 199 mo_isRight_d178 (by decide) (fun hc => ?_) (fun hc => ?_)
    · replace h := h.1 hc
      exact mo_isRight_k_199 X h
    · replace h := h.2 hc
      refine rb_iload_n X 2 mo_isRight_d181 rfl 2 rfl ?_
      refine rb_callSi (As := [.int x2]) (rest := []) X (mo_isValue_c l Z h) mo_isValue_w ⟨by decide, by decide⟩ rw_641 rw_642 rfl rfl (Nat.le_of_ble_eq_true rfl) mo_isRight_d182 ⟨by decide, by decide⟩ (fun r182 S182 h => ?_)
      refine rb_if_eq X 199 mo_isRight_d185 (by decide) (fun hc => ?_) (fun hc => ?_)
      · replace h := h.1 hc
        exact mo_isRight_k_199 X h
      · replace h := h.2 hc
        refine rb_iload_n X 3 mo_isRight_d188 rfl 3 rfl ?_
        refine rb_callSi (As := [.int x3]) (rest := []) X (mo_isTarget_c l Z h) mo_isTarget_w ⟨by decide, by decide⟩ rw_644 rw_645 rfl rfl (Nat.le_of_ble_eq_true rfl) mo_isRight_d189 ⟨by decide, by decide⟩ (fun r189 S189 h => ?_)
        refine rb_if_eq X 199 mo_isRight_d192 (by decide) (fun hc => ?_) (fun hc => ?_)
        · replace h := h.1 hc
          exact mo_isRight_k_199 X h
        · replace h := h.2 hc
          refine rb_iconst X 1 mo_isRight_d195 (by decide) ?_
          refine rb_goto X 200 mo_isRight_d196 (by decide) ?_
          exact mo_isRight_k_200 X h
  replace h := h.2
  have hc11 := lv_neT (k := 11) (a := 11) hc (by decide)
  clear hc
  have hc : x0.toInt < 0 ∨ 11 < x0.toInt := by omega
  refine rb_tabOut X 201 mo_isRight_d1 hc (by decide) ?_
  replace h := h hc
  refine rb_iconst X 0 mo_isRight_d201 (by decide) ?_
  obtain ⟨hn, h⟩ := h
  exact rb_zret X mo_isRight_d202 hn h
theorem mo_isRight_c (l : Launch) (Z : rb_Z) {K : Int32 → rb_S → Prop} {x0 : Int32} {x1 : Int32} {x2 : Int32} {x3 : Int32} {S : rb_S} (h : mo_isRight_p_0 K x0 x1 x2 x3 S) : rb_Mi l mo_isRight_y mo_isRight_b 4 (some .boolean) mo_isRight_rm Z [.int x0, .int x1, .int x2, .int x3] S K := rb_startI (by decide) (Nat.le_of_ble_eq_true rfl) (fun p e s m args below meth c A X => mo_isRight_k_0 X h)
end
theorem mo_forget_d0 : decode mo_forget_b 0 = .ok (.aload_n 0, 1) := by decide +kernel
theorem mo_forget_d1 : decode mo_forget_b 1 = .ok (.iconst 0, 1) := by decide +kernel
theorem mo_forget_d2 : decode mo_forget_b 2 = .ok (.putfield 68, 3) := by decide +kernel
theorem mo_forget_d5 : decode mo_forget_b 5 = .ok (.aload_n 0, 1) := by decide +kernel
theorem mo_forget_d6 : decode mo_forget_b 6 = .ok (.iconst 0, 1) := by decide +kernel
theorem mo_forget_d7 : decode mo_forget_b 7 = .ok (.putfield 72, 3) := by decide +kernel
theorem mo_forget_d10 : decode mo_forget_b 10 = .ok (.return_, 1) := by decide +kernel
abbrev mo_forget_rm : Room := { frames := 0, cells := 0, slots := 0, locals := 0 }
theorem mo_forget_w : rb_cw mo_forget_y mo_forget_b 1 none 0 := ⟨rw_650, rw_7, ⟨by decide, by decide⟩, by decide +kernel⟩
section
variable {p : Program} {l : Launch} {e : Env} {s : State} {m : MethodId} {args : Array Value} {below : List Frame} {meth : Method} {c : Code} {A : Nat → Prop} {Z : rb_Z}
def mo_forget_p_0 (K : rb_S → Prop)  (S : rb_S) : Prop := ∀ S2 : rb_S, S2 = rb_u S 1 3 0 → (∀ S7 : rb_S, S7 = rb_u S2 1 11 0 → (K S7))
theorem mo_forget_k_0 {K : rb_S → Prop}  (X : rb_X p s m args meth c A Z mo_forget_b 1 "RoomMakerModel" none)   {S : rb_S} (h : mo_forget_p_0 K S) : rb_V p l e mo_forget_rm s m args below meth c A (MQ below (va_Qv K (rb_B Z A) A) args s mo_forget_rm.cells mo_forget_rm.slots A) Z 1 0 [(0, .ref (Z.1 23))] [] S 0 0 := by
  unfold mo_forget_p_0 at h
  refine rb_aload_n X 0 mo_forget_d0 rfl 0 rfl ?_
  refine rb_iconst X 0 mo_forget_d1 (by decide) ?_
  refine mo_q68 X mo_forget_d2 rfl rfl (fun S2 e2 => ?_)
  replace h := h S2 e2
  refine rb_aload_n X 0 mo_forget_d5 rfl 0 rfl ?_
  refine rb_iconst X 0 mo_forget_d6 (by decide) ?_
  refine mo_q72 X mo_forget_d7 (fun S7 e7 => ?_)
  replace h := h S7 e7
  exact rb_vret X mo_forget_d10 h
theorem mo_forget_c (l : Launch) (Z : rb_Z) {K : rb_S → Prop}  {S : rb_S} (h : mo_forget_p_0 K S) : rb_Mv l mo_forget_y mo_forget_b 1 mo_forget_rm Z [.ref (Z.1 23)] S K := rb_startV (by decide) (Nat.le_of_ble_eq_true rfl) (fun p e s m args below meth c A X => mo_forget_k_0 X h)
end
theorem mo_put_d0 : decode mo_put_b 0 = .ok (.aload_n 0, 1) := by decide +kernel
theorem mo_put_d1 : decode mo_put_b 1 = .ok (.iload_n 1, 1) := by decide +kernel
theorem mo_put_d2 : decode mo_put_b 2 = .ok (.iload_n 2, 1) := by decide +kernel
theorem mo_put_d3 : decode mo_put_b 3 = .ok (.iload_n 3, 1) := by decide +kernel
theorem mo_put_d4 : decode mo_put_b 4 = .ok (.iload 4, 2) := by decide +kernel
theorem mo_put_d6 : decode mo_put_b 6 = .ok (.invokestatic 58, 3) := by decide +kernel
theorem mo_put_d9 : decode mo_put_b 9 = .ok (.ifCond .eq 7, 3) := by decide +kernel
theorem mo_put_d12 : decode mo_put_b 12 = .ok (.iconst 0, 1) := by decide +kernel
theorem mo_put_d13 : decode mo_put_b 13 = .ok (.goto 4, 3) := by decide +kernel
theorem mo_put_d16 : decode mo_put_b 16 = .ok (.iconst 1, 1) := by decide +kernel
theorem mo_put_d17 : decode mo_put_b 17 = .ok (.putfield 47, 3) := by decide +kernel
theorem mo_put_d20 : decode mo_put_b 20 = .ok (.aload_n 0, 1) := by decide +kernel
theorem mo_put_d21 : decode mo_put_b 21 = .ok (.getfield 47, 3) := by decide +kernel
theorem mo_put_d24 : decode mo_put_b 24 = .ok (.ifCond .le 5, 3) := by decide +kernel
theorem mo_put_d27 : decode mo_put_b 27 = .ok (.iconst 0, 1) := by decide +kernel
theorem mo_put_d28 : decode mo_put_b 28 = .ok (.ireturn, 1) := by decide +kernel
theorem mo_put_d29 : decode mo_put_b 29 = .ok (.aload_n 0, 1) := by decide +kernel
theorem mo_put_d30 : decode mo_put_b 30 = .ok (.invokevirtual 62, 3) := by decide +kernel
theorem mo_put_d33 : decode mo_put_b 33 = .ok (.aload_n 0, 1) := by decide +kernel
theorem mo_put_d34 : decode mo_put_b 34 = .ok (.getfield 65, 3) := by decide +kernel
theorem mo_put_d37 : decode mo_put_b 37 = .ok (.bipush 64, 2) := by decide +kernel
theorem mo_put_d39 : decode mo_put_b 39 = .ok (.if_icmp .ne 5, 3) := by decide +kernel
theorem mo_put_d42 : decode mo_put_b 42 = .ok (.iconst (-1), 1) := by decide +kernel
theorem mo_put_d43 : decode mo_put_b 43 = .ok (.ireturn, 1) := by decide +kernel
theorem mo_put_d44 : decode mo_put_b 44 = .ok (.aload_n 0, 1) := by decide +kernel
theorem mo_put_d45 : decode mo_put_b 45 = .ok (.getfield 7, 3) := by decide +kernel
theorem mo_put_d48 : decode mo_put_b 48 = .ok (.iconst 4, 1) := by decide +kernel
theorem mo_put_d49 : decode mo_put_b 49 = .ok (.aload_n 0, 1) := by decide +kernel
theorem mo_put_d50 : decode mo_put_b 50 = .ok (.getfield 65, 3) := by decide +kernel
theorem mo_put_d53 : decode mo_put_b 53 = .ok (.imul, 1) := by decide +kernel
theorem mo_put_d54 : decode mo_put_b 54 = .ok (.iload_n 1, 1) := by decide +kernel
theorem mo_put_d55 : decode mo_put_b 55 = .ok (.iastore, 1) := by decide +kernel
theorem mo_put_d56 : decode mo_put_b 56 = .ok (.aload_n 0, 1) := by decide +kernel
theorem mo_put_d57 : decode mo_put_b 57 = .ok (.getfield 7, 3) := by decide +kernel
theorem mo_put_d60 : decode mo_put_b 60 = .ok (.iconst 4, 1) := by decide +kernel
theorem mo_put_d61 : decode mo_put_b 61 = .ok (.aload_n 0, 1) := by decide +kernel
theorem mo_put_d62 : decode mo_put_b 62 = .ok (.getfield 65, 3) := by decide +kernel
theorem mo_put_d65 : decode mo_put_b 65 = .ok (.imul, 1) := by decide +kernel
theorem mo_put_d66 : decode mo_put_b 66 = .ok (.iconst 1, 1) := by decide +kernel
theorem mo_put_d67 : decode mo_put_b 67 = .ok (.iadd, 1) := by decide +kernel
theorem mo_put_d68 : decode mo_put_b 68 = .ok (.iload_n 2, 1) := by decide +kernel
theorem mo_put_d69 : decode mo_put_b 69 = .ok (.iastore, 1) := by decide +kernel
theorem mo_put_d70 : decode mo_put_b 70 = .ok (.aload_n 0, 1) := by decide +kernel
theorem mo_put_d71 : decode mo_put_b 71 = .ok (.getfield 7, 3) := by decide +kernel
theorem mo_put_d74 : decode mo_put_b 74 = .ok (.iconst 4, 1) := by decide +kernel
theorem mo_put_d75 : decode mo_put_b 75 = .ok (.aload_n 0, 1) := by decide +kernel
theorem mo_put_d76 : decode mo_put_b 76 = .ok (.getfield 65, 3) := by decide +kernel
theorem mo_put_d79 : decode mo_put_b 79 = .ok (.imul, 1) := by decide +kernel
theorem mo_put_d80 : decode mo_put_b 80 = .ok (.iconst 2, 1) := by decide +kernel
theorem mo_put_d81 : decode mo_put_b 81 = .ok (.iadd, 1) := by decide +kernel
theorem mo_put_d82 : decode mo_put_b 82 = .ok (.iload_n 3, 1) := by decide +kernel
theorem mo_put_d83 : decode mo_put_b 83 = .ok (.iastore, 1) := by decide +kernel
theorem mo_put_d84 : decode mo_put_b 84 = .ok (.aload_n 0, 1) := by decide +kernel
theorem mo_put_d85 : decode mo_put_b 85 = .ok (.getfield 7, 3) := by decide +kernel
theorem mo_put_d88 : decode mo_put_b 88 = .ok (.iconst 4, 1) := by decide +kernel
theorem mo_put_d89 : decode mo_put_b 89 = .ok (.aload_n 0, 1) := by decide +kernel
theorem mo_put_d90 : decode mo_put_b 90 = .ok (.getfield 65, 3) := by decide +kernel
theorem mo_put_d93 : decode mo_put_b 93 = .ok (.imul, 1) := by decide +kernel
theorem mo_put_d94 : decode mo_put_b 94 = .ok (.iconst 3, 1) := by decide +kernel
theorem mo_put_d95 : decode mo_put_b 95 = .ok (.iadd, 1) := by decide +kernel
theorem mo_put_d96 : decode mo_put_b 96 = .ok (.iload 4, 2) := by decide +kernel
theorem mo_put_d98 : decode mo_put_b 98 = .ok (.iastore, 1) := by decide +kernel
theorem mo_put_d99 : decode mo_put_b 99 = .ok (.aload_n 0, 1) := by decide +kernel
theorem mo_put_d100 : decode mo_put_b 100 = .ok (.dup, 1) := by decide +kernel
theorem mo_put_d101 : decode mo_put_b 101 = .ok (.getfield 65, 3) := by decide +kernel
theorem mo_put_d104 : decode mo_put_b 104 = .ok (.iconst 1, 1) := by decide +kernel
theorem mo_put_d105 : decode mo_put_b 105 = .ok (.iadd, 1) := by decide +kernel
theorem mo_put_d106 : decode mo_put_b 106 = .ok (.putfield 65, 3) := by decide +kernel
theorem mo_put_d109 : decode mo_put_b 109 = .ok (.aload_n 0, 1) := by decide +kernel
theorem mo_put_d110 : decode mo_put_b 110 = .ok (.getfield 65, 3) := by decide +kernel
theorem mo_put_d113 : decode mo_put_b 113 = .ok (.ireturn, 1) := by decide +kernel
abbrev mo_put_rm : Room := { frames := 2, cells := 0, slots := 0, locals := 43 }
theorem mo_put_w : rb_cw mo_put_y mo_put_b 5 (some .int) 4 := ⟨rw_637, rw_7, ⟨by decide, by decide⟩, by decide +kernel⟩
section
variable {p : Program} {l : Launch} {e : Env} {s : State} {m : MethodId} {args : Array Value} {below : List Frame} {meth : Method} {c : Code} {A : Nat → Prop} {Z : rb_Z}
def mo_put_p_17 (K : Int32 → rb_S → Prop) (x1 : Int32) (x2 : Int32) (x3 : Int32) (x4 : Int32) (y0 : Int32) (S : rb_S) : Prop := ∀ S17 : rb_S, S17 = rb_u S 1 0 y0 → (((S17 1 0) ≤ 0 → mo_forget_p_0 (fun S30 => (¬ (S30 1 1) = 64 → vp_in (4 * (S30 1 1)) 256 ∧ ∀ S55 : rb_S, S55 = rb_u S30 24 (4 * (S30 1 1)).toNatClampNeg x1 → (vp_in ((4 * (S55 1 1)) + 1) 256 ∧ ∀ S69 : rb_S, S69 = rb_u S55 24 ((4 * (S55 1 1)) + 1).toNatClampNeg x2 → (vp_in ((4 * (S69 1 1)) + 2) 256 ∧ ∀ S83 : rb_S, S83 = rb_u S69 24 ((4 * (S69 1 1)) + 2).toNatClampNeg x3 → (vp_in ((4 * (S83 1 1)) + 3) 256 ∧ ∀ S98 : rb_S, S98 = rb_u S83 24 ((4 * (S83 1 1)) + 3).toNatClampNeg x4 → (∀ S106 : rb_S, S106 = rb_u S98 1 1 ((S98 1 1) + 1) → (K (S106 1 1) S106)))))) ∧ ((S30 1 1) = 64 → K (-1) S30)) S17) ∧ (¬ (S17 1 0) ≤ 0 → K 0 S17))
theorem mo_put_k_17 {K : Int32 → rb_S → Prop}  (X : rb_X p s m args meth c A Z mo_put_b 5 "RoomMakerModel" (some .int))  {x1 : Int32} {x2 : Int32} {x3 : Int32} {x4 : Int32} {y0 : Int32} {S : rb_S} (h : mo_put_p_17 K x1 x2 x3 x4 y0 S) : rb_V p l e mo_put_rm s m args below meth c A (MQ below (va_Qi K (rb_B Z A) A) args s mo_put_rm.cells mo_put_rm.slots A) Z 5 17 [(0, .ref (Z.1 23)), (1, .int x1), (2, .int x2), (3, .int x3), (4, .int x4)] [.int y0, .ref (Z.1 23)] S 0 0 := by
  unfold mo_put_p_17 at h
  refine mo_q47 X mo_put_d17 (fun S17 e17 => ?_)
  replace h := h S17 e17
  refine rb_aload_n X 0 mo_put_d20 rfl 0 rfl ?_
  refine mo_g47 X mo_put_d21 ?_
  refine rb_if_le X 29 mo_put_d24 (by decide) (fun hc => ?_) (fun hc => ?_)
  · replace h := h.1 hc
    refine rb_aload_n X 0 mo_put_d29 rfl 0 rfl ?_
    refine rb_callVv (As := []) (rest := []) X (mo_forget_c l Z h) mo_forget_w ⟨by decide, by decide⟩ rw_647 rw_649 rs_37 (q0 := 23) rfl rfl rfl rfl (Nat.le_of_ble_eq_true rfl) mo_put_d30 ⟨by decide, by decide⟩ (fun S30 h => ?_)
    refine rb_aload_n X 0 mo_put_d33 rfl 0 rfl ?_
    refine mo_g65 X mo_put_d34 ?_
    refine rb_bipush X 64 mo_put_d37 (by decide) ?_
    refine rb_icmp_ne X 44 mo_put_d39 (by decide) (fun hc => ?_) (fun hc => ?_)
    · replace h := h.1 hc
      refine rb_aload_n X 0 mo_put_d44 rfl 0 rfl ?_
      refine mo_g7 X mo_put_d45 ?_
      refine rb_iconst X 4 mo_put_d48 (by decide) ?_
      refine rb_aload_n X 0 mo_put_d49 rfl 0 rfl ?_
      refine mo_g65 X mo_put_d50 ?_
      refine rb_imul X mo_put_d53 ?_
      refine rb_iload_n X 1 mo_put_d54 rfl 1 rfl ?_
      obtain ⟨hin, h⟩ := h
      refine rb_iast X 24 (rb_a24 Z) mo_put_d55 hin (fun S55 e55 => ?_)
      replace h := h S55 e55
      refine rb_aload_n X 0 mo_put_d56 rfl 0 rfl ?_
      refine mo_g7 X mo_put_d57 ?_
      refine rb_iconst X 4 mo_put_d60 (by decide) ?_
      refine rb_aload_n X 0 mo_put_d61 rfl 0 rfl ?_
      refine mo_g65 X mo_put_d62 ?_
      refine rb_imul X mo_put_d65 ?_
      refine rb_iconst X 1 mo_put_d66 (by decide) ?_
      refine rb_iadd X mo_put_d67 ?_
      refine rb_iload_n X 2 mo_put_d68 rfl 2 rfl ?_
      obtain ⟨hin, h⟩ := h
      refine rb_iast X 24 (rb_a24 Z) mo_put_d69 hin (fun S69 e69 => ?_)
      replace h := h S69 e69
      refine rb_aload_n X 0 mo_put_d70 rfl 0 rfl ?_
      refine mo_g7 X mo_put_d71 ?_
      refine rb_iconst X 4 mo_put_d74 (by decide) ?_
      refine rb_aload_n X 0 mo_put_d75 rfl 0 rfl ?_
      refine mo_g65 X mo_put_d76 ?_
      refine rb_imul X mo_put_d79 ?_
      refine rb_iconst X 2 mo_put_d80 (by decide) ?_
      refine rb_iadd X mo_put_d81 ?_
      refine rb_iload_n X 3 mo_put_d82 rfl 3 rfl ?_
      obtain ⟨hin, h⟩ := h
      refine rb_iast X 24 (rb_a24 Z) mo_put_d83 hin (fun S83 e83 => ?_)
      replace h := h S83 e83
      refine rb_aload_n X 0 mo_put_d84 rfl 0 rfl ?_
      refine mo_g7 X mo_put_d85 ?_
      refine rb_iconst X 4 mo_put_d88 (by decide) ?_
      refine rb_aload_n X 0 mo_put_d89 rfl 0 rfl ?_
      refine mo_g65 X mo_put_d90 ?_
      refine rb_imul X mo_put_d93 ?_
      refine rb_iconst X 3 mo_put_d94 (by decide) ?_
      refine rb_iadd X mo_put_d95 ?_
      refine rb_iload X 4 mo_put_d96 4 rfl ?_
      obtain ⟨hin, h⟩ := h
      refine rb_iast X 24 (rb_a24 Z) mo_put_d98 hin (fun S98 e98 => ?_)
      replace h := h S98 e98
      refine rb_aload_n X 0 mo_put_d99 rfl 0 rfl ?_
      refine rb_dup X mo_put_d100 rfl ?_
      refine mo_g65 X mo_put_d101 ?_
      refine rb_iconst X 1 mo_put_d104 (by decide) ?_
      refine rb_iadd X mo_put_d105 ?_
      refine mo_q65 X mo_put_d106 (fun S106 e106 => ?_)
      replace h := h S106 e106
      refine rb_aload_n X 0 mo_put_d109 rfl 0 rfl ?_
      refine mo_g65 X mo_put_d110 ?_
      exact rb_iret X mo_put_d113 h
    · replace h := h.2 hc
      refine rb_iconst X (-1) mo_put_d42 (by decide) ?_
      exact rb_iret X mo_put_d43 h
  · replace h := h.2 hc
    refine rb_iconst X 0 mo_put_d27 (by decide) ?_
    exact rb_iret X mo_put_d28 h
def mo_put_p_0 (K : Int32 → rb_S → Prop) (x1 : Int32) (x2 : Int32) (x3 : Int32) (x4 : Int32) (S : rb_S) : Prop := mo_isRight_p_0 (fun r6 S6 => (r6 = 0 → mo_put_p_17 K x1 x2 x3 x4 1 S6) ∧ (¬ r6 = 0 → mo_put_p_17 K x1 x2 x3 x4 0 S6)) x1 x2 x3 x4 S
theorem mo_put_k_0 {K : Int32 → rb_S → Prop}  (X : rb_X p s m args meth c A Z mo_put_b 5 "RoomMakerModel" (some .int))  {x1 : Int32} {x2 : Int32} {x3 : Int32} {x4 : Int32} {S : rb_S} (h : mo_put_p_0 K x1 x2 x3 x4 S) : rb_V p l e mo_put_rm s m args below meth c A (MQ below (va_Qi K (rb_B Z A) A) args s mo_put_rm.cells mo_put_rm.slots A) Z 5 0 [(0, .ref (Z.1 23)), (1, .int x1), (2, .int x2), (3, .int x3), (4, .int x4)] [] S 0 0 := by
  unfold mo_put_p_0 at h
  refine rb_aload_n X 0 mo_put_d0 rfl 0 rfl ?_
  refine rb_iload_n X 1 mo_put_d1 rfl 1 rfl ?_
  refine rb_iload_n X 2 mo_put_d2 rfl 2 rfl ?_
  refine rb_iload_n X 3 mo_put_d3 rfl 3 rfl ?_
  refine rb_iload X 4 mo_put_d4 4 rfl ?_
  refine rb_callSi (As := [.int x1, .int x2, .int x3, .int x4]) (rest := [.ref (Z.1 23)]) X (mo_isRight_c l Z h) mo_isRight_w ⟨by decide, by decide⟩ rw_638 rw_639 rfl rfl (Nat.le_of_ble_eq_true rfl) mo_put_d6 ⟨by decide, by decide⟩ (fun r6 S6 h => ?_)
  refine rb_if_eq X 16 mo_put_d9 (by decide) (fun hc => ?_) (fun hc => ?_)
  · replace h := h.1 hc
    refine rb_iconst X 1 mo_put_d16 (by decide) ?_
    exact mo_put_k_17 X h
  · replace h := h.2 hc
    refine rb_iconst X 0 mo_put_d12 (by decide) ?_
    refine rb_goto X 17 mo_put_d13 (by decide) ?_
    exact mo_put_k_17 X h
theorem mo_put_c (l : Launch) (Z : rb_Z) {K : Int32 → rb_S → Prop} {x1 : Int32} {x2 : Int32} {x3 : Int32} {x4 : Int32} {S : rb_S} (h : mo_put_p_0 K x1 x2 x3 x4 S) : rb_Mi l mo_put_y mo_put_b 5 (some .int) mo_put_rm Z [.ref (Z.1 23), .int x1, .int x2, .int x3, .int x4] S K := rb_startI (by decide) (Nat.le_of_ble_eq_true rfl) (fun p e s m args below meth c A X => mo_put_k_0 X h)
end
theorem mo_clear_d0 : decode mo_clear_b 0 = .ok (.aload_n 0, 1) := by decide +kernel
theorem mo_clear_d1 : decode mo_clear_b 1 = .ok (.iconst 0, 1) := by decide +kernel
theorem mo_clear_d2 : decode mo_clear_b 2 = .ok (.putfield 47, 3) := by decide +kernel
theorem mo_clear_d5 : decode mo_clear_b 5 = .ok (.aload_n 0, 1) := by decide +kernel
theorem mo_clear_d6 : decode mo_clear_b 6 = .ok (.getfield 65, 3) := by decide +kernel
theorem mo_clear_d9 : decode mo_clear_b 9 = .ok (.istore_n 1, 1) := by decide +kernel
theorem mo_clear_d10 : decode mo_clear_b 10 = .ok (.aload_n 0, 1) := by decide +kernel
theorem mo_clear_d11 : decode mo_clear_b 11 = .ok (.iconst 0, 1) := by decide +kernel
theorem mo_clear_d12 : decode mo_clear_b 12 = .ok (.putfield 65, 3) := by decide +kernel
theorem mo_clear_d15 : decode mo_clear_b 15 = .ok (.aload_n 0, 1) := by decide +kernel
theorem mo_clear_d16 : decode mo_clear_b 16 = .ok (.iconst 0, 1) := by decide +kernel
theorem mo_clear_d17 : decode mo_clear_b 17 = .ok (.putfield 75, 3) := by decide +kernel
theorem mo_clear_d20 : decode mo_clear_b 20 = .ok (.aload_n 0, 1) := by decide +kernel
theorem mo_clear_d21 : decode mo_clear_b 21 = .ok (.invokevirtual 62, 3) := by decide +kernel
theorem mo_clear_d24 : decode mo_clear_b 24 = .ok (.iload_n 1, 1) := by decide +kernel
theorem mo_clear_d25 : decode mo_clear_b 25 = .ok (.ireturn, 1) := by decide +kernel
abbrev mo_clear_rm : Room := { frames := 1, cells := 0, slots := 0, locals := 20 }
theorem mo_clear_w : rb_cw mo_clear_y mo_clear_b 2 (some .int) 0 := ⟨rw_654, rw_7, ⟨by decide, by decide⟩, by decide +kernel⟩
section
variable {p : Program} {l : Launch} {e : Env} {s : State} {m : MethodId} {args : Array Value} {below : List Frame} {meth : Method} {c : Code} {A : Nat → Prop} {Z : rb_Z}
def mo_clear_p_0 (K : Int32 → rb_S → Prop)  (S : rb_S) : Prop := ∀ S2 : rb_S, S2 = rb_u S 1 0 0 → (∀ v9 : Int32, v9 = (S2 1 1) → (∀ S12 : rb_S, S12 = rb_u S2 1 1 0 → (∀ S17 : rb_S, S17 = rb_u S12 1 2 0 → (mo_forget_p_0 (fun S21 => K v9 S21) S17))))
theorem mo_clear_k_0 {K : Int32 → rb_S → Prop}  (X : rb_X p s m args meth c A Z mo_clear_b 2 "RoomMakerModel" (some .int))   {S : rb_S} (h : mo_clear_p_0 K S) : rb_V p l e mo_clear_rm s m args below meth c A (MQ below (va_Qi K (rb_B Z A) A) args s mo_clear_rm.cells mo_clear_rm.slots A) Z 2 0 [(0, .ref (Z.1 23))] [] S 0 0 := by
  unfold mo_clear_p_0 at h
  refine rb_aload_n X 0 mo_clear_d0 rfl 0 rfl ?_
  refine rb_iconst X 0 mo_clear_d1 (by decide) ?_
  refine mo_q47 X mo_clear_d2 (fun S2 e2 => ?_)
  replace h := h S2 e2
  refine rb_aload_n X 0 mo_clear_d5 rfl 0 rfl ?_
  refine mo_g65 X mo_clear_d6 ?_
  refine rb_topi (fun v9 e9 => ?_)
  replace h := h v9 e9
  refine rb_istore_n X 1 [1, 0] (L' := [(0, .ref (Z.1 23)), (1, .int v9)]) mo_clear_d9 rfl (by decide) rfl ?_
  refine rb_aload_n X 0 mo_clear_d10 rfl 0 rfl ?_
  refine rb_iconst X 0 mo_clear_d11 (by decide) ?_
  refine mo_q65 X mo_clear_d12 (fun S12 e12 => ?_)
  replace h := h S12 e12
  refine rb_aload_n X 0 mo_clear_d15 rfl 0 rfl ?_
  refine rb_iconst X 0 mo_clear_d16 (by decide) ?_
  refine mo_q75 X mo_clear_d17 (fun S17 e17 => ?_)
  replace h := h S17 e17
  refine rb_aload_n X 0 mo_clear_d20 rfl 0 rfl ?_
  refine rb_callVv (As := []) (rest := []) X (mo_forget_c l Z h) mo_forget_w ⟨by decide, by decide⟩ rw_647 rw_649 rs_37 (q0 := 23) rfl rfl rfl rfl (Nat.le_of_ble_eq_true rfl) mo_clear_d21 ⟨by decide, by decide⟩ (fun S21 h => ?_)
  refine rb_iload_n X 1 mo_clear_d24 rfl 1 rfl ?_
  exact rb_iret X mo_clear_d25 h
theorem mo_clear_c (l : Launch) (Z : rb_Z) {K : Int32 → rb_S → Prop}  {S : rb_S} (h : mo_clear_p_0 K S) : rb_Mi l mo_clear_y mo_clear_b 2 (some .int) mo_clear_rm Z [.ref (Z.1 23)] S K := rb_startI (by decide) (Nat.le_of_ble_eq_true rfl) (fun p e s m args below meth c A X => mo_clear_k_0 X h)
end
theorem mo_give_d0 : decode mo_give_b 0 = .ok (.aload_n 0, 1) := by decide +kernel
theorem mo_give_d1 : decode mo_give_b 1 = .ok (.iconst 0, 1) := by decide +kernel
theorem mo_give_d2 : decode mo_give_b 2 = .ok (.putfield 47, 3) := by decide +kernel
theorem mo_give_d5 : decode mo_give_b 5 = .ok (.aload_n 0, 1) := by decide +kernel
theorem mo_give_d6 : decode mo_give_b 6 = .ok (.getfield 75, 3) := by decide +kernel
theorem mo_give_d9 : decode mo_give_b 9 = .ok (.bipush 32, 2) := by decide +kernel
theorem mo_give_d11 : decode mo_give_b 11 = .ok (.if_icmp .ne 5, 3) := by decide +kernel
theorem mo_give_d14 : decode mo_give_b 14 = .ok (.iconst (-1), 1) := by decide +kernel
theorem mo_give_d15 : decode mo_give_b 15 = .ok (.ireturn, 1) := by decide +kernel
theorem mo_give_d16 : decode mo_give_b 16 = .ok (.aload_n 0, 1) := by decide +kernel
theorem mo_give_d17 : decode mo_give_b 17 = .ok (.getfield 13, 3) := by decide +kernel
theorem mo_give_d20 : decode mo_give_b 20 = .ok (.aload_n 0, 1) := by decide +kernel
theorem mo_give_d21 : decode mo_give_b 21 = .ok (.getfield 75, 3) := by decide +kernel
theorem mo_give_d24 : decode mo_give_b 24 = .ok (.iload_n 1, 1) := by decide +kernel
theorem mo_give_d25 : decode mo_give_b 25 = .ok (.iastore, 1) := by decide +kernel
theorem mo_give_d26 : decode mo_give_b 26 = .ok (.aload_n 0, 1) := by decide +kernel
theorem mo_give_d27 : decode mo_give_b 27 = .ok (.dup, 1) := by decide +kernel
theorem mo_give_d28 : decode mo_give_b 28 = .ok (.getfield 75, 3) := by decide +kernel
theorem mo_give_d31 : decode mo_give_b 31 = .ok (.iconst 1, 1) := by decide +kernel
theorem mo_give_d32 : decode mo_give_b 32 = .ok (.iadd, 1) := by decide +kernel
theorem mo_give_d33 : decode mo_give_b 33 = .ok (.putfield 75, 3) := by decide +kernel
theorem mo_give_d36 : decode mo_give_b 36 = .ok (.aload_n 0, 1) := by decide +kernel
theorem mo_give_d37 : decode mo_give_b 37 = .ok (.getfield 75, 3) := by decide +kernel
theorem mo_give_d40 : decode mo_give_b 40 = .ok (.ireturn, 1) := by decide +kernel
abbrev mo_give_rm : Room := { frames := 0, cells := 0, slots := 0, locals := 0 }
theorem mo_give_w : rb_cw mo_give_y mo_give_b 2 (some .int) 1 := ⟨rw_658, rw_7, ⟨by decide, by decide⟩, by decide +kernel⟩
section
variable {p : Program} {l : Launch} {e : Env} {s : State} {m : MethodId} {args : Array Value} {below : List Frame} {meth : Method} {c : Code} {A : Nat → Prop} {Z : rb_Z}
def mo_give_p_0 (K : Int32 → rb_S → Prop) (x1 : Int32) (S : rb_S) : Prop := ∀ S2 : rb_S, S2 = rb_u S 1 0 0 → ((¬ (S2 1 2) = 32 → vp_in (S2 1 2) 32 ∧ ∀ S25 : rb_S, S25 = rb_u S2 25 (S2 1 2).toNatClampNeg x1 → (∀ S33 : rb_S, S33 = rb_u S25 1 2 ((S25 1 2) + 1) → (K (S33 1 2) S33))) ∧ ((S2 1 2) = 32 → K (-1) S2))
theorem mo_give_k_0 {K : Int32 → rb_S → Prop}  (X : rb_X p s m args meth c A Z mo_give_b 2 "RoomMakerModel" (some .int))  {x1 : Int32} {S : rb_S} (h : mo_give_p_0 K x1 S) : rb_V p l e mo_give_rm s m args below meth c A (MQ below (va_Qi K (rb_B Z A) A) args s mo_give_rm.cells mo_give_rm.slots A) Z 2 0 [(0, .ref (Z.1 23)), (1, .int x1)] [] S 0 0 := by
  unfold mo_give_p_0 at h
  refine rb_aload_n X 0 mo_give_d0 rfl 0 rfl ?_
  refine rb_iconst X 0 mo_give_d1 (by decide) ?_
  refine mo_q47 X mo_give_d2 (fun S2 e2 => ?_)
  replace h := h S2 e2
  refine rb_aload_n X 0 mo_give_d5 rfl 0 rfl ?_
  refine mo_g75 X mo_give_d6 ?_
  refine rb_bipush X 32 mo_give_d9 (by decide) ?_
  refine rb_icmp_ne X 16 mo_give_d11 (by decide) (fun hc => ?_) (fun hc => ?_)
  · replace h := h.1 hc
    refine rb_aload_n X 0 mo_give_d16 rfl 0 rfl ?_
    refine mo_g13 X mo_give_d17 ?_
    refine rb_aload_n X 0 mo_give_d20 rfl 0 rfl ?_
    refine mo_g75 X mo_give_d21 ?_
    refine rb_iload_n X 1 mo_give_d24 rfl 1 rfl ?_
    obtain ⟨hin, h⟩ := h
    refine rb_iast X 25 (rb_a25 Z) mo_give_d25 hin (fun S25 e25 => ?_)
    replace h := h S25 e25
    refine rb_aload_n X 0 mo_give_d26 rfl 0 rfl ?_
    refine rb_dup X mo_give_d27 rfl ?_
    refine mo_g75 X mo_give_d28 ?_
    refine rb_iconst X 1 mo_give_d31 (by decide) ?_
    refine rb_iadd X mo_give_d32 ?_
    refine mo_q75 X mo_give_d33 (fun S33 e33 => ?_)
    replace h := h S33 e33
    refine rb_aload_n X 0 mo_give_d36 rfl 0 rfl ?_
    refine mo_g75 X mo_give_d37 ?_
    exact rb_iret X mo_give_d40 h
  · replace h := h.2 hc
    refine rb_iconst X (-1) mo_give_d14 (by decide) ?_
    exact rb_iret X mo_give_d15 h
theorem mo_give_c (l : Launch) (Z : rb_Z) {K : Int32 → rb_S → Prop} {x1 : Int32} {S : rb_S} (h : mo_give_p_0 K x1 S) : rb_Mi l mo_give_y mo_give_b 2 (some .int) mo_give_rm Z [.ref (Z.1 23), .int x1] S K := rb_startI (by decide) (Nat.le_of_ble_eq_true rfl) (fun p e s m args below meth c A X => mo_give_k_0 X h)
end
theorem mo_goesNowhere_d0 : decode mo_goesNowhere_b 0 = .ok (.iconst 0, 1) := by decide +kernel
theorem mo_goesNowhere_d1 : decode mo_goesNowhere_b 1 = .ok (.istore_n 1, 1) := by decide +kernel
theorem mo_goesNowhere_d2 : decode mo_goesNowhere_b 2 = .ok (.iconst 0, 1) := by decide +kernel
theorem mo_goesNowhere_d3 : decode mo_goesNowhere_b 3 = .ok (.istore_n 2, 1) := by decide +kernel
theorem mo_goesNowhere_d4 : decode mo_goesNowhere_b 4 = .ok (.iload_n 2, 1) := by decide +kernel
theorem mo_goesNowhere_d5 : decode mo_goesNowhere_b 5 = .ok (.aload_n 0, 1) := by decide +kernel
theorem mo_goesNowhere_d6 : decode mo_goesNowhere_b 6 = .ok (.getfield 65, 3) := by decide +kernel
theorem mo_goesNowhere_d9 : decode mo_goesNowhere_b 9 = .ok (.if_icmp .ge 84, 3) := by decide +kernel
theorem mo_goesNowhere_d12 : decode mo_goesNowhere_b 12 = .ok (.aload_n 0, 1) := by decide +kernel
theorem mo_goesNowhere_d13 : decode mo_goesNowhere_b 13 = .ok (.getfield 7, 3) := by decide +kernel
theorem mo_goesNowhere_d16 : decode mo_goesNowhere_b 16 = .ok (.iconst 4, 1) := by decide +kernel
theorem mo_goesNowhere_d17 : decode mo_goesNowhere_b 17 = .ok (.iload_n 2, 1) := by decide +kernel
theorem mo_goesNowhere_d18 : decode mo_goesNowhere_b 18 = .ok (.imul, 1) := by decide +kernel
theorem mo_goesNowhere_d19 : decode mo_goesNowhere_b 19 = .ok (.iaload, 1) := by decide +kernel
theorem mo_goesNowhere_d20 : decode mo_goesNowhere_b 20 = .ok (.istore_n 3, 1) := by decide +kernel
theorem mo_goesNowhere_d21 : decode mo_goesNowhere_b 21 = .ok (.iload_n 3, 1) := by decide +kernel
theorem mo_goesNowhere_d22 : decode mo_goesNowhere_b 22 = .ok (.bipush 9, 2) := by decide +kernel
theorem mo_goesNowhere_d24 : decode mo_goesNowhere_b 24 = .ok (.if_icmp .ne 16, 3) := by decide +kernel
theorem mo_goesNowhere_d27 : decode mo_goesNowhere_b 27 = .ok (.aload_n 0, 1) := by decide +kernel
theorem mo_goesNowhere_d28 : decode mo_goesNowhere_b 28 = .ok (.getfield 7, 3) := by decide +kernel
theorem mo_goesNowhere_d31 : decode mo_goesNowhere_b 31 = .ok (.iconst 4, 1) := by decide +kernel
theorem mo_goesNowhere_d32 : decode mo_goesNowhere_b 32 = .ok (.iload_n 2, 1) := by decide +kernel
theorem mo_goesNowhere_d33 : decode mo_goesNowhere_b 33 = .ok (.imul, 1) := by decide +kernel
theorem mo_goesNowhere_d34 : decode mo_goesNowhere_b 34 = .ok (.iconst 1, 1) := by decide +kernel
theorem mo_goesNowhere_d35 : decode mo_goesNowhere_b 35 = .ok (.iadd, 1) := by decide +kernel
theorem mo_goesNowhere_d36 : decode mo_goesNowhere_b 36 = .ok (.iaload, 1) := by decide +kernel
theorem mo_goesNowhere_d37 : decode mo_goesNowhere_b 37 = .ok (.goto 29, 3) := by decide +kernel
theorem mo_goesNowhere_d40 : decode mo_goesNowhere_b 40 = .ok (.iload_n 3, 1) := by decide +kernel
theorem mo_goesNowhere_d41 : decode mo_goesNowhere_b 41 = .ok (.bipush 10, 2) := by decide +kernel
theorem mo_goesNowhere_d43 : decode mo_goesNowhere_b 43 = .ok (.if_icmp .eq 9, 3) := by decide +kernel
theorem mo_goesNowhere_d46 : decode mo_goesNowhere_b 46 = .ok (.iload_n 3, 1) := by decide +kernel
theorem mo_goesNowhere_d47 : decode mo_goesNowhere_b 47 = .ok (.bipush 11, 2) := by decide +kernel
theorem mo_goesNowhere_d49 : decode mo_goesNowhere_b 49 = .ok (.if_icmp .ne 16, 3) := by decide +kernel
theorem mo_goesNowhere_d52 : decode mo_goesNowhere_b 52 = .ok (.aload_n 0, 1) := by decide +kernel
theorem mo_goesNowhere_d53 : decode mo_goesNowhere_b 53 = .ok (.getfield 7, 3) := by decide +kernel
theorem mo_goesNowhere_d56 : decode mo_goesNowhere_b 56 = .ok (.iconst 4, 1) := by decide +kernel
theorem mo_goesNowhere_d57 : decode mo_goesNowhere_b 57 = .ok (.iload_n 2, 1) := by decide +kernel
theorem mo_goesNowhere_d58 : decode mo_goesNowhere_b 58 = .ok (.imul, 1) := by decide +kernel
theorem mo_goesNowhere_d59 : decode mo_goesNowhere_b 59 = .ok (.iconst 3, 1) := by decide +kernel
theorem mo_goesNowhere_d60 : decode mo_goesNowhere_b 60 = .ok (.iadd, 1) := by decide +kernel
theorem mo_goesNowhere_d61 : decode mo_goesNowhere_b 61 = .ok (.iaload, 1) := by decide +kernel
theorem mo_goesNowhere_d62 : decode mo_goesNowhere_b 62 = .ok (.goto 4, 3) := by decide +kernel
theorem mo_goesNowhere_d65 : decode mo_goesNowhere_b 65 = .ok (.iconst 0, 1) := by decide +kernel
theorem mo_goesNowhere_d66 : decode mo_goesNowhere_b 66 = .ok (.istore 4, 2) := by decide +kernel
theorem mo_goesNowhere_d68 : decode mo_goesNowhere_b 68 = .ok (.iload_n 1, 1) := by decide +kernel
theorem mo_goesNowhere_d69 : decode mo_goesNowhere_b 69 = .ok (.ifCond .ne 12, 3) := by decide +kernel
theorem mo_goesNowhere_d72 : decode mo_goesNowhere_b 72 = .ok (.iload 4, 2) := by decide +kernel
theorem mo_goesNowhere_d74 : decode mo_goesNowhere_b 74 = .ok (.aload_n 0, 1) := by decide +kernel
theorem mo_goesNowhere_d75 : decode mo_goesNowhere_b 75 = .ok (.getfield 65, 3) := by decide +kernel
theorem mo_goesNowhere_d78 : decode mo_goesNowhere_b 78 = .ok (.if_icmp .le 7, 3) := by decide +kernel
theorem mo_goesNowhere_d81 : decode mo_goesNowhere_b 81 = .ok (.iconst 1, 1) := by decide +kernel
theorem mo_goesNowhere_d82 : decode mo_goesNowhere_b 82 = .ok (.goto 4, 3) := by decide +kernel
theorem mo_goesNowhere_d85 : decode mo_goesNowhere_b 85 = .ok (.iconst 0, 1) := by decide +kernel
theorem mo_goesNowhere_d86 : decode mo_goesNowhere_b 86 = .ok (.istore_n 1, 1) := by decide +kernel
theorem mo_goesNowhere_d87 : decode mo_goesNowhere_b 87 = .ok (.iinc 2 1, 3) := by decide +kernel
theorem mo_goesNowhere_d90 : decode mo_goesNowhere_b 90 = .ok (.goto (-86), 3) := by decide +kernel
theorem mo_goesNowhere_d93 : decode mo_goesNowhere_b 93 = .ok (.iload_n 1, 1) := by decide +kernel
theorem mo_goesNowhere_d94 : decode mo_goesNowhere_b 94 = .ok (.ireturn, 1) := by decide +kernel
abbrev mo_goesNowhere_rm : Room := { frames := 0, cells := 0, slots := 0, locals := 0 }
theorem mo_goesNowhere_w : rb_cw mo_goesNowhere_y mo_goesNowhere_b 5 (some .boolean) 0 := ⟨rw_666, rw_7, ⟨by decide, by decide⟩, by decide +kernel⟩
section
variable {p : Program} {l : Launch} {e : Env} {s : State} {m : MethodId} {args : Array Value} {below : List Frame} {meth : Method} {c : Code} {A : Nat → Prop} {Z : rb_Z}
def mo_goesNowhere_p_93 (K : Int32 → rb_S → Prop) (x1 : Int32) (x2 : Int32) (S : rb_S) : Prop := narrow .boolean (.int x1) = .int x1 ∧ K x1 S
theorem mo_goesNowhere_k_93 {K : Int32 → rb_S → Prop}  (X : rb_X p s m args meth c A Z mo_goesNowhere_b 5 "RoomMakerModel" (some .boolean))  {x1 : Int32} {x2 : Int32} {S : rb_S} (h : mo_goesNowhere_p_93 K x1 x2 S) : rb_V p l e mo_goesNowhere_rm s m args below meth c A (MQ below (va_Qi K (rb_B Z A) A) args s mo_goesNowhere_rm.cells mo_goesNowhere_rm.slots A) Z 5 93 [(0, .ref (Z.1 23)), (1, .int x1), (2, .int x2)] [] S 0 0 := by
  unfold mo_goesNowhere_p_93 at h
  refine rb_iload_n X 1 mo_goesNowhere_d93 rfl 1 rfl ?_
  obtain ⟨hn, h⟩ := h
  exact rb_zret X mo_goesNowhere_d94 hn h
def mo_goesNowhere_p_86 (K : Int32 → rb_S → Prop) (B4 : Int32 → Int32 → rb_S → Prop) (x1 : Int32) (x2 : Int32) (x3 : Int32) (x4 : Int32) (y0 : Int32) (S : rb_S) : Prop := ∀ v87 : Int32, v87 = x2 + 1 → (B4 y0 v87 S)
theorem mo_goesNowhere_k_86 {K : Int32 → rb_S → Prop} {B4 : Int32 → Int32 → rb_S → Prop} (X : rb_X p s m args meth c A Z mo_goesNowhere_b 5 "RoomMakerModel" (some .boolean)) (hB4 : ∀ (x1 : Int32) (x2 : Int32) (S : rb_S), B4 x1 x2 S → rb_V p l e mo_goesNowhere_rm s m args below meth c A (MQ below (va_Qi K (rb_B Z A) A) args s mo_goesNowhere_rm.cells mo_goesNowhere_rm.slots A) Z 5 4 [(0, .ref (Z.1 23)), (1, .int x1), (2, .int x2)] [] S 0 0) {x1 : Int32} {x2 : Int32} {x3 : Int32} {x4 : Int32} {y0 : Int32} {S : rb_S} (h : mo_goesNowhere_p_86 K B4 x1 x2 x3 x4 y0 S) : rb_V p l e mo_goesNowhere_rm s m args below meth c A (MQ below (va_Qi K (rb_B Z A) A) args s mo_goesNowhere_rm.cells mo_goesNowhere_rm.slots A) Z 5 86 [(0, .ref (Z.1 23)), (1, .int x1), (2, .int x2), (3, .int x3), (4, .int x4)] [.int y0] S 0 0 := by
  unfold mo_goesNowhere_p_86 at h
  refine rb_istore_n X 1 [1, 0, 2, 3, 4] (L' := [(0, .ref (Z.1 23)), (1, .int y0), (2, .int x2), (3, .int x3), (4, .int x4)]) mo_goesNowhere_d86 rfl (by decide) rfl ?_
  refine rb_iinc X 1 2 [1, 2, 0, 3, 4] (fun v87 => [(0, .ref (Z.1 23)), (1, .int y0), (2, .int v87), (3, .int x3), (4, .int x4)]) mo_goesNowhere_d87 2 rfl (by decide) (by decide) (fun _ => rfl) (fun v87 e87 => ?_)
  replace h := h v87 e87
  refine rb_goto X 4 mo_goesNowhere_d90 (by decide) ?_
  refine rb_cut [0, 1, 2] (L' := [(0, .ref (Z.1 23)), (1, .int y0), (2, .int v87)]) rfl ?_
  exact hB4 _ _ _ h
def mo_goesNowhere_p_81 (K : Int32 → rb_S → Prop) (B4 : Int32 → Int32 → rb_S → Prop) (x1 : Int32) (x2 : Int32) (x3 : Int32) (x4 : Int32) (S : rb_S) : Prop := mo_goesNowhere_p_86 K B4 x1 x2 x3 x4 1 S
theorem mo_goesNowhere_k_81 {K : Int32 → rb_S → Prop} {B4 : Int32 → Int32 → rb_S → Prop} (X : rb_X p s m args meth c A Z mo_goesNowhere_b 5 "RoomMakerModel" (some .boolean)) (hB4 : ∀ (x1 : Int32) (x2 : Int32) (S : rb_S), B4 x1 x2 S → rb_V p l e mo_goesNowhere_rm s m args below meth c A (MQ below (va_Qi K (rb_B Z A) A) args s mo_goesNowhere_rm.cells mo_goesNowhere_rm.slots A) Z 5 4 [(0, .ref (Z.1 23)), (1, .int x1), (2, .int x2)] [] S 0 0) {x1 : Int32} {x2 : Int32} {x3 : Int32} {x4 : Int32} {S : rb_S} (h : mo_goesNowhere_p_81 K B4 x1 x2 x3 x4 S) : rb_V p l e mo_goesNowhere_rm s m args below meth c A (MQ below (va_Qi K (rb_B Z A) A) args s mo_goesNowhere_rm.cells mo_goesNowhere_rm.slots A) Z 5 81 [(0, .ref (Z.1 23)), (1, .int x1), (2, .int x2), (3, .int x3), (4, .int x4)] [] S 0 0 := by
  unfold mo_goesNowhere_p_81 at h
  refine rb_iconst X 1 mo_goesNowhere_d81 (by decide) ?_
  refine rb_goto X 86 mo_goesNowhere_d82 (by decide) ?_
  exact mo_goesNowhere_k_86 X hB4 h
def mo_goesNowhere_p_66 (K : Int32 → rb_S → Prop) (B4 : Int32 → Int32 → rb_S → Prop) (x1 : Int32) (x2 : Int32) (x3 : Int32) (y0 : Int32) (S : rb_S) : Prop := (¬ x1 = 0 → mo_goesNowhere_p_81 K B4 x1 x2 x3 y0 S) ∧ (x1 = 0 → (y0 ≤ (S 1 1) → mo_goesNowhere_p_86 K B4 x1 x2 x3 y0 0 S) ∧ (¬ y0 ≤ (S 1 1) → mo_goesNowhere_p_81 K B4 x1 x2 x3 y0 S))
theorem mo_goesNowhere_k_66 {K : Int32 → rb_S → Prop} {B4 : Int32 → Int32 → rb_S → Prop} (X : rb_X p s m args meth c A Z mo_goesNowhere_b 5 "RoomMakerModel" (some .boolean)) (hB4 : ∀ (x1 : Int32) (x2 : Int32) (S : rb_S), B4 x1 x2 S → rb_V p l e mo_goesNowhere_rm s m args below meth c A (MQ below (va_Qi K (rb_B Z A) A) args s mo_goesNowhere_rm.cells mo_goesNowhere_rm.slots A) Z 5 4 [(0, .ref (Z.1 23)), (1, .int x1), (2, .int x2)] [] S 0 0) {x1 : Int32} {x2 : Int32} {x3 : Int32} {y0 : Int32} {S : rb_S} (h : mo_goesNowhere_p_66 K B4 x1 x2 x3 y0 S) : rb_V p l e mo_goesNowhere_rm s m args below meth c A (MQ below (va_Qi K (rb_B Z A) A) args s mo_goesNowhere_rm.cells mo_goesNowhere_rm.slots A) Z 5 66 [(0, .ref (Z.1 23)), (1, .int x1), (2, .int x2), (3, .int x3)] [.int y0] S 0 0 := by
  unfold mo_goesNowhere_p_66 at h
  refine rb_istore X 4 [1, 2, 3, 4, 0] (L' := [(0, .ref (Z.1 23)), (1, .int x1), (2, .int x2), (3, .int x3), (4, .int y0)]) mo_goesNowhere_d66 (by decide) rfl ?_
  refine rb_iload_n X 1 mo_goesNowhere_d68 rfl 1 rfl ?_
  refine rb_if_ne X 81 mo_goesNowhere_d69 (by decide) (fun hc => ?_) (fun hc => ?_)
  · replace h := h.1 hc
    exact mo_goesNowhere_k_81 X hB4 h
  · replace h := h.2 hc
    refine rb_iload X 4 mo_goesNowhere_d72 4 rfl ?_
    refine rb_aload_n X 0 mo_goesNowhere_d74 rfl 0 rfl ?_
    refine mo_g65 X mo_goesNowhere_d75 ?_
    refine rb_icmp_le X 85 mo_goesNowhere_d78 (by decide) (fun hc => ?_) (fun hc => ?_)
    · replace h := h.1 hc
      refine rb_iconst X 0 mo_goesNowhere_d85 (by decide) ?_
      exact mo_goesNowhere_k_86 X hB4 h
    · replace h := h.2 hc
      exact mo_goesNowhere_k_81 X hB4 h
def mo_goesNowhere_p_52 (K : Int32 → rb_S → Prop) (B4 : Int32 → Int32 → rb_S → Prop) (x1 : Int32) (x2 : Int32) (x3 : Int32) (S : rb_S) : Prop := vp_in ((4 * x2) + 3) 256 ∧ (mo_goesNowhere_p_66 K B4 x1 x2 x3 (S 24 ((4 * x2) + 3).toNatClampNeg) S)
theorem mo_goesNowhere_k_52 {K : Int32 → rb_S → Prop} {B4 : Int32 → Int32 → rb_S → Prop} (X : rb_X p s m args meth c A Z mo_goesNowhere_b 5 "RoomMakerModel" (some .boolean)) (hB4 : ∀ (x1 : Int32) (x2 : Int32) (S : rb_S), B4 x1 x2 S → rb_V p l e mo_goesNowhere_rm s m args below meth c A (MQ below (va_Qi K (rb_B Z A) A) args s mo_goesNowhere_rm.cells mo_goesNowhere_rm.slots A) Z 5 4 [(0, .ref (Z.1 23)), (1, .int x1), (2, .int x2)] [] S 0 0) {x1 : Int32} {x2 : Int32} {x3 : Int32} {S : rb_S} (h : mo_goesNowhere_p_52 K B4 x1 x2 x3 S) : rb_V p l e mo_goesNowhere_rm s m args below meth c A (MQ below (va_Qi K (rb_B Z A) A) args s mo_goesNowhere_rm.cells mo_goesNowhere_rm.slots A) Z 5 52 [(0, .ref (Z.1 23)), (1, .int x1), (2, .int x2), (3, .int x3)] [] S 0 0 := by
  unfold mo_goesNowhere_p_52 at h
  refine rb_aload_n X 0 mo_goesNowhere_d52 rfl 0 rfl ?_
  refine mo_g7 X mo_goesNowhere_d53 ?_
  refine rb_iconst X 4 mo_goesNowhere_d56 (by decide) ?_
  refine rb_iload_n X 2 mo_goesNowhere_d57 rfl 2 rfl ?_
  refine rb_imul X mo_goesNowhere_d58 ?_
  refine rb_iconst X 3 mo_goesNowhere_d59 (by decide) ?_
  refine rb_iadd X mo_goesNowhere_d60 ?_
  obtain ⟨hin, h⟩ := h
  refine rb_iald X 24 (rb_a24 Z) mo_goesNowhere_d61 hin ?_
  refine rb_goto X 66 mo_goesNowhere_d62 (by decide) ?_
  exact mo_goesNowhere_k_66 X hB4 h
def mo_goesNowhere_p_4 (K : Int32 → rb_S → Prop) : Nat → Int32 → Int32 → rb_S → Prop
  | 0, _, _, _ => False
  | n4 + 1, x1, x2, S => ((S 1 1) ≤ x2 → mo_goesNowhere_p_93 K x1 x2 S) ∧ (¬ (S 1 1) ≤ x2 → vp_in (4 * x2) 256 ∧ (∀ v20 : Int32, v20 = (S 24 (4 * x2).toNatClampNeg) → ((¬ v20 = 9 → (v20 = 10 → mo_goesNowhere_p_52 K (fun a0 a1 T => mo_goesNowhere_p_4 K n4 a0 a1 T) x1 x2 v20 S) ∧ (¬ v20 = 10 → (¬ v20 = 11 → mo_goesNowhere_p_66 K (fun a0 a1 T => mo_goesNowhere_p_4 K n4 a0 a1 T) x1 x2 v20 0 S) ∧ (v20 = 11 → mo_goesNowhere_p_52 K (fun a0 a1 T => mo_goesNowhere_p_4 K n4 a0 a1 T) x1 x2 v20 S))) ∧ (v20 = 9 → vp_in ((4 * x2) + 1) 256 ∧ (mo_goesNowhere_p_66 K (fun a0 a1 T => mo_goesNowhere_p_4 K n4 a0 a1 T) x1 x2 v20 (S 24 ((4 * x2) + 1).toNatClampNeg) S)))))
theorem mo_goesNowhere_k_4 {K : Int32 → rb_S → Prop}  (X : rb_X p s m args meth c A Z mo_goesNowhere_b 5 "RoomMakerModel" (some .boolean))  : ∀ (n : Nat) (x1 : Int32) (x2 : Int32) (S : rb_S), mo_goesNowhere_p_4 K n x1 x2 S → rb_V p l e mo_goesNowhere_rm s m args below meth c A (MQ below (va_Qi K (rb_B Z A) A) args s mo_goesNowhere_rm.cells mo_goesNowhere_rm.slots A) Z 5 4 [(0, .ref (Z.1 23)), (1, .int x1), (2, .int x2)] [] S 0 0 := by
  intro n
  induction n with
  | zero =>
    intro x1 x2 S h
    exact (show False from h).elim
  | succ n ih =>
    intro x1 x2 S h
    have hB4 := ih
    rw [mo_goesNowhere_p_4] at h
    refine rb_iload_n X 2 mo_goesNowhere_d4 rfl 2 rfl ?_
    refine rb_aload_n X 0 mo_goesNowhere_d5 rfl 0 rfl ?_
    refine mo_g65 X mo_goesNowhere_d6 ?_
    refine rb_icmp_ge X 93 mo_goesNowhere_d9 (by decide) (fun hc => ?_) (fun hc => ?_)
    · replace h := h.1 hc
      exact mo_goesNowhere_k_93 X h
    · replace h := h.2 hc
      refine rb_aload_n X 0 mo_goesNowhere_d12 rfl 0 rfl ?_
      refine mo_g7 X mo_goesNowhere_d13 ?_
      refine rb_iconst X 4 mo_goesNowhere_d16 (by decide) ?_
      refine rb_iload_n X 2 mo_goesNowhere_d17 rfl 2 rfl ?_
      refine rb_imul X mo_goesNowhere_d18 ?_
      obtain ⟨hin, h⟩ := h
      refine rb_iald X 24 (rb_a24 Z) mo_goesNowhere_d19 hin ?_
      refine rb_topi (fun v20 e20 => ?_)
      replace h := h v20 e20
      refine rb_istore_n X 3 [1, 2, 3, 0] (L' := [(0, .ref (Z.1 23)), (1, .int x1), (2, .int x2), (3, .int v20)]) mo_goesNowhere_d20 rfl (by decide) rfl ?_
      refine rb_iload_n X 3 mo_goesNowhere_d21 rfl 3 rfl ?_
      refine rb_bipush X 9 mo_goesNowhere_d22 (by decide) ?_
      refine rb_icmp_ne X 40 mo_goesNowhere_d24 (by decide) (fun hc => ?_) (fun hc => ?_)
      · replace h := h.1 hc
        refine rb_iload_n X 3 mo_goesNowhere_d40 rfl 3 rfl ?_
        refine rb_bipush X 10 mo_goesNowhere_d41 (by decide) ?_
        refine rb_icmp_eq X 52 mo_goesNowhere_d43 (by decide) (fun hc => ?_) (fun hc => ?_)
        · replace h := h.1 hc
          exact mo_goesNowhere_k_52 X hB4 h
        · replace h := h.2 hc
          refine rb_iload_n X 3 mo_goesNowhere_d46 rfl 3 rfl ?_
          refine rb_bipush X 11 mo_goesNowhere_d47 (by decide) ?_
          refine rb_icmp_ne X 65 mo_goesNowhere_d49 (by decide) (fun hc => ?_) (fun hc => ?_)
          · replace h := h.1 hc
            refine rb_iconst X 0 mo_goesNowhere_d65 (by decide) ?_
            exact mo_goesNowhere_k_66 X hB4 h
          · replace h := h.2 hc
            exact mo_goesNowhere_k_52 X hB4 h
      · replace h := h.2 hc
        refine rb_aload_n X 0 mo_goesNowhere_d27 rfl 0 rfl ?_
        refine mo_g7 X mo_goesNowhere_d28 ?_
        refine rb_iconst X 4 mo_goesNowhere_d31 (by decide) ?_
        refine rb_iload_n X 2 mo_goesNowhere_d32 rfl 2 rfl ?_
        refine rb_imul X mo_goesNowhere_d33 ?_
        refine rb_iconst X 1 mo_goesNowhere_d34 (by decide) ?_
        refine rb_iadd X mo_goesNowhere_d35 ?_
        obtain ⟨hin, h⟩ := h
        refine rb_iald X 24 (rb_a24 Z) mo_goesNowhere_d36 hin ?_
        refine rb_goto X 66 mo_goesNowhere_d37 (by decide) ?_
        exact mo_goesNowhere_k_66 X hB4 h
def mo_goesNowhere_p_0 (K : Int32 → rb_S → Prop)  (S : rb_S) : Prop := ∃ j4 : Nat, mo_goesNowhere_p_4 K j4 0 0 S
theorem mo_goesNowhere_k_0 {K : Int32 → rb_S → Prop}  (X : rb_X p s m args meth c A Z mo_goesNowhere_b 5 "RoomMakerModel" (some .boolean))   {S : rb_S} (h : mo_goesNowhere_p_0 K S) : rb_V p l e mo_goesNowhere_rm s m args below meth c A (MQ below (va_Qi K (rb_B Z A) A) args s mo_goesNowhere_rm.cells mo_goesNowhere_rm.slots A) Z 5 0 [(0, .ref (Z.1 23))] [] S 0 0 := by
  unfold mo_goesNowhere_p_0 at h
  refine rb_iconst X 0 mo_goesNowhere_d0 (by decide) ?_
  refine rb_istore_n X 1 [1, 0] (L' := [(0, .ref (Z.1 23)), (1, .int 0)]) mo_goesNowhere_d1 rfl (by decide) rfl ?_
  refine rb_iconst X 0 mo_goesNowhere_d2 (by decide) ?_
  refine rb_istore_n X 2 [1, 2, 0] (L' := [(0, .ref (Z.1 23)), (1, .int 0), (2, .int 0)]) mo_goesNowhere_d3 rfl (by decide) rfl ?_
  obtain ⟨j4, h⟩ := h
  exact mo_goesNowhere_k_4 X j4 _ _ _ h
theorem mo_goesNowhere_c (l : Launch) (Z : rb_Z) {K : Int32 → rb_S → Prop}  {S : rb_S} (h : mo_goesNowhere_p_0 K S) : rb_Mi l mo_goesNowhere_y mo_goesNowhere_b 5 (some .boolean) mo_goesNowhere_rm Z [.ref (Z.1 23)] S K := rb_startI (by decide) (Nat.le_of_ble_eq_true rfl) (fun p e s m args below meth c A X => mo_goesNowhere_k_0 X h)
end
theorem mo_come_d0 : decode mo_come_b 0 = .ok (.iload_n 1, 1) := by decide +kernel
theorem mo_come_d1 : decode mo_come_b 1 = .ok (.iconst 2, 1) := by decide +kernel
theorem mo_come_d2 : decode mo_come_b 2 = .ok (.aload_n 0, 1) := by decide +kernel
theorem mo_come_d3 : decode mo_come_b 3 = .ok (.getfield 65, 3) := by decide +kernel
theorem mo_come_d6 : decode mo_come_b 6 = .ok (.imul, 1) := by decide +kernel
theorem mo_come_d7 : decode mo_come_b 7 = .ok (.if_icmp .ge 12, 3) := by decide +kernel
theorem mo_come_d10 : decode mo_come_b 10 = .ok (.aload_n 0, 1) := by decide +kernel
theorem mo_come_d11 : decode mo_come_b 11 = .ok (.getfield 20, 3) := by decide +kernel
theorem mo_come_d14 : decode mo_come_b 14 = .ok (.iload_n 1, 1) := by decide +kernel
theorem mo_come_d15 : decode mo_come_b 15 = .ok (.baload, 1) := by decide +kernel
theorem mo_come_d16 : decode mo_come_b 16 = .ok (.ifCond .eq 4, 3) := by decide +kernel
theorem mo_come_d19 : decode mo_come_b 19 = .ok (.return_, 1) := by decide +kernel
theorem mo_come_d20 : decode mo_come_b 20 = .ok (.aload_n 0, 1) := by decide +kernel
theorem mo_come_d21 : decode mo_come_b 21 = .ok (.getfield 20, 3) := by decide +kernel
theorem mo_come_d24 : decode mo_come_b 24 = .ok (.iload_n 1, 1) := by decide +kernel
theorem mo_come_d25 : decode mo_come_b 25 = .ok (.iconst 1, 1) := by decide +kernel
theorem mo_come_d26 : decode mo_come_b 26 = .ok (.bastore, 1) := by decide +kernel
theorem mo_come_d27 : decode mo_come_b 27 = .ok (.aload_n 0, 1) := by decide +kernel
theorem mo_come_d28 : decode mo_come_b 28 = .ok (.getfield 23, 3) := by decide +kernel
theorem mo_come_d31 : decode mo_come_b 31 = .ok (.aload_n 0, 1) := by decide +kernel
theorem mo_come_d32 : decode mo_come_b 32 = .ok (.getfield 78, 3) := by decide +kernel
theorem mo_come_d35 : decode mo_come_b 35 = .ok (.iload_n 1, 1) := by decide +kernel
theorem mo_come_d36 : decode mo_come_b 36 = .ok (.iastore, 1) := by decide +kernel
theorem mo_come_d37 : decode mo_come_b 37 = .ok (.aload_n 0, 1) := by decide +kernel
theorem mo_come_d38 : decode mo_come_b 38 = .ok (.dup, 1) := by decide +kernel
theorem mo_come_d39 : decode mo_come_b 39 = .ok (.getfield 78, 3) := by decide +kernel
theorem mo_come_d42 : decode mo_come_b 42 = .ok (.iconst 1, 1) := by decide +kernel
theorem mo_come_d43 : decode mo_come_b 43 = .ok (.iadd, 1) := by decide +kernel
theorem mo_come_d44 : decode mo_come_b 44 = .ok (.putfield 78, 3) := by decide +kernel
theorem mo_come_d47 : decode mo_come_b 47 = .ok (.return_, 1) := by decide +kernel
abbrev mo_come_rm : Room := { frames := 0, cells := 0, slots := 0, locals := 0 }
theorem mo_come_w : rb_cw mo_come_y mo_come_b 2 none 1 := ⟨rw_678, rw_7, ⟨by decide, by decide⟩, by decide +kernel⟩
section
variable {p : Program} {l : Launch} {e : Env} {s : State} {m : MethodId} {args : Array Value} {below : List Frame} {meth : Method} {c : Code} {A : Nat → Prop} {Z : rb_Z}
def mo_come_p_19 (K : rb_S → Prop) (x1 : Int32) (S : rb_S) : Prop := K S
theorem mo_come_k_19 {K : rb_S → Prop}  (X : rb_X p s m args meth c A Z mo_come_b 2 "RoomMakerModel" none)  {x1 : Int32} {S : rb_S} (h : mo_come_p_19 K x1 S) : rb_V p l e mo_come_rm s m args below meth c A (MQ below (va_Qv K (rb_B Z A) A) args s mo_come_rm.cells mo_come_rm.slots A) Z 2 19 [(0, .ref (Z.1 23)), (1, .int x1)] [] S 0 0 := by
  unfold mo_come_p_19 at h
  exact rb_vret X mo_come_d19 h
def mo_come_p_0 (K : rb_S → Prop) (x1 : Int32) (S : rb_S) : Prop := ((2 * (S 1 1)) ≤ x1 → mo_come_p_19 K x1 S) ∧ (¬ (2 * (S 1 1)) ≤ x1 → vp_in x1 128 ∧ (((S 27 x1.toNatClampNeg) = 0 → vp_in x1 128 ∧ ∀ S26 : rb_S, S26 = rb_u S 27 x1.toNatClampNeg (vp_nar .boolean 1) → (vp_in (S26 1 4) 256 ∧ ∀ S36 : rb_S, S36 = rb_u S26 28 (S26 1 4).toNatClampNeg x1 → (∀ S44 : rb_S, S44 = rb_u S36 1 4 ((S36 1 4) + 1) → (K S44)))) ∧ (¬ (S 27 x1.toNatClampNeg) = 0 → mo_come_p_19 K x1 S)))
theorem mo_come_k_0 {K : rb_S → Prop}  (X : rb_X p s m args meth c A Z mo_come_b 2 "RoomMakerModel" none)  {x1 : Int32} {S : rb_S} (h : mo_come_p_0 K x1 S) : rb_V p l e mo_come_rm s m args below meth c A (MQ below (va_Qv K (rb_B Z A) A) args s mo_come_rm.cells mo_come_rm.slots A) Z 2 0 [(0, .ref (Z.1 23)), (1, .int x1)] [] S 0 0 := by
  unfold mo_come_p_0 at h
  refine rb_iload_n X 1 mo_come_d0 rfl 1 rfl ?_
  refine rb_iconst X 2 mo_come_d1 (by decide) ?_
  refine rb_aload_n X 0 mo_come_d2 rfl 0 rfl ?_
  refine mo_g65 X mo_come_d3 ?_
  refine rb_imul X mo_come_d6 ?_
  refine rb_icmp_ge X 19 mo_come_d7 (by decide) (fun hc => ?_) (fun hc => ?_)
  · replace h := h.1 hc
    exact mo_come_k_19 X h
  · replace h := h.2 hc
    refine rb_aload_n X 0 mo_come_d10 rfl 0 rfl ?_
    refine mo_g20 X mo_come_d11 ?_
    refine rb_iload_n X 1 mo_come_d14 rfl 1 rfl ?_
    obtain ⟨hin, h⟩ := h
    refine rb_zald X 27 (rb_a27 Z) mo_come_d15 hin ?_
    refine rb_if_eq X 20 mo_come_d16 (by decide) (fun hc => ?_) (fun hc => ?_)
    · replace h := h.1 hc
      refine rb_aload_n X 0 mo_come_d20 rfl 0 rfl ?_
      refine mo_g20 X mo_come_d21 ?_
      refine rb_iload_n X 1 mo_come_d24 rfl 1 rfl ?_
      refine rb_iconst X 1 mo_come_d25 (by decide) ?_
      obtain ⟨hin, h⟩ := h
      refine rb_zast X 27 (rb_a27 Z) mo_come_d26 hin (fun S26 e26 => ?_)
      replace h := h S26 e26
      refine rb_aload_n X 0 mo_come_d27 rfl 0 rfl ?_
      refine mo_g23 X mo_come_d28 ?_
      refine rb_aload_n X 0 mo_come_d31 rfl 0 rfl ?_
      refine mo_g78 X mo_come_d32 ?_
      refine rb_iload_n X 1 mo_come_d35 rfl 1 rfl ?_
      obtain ⟨hin, h⟩ := h
      refine rb_iast X 28 (rb_a28 Z) mo_come_d36 hin (fun S36 e36 => ?_)
      replace h := h S36 e36
      refine rb_aload_n X 0 mo_come_d37 rfl 0 rfl ?_
      refine rb_dup X mo_come_d38 rfl ?_
      refine mo_g78 X mo_come_d39 ?_
      refine rb_iconst X 1 mo_come_d42 (by decide) ?_
      refine rb_iadd X mo_come_d43 ?_
      refine mo_q78 X mo_come_d44 (fun S44 e44 => ?_)
      replace h := h S44 e44
      exact rb_vret X mo_come_d47 h
    · replace h := h.2 hc
      exact mo_come_k_19 X h
theorem mo_come_c (l : Launch) (Z : rb_Z) {K : rb_S → Prop} {x1 : Int32} {S : rb_S} (h : mo_come_p_0 K x1 S) : rb_Mv l mo_come_y mo_come_b 2 mo_come_rm Z [.ref (Z.1 23), .int x1] S K := rb_startV (by decide) (Nat.le_of_ble_eq_true rfl) (fun p e s m args below meth c A X => mo_come_k_0 X h)
end
theorem mo_reads_d0 : decode mo_reads_b 0 = .ok (.aload_n 0, 1) := by decide +kernel
theorem mo_reads_d1 : decode mo_reads_b 1 = .ok (.getfield 7, 3) := by decide +kernel
theorem mo_reads_d4 : decode mo_reads_b 4 = .ok (.iconst 4, 1) := by decide +kernel
theorem mo_reads_d5 : decode mo_reads_b 5 = .ok (.iload_n 1, 1) := by decide +kernel
theorem mo_reads_d6 : decode mo_reads_b 6 = .ok (.imul, 1) := by decide +kernel
theorem mo_reads_d7 : decode mo_reads_b 7 = .ok (.iaload, 1) := by decide +kernel
theorem mo_reads_d8 : decode mo_reads_b 8 = .ok (.istore_n 3, 1) := by decide +kernel
theorem mo_reads_d9 : decode mo_reads_b 9 = .ok (.iload_n 3, 1) := by decide +kernel
theorem mo_reads_d10 : decode mo_reads_b 10 = .ok (.bipush 7, 2) := by decide +kernel
theorem mo_reads_d12 : decode mo_reads_b 12 = .ok (.if_icmp .eq 21, 3) := by decide +kernel
theorem mo_reads_d15 : decode mo_reads_b 15 = .ok (.iload_n 3, 1) := by decide +kernel
theorem mo_reads_d16 : decode mo_reads_b 16 = .ok (.bipush 8, 2) := by decide +kernel
theorem mo_reads_d18 : decode mo_reads_b 18 = .ok (.if_icmp .eq 15, 3) := by decide +kernel
theorem mo_reads_d21 : decode mo_reads_b 21 = .ok (.iload_n 3, 1) := by decide +kernel
theorem mo_reads_d22 : decode mo_reads_b 22 = .ok (.bipush 10, 2) := by decide +kernel
theorem mo_reads_d24 : decode mo_reads_b 24 = .ok (.if_icmp .eq 9, 3) := by decide +kernel
theorem mo_reads_d27 : decode mo_reads_b 27 = .ok (.iload_n 3, 1) := by decide +kernel
theorem mo_reads_d28 : decode mo_reads_b 28 = .ok (.bipush 11, 2) := by decide +kernel
theorem mo_reads_d30 : decode mo_reads_b 30 = .ok (.if_icmp .ne 7, 3) := by decide +kernel
theorem mo_reads_d33 : decode mo_reads_b 33 = .ok (.iconst 1, 1) := by decide +kernel
theorem mo_reads_d34 : decode mo_reads_b 34 = .ok (.goto 4, 3) := by decide +kernel
theorem mo_reads_d37 : decode mo_reads_b 37 = .ok (.iconst 0, 1) := by decide +kernel
theorem mo_reads_d38 : decode mo_reads_b 38 = .ok (.istore 4, 2) := by decide +kernel
theorem mo_reads_d40 : decode mo_reads_b 40 = .ok (.iload_n 3, 1) := by decide +kernel
theorem mo_reads_d41 : decode mo_reads_b 41 = .ok (.iconst 1, 1) := by decide +kernel
theorem mo_reads_d42 : decode mo_reads_b 42 = .ok (.if_icmp .eq 42, 3) := by decide +kernel
theorem mo_reads_d45 : decode mo_reads_b 45 = .ok (.iload_n 3, 1) := by decide +kernel
theorem mo_reads_d46 : decode mo_reads_b 46 = .ok (.iconst 2, 1) := by decide +kernel
theorem mo_reads_d47 : decode mo_reads_b 47 = .ok (.if_icmp .eq 37, 3) := by decide +kernel
theorem mo_reads_d50 : decode mo_reads_b 50 = .ok (.iload_n 3, 1) := by decide +kernel
theorem mo_reads_d51 : decode mo_reads_b 51 = .ok (.iconst 3, 1) := by decide +kernel
theorem mo_reads_d52 : decode mo_reads_b 52 = .ok (.if_icmp .eq 32, 3) := by decide +kernel
theorem mo_reads_d55 : decode mo_reads_b 55 = .ok (.iload_n 3, 1) := by decide +kernel
theorem mo_reads_d56 : decode mo_reads_b 56 = .ok (.iconst 4, 1) := by decide +kernel
theorem mo_reads_d57 : decode mo_reads_b 57 = .ok (.if_icmp .eq 27, 3) := by decide +kernel
theorem mo_reads_d60 : decode mo_reads_b 60 = .ok (.iload_n 3, 1) := by decide +kernel
theorem mo_reads_d61 : decode mo_reads_b 61 = .ok (.bipush 6, 2) := by decide +kernel
theorem mo_reads_d63 : decode mo_reads_b 63 = .ok (.if_icmp .eq 21, 3) := by decide +kernel
theorem mo_reads_d66 : decode mo_reads_b 66 = .ok (.iload_n 3, 1) := by decide +kernel
theorem mo_reads_d67 : decode mo_reads_b 67 = .ok (.bipush 7, 2) := by decide +kernel
theorem mo_reads_d69 : decode mo_reads_b 69 = .ok (.if_icmp .eq 15, 3) := by decide +kernel
theorem mo_reads_d72 : decode mo_reads_b 72 = .ok (.iload_n 3, 1) := by decide +kernel
theorem mo_reads_d73 : decode mo_reads_b 73 = .ok (.bipush 10, 2) := by decide +kernel
theorem mo_reads_d75 : decode mo_reads_b 75 = .ok (.if_icmp .eq 9, 3) := by decide +kernel
theorem mo_reads_d78 : decode mo_reads_b 78 = .ok (.iload_n 3, 1) := by decide +kernel
theorem mo_reads_d79 : decode mo_reads_b 79 = .ok (.bipush 11, 2) := by decide +kernel
theorem mo_reads_d81 : decode mo_reads_b 81 = .ok (.if_icmp .ne 7, 3) := by decide +kernel
theorem mo_reads_d84 : decode mo_reads_b 84 = .ok (.iconst 1, 1) := by decide +kernel
theorem mo_reads_d85 : decode mo_reads_b 85 = .ok (.goto 4, 3) := by decide +kernel
theorem mo_reads_d88 : decode mo_reads_b 88 = .ok (.iconst 0, 1) := by decide +kernel
theorem mo_reads_d89 : decode mo_reads_b 89 = .ok (.istore 5, 2) := by decide +kernel
theorem mo_reads_d91 : decode mo_reads_b 91 = .ok (.iload_n 3, 1) := by decide +kernel
theorem mo_reads_d92 : decode mo_reads_b 92 = .ok (.iconst 1, 1) := by decide +kernel
theorem mo_reads_d93 : decode mo_reads_b 93 = .ok (.if_icmp .eq 13, 3) := by decide +kernel
theorem mo_reads_d96 : decode mo_reads_b 96 = .ok (.iload_n 3, 1) := by decide +kernel
theorem mo_reads_d97 : decode mo_reads_b 97 = .ok (.iconst 2, 1) := by decide +kernel
theorem mo_reads_d98 : decode mo_reads_b 98 = .ok (.if_icmp .eq 8, 3) := by decide +kernel
theorem mo_reads_d101 : decode mo_reads_b 101 = .ok (.iload_n 3, 1) := by decide +kernel
theorem mo_reads_d102 : decode mo_reads_b 102 = .ok (.iconst 3, 1) := by decide +kernel
theorem mo_reads_d103 : decode mo_reads_b 103 = .ok (.if_icmp .ne 7, 3) := by decide +kernel
theorem mo_reads_d106 : decode mo_reads_b 106 = .ok (.iconst 1, 1) := by decide +kernel
theorem mo_reads_d107 : decode mo_reads_b 107 = .ok (.goto 4, 3) := by decide +kernel
theorem mo_reads_d110 : decode mo_reads_b 110 = .ok (.iconst 0, 1) := by decide +kernel
theorem mo_reads_d111 : decode mo_reads_b 111 = .ok (.istore 6, 2) := by decide +kernel
theorem mo_reads_d113 : decode mo_reads_b 113 = .ok (.iload 4, 2) := by decide +kernel
theorem mo_reads_d115 : decode mo_reads_b 115 = .ok (.ifCond .eq 17, 3) := by decide +kernel
theorem mo_reads_d118 : decode mo_reads_b 118 = .ok (.aload_n 0, 1) := by decide +kernel
theorem mo_reads_d119 : decode mo_reads_b 119 = .ok (.getfield 7, 3) := by decide +kernel
theorem mo_reads_d122 : decode mo_reads_b 122 = .ok (.iconst 4, 1) := by decide +kernel
theorem mo_reads_d123 : decode mo_reads_b 123 = .ok (.iload_n 1, 1) := by decide +kernel
theorem mo_reads_d124 : decode mo_reads_b 124 = .ok (.imul, 1) := by decide +kernel
theorem mo_reads_d125 : decode mo_reads_b 125 = .ok (.iconst 1, 1) := by decide +kernel
theorem mo_reads_d126 : decode mo_reads_b 126 = .ok (.iadd, 1) := by decide +kernel
theorem mo_reads_d127 : decode mo_reads_b 127 = .ok (.iaload, 1) := by decide +kernel
theorem mo_reads_d128 : decode mo_reads_b 128 = .ok (.iload_n 2, 1) := by decide +kernel
theorem mo_reads_d129 : decode mo_reads_b 129 = .ok (.if_icmp .eq 41, 3) := by decide +kernel
theorem mo_reads_d132 : decode mo_reads_b 132 = .ok (.iload 5, 2) := by decide +kernel
theorem mo_reads_d134 : decode mo_reads_b 134 = .ok (.ifCond .eq 17, 3) := by decide +kernel
theorem mo_reads_d137 : decode mo_reads_b 137 = .ok (.aload_n 0, 1) := by decide +kernel
theorem mo_reads_d138 : decode mo_reads_b 138 = .ok (.getfield 7, 3) := by decide +kernel
theorem mo_reads_d141 : decode mo_reads_b 141 = .ok (.iconst 4, 1) := by decide +kernel
theorem mo_reads_d142 : decode mo_reads_b 142 = .ok (.iload_n 1, 1) := by decide +kernel
theorem mo_reads_d143 : decode mo_reads_b 143 = .ok (.imul, 1) := by decide +kernel
theorem mo_reads_d144 : decode mo_reads_b 144 = .ok (.iconst 2, 1) := by decide +kernel
theorem mo_reads_d145 : decode mo_reads_b 145 = .ok (.iadd, 1) := by decide +kernel
theorem mo_reads_d146 : decode mo_reads_b 146 = .ok (.iaload, 1) := by decide +kernel
theorem mo_reads_d147 : decode mo_reads_b 147 = .ok (.iload_n 2, 1) := by decide +kernel
theorem mo_reads_d148 : decode mo_reads_b 148 = .ok (.if_icmp .eq 22, 3) := by decide +kernel
theorem mo_reads_d151 : decode mo_reads_b 151 = .ok (.iload 6, 2) := by decide +kernel
theorem mo_reads_d153 : decode mo_reads_b 153 = .ok (.ifCond .eq 21, 3) := by decide +kernel
theorem mo_reads_d156 : decode mo_reads_b 156 = .ok (.aload_n 0, 1) := by decide +kernel
theorem mo_reads_d157 : decode mo_reads_b 157 = .ok (.getfield 7, 3) := by decide +kernel
theorem mo_reads_d160 : decode mo_reads_b 160 = .ok (.iconst 4, 1) := by decide +kernel
theorem mo_reads_d161 : decode mo_reads_b 161 = .ok (.iload_n 1, 1) := by decide +kernel
theorem mo_reads_d162 : decode mo_reads_b 162 = .ok (.imul, 1) := by decide +kernel
theorem mo_reads_d163 : decode mo_reads_b 163 = .ok (.iconst 3, 1) := by decide +kernel
theorem mo_reads_d164 : decode mo_reads_b 164 = .ok (.iadd, 1) := by decide +kernel
theorem mo_reads_d165 : decode mo_reads_b 165 = .ok (.iaload, 1) := by decide +kernel
theorem mo_reads_d166 : decode mo_reads_b 166 = .ok (.iload_n 2, 1) := by decide +kernel
theorem mo_reads_d167 : decode mo_reads_b 167 = .ok (.if_icmp .ne 7, 3) := by decide +kernel
theorem mo_reads_d170 : decode mo_reads_b 170 = .ok (.iconst 1, 1) := by decide +kernel
theorem mo_reads_d171 : decode mo_reads_b 171 = .ok (.goto 4, 3) := by decide +kernel
theorem mo_reads_d174 : decode mo_reads_b 174 = .ok (.iconst 0, 1) := by decide +kernel
theorem mo_reads_d175 : decode mo_reads_b 175 = .ok (.ireturn, 1) := by decide +kernel
abbrev mo_reads_rm : Room := { frames := 0, cells := 0, slots := 0, locals := 0 }
theorem mo_reads_w : rb_cw mo_reads_y mo_reads_b 7 (some .boolean) 2 := ⟨rw_682, rw_7, ⟨by decide, by decide⟩, by decide +kernel⟩
section
variable {p : Program} {l : Launch} {e : Env} {s : State} {m : MethodId} {args : Array Value} {below : List Frame} {meth : Method} {c : Code} {A : Nat → Prop} {Z : rb_Z}
def mo_reads_p_175 (K : Int32 → rb_S → Prop) (x1 : Int32) (x2 : Int32) (x3 : Int32) (x4 : Int32) (x5 : Int32) (x6 : Int32) (y0 : Int32) (S : rb_S) : Prop := narrow .boolean (.int y0) = .int y0 ∧ K y0 S
theorem mo_reads_k_175 {K : Int32 → rb_S → Prop}  (X : rb_X p s m args meth c A Z mo_reads_b 7 "RoomMakerModel" (some .boolean))  {x1 : Int32} {x2 : Int32} {x3 : Int32} {x4 : Int32} {x5 : Int32} {x6 : Int32} {y0 : Int32} {S : rb_S} (h : mo_reads_p_175 K x1 x2 x3 x4 x5 x6 y0 S) : rb_V p l e mo_reads_rm s m args below meth c A (MQ below (va_Qi K (rb_B Z A) A) args s mo_reads_rm.cells mo_reads_rm.slots A) Z 7 175 [(0, .ref (Z.1 23)), (1, .int x1), (2, .int x2), (3, .int x3), (4, .int x4), (5, .int x5), (6, .int x6)] [.int y0] S 0 0 := by
  unfold mo_reads_p_175 at h
  obtain ⟨hn, h⟩ := h
  exact rb_zret X mo_reads_d175 hn h
def mo_reads_p_174 (K : Int32 → rb_S → Prop) (x1 : Int32) (x2 : Int32) (x3 : Int32) (x4 : Int32) (x5 : Int32) (x6 : Int32) (S : rb_S) : Prop := mo_reads_p_175 K x1 x2 x3 x4 x5 x6 0 S
theorem mo_reads_k_174 {K : Int32 → rb_S → Prop}  (X : rb_X p s m args meth c A Z mo_reads_b 7 "RoomMakerModel" (some .boolean))  {x1 : Int32} {x2 : Int32} {x3 : Int32} {x4 : Int32} {x5 : Int32} {x6 : Int32} {S : rb_S} (h : mo_reads_p_174 K x1 x2 x3 x4 x5 x6 S) : rb_V p l e mo_reads_rm s m args below meth c A (MQ below (va_Qi K (rb_B Z A) A) args s mo_reads_rm.cells mo_reads_rm.slots A) Z 7 174 [(0, .ref (Z.1 23)), (1, .int x1), (2, .int x2), (3, .int x3), (4, .int x4), (5, .int x5), (6, .int x6)] [] S 0 0 := by
  unfold mo_reads_p_174 at h
  refine rb_iconst X 0 mo_reads_d174 (by decide) ?_
  exact mo_reads_k_175 X h
def mo_reads_p_170 (K : Int32 → rb_S → Prop) (x1 : Int32) (x2 : Int32) (x3 : Int32) (x4 : Int32) (x5 : Int32) (x6 : Int32) (S : rb_S) : Prop := mo_reads_p_175 K x1 x2 x3 x4 x5 x6 1 S
theorem mo_reads_k_170 {K : Int32 → rb_S → Prop}  (X : rb_X p s m args meth c A Z mo_reads_b 7 "RoomMakerModel" (some .boolean))  {x1 : Int32} {x2 : Int32} {x3 : Int32} {x4 : Int32} {x5 : Int32} {x6 : Int32} {S : rb_S} (h : mo_reads_p_170 K x1 x2 x3 x4 x5 x6 S) : rb_V p l e mo_reads_rm s m args below meth c A (MQ below (va_Qi K (rb_B Z A) A) args s mo_reads_rm.cells mo_reads_rm.slots A) Z 7 170 [(0, .ref (Z.1 23)), (1, .int x1), (2, .int x2), (3, .int x3), (4, .int x4), (5, .int x5), (6, .int x6)] [] S 0 0 := by
  unfold mo_reads_p_170 at h
  refine rb_iconst X 1 mo_reads_d170 (by decide) ?_
  refine rb_goto X 175 mo_reads_d171 (by decide) ?_
  exact mo_reads_k_175 X h
def mo_reads_p_151 (K : Int32 → rb_S → Prop) (x1 : Int32) (x2 : Int32) (x3 : Int32) (x4 : Int32) (x5 : Int32) (x6 : Int32) (S : rb_S) : Prop := (x6 = 0 → mo_reads_p_174 K x1 x2 x3 x4 x5 x6 S) ∧ (¬ x6 = 0 → vp_in ((4 * x1) + 3) 256 ∧ ((¬ (S 24 ((4 * x1) + 3).toNatClampNeg) = x2 → mo_reads_p_174 K x1 x2 x3 x4 x5 x6 S) ∧ ((S 24 ((4 * x1) + 3).toNatClampNeg) = x2 → mo_reads_p_170 K x1 x2 x3 x4 x5 x6 S)))
theorem mo_reads_k_151 {K : Int32 → rb_S → Prop}  (X : rb_X p s m args meth c A Z mo_reads_b 7 "RoomMakerModel" (some .boolean))  {x1 : Int32} {x2 : Int32} {x3 : Int32} {x4 : Int32} {x5 : Int32} {x6 : Int32} {S : rb_S} (h : mo_reads_p_151 K x1 x2 x3 x4 x5 x6 S) : rb_V p l e mo_reads_rm s m args below meth c A (MQ below (va_Qi K (rb_B Z A) A) args s mo_reads_rm.cells mo_reads_rm.slots A) Z 7 151 [(0, .ref (Z.1 23)), (1, .int x1), (2, .int x2), (3, .int x3), (4, .int x4), (5, .int x5), (6, .int x6)] [] S 0 0 := by
  unfold mo_reads_p_151 at h
  refine rb_iload X 6 mo_reads_d151 6 rfl ?_
  refine rb_if_eq X 174 mo_reads_d153 (by decide) (fun hc => ?_) (fun hc => ?_)
  · replace h := h.1 hc
    exact mo_reads_k_174 X h
  · replace h := h.2 hc
    refine rb_aload_n X 0 mo_reads_d156 rfl 0 rfl ?_
    refine mo_g7 X mo_reads_d157 ?_
    refine rb_iconst X 4 mo_reads_d160 (by decide) ?_
    refine rb_iload_n X 1 mo_reads_d161 rfl 1 rfl ?_
    refine rb_imul X mo_reads_d162 ?_
    refine rb_iconst X 3 mo_reads_d163 (by decide) ?_
    refine rb_iadd X mo_reads_d164 ?_
    obtain ⟨hin, h⟩ := h
    refine rb_iald X 24 (rb_a24 Z) mo_reads_d165 hin ?_
    refine rb_iload_n X 2 mo_reads_d166 rfl 2 rfl ?_
    refine rb_icmp_ne X 174 mo_reads_d167 (by decide) (fun hc => ?_) (fun hc => ?_)
    · replace h := h.1 hc
      exact mo_reads_k_174 X h
    · replace h := h.2 hc
      exact mo_reads_k_170 X h
def mo_reads_p_132 (K : Int32 → rb_S → Prop) (x1 : Int32) (x2 : Int32) (x3 : Int32) (x4 : Int32) (x5 : Int32) (x6 : Int32) (S : rb_S) : Prop := (x5 = 0 → mo_reads_p_151 K x1 x2 x3 x4 x5 x6 S) ∧ (¬ x5 = 0 → vp_in ((4 * x1) + 2) 256 ∧ (((S 24 ((4 * x1) + 2).toNatClampNeg) = x2 → mo_reads_p_170 K x1 x2 x3 x4 x5 x6 S) ∧ (¬ (S 24 ((4 * x1) + 2).toNatClampNeg) = x2 → mo_reads_p_151 K x1 x2 x3 x4 x5 x6 S)))
theorem mo_reads_k_132 {K : Int32 → rb_S → Prop}  (X : rb_X p s m args meth c A Z mo_reads_b 7 "RoomMakerModel" (some .boolean))  {x1 : Int32} {x2 : Int32} {x3 : Int32} {x4 : Int32} {x5 : Int32} {x6 : Int32} {S : rb_S} (h : mo_reads_p_132 K x1 x2 x3 x4 x5 x6 S) : rb_V p l e mo_reads_rm s m args below meth c A (MQ below (va_Qi K (rb_B Z A) A) args s mo_reads_rm.cells mo_reads_rm.slots A) Z 7 132 [(0, .ref (Z.1 23)), (1, .int x1), (2, .int x2), (3, .int x3), (4, .int x4), (5, .int x5), (6, .int x6)] [] S 0 0 := by
  unfold mo_reads_p_132 at h
  refine rb_iload X 5 mo_reads_d132 5 rfl ?_
  refine rb_if_eq X 151 mo_reads_d134 (by decide) (fun hc => ?_) (fun hc => ?_)
  · replace h := h.1 hc
    exact mo_reads_k_151 X h
  · replace h := h.2 hc
    refine rb_aload_n X 0 mo_reads_d137 rfl 0 rfl ?_
    refine mo_g7 X mo_reads_d138 ?_
    refine rb_iconst X 4 mo_reads_d141 (by decide) ?_
    refine rb_iload_n X 1 mo_reads_d142 rfl 1 rfl ?_
    refine rb_imul X mo_reads_d143 ?_
    refine rb_iconst X 2 mo_reads_d144 (by decide) ?_
    refine rb_iadd X mo_reads_d145 ?_
    obtain ⟨hin, h⟩ := h
    refine rb_iald X 24 (rb_a24 Z) mo_reads_d146 hin ?_
    refine rb_iload_n X 2 mo_reads_d147 rfl 2 rfl ?_
    refine rb_icmp_eq X 170 mo_reads_d148 (by decide) (fun hc => ?_) (fun hc => ?_)
    · replace h := h.1 hc
      exact mo_reads_k_170 X h
    · replace h := h.2 hc
      exact mo_reads_k_151 X h
def mo_reads_p_111 (K : Int32 → rb_S → Prop) (x1 : Int32) (x2 : Int32) (x3 : Int32) (x4 : Int32) (x5 : Int32) (y0 : Int32) (S : rb_S) : Prop := (x4 = 0 → mo_reads_p_132 K x1 x2 x3 x4 x5 y0 S) ∧ (¬ x4 = 0 → vp_in ((4 * x1) + 1) 256 ∧ (((S 24 ((4 * x1) + 1).toNatClampNeg) = x2 → mo_reads_p_170 K x1 x2 x3 x4 x5 y0 S) ∧ (¬ (S 24 ((4 * x1) + 1).toNatClampNeg) = x2 → mo_reads_p_132 K x1 x2 x3 x4 x5 y0 S)))
theorem mo_reads_k_111 {K : Int32 → rb_S → Prop}  (X : rb_X p s m args meth c A Z mo_reads_b 7 "RoomMakerModel" (some .boolean))  {x1 : Int32} {x2 : Int32} {x3 : Int32} {x4 : Int32} {x5 : Int32} {y0 : Int32} {S : rb_S} (h : mo_reads_p_111 K x1 x2 x3 x4 x5 y0 S) : rb_V p l e mo_reads_rm s m args below meth c A (MQ below (va_Qi K (rb_B Z A) A) args s mo_reads_rm.cells mo_reads_rm.slots A) Z 7 111 [(0, .ref (Z.1 23)), (1, .int x1), (2, .int x2), (3, .int x3), (4, .int x4), (5, .int x5)] [.int y0] S 0 0 := by
  unfold mo_reads_p_111 at h
  refine rb_istore X 6 [1, 2, 3, 4, 5, 6, 0] (L' := [(0, .ref (Z.1 23)), (1, .int x1), (2, .int x2), (3, .int x3), (4, .int x4), (5, .int x5), (6, .int y0)]) mo_reads_d111 (by decide) rfl ?_
  refine rb_iload X 4 mo_reads_d113 4 rfl ?_
  refine rb_if_eq X 132 mo_reads_d115 (by decide) (fun hc => ?_) (fun hc => ?_)
  · replace h := h.1 hc
    exact mo_reads_k_132 X h
  · replace h := h.2 hc
    refine rb_aload_n X 0 mo_reads_d118 rfl 0 rfl ?_
    refine mo_g7 X mo_reads_d119 ?_
    refine rb_iconst X 4 mo_reads_d122 (by decide) ?_
    refine rb_iload_n X 1 mo_reads_d123 rfl 1 rfl ?_
    refine rb_imul X mo_reads_d124 ?_
    refine rb_iconst X 1 mo_reads_d125 (by decide) ?_
    refine rb_iadd X mo_reads_d126 ?_
    obtain ⟨hin, h⟩ := h
    refine rb_iald X 24 (rb_a24 Z) mo_reads_d127 hin ?_
    refine rb_iload_n X 2 mo_reads_d128 rfl 2 rfl ?_
    refine rb_icmp_eq X 170 mo_reads_d129 (by decide) (fun hc => ?_) (fun hc => ?_)
    · replace h := h.1 hc
      exact mo_reads_k_170 X h
    · replace h := h.2 hc
      exact mo_reads_k_132 X h
def mo_reads_p_106 (K : Int32 → rb_S → Prop) (x1 : Int32) (x2 : Int32) (x3 : Int32) (x4 : Int32) (x5 : Int32) (S : rb_S) : Prop := mo_reads_p_111 K x1 x2 x3 x4 x5 1 S
theorem mo_reads_k_106 {K : Int32 → rb_S → Prop}  (X : rb_X p s m args meth c A Z mo_reads_b 7 "RoomMakerModel" (some .boolean))  {x1 : Int32} {x2 : Int32} {x3 : Int32} {x4 : Int32} {x5 : Int32} {S : rb_S} (h : mo_reads_p_106 K x1 x2 x3 x4 x5 S) : rb_V p l e mo_reads_rm s m args below meth c A (MQ below (va_Qi K (rb_B Z A) A) args s mo_reads_rm.cells mo_reads_rm.slots A) Z 7 106 [(0, .ref (Z.1 23)), (1, .int x1), (2, .int x2), (3, .int x3), (4, .int x4), (5, .int x5)] [] S 0 0 := by
  unfold mo_reads_p_106 at h
  refine rb_iconst X 1 mo_reads_d106 (by decide) ?_
  refine rb_goto X 111 mo_reads_d107 (by decide) ?_
  exact mo_reads_k_111 X h
def mo_reads_p_89 (K : Int32 → rb_S → Prop) (x1 : Int32) (x2 : Int32) (x3 : Int32) (x4 : Int32) (y0 : Int32) (S : rb_S) : Prop := (x3 = 1 → mo_reads_p_106 K x1 x2 x3 x4 y0 S) ∧ (¬ x3 = 1 → (x3 = 2 → mo_reads_p_106 K x1 x2 x3 x4 y0 S) ∧ (¬ x3 = 2 → (¬ x3 = 3 → mo_reads_p_111 K x1 x2 x3 x4 y0 0 S) ∧ (x3 = 3 → mo_reads_p_106 K x1 x2 x3 x4 y0 S)))
theorem mo_reads_k_89 {K : Int32 → rb_S → Prop}  (X : rb_X p s m args meth c A Z mo_reads_b 7 "RoomMakerModel" (some .boolean))  {x1 : Int32} {x2 : Int32} {x3 : Int32} {x4 : Int32} {y0 : Int32} {S : rb_S} (h : mo_reads_p_89 K x1 x2 x3 x4 y0 S) : rb_V p l e mo_reads_rm s m args below meth c A (MQ below (va_Qi K (rb_B Z A) A) args s mo_reads_rm.cells mo_reads_rm.slots A) Z 7 89 [(0, .ref (Z.1 23)), (1, .int x1), (2, .int x2), (3, .int x3), (4, .int x4)] [.int y0] S 0 0 := by
  unfold mo_reads_p_89 at h
  refine rb_istore X 5 [1, 2, 3, 4, 5, 0] (L' := [(0, .ref (Z.1 23)), (1, .int x1), (2, .int x2), (3, .int x3), (4, .int x4), (5, .int y0)]) mo_reads_d89 (by decide) rfl ?_
  refine rb_iload_n X 3 mo_reads_d91 rfl 3 rfl ?_
  refine rb_iconst X 1 mo_reads_d92 (by decide) ?_
  refine rb_icmp_eq X 106 mo_reads_d93 (by decide) (fun hc => ?_) (fun hc => ?_)
  · replace h := h.1 hc
    exact mo_reads_k_106 X h
  · replace h := h.2 hc
    refine rb_iload_n X 3 mo_reads_d96 rfl 3 rfl ?_
    refine rb_iconst X 2 mo_reads_d97 (by decide) ?_
    refine rb_icmp_eq X 106 mo_reads_d98 (by decide) (fun hc => ?_) (fun hc => ?_)
    · replace h := h.1 hc
      exact mo_reads_k_106 X h
    · replace h := h.2 hc
      refine rb_iload_n X 3 mo_reads_d101 rfl 3 rfl ?_
      refine rb_iconst X 3 mo_reads_d102 (by decide) ?_
      refine rb_icmp_ne X 110 mo_reads_d103 (by decide) (fun hc => ?_) (fun hc => ?_)
      · replace h := h.1 hc
        refine rb_iconst X 0 mo_reads_d110 (by decide) ?_
        exact mo_reads_k_111 X h
      · replace h := h.2 hc
        exact mo_reads_k_106 X h
def mo_reads_p_84 (K : Int32 → rb_S → Prop) (x1 : Int32) (x2 : Int32) (x3 : Int32) (x4 : Int32) (S : rb_S) : Prop := mo_reads_p_89 K x1 x2 x3 x4 1 S
theorem mo_reads_k_84 {K : Int32 → rb_S → Prop}  (X : rb_X p s m args meth c A Z mo_reads_b 7 "RoomMakerModel" (some .boolean))  {x1 : Int32} {x2 : Int32} {x3 : Int32} {x4 : Int32} {S : rb_S} (h : mo_reads_p_84 K x1 x2 x3 x4 S) : rb_V p l e mo_reads_rm s m args below meth c A (MQ below (va_Qi K (rb_B Z A) A) args s mo_reads_rm.cells mo_reads_rm.slots A) Z 7 84 [(0, .ref (Z.1 23)), (1, .int x1), (2, .int x2), (3, .int x3), (4, .int x4)] [] S 0 0 := by
  unfold mo_reads_p_84 at h
  refine rb_iconst X 1 mo_reads_d84 (by decide) ?_
  refine rb_goto X 89 mo_reads_d85 (by decide) ?_
  exact mo_reads_k_89 X h
def mo_reads_p_38 (K : Int32 → rb_S → Prop) (x1 : Int32) (x2 : Int32) (x3 : Int32) (y0 : Int32) (S : rb_S) : Prop := (x3 = 1 → mo_reads_p_84 K x1 x2 x3 y0 S) ∧ (¬ x3 = 1 → (x3 = 2 → mo_reads_p_84 K x1 x2 x3 y0 S) ∧ (¬ x3 = 2 → (x3 = 3 → mo_reads_p_84 K x1 x2 x3 y0 S) ∧ (¬ x3 = 3 → (x3 = 4 → mo_reads_p_84 K x1 x2 x3 y0 S) ∧ (¬ x3 = 4 → (x3 = 6 → mo_reads_p_84 K x1 x2 x3 y0 S) ∧ (¬ x3 = 6 → (x3 = 7 → mo_reads_p_84 K x1 x2 x3 y0 S) ∧ (¬ x3 = 7 → (x3 = 10 → mo_reads_p_84 K x1 x2 x3 y0 S) ∧ (¬ x3 = 10 → (¬ x3 = 11 → mo_reads_p_89 K x1 x2 x3 y0 0 S) ∧ (x3 = 11 → mo_reads_p_84 K x1 x2 x3 y0 S))))))))
theorem mo_reads_k_38 {K : Int32 → rb_S → Prop}  (X : rb_X p s m args meth c A Z mo_reads_b 7 "RoomMakerModel" (some .boolean))  {x1 : Int32} {x2 : Int32} {x3 : Int32} {y0 : Int32} {S : rb_S} (h : mo_reads_p_38 K x1 x2 x3 y0 S) : rb_V p l e mo_reads_rm s m args below meth c A (MQ below (va_Qi K (rb_B Z A) A) args s mo_reads_rm.cells mo_reads_rm.slots A) Z 7 38 [(0, .ref (Z.1 23)), (1, .int x1), (2, .int x2), (3, .int x3)] [.int y0] S 0 0 := by
  unfold mo_reads_p_38 at h
  refine rb_istore X 4 [1, 2, 3, 4, 0] (L' := [(0, .ref (Z.1 23)), (1, .int x1), (2, .int x2), (3, .int x3), (4, .int y0)]) mo_reads_d38 (by decide) rfl ?_
  refine rb_iload_n X 3 mo_reads_d40 rfl 3 rfl ?_
  refine rb_iconst X 1 mo_reads_d41 (by decide) ?_
  refine rb_icmp_eq X 84 mo_reads_d42 (by decide) (fun hc => ?_) (fun hc => ?_)
  · replace h := h.1 hc
    exact mo_reads_k_84 X h
  · replace h := h.2 hc
    refine rb_iload_n X 3 mo_reads_d45 rfl 3 rfl ?_
    refine rb_iconst X 2 mo_reads_d46 (by decide) ?_
    refine rb_icmp_eq X 84 mo_reads_d47 (by decide) (fun hc => ?_) (fun hc => ?_)
    · replace h := h.1 hc
      exact mo_reads_k_84 X h
    · replace h := h.2 hc
      refine rb_iload_n X 3 mo_reads_d50 rfl 3 rfl ?_
      refine rb_iconst X 3 mo_reads_d51 (by decide) ?_
      refine rb_icmp_eq X 84 mo_reads_d52 (by decide) (fun hc => ?_) (fun hc => ?_)
      · replace h := h.1 hc
        exact mo_reads_k_84 X h
      · replace h := h.2 hc
        refine rb_iload_n X 3 mo_reads_d55 rfl 3 rfl ?_
        refine rb_iconst X 4 mo_reads_d56 (by decide) ?_
        refine rb_icmp_eq X 84 mo_reads_d57 (by decide) (fun hc => ?_) (fun hc => ?_)
        · replace h := h.1 hc
          exact mo_reads_k_84 X h
        · replace h := h.2 hc
          refine rb_iload_n X 3 mo_reads_d60 rfl 3 rfl ?_
          refine rb_bipush X 6 mo_reads_d61 (by decide) ?_
          refine rb_icmp_eq X 84 mo_reads_d63 (by decide) (fun hc => ?_) (fun hc => ?_)
          · replace h := h.1 hc
            exact mo_reads_k_84 X h
          · replace h := h.2 hc
            refine rb_iload_n X 3 mo_reads_d66 rfl 3 rfl ?_
            refine rb_bipush X 7 mo_reads_d67 (by decide) ?_
            refine rb_icmp_eq X 84 mo_reads_d69 (by decide) (fun hc => ?_) (fun hc => ?_)
            · replace h := h.1 hc
              exact mo_reads_k_84 X h
            · replace h := h.2 hc
              refine rb_iload_n X 3 mo_reads_d72 rfl 3 rfl ?_
              refine rb_bipush X 10 mo_reads_d73 (by decide) ?_
              refine rb_icmp_eq X 84 mo_reads_d75 (by decide) (fun hc => ?_) (fun hc => ?_)
              · replace h := h.1 hc
                exact mo_reads_k_84 X h
              · replace h := h.2 hc
                refine rb_iload_n X 3 mo_reads_d78 rfl 3 rfl ?_
                refine rb_bipush X 11 mo_reads_d79 (by decide) ?_
                refine rb_icmp_ne X 88 mo_reads_d81 (by decide) (fun hc => ?_) (fun hc => ?_)
                · replace h := h.1 hc
                  refine rb_iconst X 0 mo_reads_d88 (by decide) ?_
                  exact mo_reads_k_89 X h
                · replace h := h.2 hc
                  exact mo_reads_k_84 X h
def mo_reads_p_33 (K : Int32 → rb_S → Prop) (x1 : Int32) (x2 : Int32) (x3 : Int32) (S : rb_S) : Prop := mo_reads_p_38 K x1 x2 x3 1 S
theorem mo_reads_k_33 {K : Int32 → rb_S → Prop}  (X : rb_X p s m args meth c A Z mo_reads_b 7 "RoomMakerModel" (some .boolean))  {x1 : Int32} {x2 : Int32} {x3 : Int32} {S : rb_S} (h : mo_reads_p_33 K x1 x2 x3 S) : rb_V p l e mo_reads_rm s m args below meth c A (MQ below (va_Qi K (rb_B Z A) A) args s mo_reads_rm.cells mo_reads_rm.slots A) Z 7 33 [(0, .ref (Z.1 23)), (1, .int x1), (2, .int x2), (3, .int x3)] [] S 0 0 := by
  unfold mo_reads_p_33 at h
  refine rb_iconst X 1 mo_reads_d33 (by decide) ?_
  refine rb_goto X 38 mo_reads_d34 (by decide) ?_
  exact mo_reads_k_38 X h
def mo_reads_p_0 (K : Int32 → rb_S → Prop) (x1 : Int32) (x2 : Int32) (S : rb_S) : Prop := vp_in (4 * x1) 256 ∧ (∀ v8 : Int32, v8 = (S 24 (4 * x1).toNatClampNeg) → ((v8 = 7 → mo_reads_p_33 K x1 x2 v8 S) ∧ (¬ v8 = 7 → (v8 = 8 → mo_reads_p_33 K x1 x2 v8 S) ∧ (¬ v8 = 8 → (v8 = 10 → mo_reads_p_33 K x1 x2 v8 S) ∧ (¬ v8 = 10 → (¬ v8 = 11 → mo_reads_p_38 K x1 x2 v8 0 S) ∧ (v8 = 11 → mo_reads_p_33 K x1 x2 v8 S))))))
theorem mo_reads_k_0 {K : Int32 → rb_S → Prop}  (X : rb_X p s m args meth c A Z mo_reads_b 7 "RoomMakerModel" (some .boolean))  {x1 : Int32} {x2 : Int32} {S : rb_S} (h : mo_reads_p_0 K x1 x2 S) : rb_V p l e mo_reads_rm s m args below meth c A (MQ below (va_Qi K (rb_B Z A) A) args s mo_reads_rm.cells mo_reads_rm.slots A) Z 7 0 [(0, .ref (Z.1 23)), (1, .int x1), (2, .int x2)] [] S 0 0 := by
  unfold mo_reads_p_0 at h
  refine rb_aload_n X 0 mo_reads_d0 rfl 0 rfl ?_
  refine mo_g7 X mo_reads_d1 ?_
  refine rb_iconst X 4 mo_reads_d4 (by decide) ?_
  refine rb_iload_n X 1 mo_reads_d5 rfl 1 rfl ?_
  refine rb_imul X mo_reads_d6 ?_
  obtain ⟨hin, h⟩ := h
  refine rb_iald X 24 (rb_a24 Z) mo_reads_d7 hin ?_
  refine rb_topi (fun v8 e8 => ?_)
  replace h := h v8 e8
  refine rb_istore_n X 3 [1, 2, 3, 0] (L' := [(0, .ref (Z.1 23)), (1, .int x1), (2, .int x2), (3, .int v8)]) mo_reads_d8 rfl (by decide) rfl ?_
  refine rb_iload_n X 3 mo_reads_d9 rfl 3 rfl ?_
  refine rb_bipush X 7 mo_reads_d10 (by decide) ?_
  refine rb_icmp_eq X 33 mo_reads_d12 (by decide) (fun hc => ?_) (fun hc => ?_)
  · replace h := h.1 hc
    exact mo_reads_k_33 X h
  · replace h := h.2 hc
    refine rb_iload_n X 3 mo_reads_d15 rfl 3 rfl ?_
    refine rb_bipush X 8 mo_reads_d16 (by decide) ?_
    refine rb_icmp_eq X 33 mo_reads_d18 (by decide) (fun hc => ?_) (fun hc => ?_)
    · replace h := h.1 hc
      exact mo_reads_k_33 X h
    · replace h := h.2 hc
      refine rb_iload_n X 3 mo_reads_d21 rfl 3 rfl ?_
      refine rb_bipush X 10 mo_reads_d22 (by decide) ?_
      refine rb_icmp_eq X 33 mo_reads_d24 (by decide) (fun hc => ?_) (fun hc => ?_)
      · replace h := h.1 hc
        exact mo_reads_k_33 X h
      · replace h := h.2 hc
        refine rb_iload_n X 3 mo_reads_d27 rfl 3 rfl ?_
        refine rb_bipush X 11 mo_reads_d28 (by decide) ?_
        refine rb_icmp_ne X 37 mo_reads_d30 (by decide) (fun hc => ?_) (fun hc => ?_)
        · replace h := h.1 hc
          refine rb_iconst X 0 mo_reads_d37 (by decide) ?_
          exact mo_reads_k_38 X h
        · replace h := h.2 hc
          exact mo_reads_k_33 X h
theorem mo_reads_c (l : Launch) (Z : rb_Z) {K : Int32 → rb_S → Prop} {x1 : Int32} {x2 : Int32} {S : rb_S} (h : mo_reads_p_0 K x1 x2 S) : rb_Mi l mo_reads_y mo_reads_b 7 (some .boolean) mo_reads_rm Z [.ref (Z.1 23), .int x1, .int x2] S K := rb_startI (by decide) (Nat.le_of_ble_eq_true rfl) (fun p e s m args below meth c A X => mo_reads_k_0 X h)
end
theorem mo_sets_d0 : decode mo_sets_b 0 = .ok (.aload_n 0, 1) := by decide +kernel
theorem mo_sets_d1 : decode mo_sets_b 1 = .ok (.getfield 7, 3) := by decide +kernel
theorem mo_sets_d4 : decode mo_sets_b 4 = .ok (.iconst 4, 1) := by decide +kernel
theorem mo_sets_d5 : decode mo_sets_b 5 = .ok (.iload_n 1, 1) := by decide +kernel
theorem mo_sets_d6 : decode mo_sets_b 6 = .ok (.imul, 1) := by decide +kernel
theorem mo_sets_d7 : decode mo_sets_b 7 = .ok (.iaload, 1) := by decide +kernel
theorem mo_sets_d8 : decode mo_sets_b 8 = .ok (.bipush 6, 2) := by decide +kernel
theorem mo_sets_d10 : decode mo_sets_b 10 = .ok (.if_icmp .gt 21, 3) := by decide +kernel
theorem mo_sets_d13 : decode mo_sets_b 13 = .ok (.aload_n 0, 1) := by decide +kernel
theorem mo_sets_d14 : decode mo_sets_b 14 = .ok (.getfield 7, 3) := by decide +kernel
theorem mo_sets_d17 : decode mo_sets_b 17 = .ok (.iconst 4, 1) := by decide +kernel
theorem mo_sets_d18 : decode mo_sets_b 18 = .ok (.iload_n 1, 1) := by decide +kernel
theorem mo_sets_d19 : decode mo_sets_b 19 = .ok (.imul, 1) := by decide +kernel
theorem mo_sets_d20 : decode mo_sets_b 20 = .ok (.iconst 1, 1) := by decide +kernel
theorem mo_sets_d21 : decode mo_sets_b 21 = .ok (.iadd, 1) := by decide +kernel
theorem mo_sets_d22 : decode mo_sets_b 22 = .ok (.iaload, 1) := by decide +kernel
theorem mo_sets_d23 : decode mo_sets_b 23 = .ok (.iload_n 2, 1) := by decide +kernel
theorem mo_sets_d24 : decode mo_sets_b 24 = .ok (.if_icmp .ne 7, 3) := by decide +kernel
theorem mo_sets_d27 : decode mo_sets_b 27 = .ok (.iconst 1, 1) := by decide +kernel
theorem mo_sets_d28 : decode mo_sets_b 28 = .ok (.goto 4, 3) := by decide +kernel
theorem mo_sets_d31 : decode mo_sets_b 31 = .ok (.iconst 0, 1) := by decide +kernel
theorem mo_sets_d32 : decode mo_sets_b 32 = .ok (.ireturn, 1) := by decide +kernel
abbrev mo_sets_rm : Room := { frames := 0, cells := 0, slots := 0, locals := 0 }
theorem mo_sets_w : rb_cw mo_sets_y mo_sets_b 3 (some .boolean) 2 := ⟨rw_686, rw_7, ⟨by decide, by decide⟩, by decide +kernel⟩
section
variable {p : Program} {l : Launch} {e : Env} {s : State} {m : MethodId} {args : Array Value} {below : List Frame} {meth : Method} {c : Code} {A : Nat → Prop} {Z : rb_Z}
def mo_sets_p_32 (K : Int32 → rb_S → Prop) (x1 : Int32) (x2 : Int32) (y0 : Int32) (S : rb_S) : Prop := narrow .boolean (.int y0) = .int y0 ∧ K y0 S
theorem mo_sets_k_32 {K : Int32 → rb_S → Prop}  (X : rb_X p s m args meth c A Z mo_sets_b 3 "RoomMakerModel" (some .boolean))  {x1 : Int32} {x2 : Int32} {y0 : Int32} {S : rb_S} (h : mo_sets_p_32 K x1 x2 y0 S) : rb_V p l e mo_sets_rm s m args below meth c A (MQ below (va_Qi K (rb_B Z A) A) args s mo_sets_rm.cells mo_sets_rm.slots A) Z 3 32 [(0, .ref (Z.1 23)), (1, .int x1), (2, .int x2)] [.int y0] S 0 0 := by
  unfold mo_sets_p_32 at h
  obtain ⟨hn, h⟩ := h
  exact rb_zret X mo_sets_d32 hn h
def mo_sets_p_31 (K : Int32 → rb_S → Prop) (x1 : Int32) (x2 : Int32) (S : rb_S) : Prop := mo_sets_p_32 K x1 x2 0 S
theorem mo_sets_k_31 {K : Int32 → rb_S → Prop}  (X : rb_X p s m args meth c A Z mo_sets_b 3 "RoomMakerModel" (some .boolean))  {x1 : Int32} {x2 : Int32} {S : rb_S} (h : mo_sets_p_31 K x1 x2 S) : rb_V p l e mo_sets_rm s m args below meth c A (MQ below (va_Qi K (rb_B Z A) A) args s mo_sets_rm.cells mo_sets_rm.slots A) Z 3 31 [(0, .ref (Z.1 23)), (1, .int x1), (2, .int x2)] [] S 0 0 := by
  unfold mo_sets_p_31 at h
  refine rb_iconst X 0 mo_sets_d31 (by decide) ?_
  exact mo_sets_k_32 X h
def mo_sets_p_0 (K : Int32 → rb_S → Prop) (x1 : Int32) (x2 : Int32) (S : rb_S) : Prop := vp_in (4 * x1) 256 ∧ ((6 < (S 24 (4 * x1).toNatClampNeg) → mo_sets_p_31 K x1 x2 S) ∧ (¬ 6 < (S 24 (4 * x1).toNatClampNeg) → vp_in ((4 * x1) + 1) 256 ∧ ((¬ (S 24 ((4 * x1) + 1).toNatClampNeg) = x2 → mo_sets_p_31 K x1 x2 S) ∧ ((S 24 ((4 * x1) + 1).toNatClampNeg) = x2 → mo_sets_p_32 K x1 x2 1 S))))
theorem mo_sets_k_0 {K : Int32 → rb_S → Prop}  (X : rb_X p s m args meth c A Z mo_sets_b 3 "RoomMakerModel" (some .boolean))  {x1 : Int32} {x2 : Int32} {S : rb_S} (h : mo_sets_p_0 K x1 x2 S) : rb_V p l e mo_sets_rm s m args below meth c A (MQ below (va_Qi K (rb_B Z A) A) args s mo_sets_rm.cells mo_sets_rm.slots A) Z 3 0 [(0, .ref (Z.1 23)), (1, .int x1), (2, .int x2)] [] S 0 0 := by
  unfold mo_sets_p_0 at h
  refine rb_aload_n X 0 mo_sets_d0 rfl 0 rfl ?_
  refine mo_g7 X mo_sets_d1 ?_
  refine rb_iconst X 4 mo_sets_d4 (by decide) ?_
  refine rb_iload_n X 1 mo_sets_d5 rfl 1 rfl ?_
  refine rb_imul X mo_sets_d6 ?_
  obtain ⟨hin, h⟩ := h
  refine rb_iald X 24 (rb_a24 Z) mo_sets_d7 hin ?_
  refine rb_bipush X 6 mo_sets_d8 (by decide) ?_
  refine rb_icmp_gt X 31 mo_sets_d10 (by decide) (fun hc => ?_) (fun hc => ?_)
  · replace h := h.1 hc
    exact mo_sets_k_31 X h
  · replace h := h.2 hc
    refine rb_aload_n X 0 mo_sets_d13 rfl 0 rfl ?_
    refine mo_g7 X mo_sets_d14 ?_
    refine rb_iconst X 4 mo_sets_d17 (by decide) ?_
    refine rb_iload_n X 1 mo_sets_d18 rfl 1 rfl ?_
    refine rb_imul X mo_sets_d19 ?_
    refine rb_iconst X 1 mo_sets_d20 (by decide) ?_
    refine rb_iadd X mo_sets_d21 ?_
    obtain ⟨hin, h⟩ := h
    refine rb_iald X 24 (rb_a24 Z) mo_sets_d22 hin ?_
    refine rb_iload_n X 2 mo_sets_d23 rfl 2 rfl ?_
    refine rb_icmp_ne X 31 mo_sets_d24 (by decide) (fun hc => ?_) (fun hc => ?_)
    · replace h := h.1 hc
      exact mo_sets_k_31 X h
    · replace h := h.2 hc
      refine rb_iconst X 1 mo_sets_d27 (by decide) ?_
      refine rb_goto X 32 mo_sets_d28 (by decide) ?_
      exact mo_sets_k_32 X h
theorem mo_sets_c (l : Launch) (Z : rb_Z) {K : Int32 → rb_S → Prop} {x1 : Int32} {x2 : Int32} {S : rb_S} (h : mo_sets_p_0 K x1 x2 S) : rb_Mi l mo_sets_y mo_sets_b 3 (some .boolean) mo_sets_rm Z [.ref (Z.1 23), .int x1, .int x2] S K := rb_startI (by decide) (Nat.le_of_ble_eq_true rfl) (fun p e s m args below meth c A X => mo_sets_k_0 X h)
end
theorem mo_isLiving_d0 : decode mo_isLiving_b 0 = .ok (.iconst 0, 1) := by decide +kernel
theorem mo_isLiving_d1 : decode mo_isLiving_b 1 = .ok (.istore_n 3, 1) := by decide +kernel
theorem mo_isLiving_d2 : decode mo_isLiving_b 2 = .ok (.iload_n 3, 1) := by decide +kernel
theorem mo_isLiving_d3 : decode mo_isLiving_b 3 = .ok (.iconst 2, 1) := by decide +kernel
theorem mo_isLiving_d4 : decode mo_isLiving_b 4 = .ok (.aload_n 0, 1) := by decide +kernel
theorem mo_isLiving_d5 : decode mo_isLiving_b 5 = .ok (.getfield 65, 3) := by decide +kernel
theorem mo_isLiving_d8 : decode mo_isLiving_b 8 = .ok (.imul, 1) := by decide +kernel
theorem mo_isLiving_d9 : decode mo_isLiving_b 9 = .ok (.if_icmp .ge 16, 3) := by decide +kernel
theorem mo_isLiving_d12 : decode mo_isLiving_b 12 = .ok (.aload_n 0, 1) := by decide +kernel
theorem mo_isLiving_d13 : decode mo_isLiving_b 13 = .ok (.getfield 20, 3) := by decide +kernel
theorem mo_isLiving_d16 : decode mo_isLiving_b 16 = .ok (.iload_n 3, 1) := by decide +kernel
theorem mo_isLiving_d17 : decode mo_isLiving_b 17 = .ok (.iconst 0, 1) := by decide +kernel
theorem mo_isLiving_d18 : decode mo_isLiving_b 18 = .ok (.bastore, 1) := by decide +kernel
theorem mo_isLiving_d19 : decode mo_isLiving_b 19 = .ok (.iinc 3 1, 3) := by decide +kernel
theorem mo_isLiving_d22 : decode mo_isLiving_b 22 = .ok (.goto (-20), 3) := by decide +kernel
theorem mo_isLiving_d25 : decode mo_isLiving_b 25 = .ok (.aload_n 0, 1) := by decide +kernel
theorem mo_isLiving_d26 : decode mo_isLiving_b 26 = .ok (.iconst 0, 1) := by decide +kernel
theorem mo_isLiving_d27 : decode mo_isLiving_b 27 = .ok (.putfield 78, 3) := by decide +kernel
theorem mo_isLiving_d30 : decode mo_isLiving_b 30 = .ok (.aload_n 0, 1) := by decide +kernel
theorem mo_isLiving_d31 : decode mo_isLiving_b 31 = .ok (.iload_n 2, 1) := by decide +kernel
theorem mo_isLiving_d32 : decode mo_isLiving_b 32 = .ok (.invokevirtual 81, 3) := by decide +kernel
theorem mo_isLiving_d35 : decode mo_isLiving_b 35 = .ok (.aload_n 0, 1) := by decide +kernel
theorem mo_isLiving_d36 : decode mo_isLiving_b 36 = .ok (.getfield 78, 3) := by decide +kernel
theorem mo_isLiving_d39 : decode mo_isLiving_b 39 = .ok (.ifCond .le 145, 3) := by decide +kernel
theorem mo_isLiving_d42 : decode mo_isLiving_b 42 = .ok (.aload_n 0, 1) := by decide +kernel
theorem mo_isLiving_d43 : decode mo_isLiving_b 43 = .ok (.dup, 1) := by decide +kernel
theorem mo_isLiving_d44 : decode mo_isLiving_b 44 = .ok (.getfield 78, 3) := by decide +kernel
theorem mo_isLiving_d47 : decode mo_isLiving_b 47 = .ok (.iconst 1, 1) := by decide +kernel
theorem mo_isLiving_d48 : decode mo_isLiving_b 48 = .ok (.isub, 1) := by decide +kernel
theorem mo_isLiving_d49 : decode mo_isLiving_b 49 = .ok (.putfield 78, 3) := by decide +kernel
theorem mo_isLiving_d52 : decode mo_isLiving_b 52 = .ok (.aload_n 0, 1) := by decide +kernel
theorem mo_isLiving_d53 : decode mo_isLiving_b 53 = .ok (.getfield 23, 3) := by decide +kernel
theorem mo_isLiving_d56 : decode mo_isLiving_b 56 = .ok (.aload_n 0, 1) := by decide +kernel
theorem mo_isLiving_d57 : decode mo_isLiving_b 57 = .ok (.getfield 78, 3) := by decide +kernel
theorem mo_isLiving_d60 : decode mo_isLiving_b 60 = .ok (.iaload, 1) := by decide +kernel
theorem mo_isLiving_d61 : decode mo_isLiving_b 61 = .ok (.istore_n 3, 1) := by decide +kernel
theorem mo_isLiving_d62 : decode mo_isLiving_b 62 = .ok (.iload_n 3, 1) := by decide +kernel
theorem mo_isLiving_d63 : decode mo_isLiving_b 63 = .ok (.iconst 2, 1) := by decide +kernel
theorem mo_isLiving_d64 : decode mo_isLiving_b 64 = .ok (.idiv, 1) := by decide +kernel
theorem mo_isLiving_d65 : decode mo_isLiving_b 65 = .ok (.istore 4, 2) := by decide +kernel
theorem mo_isLiving_d67 : decode mo_isLiving_b 67 = .ok (.iload_n 3, 1) := by decide +kernel
theorem mo_isLiving_d68 : decode mo_isLiving_b 68 = .ok (.iconst 2, 1) := by decide +kernel
theorem mo_isLiving_d69 : decode mo_isLiving_b 69 = .ok (.irem, 1) := by decide +kernel
theorem mo_isLiving_d70 : decode mo_isLiving_b 70 = .ok (.ifCond .ne 35, 3) := by decide +kernel
theorem mo_isLiving_d73 : decode mo_isLiving_b 73 = .ok (.aload_n 0, 1) := by decide +kernel
theorem mo_isLiving_d74 : decode mo_isLiving_b 74 = .ok (.iload 4, 2) := by decide +kernel
theorem mo_isLiving_d76 : decode mo_isLiving_b 76 = .ok (.iload_n 1, 1) := by decide +kernel
theorem mo_isLiving_d77 : decode mo_isLiving_b 77 = .ok (.invokevirtual 85, 3) := by decide +kernel
theorem mo_isLiving_d80 : decode mo_isLiving_b 80 = .ok (.ifCond .eq 5, 3) := by decide +kernel
theorem mo_isLiving_d83 : decode mo_isLiving_b 83 = .ok (.iconst 1, 1) := by decide +kernel
theorem mo_isLiving_d84 : decode mo_isLiving_b 84 = .ok (.ireturn, 1) := by decide +kernel
theorem mo_isLiving_d85 : decode mo_isLiving_b 85 = .ok (.aload_n 0, 1) := by decide +kernel
theorem mo_isLiving_d86 : decode mo_isLiving_b 86 = .ok (.iload 4, 2) := by decide +kernel
theorem mo_isLiving_d88 : decode mo_isLiving_b 88 = .ok (.iload_n 1, 1) := by decide +kernel
theorem mo_isLiving_d89 : decode mo_isLiving_b 89 = .ok (.invokevirtual 89, 3) := by decide +kernel
theorem mo_isLiving_d92 : decode mo_isLiving_b 92 = .ok (.ifCond .ne 89, 3) := by decide +kernel
theorem mo_isLiving_d95 : decode mo_isLiving_b 95 = .ok (.aload_n 0, 1) := by decide +kernel
theorem mo_isLiving_d96 : decode mo_isLiving_b 96 = .ok (.iload_n 3, 1) := by decide +kernel
theorem mo_isLiving_d97 : decode mo_isLiving_b 97 = .ok (.iconst 1, 1) := by decide +kernel
theorem mo_isLiving_d98 : decode mo_isLiving_b 98 = .ok (.iadd, 1) := by decide +kernel
theorem mo_isLiving_d99 : decode mo_isLiving_b 99 = .ok (.invokevirtual 81, 3) := by decide +kernel
theorem mo_isLiving_d102 : decode mo_isLiving_b 102 = .ok (.goto 79, 3) := by decide +kernel
theorem mo_isLiving_d105 : decode mo_isLiving_b 105 = .ok (.aload_n 0, 1) := by decide +kernel
theorem mo_isLiving_d106 : decode mo_isLiving_b 106 = .ok (.getfield 7, 3) := by decide +kernel
theorem mo_isLiving_d109 : decode mo_isLiving_b 109 = .ok (.iconst 4, 1) := by decide +kernel
theorem mo_isLiving_d110 : decode mo_isLiving_b 110 = .ok (.iload 4, 2) := by decide +kernel
theorem mo_isLiving_d112 : decode mo_isLiving_b 112 = .ok (.imul, 1) := by decide +kernel
theorem mo_isLiving_d113 : decode mo_isLiving_b 113 = .ok (.iaload, 1) := by decide +kernel
theorem mo_isLiving_d114 : decode mo_isLiving_b 114 = .ok (.istore 5, 2) := by decide +kernel
theorem mo_isLiving_d116 : decode mo_isLiving_b 116 = .ok (.iload 5, 2) := by decide +kernel
theorem mo_isLiving_d118 : decode mo_isLiving_b 118 = .ok (.bipush 9, 2) := by decide +kernel
theorem mo_isLiving_d120 : decode mo_isLiving_b 120 = .ok (.if_icmp .ne 23, 3) := by decide +kernel
theorem mo_isLiving_d123 : decode mo_isLiving_b 123 = .ok (.aload_n 0, 1) := by decide +kernel
theorem mo_isLiving_d124 : decode mo_isLiving_b 124 = .ok (.iconst 2, 1) := by decide +kernel
theorem mo_isLiving_d125 : decode mo_isLiving_b 125 = .ok (.aload_n 0, 1) := by decide +kernel
theorem mo_isLiving_d126 : decode mo_isLiving_b 126 = .ok (.getfield 7, 3) := by decide +kernel
theorem mo_isLiving_d129 : decode mo_isLiving_b 129 = .ok (.iconst 4, 1) := by decide +kernel
theorem mo_isLiving_d130 : decode mo_isLiving_b 130 = .ok (.iload 4, 2) := by decide +kernel
theorem mo_isLiving_d132 : decode mo_isLiving_b 132 = .ok (.imul, 1) := by decide +kernel
theorem mo_isLiving_d133 : decode mo_isLiving_b 133 = .ok (.iconst 1, 1) := by decide +kernel
theorem mo_isLiving_d134 : decode mo_isLiving_b 134 = .ok (.iadd, 1) := by decide +kernel
theorem mo_isLiving_d135 : decode mo_isLiving_b 135 = .ok (.iaload, 1) := by decide +kernel
theorem mo_isLiving_d136 : decode mo_isLiving_b 136 = .ok (.imul, 1) := by decide +kernel
theorem mo_isLiving_d137 : decode mo_isLiving_b 137 = .ok (.invokevirtual 81, 3) := by decide +kernel
theorem mo_isLiving_d140 : decode mo_isLiving_b 140 = .ok (.goto 10, 3) := by decide +kernel
theorem mo_isLiving_d143 : decode mo_isLiving_b 143 = .ok (.aload_n 0, 1) := by decide +kernel
theorem mo_isLiving_d144 : decode mo_isLiving_b 144 = .ok (.iload_n 3, 1) := by decide +kernel
theorem mo_isLiving_d145 : decode mo_isLiving_b 145 = .ok (.iconst 1, 1) := by decide +kernel
theorem mo_isLiving_d146 : decode mo_isLiving_b 146 = .ok (.iadd, 1) := by decide +kernel
theorem mo_isLiving_d147 : decode mo_isLiving_b 147 = .ok (.invokevirtual 81, 3) := by decide +kernel
theorem mo_isLiving_d150 : decode mo_isLiving_b 150 = .ok (.iload 5, 2) := by decide +kernel
theorem mo_isLiving_d152 : decode mo_isLiving_b 152 = .ok (.bipush 10, 2) := by decide +kernel
theorem mo_isLiving_d154 : decode mo_isLiving_b 154 = .ok (.if_icmp .eq 10, 3) := by decide +kernel
theorem mo_isLiving_d157 : decode mo_isLiving_b 157 = .ok (.iload 5, 2) := by decide +kernel
theorem mo_isLiving_d159 : decode mo_isLiving_b 159 = .ok (.bipush 11, 2) := by decide +kernel
theorem mo_isLiving_d161 : decode mo_isLiving_b 161 = .ok (.if_icmp .ne 20, 3) := by decide +kernel
theorem mo_isLiving_d164 : decode mo_isLiving_b 164 = .ok (.aload_n 0, 1) := by decide +kernel
theorem mo_isLiving_d165 : decode mo_isLiving_b 165 = .ok (.iconst 2, 1) := by decide +kernel
theorem mo_isLiving_d166 : decode mo_isLiving_b 166 = .ok (.aload_n 0, 1) := by decide +kernel
theorem mo_isLiving_d167 : decode mo_isLiving_b 167 = .ok (.getfield 7, 3) := by decide +kernel
theorem mo_isLiving_d170 : decode mo_isLiving_b 170 = .ok (.iconst 4, 1) := by decide +kernel
theorem mo_isLiving_d171 : decode mo_isLiving_b 171 = .ok (.iload 4, 2) := by decide +kernel
theorem mo_isLiving_d173 : decode mo_isLiving_b 173 = .ok (.imul, 1) := by decide +kernel
theorem mo_isLiving_d174 : decode mo_isLiving_b 174 = .ok (.iconst 3, 1) := by decide +kernel
theorem mo_isLiving_d175 : decode mo_isLiving_b 175 = .ok (.iadd, 1) := by decide +kernel
theorem mo_isLiving_d176 : decode mo_isLiving_b 176 = .ok (.iaload, 1) := by decide +kernel
theorem mo_isLiving_d177 : decode mo_isLiving_b 177 = .ok (.imul, 1) := by decide +kernel
theorem mo_isLiving_d178 : decode mo_isLiving_b 178 = .ok (.invokevirtual 81, 3) := by decide +kernel
theorem mo_isLiving_d181 : decode mo_isLiving_b 181 = .ok (.goto (-146), 3) := by decide +kernel
theorem mo_isLiving_d184 : decode mo_isLiving_b 184 = .ok (.iconst 0, 1) := by decide +kernel
theorem mo_isLiving_d185 : decode mo_isLiving_b 185 = .ok (.ireturn, 1) := by decide +kernel
abbrev mo_isLiving_rm : Room := { frames := 1, cells := 0, slots := 0, locals := 26 }
theorem mo_isLiving_w : rb_cw mo_isLiving_y mo_isLiving_b 6 (some .boolean) 2 := ⟨rw_674, rw_7, ⟨by decide, by decide⟩, by decide +kernel⟩
section
variable {p : Program} {l : Launch} {e : Env} {s : State} {m : MethodId} {args : Array Value} {below : List Frame} {meth : Method} {c : Code} {A : Nat → Prop} {Z : rb_Z}
def mo_isLiving_p_184 (K : Int32 → rb_S → Prop) (x1 : Int32) (x2 : Int32) (x3 : Int32) (S : rb_S) : Prop := narrow .boolean (.int 0) = .int 0 ∧ K 0 S
theorem mo_isLiving_k_184 {K : Int32 → rb_S → Prop}  (X : rb_X p s m args meth c A Z mo_isLiving_b 6 "RoomMakerModel" (some .boolean))  {x1 : Int32} {x2 : Int32} {x3 : Int32} {S : rb_S} (h : mo_isLiving_p_184 K x1 x2 x3 S) : rb_V p l e mo_isLiving_rm s m args below meth c A (MQ below (va_Qi K (rb_B Z A) A) args s mo_isLiving_rm.cells mo_isLiving_rm.slots A) Z 6 184 [(0, .ref (Z.1 23)), (1, .int x1), (2, .int x2), (3, .int x3)] [] S 0 0 := by
  unfold mo_isLiving_p_184 at h
  refine rb_iconst X 0 mo_isLiving_d184 (by decide) ?_
  obtain ⟨hn, h⟩ := h
  exact rb_zret X mo_isLiving_d185 hn h
def mo_isLiving_p_181 (K : Int32 → rb_S → Prop) (B35 : Int32 → Int32 → Int32 → rb_S → Prop) (x1 : Int32) (x2 : Int32) (x3 : Int32) (x4 : Int32) (S : rb_S) : Prop := B35 x1 x2 x3 S
theorem mo_isLiving_k_181 {K : Int32 → rb_S → Prop} {B35 : Int32 → Int32 → Int32 → rb_S → Prop} (X : rb_X p s m args meth c A Z mo_isLiving_b 6 "RoomMakerModel" (some .boolean)) (hB35 : ∀ (x1 : Int32) (x2 : Int32) (x3 : Int32) (S : rb_S), B35 x1 x2 x3 S → rb_V p l e mo_isLiving_rm s m args below meth c A (MQ below (va_Qi K (rb_B Z A) A) args s mo_isLiving_rm.cells mo_isLiving_rm.slots A) Z 6 35 [(0, .ref (Z.1 23)), (1, .int x1), (2, .int x2), (3, .int x3)] [] S 0 0) {x1 : Int32} {x2 : Int32} {x3 : Int32} {x4 : Int32} {S : rb_S} (h : mo_isLiving_p_181 K B35 x1 x2 x3 x4 S) : rb_V p l e mo_isLiving_rm s m args below meth c A (MQ below (va_Qi K (rb_B Z A) A) args s mo_isLiving_rm.cells mo_isLiving_rm.slots A) Z 6 181 [(0, .ref (Z.1 23)), (1, .int x1), (2, .int x2), (3, .int x3), (4, .int x4)] [] S 0 0 := by
  unfold mo_isLiving_p_181 at h
  refine rb_goto X 35 mo_isLiving_d181 (by decide) ?_
  refine rb_cut [0, 1, 2, 3] (L' := [(0, .ref (Z.1 23)), (1, .int x1), (2, .int x2), (3, .int x3)]) rfl ?_
  exact hB35 _ _ _ _ h
def mo_isLiving_p_164 (K : Int32 → rb_S → Prop) (B35 : Int32 → Int32 → Int32 → rb_S → Prop) (x1 : Int32) (x2 : Int32) (x3 : Int32) (x4 : Int32) (x5 : Int32) (S : rb_S) : Prop := vp_in ((4 * x4) + 3) 256 ∧ (mo_come_p_0 (fun S178 => mo_isLiving_p_181 K B35 x1 x2 x3 x4 S178) (2 * (S 24 ((4 * x4) + 3).toNatClampNeg)) S)
theorem mo_isLiving_k_164 {K : Int32 → rb_S → Prop} {B35 : Int32 → Int32 → Int32 → rb_S → Prop} (X : rb_X p s m args meth c A Z mo_isLiving_b 6 "RoomMakerModel" (some .boolean)) (hB35 : ∀ (x1 : Int32) (x2 : Int32) (x3 : Int32) (S : rb_S), B35 x1 x2 x3 S → rb_V p l e mo_isLiving_rm s m args below meth c A (MQ below (va_Qi K (rb_B Z A) A) args s mo_isLiving_rm.cells mo_isLiving_rm.slots A) Z 6 35 [(0, .ref (Z.1 23)), (1, .int x1), (2, .int x2), (3, .int x3)] [] S 0 0) {x1 : Int32} {x2 : Int32} {x3 : Int32} {x4 : Int32} {x5 : Int32} {S : rb_S} (h : mo_isLiving_p_164 K B35 x1 x2 x3 x4 x5 S) : rb_V p l e mo_isLiving_rm s m args below meth c A (MQ below (va_Qi K (rb_B Z A) A) args s mo_isLiving_rm.cells mo_isLiving_rm.slots A) Z 6 164 [(0, .ref (Z.1 23)), (1, .int x1), (2, .int x2), (3, .int x3), (4, .int x4), (5, .int x5)] [] S 0 0 := by
  unfold mo_isLiving_p_164 at h
  refine rb_aload_n X 0 mo_isLiving_d164 rfl 0 rfl ?_
  refine rb_iconst X 2 mo_isLiving_d165 (by decide) ?_
  refine rb_aload_n X 0 mo_isLiving_d166 rfl 0 rfl ?_
  refine mo_g7 X mo_isLiving_d167 ?_
  refine rb_iconst X 4 mo_isLiving_d170 (by decide) ?_
  refine rb_iload X 4 mo_isLiving_d171 4 rfl ?_
  refine rb_imul X mo_isLiving_d173 ?_
  refine rb_iconst X 3 mo_isLiving_d174 (by decide) ?_
  refine rb_iadd X mo_isLiving_d175 ?_
  obtain ⟨hin, h⟩ := h
  refine rb_iald X 24 (rb_a24 Z) mo_isLiving_d176 hin ?_
  refine rb_imul X mo_isLiving_d177 ?_
  refine rb_callVv (As := [.int (2 * (S 24 ((4 * x4) + 3).toNatClampNeg))]) (rest := []) X (mo_come_c l Z h) mo_come_w ⟨by decide, by decide⟩ rw_675 rw_677 rs_41 (q0 := 23) rfl rfl rfl rfl (Nat.le_of_ble_eq_true rfl) mo_isLiving_d178 ⟨by decide, by decide⟩ (fun S178 h => ?_)
  refine rb_cut [0, 1, 2, 3, 4] (L' := [(0, .ref (Z.1 23)), (1, .int x1), (2, .int x2), (3, .int x3), (4, .int x4)]) rfl ?_
  exact mo_isLiving_k_181 X hB35 h
def mo_isLiving_p_150 (K : Int32 → rb_S → Prop) (B35 : Int32 → Int32 → Int32 → rb_S → Prop) (x1 : Int32) (x2 : Int32) (x3 : Int32) (x4 : Int32) (x5 : Int32) (S : rb_S) : Prop := (x5 = 10 → mo_isLiving_p_164 K B35 x1 x2 x3 x4 x5 S) ∧ (¬ x5 = 10 → (¬ x5 = 11 → mo_isLiving_p_181 K B35 x1 x2 x3 x4 S) ∧ (x5 = 11 → mo_isLiving_p_164 K B35 x1 x2 x3 x4 x5 S))
theorem mo_isLiving_k_150 {K : Int32 → rb_S → Prop} {B35 : Int32 → Int32 → Int32 → rb_S → Prop} (X : rb_X p s m args meth c A Z mo_isLiving_b 6 "RoomMakerModel" (some .boolean)) (hB35 : ∀ (x1 : Int32) (x2 : Int32) (x3 : Int32) (S : rb_S), B35 x1 x2 x3 S → rb_V p l e mo_isLiving_rm s m args below meth c A (MQ below (va_Qi K (rb_B Z A) A) args s mo_isLiving_rm.cells mo_isLiving_rm.slots A) Z 6 35 [(0, .ref (Z.1 23)), (1, .int x1), (2, .int x2), (3, .int x3)] [] S 0 0) {x1 : Int32} {x2 : Int32} {x3 : Int32} {x4 : Int32} {x5 : Int32} {S : rb_S} (h : mo_isLiving_p_150 K B35 x1 x2 x3 x4 x5 S) : rb_V p l e mo_isLiving_rm s m args below meth c A (MQ below (va_Qi K (rb_B Z A) A) args s mo_isLiving_rm.cells mo_isLiving_rm.slots A) Z 6 150 [(0, .ref (Z.1 23)), (1, .int x1), (2, .int x2), (3, .int x3), (4, .int x4), (5, .int x5)] [] S 0 0 := by
  unfold mo_isLiving_p_150 at h
  refine rb_iload X 5 mo_isLiving_d150 5 rfl ?_
  refine rb_bipush X 10 mo_isLiving_d152 (by decide) ?_
  refine rb_icmp_eq X 164 mo_isLiving_d154 (by decide) (fun hc => ?_) (fun hc => ?_)
  · replace h := h.1 hc
    exact mo_isLiving_k_164 X hB35 h
  · replace h := h.2 hc
    refine rb_iload X 5 mo_isLiving_d157 5 rfl ?_
    refine rb_bipush X 11 mo_isLiving_d159 (by decide) ?_
    refine rb_icmp_ne X 181 mo_isLiving_d161 (by decide) (fun hc => ?_) (fun hc => ?_)
    · replace h := h.1 hc
      refine rb_cut [0, 1, 2, 3, 4] (L' := [(0, .ref (Z.1 23)), (1, .int x1), (2, .int x2), (3, .int x3), (4, .int x4)]) rfl ?_
      exact mo_isLiving_k_181 X hB35 h
    · replace h := h.2 hc
      exact mo_isLiving_k_164 X hB35 h
def mo_isLiving_p_83 (K : Int32 → rb_S → Prop) (x1 : Int32) (x2 : Int32) (x3 : Int32) (x4 : Int32) (S : rb_S) : Prop := narrow .boolean (.int 1) = .int 1 ∧ K 1 S
theorem mo_isLiving_k_83 {K : Int32 → rb_S → Prop}  (X : rb_X p s m args meth c A Z mo_isLiving_b 6 "RoomMakerModel" (some .boolean))  {x1 : Int32} {x2 : Int32} {x3 : Int32} {x4 : Int32} {S : rb_S} (h : mo_isLiving_p_83 K x1 x2 x3 x4 S) : rb_V p l e mo_isLiving_rm s m args below meth c A (MQ below (va_Qi K (rb_B Z A) A) args s mo_isLiving_rm.cells mo_isLiving_rm.slots A) Z 6 83 [(0, .ref (Z.1 23)), (1, .int x1), (2, .int x2), (3, .int x3), (4, .int x4)] [] S 0 0 := by
  unfold mo_isLiving_p_83 at h
  refine rb_iconst X 1 mo_isLiving_d83 (by decide) ?_
  obtain ⟨hn, h⟩ := h
  exact rb_zret X mo_isLiving_d84 hn h
def mo_isLiving_p_35 (K : Int32 → rb_S → Prop) : Nat → Int32 → Int32 → Int32 → rb_S → Prop
  | 0, _, _, _, _ => False
  | n35 + 1, x1, x2, x3, S => ((S 1 4) ≤ 0 → mo_isLiving_p_184 K x1 x2 x3 S) ∧ (¬ (S 1 4) ≤ 0 → ∀ S49 : rb_S, S49 = rb_u S 1 4 ((S 1 4) - 1) → (vp_in (S49 1 4) 256 ∧ (∀ v61 : Int32, v61 = (S49 28 (S49 1 4).toNatClampNeg) → (∀ v65 : Int32, v65 = (v61 / 2) → ((¬ (v61 - v61 / 2 * 2) = 0 → vp_in (4 * v65) 256 ∧ (∀ v114 : Int32, v114 = (S49 24 (4 * v65).toNatClampNeg) → ((¬ v114 = 9 → mo_come_p_0 (fun S147 => mo_isLiving_p_150 K (fun a0 a1 a2 T => mo_isLiving_p_35 K n35 a0 a1 a2 T) x1 x2 v61 v65 v114 S147) (v61 + 1) S49) ∧ (v114 = 9 → vp_in ((4 * v65) + 1) 256 ∧ (mo_come_p_0 (fun S137 => mo_isLiving_p_150 K (fun a0 a1 a2 T => mo_isLiving_p_35 K n35 a0 a1 a2 T) x1 x2 v61 v65 v114 S137) (2 * (S49 24 ((4 * v65) + 1).toNatClampNeg)) S49))))) ∧ ((v61 - v61 / 2 * 2) = 0 → mo_reads_p_0 (fun r77 S77 => (r77 = 0 → mo_sets_p_0 (fun r89 S89 => (¬ r89 = 0 → mo_isLiving_p_181 K (fun a0 a1 a2 T => mo_isLiving_p_35 K n35 a0 a1 a2 T) x1 x2 v61 v65 S89) ∧ (r89 = 0 → mo_come_p_0 (fun S99 => mo_isLiving_p_181 K (fun a0 a1 a2 T => mo_isLiving_p_35 K n35 a0 a1 a2 T) x1 x2 v61 v65 S99) (v61 + 1) S89)) v65 x1 S77) ∧ (¬ r77 = 0 → mo_isLiving_p_83 K x1 x2 v61 v65 S77)) v65 x1 S49))))))
theorem mo_isLiving_k_35 {K : Int32 → rb_S → Prop}  (X : rb_X p s m args meth c A Z mo_isLiving_b 6 "RoomMakerModel" (some .boolean))  : ∀ (n : Nat) (x1 : Int32) (x2 : Int32) (x3 : Int32) (S : rb_S), mo_isLiving_p_35 K n x1 x2 x3 S → rb_V p l e mo_isLiving_rm s m args below meth c A (MQ below (va_Qi K (rb_B Z A) A) args s mo_isLiving_rm.cells mo_isLiving_rm.slots A) Z 6 35 [(0, .ref (Z.1 23)), (1, .int x1), (2, .int x2), (3, .int x3)] [] S 0 0 := by
  intro n
  induction n with
  | zero =>
    intro x1 x2 x3 S h
    exact (show False from h).elim
  | succ n ih =>
    intro x1 x2 x3 S h
    have hB35 := ih
    rw [mo_isLiving_p_35] at h
    refine rb_aload_n X 0 mo_isLiving_d35 rfl 0 rfl ?_
    refine mo_g78 X mo_isLiving_d36 ?_
    refine rb_if_le X 184 mo_isLiving_d39 (by decide) (fun hc => ?_) (fun hc => ?_)
    · replace h := h.1 hc
      exact mo_isLiving_k_184 X h
    · replace h := h.2 hc
      refine rb_aload_n X 0 mo_isLiving_d42 rfl 0 rfl ?_
      refine rb_dup X mo_isLiving_d43 rfl ?_
      refine mo_g78 X mo_isLiving_d44 ?_
      refine rb_iconst X 1 mo_isLiving_d47 (by decide) ?_
      refine rb_isub X mo_isLiving_d48 ?_
      refine mo_q78 X mo_isLiving_d49 (fun S49 e49 => ?_)
      replace h := h S49 e49
      refine rb_aload_n X 0 mo_isLiving_d52 rfl 0 rfl ?_
      refine mo_g23 X mo_isLiving_d53 ?_
      refine rb_aload_n X 0 mo_isLiving_d56 rfl 0 rfl ?_
      refine mo_g78 X mo_isLiving_d57 ?_
      obtain ⟨hin, h⟩ := h
      refine rb_iald X 28 (rb_a28 Z) mo_isLiving_d60 hin ?_
      refine rb_topi (fun v61 e61 => ?_)
      replace h := h v61 e61
      refine rb_istore_n X 3 [1, 2, 3, 0] (L' := [(0, .ref (Z.1 23)), (1, .int x1), (2, .int x2), (3, .int v61)]) mo_isLiving_d61 rfl (by decide) rfl ?_
      refine rb_iload_n X 3 mo_isLiving_d62 rfl 3 rfl ?_
      refine rb_iconst X 2 mo_isLiving_d63 (by decide) ?_
      refine rb_idiv X mo_isLiving_d64 (by decide) ?_
      refine rb_topi (fun v65 e65 => ?_)
      replace h := h v65 e65
      refine rb_istore X 4 [1, 2, 3, 4, 0] (L' := [(0, .ref (Z.1 23)), (1, .int x1), (2, .int x2), (3, .int v61), (4, .int v65)]) mo_isLiving_d65 (by decide) rfl ?_
      refine rb_iload_n X 3 mo_isLiving_d67 rfl 3 rfl ?_
      refine rb_iconst X 2 mo_isLiving_d68 (by decide) ?_
      refine rb_irem X mo_isLiving_d69 (by decide) ?_
      refine rb_if_ne X 105 mo_isLiving_d70 (by decide) (fun hc => ?_) (fun hc => ?_)
      · replace h := h.1 hc
        refine rb_aload_n X 0 mo_isLiving_d105 rfl 0 rfl ?_
        refine mo_g7 X mo_isLiving_d106 ?_
        refine rb_iconst X 4 mo_isLiving_d109 (by decide) ?_
        refine rb_iload X 4 mo_isLiving_d110 4 rfl ?_
        refine rb_imul X mo_isLiving_d112 ?_
        obtain ⟨hin, h⟩ := h
        refine rb_iald X 24 (rb_a24 Z) mo_isLiving_d113 hin ?_
        refine rb_topi (fun v114 e114 => ?_)
        replace h := h v114 e114
        refine rb_istore X 5 [1, 2, 3, 4, 5, 0] (L' := [(0, .ref (Z.1 23)), (1, .int x1), (2, .int x2), (3, .int v61), (4, .int v65), (5, .int v114)]) mo_isLiving_d114 (by decide) rfl ?_
        refine rb_iload X 5 mo_isLiving_d116 5 rfl ?_
        refine rb_bipush X 9 mo_isLiving_d118 (by decide) ?_
        refine rb_icmp_ne X 143 mo_isLiving_d120 (by decide) (fun hc => ?_) (fun hc => ?_)
        · replace h := h.1 hc
          refine rb_aload_n X 0 mo_isLiving_d143 rfl 0 rfl ?_
          refine rb_iload_n X 3 mo_isLiving_d144 rfl 3 rfl ?_
          refine rb_iconst X 1 mo_isLiving_d145 (by decide) ?_
          refine rb_iadd X mo_isLiving_d146 ?_
          refine rb_callVv (As := [.int (v61 + 1)]) (rest := []) X (mo_come_c l Z h) mo_come_w ⟨by decide, by decide⟩ rw_675 rw_677 rs_41 (q0 := 23) rfl rfl rfl rfl (Nat.le_of_ble_eq_true rfl) mo_isLiving_d147 ⟨by decide, by decide⟩ (fun S147 h => ?_)
          exact mo_isLiving_k_150 X hB35 h
        · replace h := h.2 hc
          refine rb_aload_n X 0 mo_isLiving_d123 rfl 0 rfl ?_
          refine rb_iconst X 2 mo_isLiving_d124 (by decide) ?_
          refine rb_aload_n X 0 mo_isLiving_d125 rfl 0 rfl ?_
          refine mo_g7 X mo_isLiving_d126 ?_
          refine rb_iconst X 4 mo_isLiving_d129 (by decide) ?_
          refine rb_iload X 4 mo_isLiving_d130 4 rfl ?_
          refine rb_imul X mo_isLiving_d132 ?_
          refine rb_iconst X 1 mo_isLiving_d133 (by decide) ?_
          refine rb_iadd X mo_isLiving_d134 ?_
          obtain ⟨hin, h⟩ := h
          refine rb_iald X 24 (rb_a24 Z) mo_isLiving_d135 hin ?_
          refine rb_imul X mo_isLiving_d136 ?_
          refine rb_callVv (As := [.int (2 * (S49 24 ((4 * v65) + 1).toNatClampNeg))]) (rest := []) X (mo_come_c l Z h) mo_come_w ⟨by decide, by decide⟩ rw_675 rw_677 rs_41 (q0 := 23) rfl rfl rfl rfl (Nat.le_of_ble_eq_true rfl) mo_isLiving_d137 ⟨by decide, by decide⟩ (fun S137 h => ?_)
          refine rb_goto X 150 mo_isLiving_d140 (by decide) ?_
          exact mo_isLiving_k_150 X hB35 h
      · replace h := h.2 hc
        refine rb_aload_n X 0 mo_isLiving_d73 rfl 0 rfl ?_
        refine rb_iload X 4 mo_isLiving_d74 4 rfl ?_
        refine rb_iload_n X 1 mo_isLiving_d76 rfl 1 rfl ?_
        refine rb_callVi (As := [.int v65, .int x1]) (rest := []) X (mo_reads_c l Z h) mo_reads_w ⟨by decide, by decide⟩ rw_679 rw_681 rs_42 (q0 := 23) rfl rfl rfl rfl (Nat.le_of_ble_eq_true rfl) mo_isLiving_d77 ⟨by decide, by decide⟩ (fun r77 S77 h => ?_)
        refine rb_if_eq X 85 mo_isLiving_d80 (by decide) (fun hc => ?_) (fun hc => ?_)
        · replace h := h.1 hc
          refine rb_aload_n X 0 mo_isLiving_d85 rfl 0 rfl ?_
          refine rb_iload X 4 mo_isLiving_d86 4 rfl ?_
          refine rb_iload_n X 1 mo_isLiving_d88 rfl 1 rfl ?_
          refine rb_callVi (As := [.int v65, .int x1]) (rest := []) X (mo_sets_c l Z h) mo_sets_w ⟨by decide, by decide⟩ rw_683 rw_685 rs_43 (q0 := 23) rfl rfl rfl rfl (Nat.le_of_ble_eq_true rfl) mo_isLiving_d89 ⟨by decide, by decide⟩ (fun r89 S89 h => ?_)
          refine rb_if_ne X 181 mo_isLiving_d92 (by decide) (fun hc => ?_) (fun hc => ?_)
          · replace h := h.1 hc
            exact mo_isLiving_k_181 X hB35 h
          · replace h := h.2 hc
            refine rb_aload_n X 0 mo_isLiving_d95 rfl 0 rfl ?_
            refine rb_iload_n X 3 mo_isLiving_d96 rfl 3 rfl ?_
            refine rb_iconst X 1 mo_isLiving_d97 (by decide) ?_
            refine rb_iadd X mo_isLiving_d98 ?_
            refine rb_callVv (As := [.int (v61 + 1)]) (rest := []) X (mo_come_c l Z h) mo_come_w ⟨by decide, by decide⟩ rw_675 rw_677 rs_41 (q0 := 23) rfl rfl rfl rfl (Nat.le_of_ble_eq_true rfl) mo_isLiving_d99 ⟨by decide, by decide⟩ (fun S99 h => ?_)
            refine rb_goto X 181 mo_isLiving_d102 (by decide) ?_
            exact mo_isLiving_k_181 X hB35 h
        · replace h := h.2 hc
          exact mo_isLiving_k_83 X h
def mo_isLiving_p_25 (K : Int32 → rb_S → Prop) (x1 : Int32) (x2 : Int32) (x3 : Int32) (S : rb_S) : Prop := ∀ S27 : rb_S, S27 = rb_u S 1 4 0 → (mo_come_p_0 (fun S32 => ∃ j35 : Nat, mo_isLiving_p_35 K j35 x1 x2 x3 S32) x2 S27)
theorem mo_isLiving_k_25 {K : Int32 → rb_S → Prop}  (X : rb_X p s m args meth c A Z mo_isLiving_b 6 "RoomMakerModel" (some .boolean))  {x1 : Int32} {x2 : Int32} {x3 : Int32} {S : rb_S} (h : mo_isLiving_p_25 K x1 x2 x3 S) : rb_V p l e mo_isLiving_rm s m args below meth c A (MQ below (va_Qi K (rb_B Z A) A) args s mo_isLiving_rm.cells mo_isLiving_rm.slots A) Z 6 25 [(0, .ref (Z.1 23)), (1, .int x1), (2, .int x2), (3, .int x3)] [] S 0 0 := by
  unfold mo_isLiving_p_25 at h
  refine rb_aload_n X 0 mo_isLiving_d25 rfl 0 rfl ?_
  refine rb_iconst X 0 mo_isLiving_d26 (by decide) ?_
  refine mo_q78 X mo_isLiving_d27 (fun S27 e27 => ?_)
  replace h := h S27 e27
  refine rb_aload_n X 0 mo_isLiving_d30 rfl 0 rfl ?_
  refine rb_iload_n X 2 mo_isLiving_d31 rfl 2 rfl ?_
  refine rb_callVv (As := [.int x2]) (rest := []) X (mo_come_c l Z h) mo_come_w ⟨by decide, by decide⟩ rw_675 rw_677 rs_41 (q0 := 23) rfl rfl rfl rfl (Nat.le_of_ble_eq_true rfl) mo_isLiving_d32 ⟨by decide, by decide⟩ (fun S32 h => ?_)
  obtain ⟨j35, h⟩ := h
  exact mo_isLiving_k_35 X j35 _ _ _ _ h
def mo_isLiving_p_2 (K : Int32 → rb_S → Prop) : Nat → Int32 → Int32 → Int32 → rb_S → Prop
  | 0, _, _, _, _ => False
  | n2 + 1, x1, x2, x3, S => ((2 * (S 1 1)) ≤ x3 → mo_isLiving_p_25 K x1 x2 x3 S) ∧ (¬ (2 * (S 1 1)) ≤ x3 → vp_in x3 128 ∧ ∀ S18 : rb_S, S18 = rb_u S 27 x3.toNatClampNeg (vp_nar .boolean 0) → (∀ v19 : Int32, v19 = x3 + 1 → ((fun a0 a1 a2 T => mo_isLiving_p_2 K n2 a0 a1 a2 T) x1 x2 v19 S18)))
theorem mo_isLiving_k_2 {K : Int32 → rb_S → Prop}  (X : rb_X p s m args meth c A Z mo_isLiving_b 6 "RoomMakerModel" (some .boolean))  : ∀ (n : Nat) (x1 : Int32) (x2 : Int32) (x3 : Int32) (S : rb_S), mo_isLiving_p_2 K n x1 x2 x3 S → rb_V p l e mo_isLiving_rm s m args below meth c A (MQ below (va_Qi K (rb_B Z A) A) args s mo_isLiving_rm.cells mo_isLiving_rm.slots A) Z 6 2 [(0, .ref (Z.1 23)), (1, .int x1), (2, .int x2), (3, .int x3)] [] S 0 0 := by
  intro n
  induction n with
  | zero =>
    intro x1 x2 x3 S h
    exact (show False from h).elim
  | succ n ih =>
    intro x1 x2 x3 S h
    have hB2 := ih
    rw [mo_isLiving_p_2] at h
    refine rb_iload_n X 3 mo_isLiving_d2 rfl 3 rfl ?_
    refine rb_iconst X 2 mo_isLiving_d3 (by decide) ?_
    refine rb_aload_n X 0 mo_isLiving_d4 rfl 0 rfl ?_
    refine mo_g65 X mo_isLiving_d5 ?_
    refine rb_imul X mo_isLiving_d8 ?_
    refine rb_icmp_ge X 25 mo_isLiving_d9 (by decide) (fun hc => ?_) (fun hc => ?_)
    · replace h := h.1 hc
      exact mo_isLiving_k_25 X h
    · replace h := h.2 hc
      refine rb_aload_n X 0 mo_isLiving_d12 rfl 0 rfl ?_
      refine mo_g20 X mo_isLiving_d13 ?_
      refine rb_iload_n X 3 mo_isLiving_d16 rfl 3 rfl ?_
      refine rb_iconst X 0 mo_isLiving_d17 (by decide) ?_
      obtain ⟨hin, h⟩ := h
      refine rb_zast X 27 (rb_a27 Z) mo_isLiving_d18 hin (fun S18 e18 => ?_)
      replace h := h S18 e18
      refine rb_iinc X 1 3 [1, 2, 3, 0] (fun v19 => [(0, .ref (Z.1 23)), (1, .int x1), (2, .int x2), (3, .int v19)]) mo_isLiving_d19 3 rfl (by decide) (by decide) (fun _ => rfl) (fun v19 e19 => ?_)
      replace h := h v19 e19
      refine rb_goto X 2 mo_isLiving_d22 (by decide) ?_
      exact hB2 _ _ _ _ h
def mo_isLiving_p_0 (K : Int32 → rb_S → Prop) (x1 : Int32) (x2 : Int32) (S : rb_S) : Prop := ∃ j2 : Nat, mo_isLiving_p_2 K j2 x1 x2 0 S
theorem mo_isLiving_k_0 {K : Int32 → rb_S → Prop}  (X : rb_X p s m args meth c A Z mo_isLiving_b 6 "RoomMakerModel" (some .boolean))  {x1 : Int32} {x2 : Int32} {S : rb_S} (h : mo_isLiving_p_0 K x1 x2 S) : rb_V p l e mo_isLiving_rm s m args below meth c A (MQ below (va_Qi K (rb_B Z A) A) args s mo_isLiving_rm.cells mo_isLiving_rm.slots A) Z 6 0 [(0, .ref (Z.1 23)), (1, .int x1), (2, .int x2)] [] S 0 0 := by
  unfold mo_isLiving_p_0 at h
  refine rb_iconst X 0 mo_isLiving_d0 (by decide) ?_
  refine rb_istore_n X 3 [1, 2, 3, 0] (L' := [(0, .ref (Z.1 23)), (1, .int x1), (2, .int x2), (3, .int 0)]) mo_isLiving_d1 rfl (by decide) rfl ?_
  obtain ⟨j2, h⟩ := h
  exact mo_isLiving_k_2 X j2 _ _ _ _ h
theorem mo_isLiving_c (l : Launch) (Z : rb_Z) {K : Int32 → rb_S → Prop} {x1 : Int32} {x2 : Int32} {S : rb_S} (h : mo_isLiving_p_0 K x1 x2 S) : rb_Mi l mo_isLiving_y mo_isLiving_b 6 (some .boolean) mo_isLiving_rm Z [.ref (Z.1 23), .int x1, .int x2] S K := rb_startI (by decide) (Nat.le_of_ble_eq_true rfl) (fun p e s m args below meth c A X => mo_isLiving_k_0 X h)
end
theorem mo_spans_d0 : decode mo_spans_b 0 = .ok (.iconst 0, 1) := by decide +kernel
theorem mo_spans_d1 : decode mo_spans_b 1 = .ok (.istore_n 1, 1) := by decide +kernel
theorem mo_spans_d2 : decode mo_spans_b 2 = .ok (.iload_n 1, 1) := by decide +kernel
theorem mo_spans_d3 : decode mo_spans_b 3 = .ok (.bipush 16, 2) := by decide +kernel
theorem mo_spans_d5 : decode mo_spans_b 5 = .ok (.if_icmp .ge 127, 3) := by decide +kernel
theorem mo_spans_d8 : decode mo_spans_b 8 = .ok (.aload_n 0, 1) := by decide +kernel
theorem mo_spans_d9 : decode mo_spans_b 9 = .ok (.getfield 26, 3) := by decide +kernel
theorem mo_spans_d12 : decode mo_spans_b 12 = .ok (.iload_n 1, 1) := by decide +kernel
theorem mo_spans_d13 : decode mo_spans_b 13 = .ok (.iconst (-1), 1) := by decide +kernel
theorem mo_spans_d14 : decode mo_spans_b 14 = .ok (.iastore, 1) := by decide +kernel
theorem mo_spans_d15 : decode mo_spans_b 15 = .ok (.aload_n 0, 1) := by decide +kernel
theorem mo_spans_d16 : decode mo_spans_b 16 = .ok (.getfield 29, 3) := by decide +kernel
theorem mo_spans_d19 : decode mo_spans_b 19 = .ok (.iload_n 1, 1) := by decide +kernel
theorem mo_spans_d20 : decode mo_spans_b 20 = .ok (.iconst (-1), 1) := by decide +kernel
theorem mo_spans_d21 : decode mo_spans_b 21 = .ok (.iastore, 1) := by decide +kernel
theorem mo_spans_d22 : decode mo_spans_b 22 = .ok (.iconst 0, 1) := by decide +kernel
theorem mo_spans_d23 : decode mo_spans_b 23 = .ok (.istore_n 2, 1) := by decide +kernel
theorem mo_spans_d24 : decode mo_spans_b 24 = .ok (.iload_n 2, 1) := by decide +kernel
theorem mo_spans_d25 : decode mo_spans_b 25 = .ok (.iconst 2, 1) := by decide +kernel
theorem mo_spans_d26 : decode mo_spans_b 26 = .ok (.aload_n 0, 1) := by decide +kernel
theorem mo_spans_d27 : decode mo_spans_b 27 = .ok (.getfield 65, 3) := by decide +kernel
theorem mo_spans_d30 : decode mo_spans_b 30 = .ok (.imul, 1) := by decide +kernel
theorem mo_spans_d31 : decode mo_spans_b 31 = .ok (.if_icmp .ge 95, 3) := by decide +kernel
theorem mo_spans_d34 : decode mo_spans_b 34 = .ok (.aload_n 0, 1) := by decide +kernel
theorem mo_spans_d35 : decode mo_spans_b 35 = .ok (.getfield 16, 3) := by decide +kernel
theorem mo_spans_d38 : decode mo_spans_b 38 = .ok (.sipush 128, 3) := by decide +kernel
theorem mo_spans_d41 : decode mo_spans_b 41 = .ok (.iload_n 1, 1) := by decide +kernel
theorem mo_spans_d42 : decode mo_spans_b 42 = .ok (.imul, 1) := by decide +kernel
theorem mo_spans_d43 : decode mo_spans_b 43 = .ok (.iload_n 2, 1) := by decide +kernel
theorem mo_spans_d44 : decode mo_spans_b 44 = .ok (.iadd, 1) := by decide +kernel
theorem mo_spans_d45 : decode mo_spans_b 45 = .ok (.aload_n 0, 1) := by decide +kernel
theorem mo_spans_d46 : decode mo_spans_b 46 = .ok (.iload_n 1, 1) := by decide +kernel
theorem mo_spans_d47 : decode mo_spans_b 47 = .ok (.iload_n 2, 1) := by decide +kernel
theorem mo_spans_d48 : decode mo_spans_b 48 = .ok (.invokevirtual 92, 3) := by decide +kernel
theorem mo_spans_d51 : decode mo_spans_b 51 = .ok (.bastore, 1) := by decide +kernel
theorem mo_spans_d52 : decode mo_spans_b 52 = .ok (.aload_n 0, 1) := by decide +kernel
theorem mo_spans_d53 : decode mo_spans_b 53 = .ok (.getfield 16, 3) := by decide +kernel
theorem mo_spans_d56 : decode mo_spans_b 56 = .ok (.sipush 128, 3) := by decide +kernel
theorem mo_spans_d59 : decode mo_spans_b 59 = .ok (.iload_n 1, 1) := by decide +kernel
theorem mo_spans_d60 : decode mo_spans_b 60 = .ok (.imul, 1) := by decide +kernel
theorem mo_spans_d61 : decode mo_spans_b 61 = .ok (.iload_n 2, 1) := by decide +kernel
theorem mo_spans_d62 : decode mo_spans_b 62 = .ok (.iadd, 1) := by decide +kernel
theorem mo_spans_d63 : decode mo_spans_b 63 = .ok (.baload, 1) := by decide +kernel
theorem mo_spans_d64 : decode mo_spans_b 64 = .ok (.ifCond .ne 24, 3) := by decide +kernel
theorem mo_spans_d67 : decode mo_spans_b 67 = .ok (.iload_n 2, 1) := by decide +kernel
theorem mo_spans_d68 : decode mo_spans_b 68 = .ok (.iconst 2, 1) := by decide +kernel
theorem mo_spans_d69 : decode mo_spans_b 69 = .ok (.irem, 1) := by decide +kernel
theorem mo_spans_d70 : decode mo_spans_b 70 = .ok (.iconst 1, 1) := by decide +kernel
theorem mo_spans_d71 : decode mo_spans_b 71 = .ok (.if_icmp .ne 49, 3) := by decide +kernel
theorem mo_spans_d74 : decode mo_spans_b 74 = .ok (.aload_n 0, 1) := by decide +kernel
theorem mo_spans_d75 : decode mo_spans_b 75 = .ok (.iload_n 2, 1) := by decide +kernel
theorem mo_spans_d76 : decode mo_spans_b 76 = .ok (.iconst 2, 1) := by decide +kernel
theorem mo_spans_d77 : decode mo_spans_b 77 = .ok (.idiv, 1) := by decide +kernel
theorem mo_spans_d78 : decode mo_spans_b 78 = .ok (.iload_n 1, 1) := by decide +kernel
theorem mo_spans_d79 : decode mo_spans_b 79 = .ok (.invokevirtual 89, 3) := by decide +kernel
theorem mo_spans_d82 : decode mo_spans_b 82 = .ok (.ifCond .ne 6, 3) := by decide +kernel
theorem mo_spans_d85 : decode mo_spans_b 85 = .ok (.goto 35, 3) := by decide +kernel
theorem mo_spans_d88 : decode mo_spans_b 88 = .ok (.aload_n 0, 1) := by decide +kernel
theorem mo_spans_d89 : decode mo_spans_b 89 = .ok (.getfield 26, 3) := by decide +kernel
theorem mo_spans_d92 : decode mo_spans_b 92 = .ok (.iload_n 1, 1) := by decide +kernel
theorem mo_spans_d93 : decode mo_spans_b 93 = .ok (.aload_n 0, 1) := by decide +kernel
theorem mo_spans_d94 : decode mo_spans_b 94 = .ok (.getfield 26, 3) := by decide +kernel
theorem mo_spans_d97 : decode mo_spans_b 97 = .ok (.iload_n 1, 1) := by decide +kernel
theorem mo_spans_d98 : decode mo_spans_b 98 = .ok (.iaload, 1) := by decide +kernel
theorem mo_spans_d99 : decode mo_spans_b 99 = .ok (.ifCond .ge 7, 3) := by decide +kernel
theorem mo_spans_d102 : decode mo_spans_b 102 = .ok (.iload_n 2, 1) := by decide +kernel
theorem mo_spans_d103 : decode mo_spans_b 103 = .ok (.goto 9, 3) := by decide +kernel
theorem mo_spans_d106 : decode mo_spans_b 106 = .ok (.aload_n 0, 1) := by decide +kernel
theorem mo_spans_d107 : decode mo_spans_b 107 = .ok (.getfield 26, 3) := by decide +kernel
theorem mo_spans_d110 : decode mo_spans_b 110 = .ok (.iload_n 1, 1) := by decide +kernel
theorem mo_spans_d111 : decode mo_spans_b 111 = .ok (.iaload, 1) := by decide +kernel
theorem mo_spans_d112 : decode mo_spans_b 112 = .ok (.iastore, 1) := by decide +kernel
theorem mo_spans_d113 : decode mo_spans_b 113 = .ok (.aload_n 0, 1) := by decide +kernel
theorem mo_spans_d114 : decode mo_spans_b 114 = .ok (.getfield 29, 3) := by decide +kernel
theorem mo_spans_d117 : decode mo_spans_b 117 = .ok (.iload_n 1, 1) := by decide +kernel
theorem mo_spans_d118 : decode mo_spans_b 118 = .ok (.iload_n 2, 1) := by decide +kernel
theorem mo_spans_d119 : decode mo_spans_b 119 = .ok (.iastore, 1) := by decide +kernel
theorem mo_spans_d120 : decode mo_spans_b 120 = .ok (.iinc 2 1, 3) := by decide +kernel
theorem mo_spans_d123 : decode mo_spans_b 123 = .ok (.goto (-99), 3) := by decide +kernel
theorem mo_spans_d126 : decode mo_spans_b 126 = .ok (.iinc 1 1, 3) := by decide +kernel
theorem mo_spans_d129 : decode mo_spans_b 129 = .ok (.goto (-127), 3) := by decide +kernel
theorem mo_spans_d132 : decode mo_spans_b 132 = .ok (.return_, 1) := by decide +kernel
abbrev mo_spans_rm : Room := { frames := 2, cells := 0, slots := 0, locals := 51 }
theorem mo_spans_w : rb_cw mo_spans_y mo_spans_b 3 none 0 := ⟨rw_670, rw_7, ⟨by decide, by decide⟩, by decide +kernel⟩
section
variable {p : Program} {l : Launch} {e : Env} {s : State} {m : MethodId} {args : Array Value} {below : List Frame} {meth : Method} {c : Code} {A : Nat → Prop} {Z : rb_Z}
def mo_spans_p_132 (K : rb_S → Prop) (x1 : Int32) (S : rb_S) : Prop := K S
theorem mo_spans_k_132 {K : rb_S → Prop}  (X : rb_X p s m args meth c A Z mo_spans_b 3 "RoomMakerModel" none)  {x1 : Int32} {S : rb_S} (h : mo_spans_p_132 K x1 S) : rb_V p l e mo_spans_rm s m args below meth c A (MQ below (va_Qv K (rb_B Z A) A) args s mo_spans_rm.cells mo_spans_rm.slots A) Z 3 132 [(0, .ref (Z.1 23)), (1, .int x1)] [] S 0 0 := by
  unfold mo_spans_p_132 at h
  exact rb_vret X mo_spans_d132 h
def mo_spans_p_126 (K : rb_S → Prop) (B2 : Int32 → rb_S → Prop) (x1 : Int32) (x2 : Int32) (S : rb_S) : Prop := ∀ v126 : Int32, v126 = x1 + 1 → (B2 v126 S)
theorem mo_spans_k_126 {K : rb_S → Prop} {B2 : Int32 → rb_S → Prop} (X : rb_X p s m args meth c A Z mo_spans_b 3 "RoomMakerModel" none) (hB2 : ∀ (x1 : Int32) (S : rb_S), B2 x1 S → rb_V p l e mo_spans_rm s m args below meth c A (MQ below (va_Qv K (rb_B Z A) A) args s mo_spans_rm.cells mo_spans_rm.slots A) Z 3 2 [(0, .ref (Z.1 23)), (1, .int x1)] [] S 0 0) {x1 : Int32} {x2 : Int32} {S : rb_S} (h : mo_spans_p_126 K B2 x1 x2 S) : rb_V p l e mo_spans_rm s m args below meth c A (MQ below (va_Qv K (rb_B Z A) A) args s mo_spans_rm.cells mo_spans_rm.slots A) Z 3 126 [(0, .ref (Z.1 23)), (1, .int x1), (2, .int x2)] [] S 0 0 := by
  unfold mo_spans_p_126 at h
  refine rb_iinc X 1 1 [1, 0, 2] (fun v126 => [(0, .ref (Z.1 23)), (1, .int v126), (2, .int x2)]) mo_spans_d126 1 rfl (by decide) (by decide) (fun _ => rfl) (fun v126 e126 => ?_)
  replace h := h v126 e126
  refine rb_goto X 2 mo_spans_d129 (by decide) ?_
  refine rb_cut [0, 1] (L' := [(0, .ref (Z.1 23)), (1, .int v126)]) rfl ?_
  exact hB2 _ _ h
def mo_spans_p_120 (K : rb_S → Prop) (B2 : Int32 → rb_S → Prop) (B24 : Int32 → Int32 → rb_S → Prop) (x1 : Int32) (x2 : Int32) (S : rb_S) : Prop := ∀ v120 : Int32, v120 = x2 + 1 → (B24 x1 v120 S)
theorem mo_spans_k_120 {K : rb_S → Prop} {B2 : Int32 → rb_S → Prop} {B24 : Int32 → Int32 → rb_S → Prop} (X : rb_X p s m args meth c A Z mo_spans_b 3 "RoomMakerModel" none) (hB2 : ∀ (x1 : Int32) (S : rb_S), B2 x1 S → rb_V p l e mo_spans_rm s m args below meth c A (MQ below (va_Qv K (rb_B Z A) A) args s mo_spans_rm.cells mo_spans_rm.slots A) Z 3 2 [(0, .ref (Z.1 23)), (1, .int x1)] [] S 0 0) (hB24 : ∀ (x1 : Int32) (x2 : Int32) (S : rb_S), B24 x1 x2 S → rb_V p l e mo_spans_rm s m args below meth c A (MQ below (va_Qv K (rb_B Z A) A) args s mo_spans_rm.cells mo_spans_rm.slots A) Z 3 24 [(0, .ref (Z.1 23)), (1, .int x1), (2, .int x2)] [] S 0 0) {x1 : Int32} {x2 : Int32} {S : rb_S} (h : mo_spans_p_120 K B2 B24 x1 x2 S) : rb_V p l e mo_spans_rm s m args below meth c A (MQ below (va_Qv K (rb_B Z A) A) args s mo_spans_rm.cells mo_spans_rm.slots A) Z 3 120 [(0, .ref (Z.1 23)), (1, .int x1), (2, .int x2)] [] S 0 0 := by
  unfold mo_spans_p_120 at h
  refine rb_iinc X 1 2 [1, 2, 0] (fun v120 => [(0, .ref (Z.1 23)), (1, .int x1), (2, .int v120)]) mo_spans_d120 2 rfl (by decide) (by decide) (fun _ => rfl) (fun v120 e120 => ?_)
  replace h := h v120 e120
  refine rb_goto X 24 mo_spans_d123 (by decide) ?_
  exact hB24 _ _ _ h
def mo_spans_p_112 (K : rb_S → Prop) (B2 : Int32 → rb_S → Prop) (B24 : Int32 → Int32 → rb_S → Prop) (x1 : Int32) (x2 : Int32) (y0 : Int32) (y1 : Int32) (S : rb_S) : Prop := vp_in y1 16 ∧ ∀ S112 : rb_S, S112 = rb_u S 29 y1.toNatClampNeg y0 → (vp_in x1 16 ∧ ∀ S119 : rb_S, S119 = rb_u S112 30 x1.toNatClampNeg x2 → (mo_spans_p_120 K B2 B24 x1 x2 S119))
theorem mo_spans_k_112 {K : rb_S → Prop} {B2 : Int32 → rb_S → Prop} {B24 : Int32 → Int32 → rb_S → Prop} (X : rb_X p s m args meth c A Z mo_spans_b 3 "RoomMakerModel" none) (hB2 : ∀ (x1 : Int32) (S : rb_S), B2 x1 S → rb_V p l e mo_spans_rm s m args below meth c A (MQ below (va_Qv K (rb_B Z A) A) args s mo_spans_rm.cells mo_spans_rm.slots A) Z 3 2 [(0, .ref (Z.1 23)), (1, .int x1)] [] S 0 0) (hB24 : ∀ (x1 : Int32) (x2 : Int32) (S : rb_S), B24 x1 x2 S → rb_V p l e mo_spans_rm s m args below meth c A (MQ below (va_Qv K (rb_B Z A) A) args s mo_spans_rm.cells mo_spans_rm.slots A) Z 3 24 [(0, .ref (Z.1 23)), (1, .int x1), (2, .int x2)] [] S 0 0) {x1 : Int32} {x2 : Int32} {y0 : Int32} {y1 : Int32} {S : rb_S} (h : mo_spans_p_112 K B2 B24 x1 x2 y0 y1 S) : rb_V p l e mo_spans_rm s m args below meth c A (MQ below (va_Qv K (rb_B Z A) A) args s mo_spans_rm.cells mo_spans_rm.slots A) Z 3 112 [(0, .ref (Z.1 23)), (1, .int x1), (2, .int x2)] [.int y0, .int y1, .ref (Z.1 29)] S 0 0 := by
  unfold mo_spans_p_112 at h
  obtain ⟨hin, h⟩ := h
  refine rb_iast X 29 (rb_a29 Z) mo_spans_d112 hin (fun S112 e112 => ?_)
  replace h := h S112 e112
  refine rb_aload_n X 0 mo_spans_d113 rfl 0 rfl ?_
  refine mo_g29 X mo_spans_d114 ?_
  refine rb_iload_n X 1 mo_spans_d117 rfl 1 rfl ?_
  refine rb_iload_n X 2 mo_spans_d118 rfl 2 rfl ?_
  obtain ⟨hin, h⟩ := h
  refine rb_iast X 30 (rb_a30 Z) mo_spans_d119 hin (fun S119 e119 => ?_)
  replace h := h S119 e119
  exact mo_spans_k_120 X hB2 hB24 h
def mo_spans_p_88 (K : rb_S → Prop) (B2 : Int32 → rb_S → Prop) (B24 : Int32 → Int32 → rb_S → Prop) (x1 : Int32) (x2 : Int32) (S : rb_S) : Prop := vp_in x1 16 ∧ ((0 ≤ (S 29 x1.toNatClampNeg) → vp_in x1 16 ∧ (mo_spans_p_112 K B2 B24 x1 x2 (S 29 x1.toNatClampNeg) x1 S)) ∧ (¬ 0 ≤ (S 29 x1.toNatClampNeg) → mo_spans_p_112 K B2 B24 x1 x2 x2 x1 S))
theorem mo_spans_k_88 {K : rb_S → Prop} {B2 : Int32 → rb_S → Prop} {B24 : Int32 → Int32 → rb_S → Prop} (X : rb_X p s m args meth c A Z mo_spans_b 3 "RoomMakerModel" none) (hB2 : ∀ (x1 : Int32) (S : rb_S), B2 x1 S → rb_V p l e mo_spans_rm s m args below meth c A (MQ below (va_Qv K (rb_B Z A) A) args s mo_spans_rm.cells mo_spans_rm.slots A) Z 3 2 [(0, .ref (Z.1 23)), (1, .int x1)] [] S 0 0) (hB24 : ∀ (x1 : Int32) (x2 : Int32) (S : rb_S), B24 x1 x2 S → rb_V p l e mo_spans_rm s m args below meth c A (MQ below (va_Qv K (rb_B Z A) A) args s mo_spans_rm.cells mo_spans_rm.slots A) Z 3 24 [(0, .ref (Z.1 23)), (1, .int x1), (2, .int x2)] [] S 0 0) {x1 : Int32} {x2 : Int32} {S : rb_S} (h : mo_spans_p_88 K B2 B24 x1 x2 S) : rb_V p l e mo_spans_rm s m args below meth c A (MQ below (va_Qv K (rb_B Z A) A) args s mo_spans_rm.cells mo_spans_rm.slots A) Z 3 88 [(0, .ref (Z.1 23)), (1, .int x1), (2, .int x2)] [] S 0 0 := by
  unfold mo_spans_p_88 at h
  refine rb_aload_n X 0 mo_spans_d88 rfl 0 rfl ?_
  refine mo_g26 X mo_spans_d89 ?_
  refine rb_iload_n X 1 mo_spans_d92 rfl 1 rfl ?_
  refine rb_aload_n X 0 mo_spans_d93 rfl 0 rfl ?_
  refine mo_g26 X mo_spans_d94 ?_
  refine rb_iload_n X 1 mo_spans_d97 rfl 1 rfl ?_
  obtain ⟨hin, h⟩ := h
  refine rb_iald X 29 (rb_a29 Z) mo_spans_d98 hin ?_
  refine rb_if_ge X 106 mo_spans_d99 (by decide) (fun hc => ?_) (fun hc => ?_)
  · replace h := h.1 hc
    refine rb_aload_n X 0 mo_spans_d106 rfl 0 rfl ?_
    refine mo_g26 X mo_spans_d107 ?_
    refine rb_iload_n X 1 mo_spans_d110 rfl 1 rfl ?_
    obtain ⟨hin, h⟩ := h
    refine rb_iald X 29 (rb_a29 Z) mo_spans_d111 hin ?_
    exact mo_spans_k_112 X hB2 hB24 h
  · replace h := h.2 hc
    refine rb_iload_n X 2 mo_spans_d102 rfl 2 rfl ?_
    refine rb_goto X 112 mo_spans_d103 (by decide) ?_
    exact mo_spans_k_112 X hB2 hB24 h
def mo_spans_p_24 (K : rb_S → Prop) (B2 : Int32 → rb_S → Prop) : Nat → Int32 → Int32 → rb_S → Prop
  | 0, _, _, _ => False
  | n24 + 1, x1, x2, S => ((2 * (S 1 1)) ≤ x2 → mo_spans_p_126 K B2 x1 x2 S) ∧ (¬ (2 * (S 1 1)) ≤ x2 → mo_isLiving_p_0 (fun r48 S48 => vp_in ((128 * x1) + x2) 2048 ∧ ∀ S51 : rb_S, S51 = rb_u S48 26 ((128 * x1) + x2).toNatClampNeg (vp_nar .boolean r48) → (vp_in ((128 * x1) + x2) 2048 ∧ ((¬ (S51 26 ((128 * x1) + x2).toNatClampNeg) = 0 → mo_spans_p_88 K B2 (fun a0 a1 T => mo_spans_p_24 K B2 n24 a0 a1 T) x1 x2 S51) ∧ ((S51 26 ((128 * x1) + x2).toNatClampNeg) = 0 → (¬ (x2 - x2 / 2 * 2) = 1 → mo_spans_p_120 K B2 (fun a0 a1 T => mo_spans_p_24 K B2 n24 a0 a1 T) x1 x2 S51) ∧ ((x2 - x2 / 2 * 2) = 1 → mo_sets_p_0 (fun r79 S79 => (¬ r79 = 0 → mo_spans_p_88 K B2 (fun a0 a1 T => mo_spans_p_24 K B2 n24 a0 a1 T) x1 x2 S79) ∧ (r79 = 0 → mo_spans_p_120 K B2 (fun a0 a1 T => mo_spans_p_24 K B2 n24 a0 a1 T) x1 x2 S79)) (x2 / 2) x1 S51))))) x1 x2 S)
theorem mo_spans_k_24 {K : rb_S → Prop} {B2 : Int32 → rb_S → Prop} (X : rb_X p s m args meth c A Z mo_spans_b 3 "RoomMakerModel" none) (hB2 : ∀ (x1 : Int32) (S : rb_S), B2 x1 S → rb_V p l e mo_spans_rm s m args below meth c A (MQ below (va_Qv K (rb_B Z A) A) args s mo_spans_rm.cells mo_spans_rm.slots A) Z 3 2 [(0, .ref (Z.1 23)), (1, .int x1)] [] S 0 0) : ∀ (n : Nat) (x1 : Int32) (x2 : Int32) (S : rb_S), mo_spans_p_24 K B2 n x1 x2 S → rb_V p l e mo_spans_rm s m args below meth c A (MQ below (va_Qv K (rb_B Z A) A) args s mo_spans_rm.cells mo_spans_rm.slots A) Z 3 24 [(0, .ref (Z.1 23)), (1, .int x1), (2, .int x2)] [] S 0 0 := by
  intro n
  induction n with
  | zero =>
    intro x1 x2 S h
    exact (show False from h).elim
  | succ n ih =>
    intro x1 x2 S h
    have hB24 := ih
    rw [mo_spans_p_24] at h
    refine rb_iload_n X 2 mo_spans_d24 rfl 2 rfl ?_
    refine rb_iconst X 2 mo_spans_d25 (by decide) ?_
    refine rb_aload_n X 0 mo_spans_d26 rfl 0 rfl ?_
    refine mo_g65 X mo_spans_d27 ?_
    refine rb_imul X mo_spans_d30 ?_
    refine rb_icmp_ge X 126 mo_spans_d31 (by decide) (fun hc => ?_) (fun hc => ?_)
    · replace h := h.1 hc
      exact mo_spans_k_126 X hB2 h
    · replace h := h.2 hc
      refine rb_aload_n X 0 mo_spans_d34 rfl 0 rfl ?_
      refine mo_g16 X mo_spans_d35 ?_
      refine rb_sipush X 128 mo_spans_d38 (by decide) ?_
      refine rb_iload_n X 1 mo_spans_d41 rfl 1 rfl ?_
      refine rb_imul X mo_spans_d42 ?_
      refine rb_iload_n X 2 mo_spans_d43 rfl 2 rfl ?_
      refine rb_iadd X mo_spans_d44 ?_
      refine rb_aload_n X 0 mo_spans_d45 rfl 0 rfl ?_
      refine rb_iload_n X 1 mo_spans_d46 rfl 1 rfl ?_
      refine rb_iload_n X 2 mo_spans_d47 rfl 2 rfl ?_
      refine rb_callVi (As := [.int x1, .int x2]) (rest := [.int ((128 * x1) + x2), .ref (Z.1 26)]) X (mo_isLiving_c l Z h) mo_isLiving_w ⟨by decide, by decide⟩ rw_671 rw_673 rs_40 (q0 := 23) rfl rfl rfl rfl (Nat.le_of_ble_eq_true rfl) mo_spans_d48 ⟨by decide, by decide⟩ (fun r48 S48 h => ?_)
      obtain ⟨hin, h⟩ := h
      refine rb_zast X 26 (rb_a26 Z) mo_spans_d51 hin (fun S51 e51 => ?_)
      replace h := h S51 e51
      refine rb_aload_n X 0 mo_spans_d52 rfl 0 rfl ?_
      refine mo_g16 X mo_spans_d53 ?_
      refine rb_sipush X 128 mo_spans_d56 (by decide) ?_
      refine rb_iload_n X 1 mo_spans_d59 rfl 1 rfl ?_
      refine rb_imul X mo_spans_d60 ?_
      refine rb_iload_n X 2 mo_spans_d61 rfl 2 rfl ?_
      refine rb_iadd X mo_spans_d62 ?_
      obtain ⟨hin, h⟩ := h
      refine rb_zald X 26 (rb_a26 Z) mo_spans_d63 hin ?_
      refine rb_if_ne X 88 mo_spans_d64 (by decide) (fun hc => ?_) (fun hc => ?_)
      · replace h := h.1 hc
        exact mo_spans_k_88 X hB2 hB24 h
      · replace h := h.2 hc
        refine rb_iload_n X 2 mo_spans_d67 rfl 2 rfl ?_
        refine rb_iconst X 2 mo_spans_d68 (by decide) ?_
        refine rb_irem X mo_spans_d69 (by decide) ?_
        refine rb_iconst X 1 mo_spans_d70 (by decide) ?_
        refine rb_icmp_ne X 120 mo_spans_d71 (by decide) (fun hc => ?_) (fun hc => ?_)
        · replace h := h.1 hc
          exact mo_spans_k_120 X hB2 hB24 h
        · replace h := h.2 hc
          refine rb_aload_n X 0 mo_spans_d74 rfl 0 rfl ?_
          refine rb_iload_n X 2 mo_spans_d75 rfl 2 rfl ?_
          refine rb_iconst X 2 mo_spans_d76 (by decide) ?_
          refine rb_idiv X mo_spans_d77 (by decide) ?_
          refine rb_iload_n X 1 mo_spans_d78 rfl 1 rfl ?_
          refine rb_callVi (As := [.int (x2 / 2), .int x1]) (rest := []) X (mo_sets_c l Z h) mo_sets_w ⟨by decide, by decide⟩ rw_683 rw_685 rs_43 (q0 := 23) rfl rfl rfl rfl (Nat.le_of_ble_eq_true rfl) mo_spans_d79 ⟨by decide, by decide⟩ (fun r79 S79 h => ?_)
          refine rb_if_ne X 88 mo_spans_d82 (by decide) (fun hc => ?_) (fun hc => ?_)
          · replace h := h.1 hc
            exact mo_spans_k_88 X hB2 hB24 h
          · replace h := h.2 hc
            refine rb_goto X 120 mo_spans_d85 (by decide) ?_
            exact mo_spans_k_120 X hB2 hB24 h
def mo_spans_p_2 (K : rb_S → Prop) : Nat → Int32 → rb_S → Prop
  | 0, _, _ => False
  | n2 + 1, x1, S => (16 ≤ x1 → mo_spans_p_132 K x1 S) ∧ (¬ 16 ≤ x1 → vp_in x1 16 ∧ ∀ S14 : rb_S, S14 = rb_u S 29 x1.toNatClampNeg (-1) → (vp_in x1 16 ∧ ∀ S21 : rb_S, S21 = rb_u S14 30 x1.toNatClampNeg (-1) → (∃ j24 : Nat, mo_spans_p_24 K (fun a0 T => mo_spans_p_2 K n2 a0 T) j24 x1 0 S21)))
theorem mo_spans_k_2 {K : rb_S → Prop}  (X : rb_X p s m args meth c A Z mo_spans_b 3 "RoomMakerModel" none)  : ∀ (n : Nat) (x1 : Int32) (S : rb_S), mo_spans_p_2 K n x1 S → rb_V p l e mo_spans_rm s m args below meth c A (MQ below (va_Qv K (rb_B Z A) A) args s mo_spans_rm.cells mo_spans_rm.slots A) Z 3 2 [(0, .ref (Z.1 23)), (1, .int x1)] [] S 0 0 := by
  intro n
  induction n with
  | zero =>
    intro x1 S h
    exact (show False from h).elim
  | succ n ih =>
    intro x1 S h
    have hB2 := ih
    rw [mo_spans_p_2] at h
    refine rb_iload_n X 1 mo_spans_d2 rfl 1 rfl ?_
    refine rb_bipush X 16 mo_spans_d3 (by decide) ?_
    refine rb_icmp_ge X 132 mo_spans_d5 (by decide) (fun hc => ?_) (fun hc => ?_)
    · replace h := h.1 hc
      exact mo_spans_k_132 X h
    · replace h := h.2 hc
      refine rb_aload_n X 0 mo_spans_d8 rfl 0 rfl ?_
      refine mo_g26 X mo_spans_d9 ?_
      refine rb_iload_n X 1 mo_spans_d12 rfl 1 rfl ?_
      refine rb_iconst X (-1) mo_spans_d13 (by decide) ?_
      obtain ⟨hin, h⟩ := h
      refine rb_iast X 29 (rb_a29 Z) mo_spans_d14 hin (fun S14 e14 => ?_)
      replace h := h S14 e14
      refine rb_aload_n X 0 mo_spans_d15 rfl 0 rfl ?_
      refine mo_g29 X mo_spans_d16 ?_
      refine rb_iload_n X 1 mo_spans_d19 rfl 1 rfl ?_
      refine rb_iconst X (-1) mo_spans_d20 (by decide) ?_
      obtain ⟨hin, h⟩ := h
      refine rb_iast X 30 (rb_a30 Z) mo_spans_d21 hin (fun S21 e21 => ?_)
      replace h := h S21 e21
      refine rb_iconst X 0 mo_spans_d22 (by decide) ?_
      refine rb_istore_n X 2 [1, 2, 0] (L' := [(0, .ref (Z.1 23)), (1, .int x1), (2, .int 0)]) mo_spans_d23 rfl (by decide) rfl ?_
      obtain ⟨j24, h⟩ := h
      exact mo_spans_k_24 X hB2 j24 _ _ _ h
def mo_spans_p_0 (K : rb_S → Prop)  (S : rb_S) : Prop := ∃ j2 : Nat, mo_spans_p_2 K j2 0 S
theorem mo_spans_k_0 {K : rb_S → Prop}  (X : rb_X p s m args meth c A Z mo_spans_b 3 "RoomMakerModel" none)   {S : rb_S} (h : mo_spans_p_0 K S) : rb_V p l e mo_spans_rm s m args below meth c A (MQ below (va_Qv K (rb_B Z A) A) args s mo_spans_rm.cells mo_spans_rm.slots A) Z 3 0 [(0, .ref (Z.1 23))] [] S 0 0 := by
  unfold mo_spans_p_0 at h
  refine rb_iconst X 0 mo_spans_d0 (by decide) ?_
  refine rb_istore_n X 1 [1, 0] (L' := [(0, .ref (Z.1 23)), (1, .int 0)]) mo_spans_d1 rfl (by decide) rfl ?_
  obtain ⟨j2, h⟩ := h
  exact mo_spans_k_2 X j2 _ _ h
theorem mo_spans_c (l : Launch) (Z : rb_Z) {K : rb_S → Prop}  {S : rb_S} (h : mo_spans_p_0 K S) : rb_Mv l mo_spans_y mo_spans_b 3 mo_spans_rm Z [.ref (Z.1 23)] S K := rb_startV (by decide) (Nat.le_of_ble_eq_true rfl) (fun p e s m args below meth c A X => mo_spans_k_0 X h)
end
theorem mo_next_d0 : decode mo_next_b 0 = .ok (.iconst (-1), 1) := by decide +kernel
theorem mo_next_d1 : decode mo_next_b 1 = .ok (.istore_n 2, 1) := by decide +kernel
theorem mo_next_d2 : decode mo_next_b 2 = .ok (.iconst 0, 1) := by decide +kernel
theorem mo_next_d3 : decode mo_next_b 3 = .ok (.istore_n 3, 1) := by decide +kernel
theorem mo_next_d4 : decode mo_next_b 4 = .ok (.iload_n 3, 1) := by decide +kernel
theorem mo_next_d5 : decode mo_next_b 5 = .ok (.bipush 16, 2) := by decide +kernel
theorem mo_next_d7 : decode mo_next_b 7 = .ok (.if_icmp .ge 90, 3) := by decide +kernel
theorem mo_next_d10 : decode mo_next_b 10 = .ok (.aload_n 0, 1) := by decide +kernel
theorem mo_next_d11 : decode mo_next_b 11 = .ok (.getfield 26, 3) := by decide +kernel
theorem mo_next_d14 : decode mo_next_b 14 = .ok (.iload_n 3, 1) := by decide +kernel
theorem mo_next_d15 : decode mo_next_b 15 = .ok (.iaload, 1) := by decide +kernel
theorem mo_next_d16 : decode mo_next_b 16 = .ok (.ifCond .lt 46, 3) := by decide +kernel
theorem mo_next_d19 : decode mo_next_b 19 = .ok (.iload_n 1, 1) := by decide +kernel
theorem mo_next_d20 : decode mo_next_b 20 = .ok (.ifCond .lt 38, 3) := by decide +kernel
theorem mo_next_d23 : decode mo_next_b 23 = .ok (.aload_n 0, 1) := by decide +kernel
theorem mo_next_d24 : decode mo_next_b 24 = .ok (.getfield 26, 3) := by decide +kernel
theorem mo_next_d27 : decode mo_next_b 27 = .ok (.iload_n 3, 1) := by decide +kernel
theorem mo_next_d28 : decode mo_next_b 28 = .ok (.iaload, 1) := by decide +kernel
theorem mo_next_d29 : decode mo_next_b 29 = .ok (.aload_n 0, 1) := by decide +kernel
theorem mo_next_d30 : decode mo_next_b 30 = .ok (.getfield 26, 3) := by decide +kernel
theorem mo_next_d33 : decode mo_next_b 33 = .ok (.iload_n 1, 1) := by decide +kernel
theorem mo_next_d34 : decode mo_next_b 34 = .ok (.iaload, 1) := by decide +kernel
theorem mo_next_d35 : decode mo_next_b 35 = .ok (.if_icmp .gt 23, 3) := by decide +kernel
theorem mo_next_d38 : decode mo_next_b 38 = .ok (.aload_n 0, 1) := by decide +kernel
theorem mo_next_d39 : decode mo_next_b 39 = .ok (.getfield 26, 3) := by decide +kernel
theorem mo_next_d42 : decode mo_next_b 42 = .ok (.iload_n 3, 1) := by decide +kernel
theorem mo_next_d43 : decode mo_next_b 43 = .ok (.iaload, 1) := by decide +kernel
theorem mo_next_d44 : decode mo_next_b 44 = .ok (.aload_n 0, 1) := by decide +kernel
theorem mo_next_d45 : decode mo_next_b 45 = .ok (.getfield 26, 3) := by decide +kernel
theorem mo_next_d48 : decode mo_next_b 48 = .ok (.iload_n 1, 1) := by decide +kernel
theorem mo_next_d49 : decode mo_next_b 49 = .ok (.iaload, 1) := by decide +kernel
theorem mo_next_d50 : decode mo_next_b 50 = .ok (.if_icmp .ne 12, 3) := by decide +kernel
theorem mo_next_d53 : decode mo_next_b 53 = .ok (.iload_n 3, 1) := by decide +kernel
theorem mo_next_d54 : decode mo_next_b 54 = .ok (.iload_n 1, 1) := by decide +kernel
theorem mo_next_d55 : decode mo_next_b 55 = .ok (.if_icmp .le 7, 3) := by decide +kernel
theorem mo_next_d58 : decode mo_next_b 58 = .ok (.iconst 1, 1) := by decide +kernel
theorem mo_next_d59 : decode mo_next_b 59 = .ok (.goto 4, 3) := by decide +kernel
theorem mo_next_d62 : decode mo_next_b 62 = .ok (.iconst 0, 1) := by decide +kernel
theorem mo_next_d63 : decode mo_next_b 63 = .ok (.istore 4, 2) := by decide +kernel
theorem mo_next_d65 : decode mo_next_b 65 = .ok (.iload 4, 2) := by decide +kernel
theorem mo_next_d67 : decode mo_next_b 67 = .ok (.ifCond .eq 24, 3) := by decide +kernel
theorem mo_next_d70 : decode mo_next_b 70 = .ok (.iload_n 2, 1) := by decide +kernel
theorem mo_next_d71 : decode mo_next_b 71 = .ok (.ifCond .lt 18, 3) := by decide +kernel
theorem mo_next_d74 : decode mo_next_b 74 = .ok (.aload_n 0, 1) := by decide +kernel
theorem mo_next_d75 : decode mo_next_b 75 = .ok (.getfield 26, 3) := by decide +kernel
theorem mo_next_d78 : decode mo_next_b 78 = .ok (.iload_n 3, 1) := by decide +kernel
theorem mo_next_d79 : decode mo_next_b 79 = .ok (.iaload, 1) := by decide +kernel
theorem mo_next_d80 : decode mo_next_b 80 = .ok (.aload_n 0, 1) := by decide +kernel
theorem mo_next_d81 : decode mo_next_b 81 = .ok (.getfield 26, 3) := by decide +kernel
theorem mo_next_d84 : decode mo_next_b 84 = .ok (.iload_n 2, 1) := by decide +kernel
theorem mo_next_d85 : decode mo_next_b 85 = .ok (.iaload, 1) := by decide +kernel
theorem mo_next_d86 : decode mo_next_b 86 = .ok (.if_icmp .ge 5, 3) := by decide +kernel
theorem mo_next_d89 : decode mo_next_b 89 = .ok (.iload_n 3, 1) := by decide +kernel
theorem mo_next_d90 : decode mo_next_b 90 = .ok (.istore_n 2, 1) := by decide +kernel
theorem mo_next_d91 : decode mo_next_b 91 = .ok (.iinc 3 1, 3) := by decide +kernel
theorem mo_next_d94 : decode mo_next_b 94 = .ok (.goto (-90), 3) := by decide +kernel
theorem mo_next_d97 : decode mo_next_b 97 = .ok (.iload_n 2, 1) := by decide +kernel
theorem mo_next_d98 : decode mo_next_b 98 = .ok (.ireturn, 1) := by decide +kernel
abbrev mo_next_rm : Room := { frames := 0, cells := 0, slots := 0, locals := 0 }
theorem mo_next_w : rb_cw mo_next_y mo_next_b 5 (some .int) 1 := ⟨rw_690, rw_7, ⟨by decide, by decide⟩, by decide +kernel⟩
section
variable {p : Program} {l : Launch} {e : Env} {s : State} {m : MethodId} {args : Array Value} {below : List Frame} {meth : Method} {c : Code} {A : Nat → Prop} {Z : rb_Z}
def mo_next_p_97 (K : Int32 → rb_S → Prop) (x1 : Int32) (x2 : Int32) (x3 : Int32) (S : rb_S) : Prop := K x2 S
theorem mo_next_k_97 {K : Int32 → rb_S → Prop}  (X : rb_X p s m args meth c A Z mo_next_b 5 "RoomMakerModel" (some .int))  {x1 : Int32} {x2 : Int32} {x3 : Int32} {S : rb_S} (h : mo_next_p_97 K x1 x2 x3 S) : rb_V p l e mo_next_rm s m args below meth c A (MQ below (va_Qi K (rb_B Z A) A) args s mo_next_rm.cells mo_next_rm.slots A) Z 5 97 [(0, .ref (Z.1 23)), (1, .int x1), (2, .int x2), (3, .int x3)] [] S 0 0 := by
  unfold mo_next_p_97 at h
  refine rb_iload_n X 2 mo_next_d97 rfl 2 rfl ?_
  exact rb_iret X mo_next_d98 h
def mo_next_p_91 (K : Int32 → rb_S → Prop) (B4 : Int32 → Int32 → Int32 → rb_S → Prop) (x1 : Int32) (x2 : Int32) (x3 : Int32) (x4 : Int32) (S : rb_S) : Prop := ∀ v91 : Int32, v91 = x3 + 1 → (B4 x1 x2 v91 S)
theorem mo_next_k_91 {K : Int32 → rb_S → Prop} {B4 : Int32 → Int32 → Int32 → rb_S → Prop} (X : rb_X p s m args meth c A Z mo_next_b 5 "RoomMakerModel" (some .int)) (hB4 : ∀ (x1 : Int32) (x2 : Int32) (x3 : Int32) (S : rb_S), B4 x1 x2 x3 S → rb_V p l e mo_next_rm s m args below meth c A (MQ below (va_Qi K (rb_B Z A) A) args s mo_next_rm.cells mo_next_rm.slots A) Z 5 4 [(0, .ref (Z.1 23)), (1, .int x1), (2, .int x2), (3, .int x3)] [] S 0 0) {x1 : Int32} {x2 : Int32} {x3 : Int32} {x4 : Int32} {S : rb_S} (h : mo_next_p_91 K B4 x1 x2 x3 x4 S) : rb_V p l e mo_next_rm s m args below meth c A (MQ below (va_Qi K (rb_B Z A) A) args s mo_next_rm.cells mo_next_rm.slots A) Z 5 91 [(0, .ref (Z.1 23)), (1, .int x1), (2, .int x2), (3, .int x3), (4, .int x4)] [] S 0 0 := by
  unfold mo_next_p_91 at h
  refine rb_iinc X 1 3 [1, 2, 3, 0, 4] (fun v91 => [(0, .ref (Z.1 23)), (1, .int x1), (2, .int x2), (3, .int v91), (4, .int x4)]) mo_next_d91 3 rfl (by decide) (by decide) (fun _ => rfl) (fun v91 e91 => ?_)
  replace h := h v91 e91
  refine rb_goto X 4 mo_next_d94 (by decide) ?_
  refine rb_cut [0, 1, 2, 3] (L' := [(0, .ref (Z.1 23)), (1, .int x1), (2, .int x2), (3, .int v91)]) rfl ?_
  exact hB4 _ _ _ _ h
def mo_next_p_89 (K : Int32 → rb_S → Prop) (B4 : Int32 → Int32 → Int32 → rb_S → Prop) (x1 : Int32) (x2 : Int32) (x3 : Int32) (x4 : Int32) (S : rb_S) : Prop := mo_next_p_91 K B4 x1 x3 x3 x4 S
theorem mo_next_k_89 {K : Int32 → rb_S → Prop} {B4 : Int32 → Int32 → Int32 → rb_S → Prop} (X : rb_X p s m args meth c A Z mo_next_b 5 "RoomMakerModel" (some .int)) (hB4 : ∀ (x1 : Int32) (x2 : Int32) (x3 : Int32) (S : rb_S), B4 x1 x2 x3 S → rb_V p l e mo_next_rm s m args below meth c A (MQ below (va_Qi K (rb_B Z A) A) args s mo_next_rm.cells mo_next_rm.slots A) Z 5 4 [(0, .ref (Z.1 23)), (1, .int x1), (2, .int x2), (3, .int x3)] [] S 0 0) {x1 : Int32} {x2 : Int32} {x3 : Int32} {x4 : Int32} {S : rb_S} (h : mo_next_p_89 K B4 x1 x2 x3 x4 S) : rb_V p l e mo_next_rm s m args below meth c A (MQ below (va_Qi K (rb_B Z A) A) args s mo_next_rm.cells mo_next_rm.slots A) Z 5 89 [(0, .ref (Z.1 23)), (1, .int x1), (2, .int x2), (3, .int x3), (4, .int x4)] [] S 0 0 := by
  unfold mo_next_p_89 at h
  refine rb_iload_n X 3 mo_next_d89 rfl 3 rfl ?_
  refine rb_istore_n X 2 [1, 2, 0, 3, 4] (L' := [(0, .ref (Z.1 23)), (1, .int x1), (2, .int x3), (3, .int x3), (4, .int x4)]) mo_next_d90 rfl (by decide) rfl ?_
  exact mo_next_k_91 X hB4 h
def mo_next_p_63 (K : Int32 → rb_S → Prop) (B4 : Int32 → Int32 → Int32 → rb_S → Prop) (x1 : Int32) (x2 : Int32) (x3 : Int32) (y0 : Int32) (S : rb_S) : Prop := (y0 = 0 → mo_next_p_91 K B4 x1 x2 x3 y0 S) ∧ (¬ y0 = 0 → (x2 < 0 → mo_next_p_89 K B4 x1 x2 x3 y0 S) ∧ (¬ x2 < 0 → vp_in x3 16 ∧ (vp_in x2 16 ∧ (((S 29 x2.toNatClampNeg) ≤ (S 29 x3.toNatClampNeg) → mo_next_p_91 K B4 x1 x2 x3 y0 S) ∧ (¬ (S 29 x2.toNatClampNeg) ≤ (S 29 x3.toNatClampNeg) → mo_next_p_89 K B4 x1 x2 x3 y0 S)))))
theorem mo_next_k_63 {K : Int32 → rb_S → Prop} {B4 : Int32 → Int32 → Int32 → rb_S → Prop} (X : rb_X p s m args meth c A Z mo_next_b 5 "RoomMakerModel" (some .int)) (hB4 : ∀ (x1 : Int32) (x2 : Int32) (x3 : Int32) (S : rb_S), B4 x1 x2 x3 S → rb_V p l e mo_next_rm s m args below meth c A (MQ below (va_Qi K (rb_B Z A) A) args s mo_next_rm.cells mo_next_rm.slots A) Z 5 4 [(0, .ref (Z.1 23)), (1, .int x1), (2, .int x2), (3, .int x3)] [] S 0 0) {x1 : Int32} {x2 : Int32} {x3 : Int32} {y0 : Int32} {S : rb_S} (h : mo_next_p_63 K B4 x1 x2 x3 y0 S) : rb_V p l e mo_next_rm s m args below meth c A (MQ below (va_Qi K (rb_B Z A) A) args s mo_next_rm.cells mo_next_rm.slots A) Z 5 63 [(0, .ref (Z.1 23)), (1, .int x1), (2, .int x2), (3, .int x3)] [.int y0] S 0 0 := by
  unfold mo_next_p_63 at h
  refine rb_istore X 4 [1, 2, 3, 4, 0] (L' := [(0, .ref (Z.1 23)), (1, .int x1), (2, .int x2), (3, .int x3), (4, .int y0)]) mo_next_d63 (by decide) rfl ?_
  refine rb_iload X 4 mo_next_d65 4 rfl ?_
  refine rb_if_eq X 91 mo_next_d67 (by decide) (fun hc => ?_) (fun hc => ?_)
  · replace h := h.1 hc
    exact mo_next_k_91 X hB4 h
  · replace h := h.2 hc
    refine rb_iload_n X 2 mo_next_d70 rfl 2 rfl ?_
    refine rb_if_lt X 89 mo_next_d71 (by decide) (fun hc => ?_) (fun hc => ?_)
    · replace h := h.1 hc
      exact mo_next_k_89 X hB4 h
    · replace h := h.2 hc
      refine rb_aload_n X 0 mo_next_d74 rfl 0 rfl ?_
      refine mo_g26 X mo_next_d75 ?_
      refine rb_iload_n X 3 mo_next_d78 rfl 3 rfl ?_
      obtain ⟨hin, h⟩ := h
      refine rb_iald X 29 (rb_a29 Z) mo_next_d79 hin ?_
      refine rb_aload_n X 0 mo_next_d80 rfl 0 rfl ?_
      refine mo_g26 X mo_next_d81 ?_
      refine rb_iload_n X 2 mo_next_d84 rfl 2 rfl ?_
      obtain ⟨hin, h⟩ := h
      refine rb_iald X 29 (rb_a29 Z) mo_next_d85 hin ?_
      refine rb_icmp_ge X 91 mo_next_d86 (by decide) (fun hc => ?_) (fun hc => ?_)
      · replace h := h.1 hc
        exact mo_next_k_91 X hB4 h
      · replace h := h.2 hc
        exact mo_next_k_89 X hB4 h
def mo_next_p_62 (K : Int32 → rb_S → Prop) (B4 : Int32 → Int32 → Int32 → rb_S → Prop) (x1 : Int32) (x2 : Int32) (x3 : Int32) (S : rb_S) : Prop := mo_next_p_63 K B4 x1 x2 x3 0 S
theorem mo_next_k_62 {K : Int32 → rb_S → Prop} {B4 : Int32 → Int32 → Int32 → rb_S → Prop} (X : rb_X p s m args meth c A Z mo_next_b 5 "RoomMakerModel" (some .int)) (hB4 : ∀ (x1 : Int32) (x2 : Int32) (x3 : Int32) (S : rb_S), B4 x1 x2 x3 S → rb_V p l e mo_next_rm s m args below meth c A (MQ below (va_Qi K (rb_B Z A) A) args s mo_next_rm.cells mo_next_rm.slots A) Z 5 4 [(0, .ref (Z.1 23)), (1, .int x1), (2, .int x2), (3, .int x3)] [] S 0 0) {x1 : Int32} {x2 : Int32} {x3 : Int32} {S : rb_S} (h : mo_next_p_62 K B4 x1 x2 x3 S) : rb_V p l e mo_next_rm s m args below meth c A (MQ below (va_Qi K (rb_B Z A) A) args s mo_next_rm.cells mo_next_rm.slots A) Z 5 62 [(0, .ref (Z.1 23)), (1, .int x1), (2, .int x2), (3, .int x3)] [] S 0 0 := by
  unfold mo_next_p_62 at h
  refine rb_iconst X 0 mo_next_d62 (by decide) ?_
  exact mo_next_k_63 X hB4 h
def mo_next_p_58 (K : Int32 → rb_S → Prop) (B4 : Int32 → Int32 → Int32 → rb_S → Prop) (x1 : Int32) (x2 : Int32) (x3 : Int32) (S : rb_S) : Prop := mo_next_p_63 K B4 x1 x2 x3 1 S
theorem mo_next_k_58 {K : Int32 → rb_S → Prop} {B4 : Int32 → Int32 → Int32 → rb_S → Prop} (X : rb_X p s m args meth c A Z mo_next_b 5 "RoomMakerModel" (some .int)) (hB4 : ∀ (x1 : Int32) (x2 : Int32) (x3 : Int32) (S : rb_S), B4 x1 x2 x3 S → rb_V p l e mo_next_rm s m args below meth c A (MQ below (va_Qi K (rb_B Z A) A) args s mo_next_rm.cells mo_next_rm.slots A) Z 5 4 [(0, .ref (Z.1 23)), (1, .int x1), (2, .int x2), (3, .int x3)] [] S 0 0) {x1 : Int32} {x2 : Int32} {x3 : Int32} {S : rb_S} (h : mo_next_p_58 K B4 x1 x2 x3 S) : rb_V p l e mo_next_rm s m args below meth c A (MQ below (va_Qi K (rb_B Z A) A) args s mo_next_rm.cells mo_next_rm.slots A) Z 5 58 [(0, .ref (Z.1 23)), (1, .int x1), (2, .int x2), (3, .int x3)] [] S 0 0 := by
  unfold mo_next_p_58 at h
  refine rb_iconst X 1 mo_next_d58 (by decide) ?_
  refine rb_goto X 63 mo_next_d59 (by decide) ?_
  exact mo_next_k_63 X hB4 h
def mo_next_p_4 (K : Int32 → rb_S → Prop) : Nat → Int32 → Int32 → Int32 → rb_S → Prop
  | 0, _, _, _, _ => False
  | n4 + 1, x1, x2, x3, S => (16 ≤ x3 → mo_next_p_97 K x1 x2 x3 S) ∧ (¬ 16 ≤ x3 → vp_in x3 16 ∧ (((S 29 x3.toNatClampNeg) < 0 → mo_next_p_62 K (fun a0 a1 a2 T => mo_next_p_4 K n4 a0 a1 a2 T) x1 x2 x3 S) ∧ (¬ (S 29 x3.toNatClampNeg) < 0 → (x1 < 0 → mo_next_p_58 K (fun a0 a1 a2 T => mo_next_p_4 K n4 a0 a1 a2 T) x1 x2 x3 S) ∧ (¬ x1 < 0 → vp_in x3 16 ∧ (vp_in x1 16 ∧ (((S 29 x1.toNatClampNeg) < (S 29 x3.toNatClampNeg) → mo_next_p_58 K (fun a0 a1 a2 T => mo_next_p_4 K n4 a0 a1 a2 T) x1 x2 x3 S) ∧ (¬ (S 29 x1.toNatClampNeg) < (S 29 x3.toNatClampNeg) → vp_in x3 16 ∧ (vp_in x1 16 ∧ ((¬ (S 29 x3.toNatClampNeg) = (S 29 x1.toNatClampNeg) → mo_next_p_62 K (fun a0 a1 a2 T => mo_next_p_4 K n4 a0 a1 a2 T) x1 x2 x3 S) ∧ ((S 29 x3.toNatClampNeg) = (S 29 x1.toNatClampNeg) → (x3 ≤ x1 → mo_next_p_62 K (fun a0 a1 a2 T => mo_next_p_4 K n4 a0 a1 a2 T) x1 x2 x3 S) ∧ (¬ x3 ≤ x1 → mo_next_p_58 K (fun a0 a1 a2 T => mo_next_p_4 K n4 a0 a1 a2 T) x1 x2 x3 S)))))))))))
theorem mo_next_k_4 {K : Int32 → rb_S → Prop}  (X : rb_X p s m args meth c A Z mo_next_b 5 "RoomMakerModel" (some .int))  : ∀ (n : Nat) (x1 : Int32) (x2 : Int32) (x3 : Int32) (S : rb_S), mo_next_p_4 K n x1 x2 x3 S → rb_V p l e mo_next_rm s m args below meth c A (MQ below (va_Qi K (rb_B Z A) A) args s mo_next_rm.cells mo_next_rm.slots A) Z 5 4 [(0, .ref (Z.1 23)), (1, .int x1), (2, .int x2), (3, .int x3)] [] S 0 0 := by
  intro n
  induction n with
  | zero =>
    intro x1 x2 x3 S h
    exact (show False from h).elim
  | succ n ih =>
    intro x1 x2 x3 S h
    have hB4 := ih
    rw [mo_next_p_4] at h
    refine rb_iload_n X 3 mo_next_d4 rfl 3 rfl ?_
    refine rb_bipush X 16 mo_next_d5 (by decide) ?_
    refine rb_icmp_ge X 97 mo_next_d7 (by decide) (fun hc => ?_) (fun hc => ?_)
    · replace h := h.1 hc
      exact mo_next_k_97 X h
    · replace h := h.2 hc
      refine rb_aload_n X 0 mo_next_d10 rfl 0 rfl ?_
      refine mo_g26 X mo_next_d11 ?_
      refine rb_iload_n X 3 mo_next_d14 rfl 3 rfl ?_
      obtain ⟨hin, h⟩ := h
      refine rb_iald X 29 (rb_a29 Z) mo_next_d15 hin ?_
      refine rb_if_lt X 62 mo_next_d16 (by decide) (fun hc => ?_) (fun hc => ?_)
      · replace h := h.1 hc
        exact mo_next_k_62 X hB4 h
      · replace h := h.2 hc
        refine rb_iload_n X 1 mo_next_d19 rfl 1 rfl ?_
        refine rb_if_lt X 58 mo_next_d20 (by decide) (fun hc => ?_) (fun hc => ?_)
        · replace h := h.1 hc
          exact mo_next_k_58 X hB4 h
        · replace h := h.2 hc
          refine rb_aload_n X 0 mo_next_d23 rfl 0 rfl ?_
          refine mo_g26 X mo_next_d24 ?_
          refine rb_iload_n X 3 mo_next_d27 rfl 3 rfl ?_
          obtain ⟨hin, h⟩ := h
          refine rb_iald X 29 (rb_a29 Z) mo_next_d28 hin ?_
          refine rb_aload_n X 0 mo_next_d29 rfl 0 rfl ?_
          refine mo_g26 X mo_next_d30 ?_
          refine rb_iload_n X 1 mo_next_d33 rfl 1 rfl ?_
          obtain ⟨hin, h⟩ := h
          refine rb_iald X 29 (rb_a29 Z) mo_next_d34 hin ?_
          refine rb_icmp_gt X 58 mo_next_d35 (by decide) (fun hc => ?_) (fun hc => ?_)
          · replace h := h.1 hc
            exact mo_next_k_58 X hB4 h
          · replace h := h.2 hc
            refine rb_aload_n X 0 mo_next_d38 rfl 0 rfl ?_
            refine mo_g26 X mo_next_d39 ?_
            refine rb_iload_n X 3 mo_next_d42 rfl 3 rfl ?_
            obtain ⟨hin, h⟩ := h
            refine rb_iald X 29 (rb_a29 Z) mo_next_d43 hin ?_
            refine rb_aload_n X 0 mo_next_d44 rfl 0 rfl ?_
            refine mo_g26 X mo_next_d45 ?_
            refine rb_iload_n X 1 mo_next_d48 rfl 1 rfl ?_
            obtain ⟨hin, h⟩ := h
            refine rb_iald X 29 (rb_a29 Z) mo_next_d49 hin ?_
            refine rb_icmp_ne X 62 mo_next_d50 (by decide) (fun hc => ?_) (fun hc => ?_)
            · replace h := h.1 hc
              exact mo_next_k_62 X hB4 h
            · replace h := h.2 hc
              refine rb_iload_n X 3 mo_next_d53 rfl 3 rfl ?_
              refine rb_iload_n X 1 mo_next_d54 rfl 1 rfl ?_
              refine rb_icmp_le X 62 mo_next_d55 (by decide) (fun hc => ?_) (fun hc => ?_)
              · replace h := h.1 hc
                exact mo_next_k_62 X hB4 h
              · replace h := h.2 hc
                exact mo_next_k_58 X hB4 h
def mo_next_p_0 (K : Int32 → rb_S → Prop) (x1 : Int32) (S : rb_S) : Prop := ∃ j4 : Nat, mo_next_p_4 K j4 x1 (-1) 0 S
theorem mo_next_k_0 {K : Int32 → rb_S → Prop}  (X : rb_X p s m args meth c A Z mo_next_b 5 "RoomMakerModel" (some .int))  {x1 : Int32} {S : rb_S} (h : mo_next_p_0 K x1 S) : rb_V p l e mo_next_rm s m args below meth c A (MQ below (va_Qi K (rb_B Z A) A) args s mo_next_rm.cells mo_next_rm.slots A) Z 5 0 [(0, .ref (Z.1 23)), (1, .int x1)] [] S 0 0 := by
  unfold mo_next_p_0 at h
  refine rb_iconst X (-1) mo_next_d0 (by decide) ?_
  refine rb_istore_n X 2 [1, 2, 0] (L' := [(0, .ref (Z.1 23)), (1, .int x1), (2, .int (-1))]) mo_next_d1 rfl (by decide) rfl ?_
  refine rb_iconst X 0 mo_next_d2 (by decide) ?_
  refine rb_istore_n X 3 [1, 2, 3, 0] (L' := [(0, .ref (Z.1 23)), (1, .int x1), (2, .int (-1)), (3, .int 0)]) mo_next_d3 rfl (by decide) rfl ?_
  obtain ⟨j4, h⟩ := h
  exact mo_next_k_4 X j4 _ _ _ _ h
theorem mo_next_c (l : Launch) (Z : rb_Z) {K : Int32 → rb_S → Prop} {x1 : Int32} {S : rb_S} (h : mo_next_p_0 K x1 S) : rb_Mi l mo_next_y mo_next_b 5 (some .int) mo_next_rm Z [.ref (Z.1 23), .int x1] S K := rb_startI (by decide) (Nat.le_of_ble_eq_true rfl) (fun p e s m args below meth c A X => mo_next_k_0 X h)
end
theorem mo_isTaken_d0 : decode mo_isTaken_b 0 = .ok (.iconst 0, 1) := by decide +kernel
theorem mo_isTaken_d1 : decode mo_isTaken_b 1 = .ok (.istore_n 3, 1) := by decide +kernel
theorem mo_isTaken_d2 : decode mo_isTaken_b 2 = .ok (.iconst 0, 1) := by decide +kernel
theorem mo_isTaken_d3 : decode mo_isTaken_b 3 = .ok (.istore 4, 2) := by decide +kernel
theorem mo_isTaken_d5 : decode mo_isTaken_b 5 = .ok (.iload 4, 2) := by decide +kernel
theorem mo_isTaken_d7 : decode mo_isTaken_b 7 = .ok (.bipush 16, 2) := by decide +kernel
theorem mo_isTaken_d9 : decode mo_isTaken_b 9 = .ok (.if_icmp .ge 41, 3) := by decide +kernel
theorem mo_isTaken_d12 : decode mo_isTaken_b 12 = .ok (.iload_n 3, 1) := by decide +kernel
theorem mo_isTaken_d13 : decode mo_isTaken_b 13 = .ok (.ifCond .ne 25, 3) := by decide +kernel
theorem mo_isTaken_d16 : decode mo_isTaken_b 16 = .ok (.aload_n 0, 1) := by decide +kernel
theorem mo_isTaken_d17 : decode mo_isTaken_b 17 = .ok (.getfield 32, 3) := by decide +kernel
theorem mo_isTaken_d20 : decode mo_isTaken_b 20 = .ok (.iload 4, 2) := by decide +kernel
theorem mo_isTaken_d22 : decode mo_isTaken_b 22 = .ok (.iaload, 1) := by decide +kernel
theorem mo_isTaken_d23 : decode mo_isTaken_b 23 = .ok (.iload_n 1, 1) := by decide +kernel
theorem mo_isTaken_d24 : decode mo_isTaken_b 24 = .ok (.if_icmp .ne 18, 3) := by decide +kernel
theorem mo_isTaken_d27 : decode mo_isTaken_b 27 = .ok (.aload_n 0, 1) := by decide +kernel
theorem mo_isTaken_d28 : decode mo_isTaken_b 28 = .ok (.getfield 29, 3) := by decide +kernel
theorem mo_isTaken_d31 : decode mo_isTaken_b 31 = .ok (.iload 4, 2) := by decide +kernel
theorem mo_isTaken_d33 : decode mo_isTaken_b 33 = .ok (.iaload, 1) := by decide +kernel
theorem mo_isTaken_d34 : decode mo_isTaken_b 34 = .ok (.iload_n 2, 1) := by decide +kernel
theorem mo_isTaken_d35 : decode mo_isTaken_b 35 = .ok (.if_icmp .lt 7, 3) := by decide +kernel
theorem mo_isTaken_d38 : decode mo_isTaken_b 38 = .ok (.iconst 1, 1) := by decide +kernel
theorem mo_isTaken_d39 : decode mo_isTaken_b 39 = .ok (.goto 4, 3) := by decide +kernel
theorem mo_isTaken_d42 : decode mo_isTaken_b 42 = .ok (.iconst 0, 1) := by decide +kernel
theorem mo_isTaken_d43 : decode mo_isTaken_b 43 = .ok (.istore_n 3, 1) := by decide +kernel
theorem mo_isTaken_d44 : decode mo_isTaken_b 44 = .ok (.iinc 4 1, 3) := by decide +kernel
theorem mo_isTaken_d47 : decode mo_isTaken_b 47 = .ok (.goto (-42), 3) := by decide +kernel
theorem mo_isTaken_d50 : decode mo_isTaken_b 50 = .ok (.iload_n 3, 1) := by decide +kernel
theorem mo_isTaken_d51 : decode mo_isTaken_b 51 = .ok (.ireturn, 1) := by decide +kernel
abbrev mo_isTaken_rm : Room := { frames := 0, cells := 0, slots := 0, locals := 0 }
theorem mo_isTaken_w : rb_cw mo_isTaken_y mo_isTaken_b 5 (some .boolean) 2 := ⟨rw_698, rw_7, ⟨by decide, by decide⟩, by decide +kernel⟩
section
variable {p : Program} {l : Launch} {e : Env} {s : State} {m : MethodId} {args : Array Value} {below : List Frame} {meth : Method} {c : Code} {A : Nat → Prop} {Z : rb_Z}
def mo_isTaken_p_50 (K : Int32 → rb_S → Prop) (x1 : Int32) (x2 : Int32) (x3 : Int32) (x4 : Int32) (S : rb_S) : Prop := narrow .boolean (.int x3) = .int x3 ∧ K x3 S
theorem mo_isTaken_k_50 {K : Int32 → rb_S → Prop}  (X : rb_X p s m args meth c A Z mo_isTaken_b 5 "RoomMakerModel" (some .boolean))  {x1 : Int32} {x2 : Int32} {x3 : Int32} {x4 : Int32} {S : rb_S} (h : mo_isTaken_p_50 K x1 x2 x3 x4 S) : rb_V p l e mo_isTaken_rm s m args below meth c A (MQ below (va_Qi K (rb_B Z A) A) args s mo_isTaken_rm.cells mo_isTaken_rm.slots A) Z 5 50 [(0, .ref (Z.1 23)), (1, .int x1), (2, .int x2), (3, .int x3), (4, .int x4)] [] S 0 0 := by
  unfold mo_isTaken_p_50 at h
  refine rb_iload_n X 3 mo_isTaken_d50 rfl 3 rfl ?_
  obtain ⟨hn, h⟩ := h
  exact rb_zret X mo_isTaken_d51 hn h
def mo_isTaken_p_43 (K : Int32 → rb_S → Prop) (B5 : Int32 → Int32 → Int32 → Int32 → rb_S → Prop) (x1 : Int32) (x2 : Int32) (x3 : Int32) (x4 : Int32) (y0 : Int32) (S : rb_S) : Prop := ∀ v44 : Int32, v44 = x4 + 1 → (B5 x1 x2 y0 v44 S)
theorem mo_isTaken_k_43 {K : Int32 → rb_S → Prop} {B5 : Int32 → Int32 → Int32 → Int32 → rb_S → Prop} (X : rb_X p s m args meth c A Z mo_isTaken_b 5 "RoomMakerModel" (some .boolean)) (hB5 : ∀ (x1 : Int32) (x2 : Int32) (x3 : Int32) (x4 : Int32) (S : rb_S), B5 x1 x2 x3 x4 S → rb_V p l e mo_isTaken_rm s m args below meth c A (MQ below (va_Qi K (rb_B Z A) A) args s mo_isTaken_rm.cells mo_isTaken_rm.slots A) Z 5 5 [(0, .ref (Z.1 23)), (1, .int x1), (2, .int x2), (3, .int x3), (4, .int x4)] [] S 0 0) {x1 : Int32} {x2 : Int32} {x3 : Int32} {x4 : Int32} {y0 : Int32} {S : rb_S} (h : mo_isTaken_p_43 K B5 x1 x2 x3 x4 y0 S) : rb_V p l e mo_isTaken_rm s m args below meth c A (MQ below (va_Qi K (rb_B Z A) A) args s mo_isTaken_rm.cells mo_isTaken_rm.slots A) Z 5 43 [(0, .ref (Z.1 23)), (1, .int x1), (2, .int x2), (3, .int x3), (4, .int x4)] [.int y0] S 0 0 := by
  unfold mo_isTaken_p_43 at h
  refine rb_istore_n X 3 [1, 2, 3, 0, 4] (L' := [(0, .ref (Z.1 23)), (1, .int x1), (2, .int x2), (3, .int y0), (4, .int x4)]) mo_isTaken_d43 rfl (by decide) rfl ?_
  refine rb_iinc X 1 4 [1, 2, 3, 4, 0] (fun v44 => [(0, .ref (Z.1 23)), (1, .int x1), (2, .int x2), (3, .int y0), (4, .int v44)]) mo_isTaken_d44 4 rfl (by decide) (by decide) (fun _ => rfl) (fun v44 e44 => ?_)
  replace h := h v44 e44
  refine rb_goto X 5 mo_isTaken_d47 (by decide) ?_
  exact hB5 _ _ _ _ _ h
def mo_isTaken_p_38 (K : Int32 → rb_S → Prop) (B5 : Int32 → Int32 → Int32 → Int32 → rb_S → Prop) (x1 : Int32) (x2 : Int32) (x3 : Int32) (x4 : Int32) (S : rb_S) : Prop := mo_isTaken_p_43 K B5 x1 x2 x3 x4 1 S
theorem mo_isTaken_k_38 {K : Int32 → rb_S → Prop} {B5 : Int32 → Int32 → Int32 → Int32 → rb_S → Prop} (X : rb_X p s m args meth c A Z mo_isTaken_b 5 "RoomMakerModel" (some .boolean)) (hB5 : ∀ (x1 : Int32) (x2 : Int32) (x3 : Int32) (x4 : Int32) (S : rb_S), B5 x1 x2 x3 x4 S → rb_V p l e mo_isTaken_rm s m args below meth c A (MQ below (va_Qi K (rb_B Z A) A) args s mo_isTaken_rm.cells mo_isTaken_rm.slots A) Z 5 5 [(0, .ref (Z.1 23)), (1, .int x1), (2, .int x2), (3, .int x3), (4, .int x4)] [] S 0 0) {x1 : Int32} {x2 : Int32} {x3 : Int32} {x4 : Int32} {S : rb_S} (h : mo_isTaken_p_38 K B5 x1 x2 x3 x4 S) : rb_V p l e mo_isTaken_rm s m args below meth c A (MQ below (va_Qi K (rb_B Z A) A) args s mo_isTaken_rm.cells mo_isTaken_rm.slots A) Z 5 38 [(0, .ref (Z.1 23)), (1, .int x1), (2, .int x2), (3, .int x3), (4, .int x4)] [] S 0 0 := by
  unfold mo_isTaken_p_38 at h
  refine rb_iconst X 1 mo_isTaken_d38 (by decide) ?_
  refine rb_goto X 43 mo_isTaken_d39 (by decide) ?_
  exact mo_isTaken_k_43 X hB5 h
def mo_isTaken_p_42 (K : Int32 → rb_S → Prop) (B5 : Int32 → Int32 → Int32 → Int32 → rb_S → Prop) (x1 : Int32) (x2 : Int32) (x3 : Int32) (x4 : Int32) (S : rb_S) : Prop := mo_isTaken_p_43 K B5 x1 x2 x3 x4 0 S
theorem mo_isTaken_k_42 {K : Int32 → rb_S → Prop} {B5 : Int32 → Int32 → Int32 → Int32 → rb_S → Prop} (X : rb_X p s m args meth c A Z mo_isTaken_b 5 "RoomMakerModel" (some .boolean)) (hB5 : ∀ (x1 : Int32) (x2 : Int32) (x3 : Int32) (x4 : Int32) (S : rb_S), B5 x1 x2 x3 x4 S → rb_V p l e mo_isTaken_rm s m args below meth c A (MQ below (va_Qi K (rb_B Z A) A) args s mo_isTaken_rm.cells mo_isTaken_rm.slots A) Z 5 5 [(0, .ref (Z.1 23)), (1, .int x1), (2, .int x2), (3, .int x3), (4, .int x4)] [] S 0 0) {x1 : Int32} {x2 : Int32} {x3 : Int32} {x4 : Int32} {S : rb_S} (h : mo_isTaken_p_42 K B5 x1 x2 x3 x4 S) : rb_V p l e mo_isTaken_rm s m args below meth c A (MQ below (va_Qi K (rb_B Z A) A) args s mo_isTaken_rm.cells mo_isTaken_rm.slots A) Z 5 42 [(0, .ref (Z.1 23)), (1, .int x1), (2, .int x2), (3, .int x3), (4, .int x4)] [] S 0 0 := by
  unfold mo_isTaken_p_42 at h
  refine rb_iconst X 0 mo_isTaken_d42 (by decide) ?_
  exact mo_isTaken_k_43 X hB5 h
def mo_isTaken_p_5 (K : Int32 → rb_S → Prop) : Nat → Int32 → Int32 → Int32 → Int32 → rb_S → Prop
  | 0, _, _, _, _, _ => False
  | n5 + 1, x1, x2, x3, x4, S => (16 ≤ x4 → mo_isTaken_p_50 K x1 x2 x3 x4 S) ∧ (¬ 16 ≤ x4 → (¬ x3 = 0 → mo_isTaken_p_38 K (fun a0 a1 a2 a3 T => mo_isTaken_p_5 K n5 a0 a1 a2 a3 T) x1 x2 x3 x4 S) ∧ (x3 = 0 → vp_in x4 16 ∧ ((¬ (S 31 x4.toNatClampNeg) = x1 → mo_isTaken_p_42 K (fun a0 a1 a2 a3 T => mo_isTaken_p_5 K n5 a0 a1 a2 a3 T) x1 x2 x3 x4 S) ∧ ((S 31 x4.toNatClampNeg) = x1 → vp_in x4 16 ∧ (((S 30 x4.toNatClampNeg) < x2 → mo_isTaken_p_42 K (fun a0 a1 a2 a3 T => mo_isTaken_p_5 K n5 a0 a1 a2 a3 T) x1 x2 x3 x4 S) ∧ (¬ (S 30 x4.toNatClampNeg) < x2 → mo_isTaken_p_38 K (fun a0 a1 a2 a3 T => mo_isTaken_p_5 K n5 a0 a1 a2 a3 T) x1 x2 x3 x4 S))))))
theorem mo_isTaken_k_5 {K : Int32 → rb_S → Prop}  (X : rb_X p s m args meth c A Z mo_isTaken_b 5 "RoomMakerModel" (some .boolean))  : ∀ (n : Nat) (x1 : Int32) (x2 : Int32) (x3 : Int32) (x4 : Int32) (S : rb_S), mo_isTaken_p_5 K n x1 x2 x3 x4 S → rb_V p l e mo_isTaken_rm s m args below meth c A (MQ below (va_Qi K (rb_B Z A) A) args s mo_isTaken_rm.cells mo_isTaken_rm.slots A) Z 5 5 [(0, .ref (Z.1 23)), (1, .int x1), (2, .int x2), (3, .int x3), (4, .int x4)] [] S 0 0 := by
  intro n
  induction n with
  | zero =>
    intro x1 x2 x3 x4 S h
    exact (show False from h).elim
  | succ n ih =>
    intro x1 x2 x3 x4 S h
    have hB5 := ih
    rw [mo_isTaken_p_5] at h
    refine rb_iload X 4 mo_isTaken_d5 4 rfl ?_
    refine rb_bipush X 16 mo_isTaken_d7 (by decide) ?_
    refine rb_icmp_ge X 50 mo_isTaken_d9 (by decide) (fun hc => ?_) (fun hc => ?_)
    · replace h := h.1 hc
      exact mo_isTaken_k_50 X h
    · replace h := h.2 hc
      refine rb_iload_n X 3 mo_isTaken_d12 rfl 3 rfl ?_
      refine rb_if_ne X 38 mo_isTaken_d13 (by decide) (fun hc => ?_) (fun hc => ?_)
      · replace h := h.1 hc
        exact mo_isTaken_k_38 X hB5 h
      · replace h := h.2 hc
        refine rb_aload_n X 0 mo_isTaken_d16 rfl 0 rfl ?_
        refine mo_g32 X mo_isTaken_d17 ?_
        refine rb_iload X 4 mo_isTaken_d20 4 rfl ?_
        obtain ⟨hin, h⟩ := h
        refine rb_iald X 31 (rb_a31 Z) mo_isTaken_d22 hin ?_
        refine rb_iload_n X 1 mo_isTaken_d23 rfl 1 rfl ?_
        refine rb_icmp_ne X 42 mo_isTaken_d24 (by decide) (fun hc => ?_) (fun hc => ?_)
        · replace h := h.1 hc
          exact mo_isTaken_k_42 X hB5 h
        · replace h := h.2 hc
          refine rb_aload_n X 0 mo_isTaken_d27 rfl 0 rfl ?_
          refine mo_g29 X mo_isTaken_d28 ?_
          refine rb_iload X 4 mo_isTaken_d31 4 rfl ?_
          obtain ⟨hin, h⟩ := h
          refine rb_iald X 30 (rb_a30 Z) mo_isTaken_d33 hin ?_
          refine rb_iload_n X 2 mo_isTaken_d34 rfl 2 rfl ?_
          refine rb_icmp_lt X 42 mo_isTaken_d35 (by decide) (fun hc => ?_) (fun hc => ?_)
          · replace h := h.1 hc
            exact mo_isTaken_k_42 X hB5 h
          · replace h := h.2 hc
            exact mo_isTaken_k_38 X hB5 h
def mo_isTaken_p_0 (K : Int32 → rb_S → Prop) (x1 : Int32) (x2 : Int32) (S : rb_S) : Prop := ∃ j5 : Nat, mo_isTaken_p_5 K j5 x1 x2 0 0 S
theorem mo_isTaken_k_0 {K : Int32 → rb_S → Prop}  (X : rb_X p s m args meth c A Z mo_isTaken_b 5 "RoomMakerModel" (some .boolean))  {x1 : Int32} {x2 : Int32} {S : rb_S} (h : mo_isTaken_p_0 K x1 x2 S) : rb_V p l e mo_isTaken_rm s m args below meth c A (MQ below (va_Qi K (rb_B Z A) A) args s mo_isTaken_rm.cells mo_isTaken_rm.slots A) Z 5 0 [(0, .ref (Z.1 23)), (1, .int x1), (2, .int x2)] [] S 0 0 := by
  unfold mo_isTaken_p_0 at h
  refine rb_iconst X 0 mo_isTaken_d0 (by decide) ?_
  refine rb_istore_n X 3 [1, 2, 3, 0] (L' := [(0, .ref (Z.1 23)), (1, .int x1), (2, .int x2), (3, .int 0)]) mo_isTaken_d1 rfl (by decide) rfl ?_
  refine rb_iconst X 0 mo_isTaken_d2 (by decide) ?_
  refine rb_istore X 4 [1, 2, 3, 4, 0] (L' := [(0, .ref (Z.1 23)), (1, .int x1), (2, .int x2), (3, .int 0), (4, .int 0)]) mo_isTaken_d3 (by decide) rfl ?_
  obtain ⟨j5, h⟩ := h
  exact mo_isTaken_k_5 X j5 _ _ _ _ _ h
theorem mo_isTaken_c (l : Launch) (Z : rb_Z) {K : Int32 → rb_S → Prop} {x1 : Int32} {x2 : Int32} {S : rb_S} (h : mo_isTaken_p_0 K x1 x2 S) : rb_Mi l mo_isTaken_y mo_isTaken_b 5 (some .boolean) mo_isTaken_rm Z [.ref (Z.1 23), .int x1, .int x2] S K := rb_startI (by decide) (Nat.le_of_ble_eq_true rfl) (fun p e s m args below meth c A X => mo_isTaken_k_0 X h)
end
theorem mo_latest_d0 : decode mo_latest_b 0 = .ok (.iload_n 1, 1) := by decide +kernel
theorem mo_latest_d1 : decode mo_latest_b 1 = .ok (.istore_n 3, 1) := by decide +kernel
theorem mo_latest_d2 : decode mo_latest_b 2 = .ok (.iconst 0, 1) := by decide +kernel
theorem mo_latest_d3 : decode mo_latest_b 3 = .ok (.istore 4, 2) := by decide +kernel
theorem mo_latest_d5 : decode mo_latest_b 5 = .ok (.iload 4, 2) := by decide +kernel
theorem mo_latest_d7 : decode mo_latest_b 7 = .ok (.bipush 16, 2) := by decide +kernel
theorem mo_latest_d9 : decode mo_latest_b 9 = .ok (.if_icmp .ge 95, 3) := by decide +kernel
theorem mo_latest_d12 : decode mo_latest_b 12 = .ok (.aload_n 0, 1) := by decide +kernel
theorem mo_latest_d13 : decode mo_latest_b 13 = .ok (.getfield 32, 3) := by decide +kernel
theorem mo_latest_d16 : decode mo_latest_b 16 = .ok (.iload 4, 2) := by decide +kernel
theorem mo_latest_d18 : decode mo_latest_b 18 = .ok (.iaload, 1) := by decide +kernel
theorem mo_latest_d19 : decode mo_latest_b 19 = .ok (.ifCond .lt 30, 3) := by decide +kernel
theorem mo_latest_d22 : decode mo_latest_b 22 = .ok (.aload_n 0, 1) := by decide +kernel
theorem mo_latest_d23 : decode mo_latest_b 23 = .ok (.getfield 32, 3) := by decide +kernel
theorem mo_latest_d26 : decode mo_latest_b 26 = .ok (.iload 4, 2) := by decide +kernel
theorem mo_latest_d28 : decode mo_latest_b 28 = .ok (.iaload, 1) := by decide +kernel
theorem mo_latest_d29 : decode mo_latest_b 29 = .ok (.bipush 16, 2) := by decide +kernel
theorem mo_latest_d31 : decode mo_latest_b 31 = .ok (.if_icmp .ge 18, 3) := by decide +kernel
theorem mo_latest_d34 : decode mo_latest_b 34 = .ok (.aload_n 0, 1) := by decide +kernel
theorem mo_latest_d35 : decode mo_latest_b 35 = .ok (.getfield 29, 3) := by decide +kernel
theorem mo_latest_d38 : decode mo_latest_b 38 = .ok (.iload 4, 2) := by decide +kernel
theorem mo_latest_d40 : decode mo_latest_b 40 = .ok (.iaload, 1) := by decide +kernel
theorem mo_latest_d41 : decode mo_latest_b 41 = .ok (.iload_n 2, 1) := by decide +kernel
theorem mo_latest_d42 : decode mo_latest_b 42 = .ok (.if_icmp .lt 7, 3) := by decide +kernel
theorem mo_latest_d45 : decode mo_latest_b 45 = .ok (.iconst 1, 1) := by decide +kernel
theorem mo_latest_d46 : decode mo_latest_b 46 = .ok (.goto 4, 3) := by decide +kernel
theorem mo_latest_d49 : decode mo_latest_b 49 = .ok (.iconst 0, 1) := by decide +kernel
theorem mo_latest_d50 : decode mo_latest_b 50 = .ok (.istore 5, 2) := by decide +kernel
theorem mo_latest_d52 : decode mo_latest_b 52 = .ok (.iload 5, 2) := by decide +kernel
theorem mo_latest_d54 : decode mo_latest_b 54 = .ok (.ifCond .eq 44, 3) := by decide +kernel
theorem mo_latest_d57 : decode mo_latest_b 57 = .ok (.aload_n 0, 1) := by decide +kernel
theorem mo_latest_d58 : decode mo_latest_b 58 = .ok (.getfield 29, 3) := by decide +kernel
theorem mo_latest_d61 : decode mo_latest_b 61 = .ok (.iload 4, 2) := by decide +kernel
theorem mo_latest_d63 : decode mo_latest_b 63 = .ok (.iaload, 1) := by decide +kernel
theorem mo_latest_d64 : decode mo_latest_b 64 = .ok (.aload_n 0, 1) := by decide +kernel
theorem mo_latest_d65 : decode mo_latest_b 65 = .ok (.getfield 29, 3) := by decide +kernel
theorem mo_latest_d68 : decode mo_latest_b 68 = .ok (.iload_n 3, 1) := by decide +kernel
theorem mo_latest_d69 : decode mo_latest_b 69 = .ok (.iaload, 1) := by decide +kernel
theorem mo_latest_d70 : decode mo_latest_b 70 = .ok (.if_icmp .gt 25, 3) := by decide +kernel
theorem mo_latest_d73 : decode mo_latest_b 73 = .ok (.aload_n 0, 1) := by decide +kernel
theorem mo_latest_d74 : decode mo_latest_b 74 = .ok (.getfield 29, 3) := by decide +kernel
theorem mo_latest_d77 : decode mo_latest_b 77 = .ok (.iload 4, 2) := by decide +kernel
theorem mo_latest_d79 : decode mo_latest_b 79 = .ok (.iaload, 1) := by decide +kernel
theorem mo_latest_d80 : decode mo_latest_b 80 = .ok (.aload_n 0, 1) := by decide +kernel
theorem mo_latest_d81 : decode mo_latest_b 81 = .ok (.getfield 29, 3) := by decide +kernel
theorem mo_latest_d84 : decode mo_latest_b 84 = .ok (.iload_n 3, 1) := by decide +kernel
theorem mo_latest_d85 : decode mo_latest_b 85 = .ok (.iaload, 1) := by decide +kernel
theorem mo_latest_d86 : decode mo_latest_b 86 = .ok (.if_icmp .ne 12, 3) := by decide +kernel
theorem mo_latest_d89 : decode mo_latest_b 89 = .ok (.iload 4, 2) := by decide +kernel
theorem mo_latest_d91 : decode mo_latest_b 91 = .ok (.iload_n 3, 1) := by decide +kernel
theorem mo_latest_d92 : decode mo_latest_b 92 = .ok (.if_icmp .le 6, 3) := by decide +kernel
theorem mo_latest_d95 : decode mo_latest_b 95 = .ok (.iload 4, 2) := by decide +kernel
theorem mo_latest_d97 : decode mo_latest_b 97 = .ok (.istore_n 3, 1) := by decide +kernel
theorem mo_latest_d98 : decode mo_latest_b 98 = .ok (.iinc 4 1, 3) := by decide +kernel
theorem mo_latest_d101 : decode mo_latest_b 101 = .ok (.goto (-96), 3) := by decide +kernel
theorem mo_latest_d104 : decode mo_latest_b 104 = .ok (.iload_n 3, 1) := by decide +kernel
theorem mo_latest_d105 : decode mo_latest_b 105 = .ok (.ireturn, 1) := by decide +kernel
abbrev mo_latest_rm : Room := { frames := 0, cells := 0, slots := 0, locals := 0 }
theorem mo_latest_w : rb_cw mo_latest_y mo_latest_b 6 (some .int) 2 := ⟨rw_702, rw_7, ⟨by decide, by decide⟩, by decide +kernel⟩
section
variable {p : Program} {l : Launch} {e : Env} {s : State} {m : MethodId} {args : Array Value} {below : List Frame} {meth : Method} {c : Code} {A : Nat → Prop} {Z : rb_Z}
def mo_latest_p_104 (K : Int32 → rb_S → Prop) (x1 : Int32) (x2 : Int32) (x3 : Int32) (x4 : Int32) (S : rb_S) : Prop := K x3 S
theorem mo_latest_k_104 {K : Int32 → rb_S → Prop}  (X : rb_X p s m args meth c A Z mo_latest_b 6 "RoomMakerModel" (some .int))  {x1 : Int32} {x2 : Int32} {x3 : Int32} {x4 : Int32} {S : rb_S} (h : mo_latest_p_104 K x1 x2 x3 x4 S) : rb_V p l e mo_latest_rm s m args below meth c A (MQ below (va_Qi K (rb_B Z A) A) args s mo_latest_rm.cells mo_latest_rm.slots A) Z 6 104 [(0, .ref (Z.1 23)), (1, .int x1), (2, .int x2), (3, .int x3), (4, .int x4)] [] S 0 0 := by
  unfold mo_latest_p_104 at h
  refine rb_iload_n X 3 mo_latest_d104 rfl 3 rfl ?_
  exact rb_iret X mo_latest_d105 h
def mo_latest_p_98 (K : Int32 → rb_S → Prop) (B5 : Int32 → Int32 → Int32 → Int32 → rb_S → Prop) (x1 : Int32) (x2 : Int32) (x3 : Int32) (x4 : Int32) (x5 : Int32) (S : rb_S) : Prop := ∀ v98 : Int32, v98 = x4 + 1 → (B5 x1 x2 x3 v98 S)
theorem mo_latest_k_98 {K : Int32 → rb_S → Prop} {B5 : Int32 → Int32 → Int32 → Int32 → rb_S → Prop} (X : rb_X p s m args meth c A Z mo_latest_b 6 "RoomMakerModel" (some .int)) (hB5 : ∀ (x1 : Int32) (x2 : Int32) (x3 : Int32) (x4 : Int32) (S : rb_S), B5 x1 x2 x3 x4 S → rb_V p l e mo_latest_rm s m args below meth c A (MQ below (va_Qi K (rb_B Z A) A) args s mo_latest_rm.cells mo_latest_rm.slots A) Z 6 5 [(0, .ref (Z.1 23)), (1, .int x1), (2, .int x2), (3, .int x3), (4, .int x4)] [] S 0 0) {x1 : Int32} {x2 : Int32} {x3 : Int32} {x4 : Int32} {x5 : Int32} {S : rb_S} (h : mo_latest_p_98 K B5 x1 x2 x3 x4 x5 S) : rb_V p l e mo_latest_rm s m args below meth c A (MQ below (va_Qi K (rb_B Z A) A) args s mo_latest_rm.cells mo_latest_rm.slots A) Z 6 98 [(0, .ref (Z.1 23)), (1, .int x1), (2, .int x2), (3, .int x3), (4, .int x4), (5, .int x5)] [] S 0 0 := by
  unfold mo_latest_p_98 at h
  refine rb_iinc X 1 4 [1, 2, 3, 4, 0, 5] (fun v98 => [(0, .ref (Z.1 23)), (1, .int x1), (2, .int x2), (3, .int x3), (4, .int v98), (5, .int x5)]) mo_latest_d98 4 rfl (by decide) (by decide) (fun _ => rfl) (fun v98 e98 => ?_)
  replace h := h v98 e98
  refine rb_goto X 5 mo_latest_d101 (by decide) ?_
  refine rb_cut [0, 1, 2, 3, 4] (L' := [(0, .ref (Z.1 23)), (1, .int x1), (2, .int x2), (3, .int x3), (4, .int v98)]) rfl ?_
  exact hB5 _ _ _ _ _ h
def mo_latest_p_95 (K : Int32 → rb_S → Prop) (B5 : Int32 → Int32 → Int32 → Int32 → rb_S → Prop) (x1 : Int32) (x2 : Int32) (x3 : Int32) (x4 : Int32) (x5 : Int32) (S : rb_S) : Prop := mo_latest_p_98 K B5 x1 x2 x4 x4 x5 S
theorem mo_latest_k_95 {K : Int32 → rb_S → Prop} {B5 : Int32 → Int32 → Int32 → Int32 → rb_S → Prop} (X : rb_X p s m args meth c A Z mo_latest_b 6 "RoomMakerModel" (some .int)) (hB5 : ∀ (x1 : Int32) (x2 : Int32) (x3 : Int32) (x4 : Int32) (S : rb_S), B5 x1 x2 x3 x4 S → rb_V p l e mo_latest_rm s m args below meth c A (MQ below (va_Qi K (rb_B Z A) A) args s mo_latest_rm.cells mo_latest_rm.slots A) Z 6 5 [(0, .ref (Z.1 23)), (1, .int x1), (2, .int x2), (3, .int x3), (4, .int x4)] [] S 0 0) {x1 : Int32} {x2 : Int32} {x3 : Int32} {x4 : Int32} {x5 : Int32} {S : rb_S} (h : mo_latest_p_95 K B5 x1 x2 x3 x4 x5 S) : rb_V p l e mo_latest_rm s m args below meth c A (MQ below (va_Qi K (rb_B Z A) A) args s mo_latest_rm.cells mo_latest_rm.slots A) Z 6 95 [(0, .ref (Z.1 23)), (1, .int x1), (2, .int x2), (3, .int x3), (4, .int x4), (5, .int x5)] [] S 0 0 := by
  unfold mo_latest_p_95 at h
  refine rb_iload X 4 mo_latest_d95 4 rfl ?_
  refine rb_istore_n X 3 [1, 2, 3, 0, 4, 5] (L' := [(0, .ref (Z.1 23)), (1, .int x1), (2, .int x2), (3, .int x4), (4, .int x4), (5, .int x5)]) mo_latest_d97 rfl (by decide) rfl ?_
  exact mo_latest_k_98 X hB5 h
def mo_latest_p_50 (K : Int32 → rb_S → Prop) (B5 : Int32 → Int32 → Int32 → Int32 → rb_S → Prop) (x1 : Int32) (x2 : Int32) (x3 : Int32) (x4 : Int32) (y0 : Int32) (S : rb_S) : Prop := (y0 = 0 → mo_latest_p_98 K B5 x1 x2 x3 x4 y0 S) ∧ (¬ y0 = 0 → vp_in x4 16 ∧ (vp_in x3 16 ∧ (((S 30 x3.toNatClampNeg) < (S 30 x4.toNatClampNeg) → mo_latest_p_95 K B5 x1 x2 x3 x4 y0 S) ∧ (¬ (S 30 x3.toNatClampNeg) < (S 30 x4.toNatClampNeg) → vp_in x4 16 ∧ (vp_in x3 16 ∧ ((¬ (S 30 x4.toNatClampNeg) = (S 30 x3.toNatClampNeg) → mo_latest_p_98 K B5 x1 x2 x3 x4 y0 S) ∧ ((S 30 x4.toNatClampNeg) = (S 30 x3.toNatClampNeg) → (x4 ≤ x3 → mo_latest_p_98 K B5 x1 x2 x3 x4 y0 S) ∧ (¬ x4 ≤ x3 → mo_latest_p_95 K B5 x1 x2 x3 x4 y0 S))))))))
theorem mo_latest_k_50 {K : Int32 → rb_S → Prop} {B5 : Int32 → Int32 → Int32 → Int32 → rb_S → Prop} (X : rb_X p s m args meth c A Z mo_latest_b 6 "RoomMakerModel" (some .int)) (hB5 : ∀ (x1 : Int32) (x2 : Int32) (x3 : Int32) (x4 : Int32) (S : rb_S), B5 x1 x2 x3 x4 S → rb_V p l e mo_latest_rm s m args below meth c A (MQ below (va_Qi K (rb_B Z A) A) args s mo_latest_rm.cells mo_latest_rm.slots A) Z 6 5 [(0, .ref (Z.1 23)), (1, .int x1), (2, .int x2), (3, .int x3), (4, .int x4)] [] S 0 0) {x1 : Int32} {x2 : Int32} {x3 : Int32} {x4 : Int32} {y0 : Int32} {S : rb_S} (h : mo_latest_p_50 K B5 x1 x2 x3 x4 y0 S) : rb_V p l e mo_latest_rm s m args below meth c A (MQ below (va_Qi K (rb_B Z A) A) args s mo_latest_rm.cells mo_latest_rm.slots A) Z 6 50 [(0, .ref (Z.1 23)), (1, .int x1), (2, .int x2), (3, .int x3), (4, .int x4)] [.int y0] S 0 0 := by
  unfold mo_latest_p_50 at h
  refine rb_istore X 5 [1, 2, 3, 4, 5, 0] (L' := [(0, .ref (Z.1 23)), (1, .int x1), (2, .int x2), (3, .int x3), (4, .int x4), (5, .int y0)]) mo_latest_d50 (by decide) rfl ?_
  refine rb_iload X 5 mo_latest_d52 5 rfl ?_
  refine rb_if_eq X 98 mo_latest_d54 (by decide) (fun hc => ?_) (fun hc => ?_)
  · replace h := h.1 hc
    exact mo_latest_k_98 X hB5 h
  · replace h := h.2 hc
    refine rb_aload_n X 0 mo_latest_d57 rfl 0 rfl ?_
    refine mo_g29 X mo_latest_d58 ?_
    refine rb_iload X 4 mo_latest_d61 4 rfl ?_
    obtain ⟨hin, h⟩ := h
    refine rb_iald X 30 (rb_a30 Z) mo_latest_d63 hin ?_
    refine rb_aload_n X 0 mo_latest_d64 rfl 0 rfl ?_
    refine mo_g29 X mo_latest_d65 ?_
    refine rb_iload_n X 3 mo_latest_d68 rfl 3 rfl ?_
    obtain ⟨hin, h⟩ := h
    refine rb_iald X 30 (rb_a30 Z) mo_latest_d69 hin ?_
    refine rb_icmp_gt X 95 mo_latest_d70 (by decide) (fun hc => ?_) (fun hc => ?_)
    · replace h := h.1 hc
      exact mo_latest_k_95 X hB5 h
    · replace h := h.2 hc
      refine rb_aload_n X 0 mo_latest_d73 rfl 0 rfl ?_
      refine mo_g29 X mo_latest_d74 ?_
      refine rb_iload X 4 mo_latest_d77 4 rfl ?_
      obtain ⟨hin, h⟩ := h
      refine rb_iald X 30 (rb_a30 Z) mo_latest_d79 hin ?_
      refine rb_aload_n X 0 mo_latest_d80 rfl 0 rfl ?_
      refine mo_g29 X mo_latest_d81 ?_
      refine rb_iload_n X 3 mo_latest_d84 rfl 3 rfl ?_
      obtain ⟨hin, h⟩ := h
      refine rb_iald X 30 (rb_a30 Z) mo_latest_d85 hin ?_
      refine rb_icmp_ne X 98 mo_latest_d86 (by decide) (fun hc => ?_) (fun hc => ?_)
      · replace h := h.1 hc
        exact mo_latest_k_98 X hB5 h
      · replace h := h.2 hc
        refine rb_iload X 4 mo_latest_d89 4 rfl ?_
        refine rb_iload_n X 3 mo_latest_d91 rfl 3 rfl ?_
        refine rb_icmp_le X 98 mo_latest_d92 (by decide) (fun hc => ?_) (fun hc => ?_)
        · replace h := h.1 hc
          exact mo_latest_k_98 X hB5 h
        · replace h := h.2 hc
          exact mo_latest_k_95 X hB5 h
def mo_latest_p_49 (K : Int32 → rb_S → Prop) (B5 : Int32 → Int32 → Int32 → Int32 → rb_S → Prop) (x1 : Int32) (x2 : Int32) (x3 : Int32) (x4 : Int32) (S : rb_S) : Prop := mo_latest_p_50 K B5 x1 x2 x3 x4 0 S
theorem mo_latest_k_49 {K : Int32 → rb_S → Prop} {B5 : Int32 → Int32 → Int32 → Int32 → rb_S → Prop} (X : rb_X p s m args meth c A Z mo_latest_b 6 "RoomMakerModel" (some .int)) (hB5 : ∀ (x1 : Int32) (x2 : Int32) (x3 : Int32) (x4 : Int32) (S : rb_S), B5 x1 x2 x3 x4 S → rb_V p l e mo_latest_rm s m args below meth c A (MQ below (va_Qi K (rb_B Z A) A) args s mo_latest_rm.cells mo_latest_rm.slots A) Z 6 5 [(0, .ref (Z.1 23)), (1, .int x1), (2, .int x2), (3, .int x3), (4, .int x4)] [] S 0 0) {x1 : Int32} {x2 : Int32} {x3 : Int32} {x4 : Int32} {S : rb_S} (h : mo_latest_p_49 K B5 x1 x2 x3 x4 S) : rb_V p l e mo_latest_rm s m args below meth c A (MQ below (va_Qi K (rb_B Z A) A) args s mo_latest_rm.cells mo_latest_rm.slots A) Z 6 49 [(0, .ref (Z.1 23)), (1, .int x1), (2, .int x2), (3, .int x3), (4, .int x4)] [] S 0 0 := by
  unfold mo_latest_p_49 at h
  refine rb_iconst X 0 mo_latest_d49 (by decide) ?_
  exact mo_latest_k_50 X hB5 h
def mo_latest_p_5 (K : Int32 → rb_S → Prop) : Nat → Int32 → Int32 → Int32 → Int32 → rb_S → Prop
  | 0, _, _, _, _, _ => False
  | n5 + 1, x1, x2, x3, x4, S => (16 ≤ x4 → mo_latest_p_104 K x1 x2 x3 x4 S) ∧ (¬ 16 ≤ x4 → vp_in x4 16 ∧ (((S 31 x4.toNatClampNeg) < 0 → mo_latest_p_49 K (fun a0 a1 a2 a3 T => mo_latest_p_5 K n5 a0 a1 a2 a3 T) x1 x2 x3 x4 S) ∧ (¬ (S 31 x4.toNatClampNeg) < 0 → vp_in x4 16 ∧ ((16 ≤ (S 31 x4.toNatClampNeg) → mo_latest_p_49 K (fun a0 a1 a2 a3 T => mo_latest_p_5 K n5 a0 a1 a2 a3 T) x1 x2 x3 x4 S) ∧ (¬ 16 ≤ (S 31 x4.toNatClampNeg) → vp_in x4 16 ∧ (((S 30 x4.toNatClampNeg) < x2 → mo_latest_p_49 K (fun a0 a1 a2 a3 T => mo_latest_p_5 K n5 a0 a1 a2 a3 T) x1 x2 x3 x4 S) ∧ (¬ (S 30 x4.toNatClampNeg) < x2 → mo_latest_p_50 K (fun a0 a1 a2 a3 T => mo_latest_p_5 K n5 a0 a1 a2 a3 T) x1 x2 x3 x4 1 S)))))))
theorem mo_latest_k_5 {K : Int32 → rb_S → Prop}  (X : rb_X p s m args meth c A Z mo_latest_b 6 "RoomMakerModel" (some .int))  : ∀ (n : Nat) (x1 : Int32) (x2 : Int32) (x3 : Int32) (x4 : Int32) (S : rb_S), mo_latest_p_5 K n x1 x2 x3 x4 S → rb_V p l e mo_latest_rm s m args below meth c A (MQ below (va_Qi K (rb_B Z A) A) args s mo_latest_rm.cells mo_latest_rm.slots A) Z 6 5 [(0, .ref (Z.1 23)), (1, .int x1), (2, .int x2), (3, .int x3), (4, .int x4)] [] S 0 0 := by
  intro n
  induction n with
  | zero =>
    intro x1 x2 x3 x4 S h
    exact (show False from h).elim
  | succ n ih =>
    intro x1 x2 x3 x4 S h
    have hB5 := ih
    rw [mo_latest_p_5] at h
    refine rb_iload X 4 mo_latest_d5 4 rfl ?_
    refine rb_bipush X 16 mo_latest_d7 (by decide) ?_
    refine rb_icmp_ge X 104 mo_latest_d9 (by decide) (fun hc => ?_) (fun hc => ?_)
    · replace h := h.1 hc
      exact mo_latest_k_104 X h
    · replace h := h.2 hc
      refine rb_aload_n X 0 mo_latest_d12 rfl 0 rfl ?_
      refine mo_g32 X mo_latest_d13 ?_
      refine rb_iload X 4 mo_latest_d16 4 rfl ?_
      obtain ⟨hin, h⟩ := h
      refine rb_iald X 31 (rb_a31 Z) mo_latest_d18 hin ?_
      refine rb_if_lt X 49 mo_latest_d19 (by decide) (fun hc => ?_) (fun hc => ?_)
      · replace h := h.1 hc
        exact mo_latest_k_49 X hB5 h
      · replace h := h.2 hc
        refine rb_aload_n X 0 mo_latest_d22 rfl 0 rfl ?_
        refine mo_g32 X mo_latest_d23 ?_
        refine rb_iload X 4 mo_latest_d26 4 rfl ?_
        obtain ⟨hin, h⟩ := h
        refine rb_iald X 31 (rb_a31 Z) mo_latest_d28 hin ?_
        refine rb_bipush X 16 mo_latest_d29 (by decide) ?_
        refine rb_icmp_ge X 49 mo_latest_d31 (by decide) (fun hc => ?_) (fun hc => ?_)
        · replace h := h.1 hc
          exact mo_latest_k_49 X hB5 h
        · replace h := h.2 hc
          refine rb_aload_n X 0 mo_latest_d34 rfl 0 rfl ?_
          refine mo_g29 X mo_latest_d35 ?_
          refine rb_iload X 4 mo_latest_d38 4 rfl ?_
          obtain ⟨hin, h⟩ := h
          refine rb_iald X 30 (rb_a30 Z) mo_latest_d40 hin ?_
          refine rb_iload_n X 2 mo_latest_d41 rfl 2 rfl ?_
          refine rb_icmp_lt X 49 mo_latest_d42 (by decide) (fun hc => ?_) (fun hc => ?_)
          · replace h := h.1 hc
            exact mo_latest_k_49 X hB5 h
          · replace h := h.2 hc
            refine rb_iconst X 1 mo_latest_d45 (by decide) ?_
            refine rb_goto X 50 mo_latest_d46 (by decide) ?_
            exact mo_latest_k_50 X hB5 h
def mo_latest_p_0 (K : Int32 → rb_S → Prop) (x1 : Int32) (x2 : Int32) (S : rb_S) : Prop := ∃ j5 : Nat, mo_latest_p_5 K j5 x1 x2 x1 0 S
theorem mo_latest_k_0 {K : Int32 → rb_S → Prop}  (X : rb_X p s m args meth c A Z mo_latest_b 6 "RoomMakerModel" (some .int))  {x1 : Int32} {x2 : Int32} {S : rb_S} (h : mo_latest_p_0 K x1 x2 S) : rb_V p l e mo_latest_rm s m args below meth c A (MQ below (va_Qi K (rb_B Z A) A) args s mo_latest_rm.cells mo_latest_rm.slots A) Z 6 0 [(0, .ref (Z.1 23)), (1, .int x1), (2, .int x2)] [] S 0 0 := by
  unfold mo_latest_p_0 at h
  refine rb_iload_n X 1 mo_latest_d0 rfl 1 rfl ?_
  refine rb_istore_n X 3 [1, 2, 3, 0] (L' := [(0, .ref (Z.1 23)), (1, .int x1), (2, .int x2), (3, .int x1)]) mo_latest_d1 rfl (by decide) rfl ?_
  refine rb_iconst X 0 mo_latest_d2 (by decide) ?_
  refine rb_istore X 4 [1, 2, 3, 4, 0] (L' := [(0, .ref (Z.1 23)), (1, .int x1), (2, .int x2), (3, .int x1), (4, .int 0)]) mo_latest_d3 (by decide) rfl ?_
  obtain ⟨j5, h⟩ := h
  exact mo_latest_k_5 X j5 _ _ _ _ _ h
theorem mo_latest_c (l : Launch) (Z : rb_Z) {K : Int32 → rb_S → Prop} {x1 : Int32} {x2 : Int32} {S : rb_S} (h : mo_latest_p_0 K x1 x2 S) : rb_Mi l mo_latest_y mo_latest_b 6 (some .int) mo_latest_rm Z [.ref (Z.1 23), .int x1, .int x2] S K := rb_startI (by decide) (Nat.le_of_ble_eq_true rfl) (fun p e s m args below meth c A X => mo_latest_k_0 X h)
end
theorem mo_settle_d0 : decode mo_settle_b 0 = .ok (.iconst 0, 1) := by decide +kernel
theorem mo_settle_d1 : decode mo_settle_b 1 = .ok (.istore_n 3, 1) := by decide +kernel
theorem mo_settle_d2 : decode mo_settle_b 2 = .ok (.iload_n 3, 1) := by decide +kernel
theorem mo_settle_d3 : decode mo_settle_b 3 = .ok (.iload_n 2, 1) := by decide +kernel
theorem mo_settle_d4 : decode mo_settle_b 4 = .ok (.if_icmp .ge 23, 3) := by decide +kernel
theorem mo_settle_d7 : decode mo_settle_b 7 = .ok (.aload_n 0, 1) := by decide +kernel
theorem mo_settle_d8 : decode mo_settle_b 8 = .ok (.iload_n 3, 1) := by decide +kernel
theorem mo_settle_d9 : decode mo_settle_b 9 = .ok (.aload_n 0, 1) := by decide +kernel
theorem mo_settle_d10 : decode mo_settle_b 10 = .ok (.getfield 26, 3) := by decide +kernel
theorem mo_settle_d13 : decode mo_settle_b 13 = .ok (.iload_n 1, 1) := by decide +kernel
theorem mo_settle_d14 : decode mo_settle_b 14 = .ok (.iaload, 1) := by decide +kernel
theorem mo_settle_d15 : decode mo_settle_b 15 = .ok (.invokevirtual 95, 3) := by decide +kernel
theorem mo_settle_d18 : decode mo_settle_b 18 = .ok (.ifCond .eq 9, 3) := by decide +kernel
theorem mo_settle_d21 : decode mo_settle_b 21 = .ok (.iinc 3 1, 3) := by decide +kernel
theorem mo_settle_d24 : decode mo_settle_b 24 = .ok (.goto (-22), 3) := by decide +kernel
theorem mo_settle_d27 : decode mo_settle_b 27 = .ok (.iload_n 3, 1) := by decide +kernel
theorem mo_settle_d28 : decode mo_settle_b 28 = .ok (.iload_n 2, 1) := by decide +kernel
theorem mo_settle_d29 : decode mo_settle_b 29 = .ok (.if_icmp .ge 11, 3) := by decide +kernel
theorem mo_settle_d32 : decode mo_settle_b 32 = .ok (.aload_n 0, 1) := by decide +kernel
theorem mo_settle_d33 : decode mo_settle_b 33 = .ok (.getfield 32, 3) := by decide +kernel
theorem mo_settle_d36 : decode mo_settle_b 36 = .ok (.iload_n 1, 1) := by decide +kernel
theorem mo_settle_d37 : decode mo_settle_b 37 = .ok (.iload_n 3, 1) := by decide +kernel
theorem mo_settle_d38 : decode mo_settle_b 38 = .ok (.iastore, 1) := by decide +kernel
theorem mo_settle_d39 : decode mo_settle_b 39 = .ok (.return_, 1) := by decide +kernel
theorem mo_settle_d40 : decode mo_settle_b 40 = .ok (.aload_n 0, 1) := by decide +kernel
theorem mo_settle_d41 : decode mo_settle_b 41 = .ok (.iload_n 1, 1) := by decide +kernel
theorem mo_settle_d42 : decode mo_settle_b 42 = .ok (.aload_n 0, 1) := by decide +kernel
theorem mo_settle_d43 : decode mo_settle_b 43 = .ok (.getfield 26, 3) := by decide +kernel
theorem mo_settle_d46 : decode mo_settle_b 46 = .ok (.iload_n 1, 1) := by decide +kernel
theorem mo_settle_d47 : decode mo_settle_b 47 = .ok (.iaload, 1) := by decide +kernel
theorem mo_settle_d48 : decode mo_settle_b 48 = .ok (.invokevirtual 98, 3) := by decide +kernel
theorem mo_settle_d51 : decode mo_settle_b 51 = .ok (.istore 4, 2) := by decide +kernel
theorem mo_settle_d53 : decode mo_settle_b 53 = .ok (.aload_n 0, 1) := by decide +kernel
theorem mo_settle_d54 : decode mo_settle_b 54 = .ok (.getfield 32, 3) := by decide +kernel
theorem mo_settle_d57 : decode mo_settle_b 57 = .ok (.iload_n 1, 1) := by decide +kernel
theorem mo_settle_d58 : decode mo_settle_b 58 = .ok (.iload 4, 2) := by decide +kernel
theorem mo_settle_d60 : decode mo_settle_b 60 = .ok (.iload_n 1, 1) := by decide +kernel
theorem mo_settle_d61 : decode mo_settle_b 61 = .ok (.if_icmp .ne 7, 3) := by decide +kernel
theorem mo_settle_d64 : decode mo_settle_b 64 = .ok (.iconst (-1), 1) := by decide +kernel
theorem mo_settle_d65 : decode mo_settle_b 65 = .ok (.goto 10, 3) := by decide +kernel
theorem mo_settle_d68 : decode mo_settle_b 68 = .ok (.aload_n 0, 1) := by decide +kernel
theorem mo_settle_d69 : decode mo_settle_b 69 = .ok (.getfield 32, 3) := by decide +kernel
theorem mo_settle_d72 : decode mo_settle_b 72 = .ok (.iload 4, 2) := by decide +kernel
theorem mo_settle_d74 : decode mo_settle_b 74 = .ok (.iaload, 1) := by decide +kernel
theorem mo_settle_d75 : decode mo_settle_b 75 = .ok (.iastore, 1) := by decide +kernel
theorem mo_settle_d76 : decode mo_settle_b 76 = .ok (.aload_n 0, 1) := by decide +kernel
theorem mo_settle_d77 : decode mo_settle_b 77 = .ok (.getfield 32, 3) := by decide +kernel
theorem mo_settle_d80 : decode mo_settle_b 80 = .ok (.iload 4, 2) := by decide +kernel
theorem mo_settle_d82 : decode mo_settle_b 82 = .ok (.bipush 16, 2) := by decide +kernel
theorem mo_settle_d84 : decode mo_settle_b 84 = .ok (.aload_n 0, 1) := by decide +kernel
theorem mo_settle_d85 : decode mo_settle_b 85 = .ok (.getfield 102, 3) := by decide +kernel
theorem mo_settle_d88 : decode mo_settle_b 88 = .ok (.iadd, 1) := by decide +kernel
theorem mo_settle_d89 : decode mo_settle_b 89 = .ok (.iastore, 1) := by decide +kernel
theorem mo_settle_d90 : decode mo_settle_b 90 = .ok (.aload_n 0, 1) := by decide +kernel
theorem mo_settle_d91 : decode mo_settle_b 91 = .ok (.dup, 1) := by decide +kernel
theorem mo_settle_d92 : decode mo_settle_b 92 = .ok (.getfield 102, 3) := by decide +kernel
theorem mo_settle_d95 : decode mo_settle_b 95 = .ok (.iconst 1, 1) := by decide +kernel
theorem mo_settle_d96 : decode mo_settle_b 96 = .ok (.iadd, 1) := by decide +kernel
theorem mo_settle_d97 : decode mo_settle_b 97 = .ok (.putfield 102, 3) := by decide +kernel
theorem mo_settle_d100 : decode mo_settle_b 100 = .ok (.return_, 1) := by decide +kernel
abbrev mo_settle_rm : Room := { frames := 1, cells := 0, slots := 0, locals := 25 }
theorem mo_settle_w : rb_cw mo_settle_y mo_settle_b 5 none 2 := ⟨rw_694, rw_7, ⟨by decide, by decide⟩, by decide +kernel⟩
section
variable {p : Program} {l : Launch} {e : Env} {s : State} {m : MethodId} {args : Array Value} {below : List Frame} {meth : Method} {c : Code} {A : Nat → Prop} {Z : rb_Z}
def mo_settle_p_75 (K : rb_S → Prop) (x1 : Int32) (x2 : Int32) (x3 : Int32) (x4 : Int32) (y0 : Int32) (y1 : Int32) (S : rb_S) : Prop := vp_in y1 16 ∧ ∀ S75 : rb_S, S75 = rb_u S 31 y1.toNatClampNeg y0 → (vp_in x4 16 ∧ ∀ S89 : rb_S, S89 = rb_u S75 31 x4.toNatClampNeg (16 + (S75 1 5)) → (∀ S97 : rb_S, S97 = rb_u S89 1 5 ((S89 1 5) + 1) → (K S97)))
theorem mo_settle_k_75 {K : rb_S → Prop}  (X : rb_X p s m args meth c A Z mo_settle_b 5 "RoomMakerModel" none)  {x1 : Int32} {x2 : Int32} {x3 : Int32} {x4 : Int32} {y0 : Int32} {y1 : Int32} {S : rb_S} (h : mo_settle_p_75 K x1 x2 x3 x4 y0 y1 S) : rb_V p l e mo_settle_rm s m args below meth c A (MQ below (va_Qv K (rb_B Z A) A) args s mo_settle_rm.cells mo_settle_rm.slots A) Z 5 75 [(0, .ref (Z.1 23)), (1, .int x1), (2, .int x2), (3, .int x3), (4, .int x4)] [.int y0, .int y1, .ref (Z.1 31)] S 0 0 := by
  unfold mo_settle_p_75 at h
  obtain ⟨hin, h⟩ := h
  refine rb_iast X 31 (rb_a31 Z) mo_settle_d75 hin (fun S75 e75 => ?_)
  replace h := h S75 e75
  refine rb_aload_n X 0 mo_settle_d76 rfl 0 rfl ?_
  refine mo_g32 X mo_settle_d77 ?_
  refine rb_iload X 4 mo_settle_d80 4 rfl ?_
  refine rb_bipush X 16 mo_settle_d82 (by decide) ?_
  refine rb_aload_n X 0 mo_settle_d84 rfl 0 rfl ?_
  refine mo_g102 X mo_settle_d85 ?_
  refine rb_iadd X mo_settle_d88 ?_
  obtain ⟨hin, h⟩ := h
  refine rb_iast X 31 (rb_a31 Z) mo_settle_d89 hin (fun S89 e89 => ?_)
  replace h := h S89 e89
  refine rb_aload_n X 0 mo_settle_d90 rfl 0 rfl ?_
  refine rb_dup X mo_settle_d91 rfl ?_
  refine mo_g102 X mo_settle_d92 ?_
  refine rb_iconst X 1 mo_settle_d95 (by decide) ?_
  refine rb_iadd X mo_settle_d96 ?_
  refine mo_q102 X mo_settle_d97 (fun S97 e97 => ?_)
  replace h := h S97 e97
  exact rb_vret X mo_settle_d100 h
def mo_settle_p_27 (K : rb_S → Prop) (x1 : Int32) (x2 : Int32) (x3 : Int32) (S : rb_S) : Prop := (x2 ≤ x3 → vp_in x1 16 ∧ (mo_latest_p_0 (fun r48 S48 => (¬ r48 = x1 → vp_in r48 16 ∧ (mo_settle_p_75 K x1 x2 x3 r48 (S48 31 r48.toNatClampNeg) x1 S48)) ∧ (r48 = x1 → mo_settle_p_75 K x1 x2 x3 r48 (-1) x1 S48)) x1 (S 29 x1.toNatClampNeg) S)) ∧ (¬ x2 ≤ x3 → vp_in x1 16 ∧ ∀ S38 : rb_S, S38 = rb_u S 31 x1.toNatClampNeg x3 → (K S38))
theorem mo_settle_k_27 {K : rb_S → Prop}  (X : rb_X p s m args meth c A Z mo_settle_b 5 "RoomMakerModel" none)  {x1 : Int32} {x2 : Int32} {x3 : Int32} {S : rb_S} (h : mo_settle_p_27 K x1 x2 x3 S) : rb_V p l e mo_settle_rm s m args below meth c A (MQ below (va_Qv K (rb_B Z A) A) args s mo_settle_rm.cells mo_settle_rm.slots A) Z 5 27 [(0, .ref (Z.1 23)), (1, .int x1), (2, .int x2), (3, .int x3)] [] S 0 0 := by
  unfold mo_settle_p_27 at h
  refine rb_iload_n X 3 mo_settle_d27 rfl 3 rfl ?_
  refine rb_iload_n X 2 mo_settle_d28 rfl 2 rfl ?_
  refine rb_icmp_ge X 40 mo_settle_d29 (by decide) (fun hc => ?_) (fun hc => ?_)
  · replace h := h.1 hc
    refine rb_aload_n X 0 mo_settle_d40 rfl 0 rfl ?_
    refine rb_iload_n X 1 mo_settle_d41 rfl 1 rfl ?_
    refine rb_aload_n X 0 mo_settle_d42 rfl 0 rfl ?_
    refine mo_g26 X mo_settle_d43 ?_
    refine rb_iload_n X 1 mo_settle_d46 rfl 1 rfl ?_
    obtain ⟨hin, h⟩ := h
    refine rb_iald X 29 (rb_a29 Z) mo_settle_d47 hin ?_
    refine rb_callVi (As := [.int x1, .int (S 29 x1.toNatClampNeg)]) (rest := []) X (mo_latest_c l Z h) mo_latest_w ⟨by decide, by decide⟩ rw_699 rw_701 rs_47 (q0 := 23) rfl rfl rfl rfl (Nat.le_of_ble_eq_true rfl) mo_settle_d48 ⟨by decide, by decide⟩ (fun r48 S48 h => ?_)
    refine rb_istore X 4 [1, 2, 3, 4, 0] (L' := [(0, .ref (Z.1 23)), (1, .int x1), (2, .int x2), (3, .int x3), (4, .int r48)]) mo_settle_d51 (by decide) rfl ?_
    refine rb_aload_n X 0 mo_settle_d53 rfl 0 rfl ?_
    refine mo_g32 X mo_settle_d54 ?_
    refine rb_iload_n X 1 mo_settle_d57 rfl 1 rfl ?_
    refine rb_iload X 4 mo_settle_d58 4 rfl ?_
    refine rb_iload_n X 1 mo_settle_d60 rfl 1 rfl ?_
    refine rb_icmp_ne X 68 mo_settle_d61 (by decide) (fun hc => ?_) (fun hc => ?_)
    · replace h := h.1 hc
      refine rb_aload_n X 0 mo_settle_d68 rfl 0 rfl ?_
      refine mo_g32 X mo_settle_d69 ?_
      refine rb_iload X 4 mo_settle_d72 4 rfl ?_
      obtain ⟨hin, h⟩ := h
      refine rb_iald X 31 (rb_a31 Z) mo_settle_d74 hin ?_
      exact mo_settle_k_75 X h
    · replace h := h.2 hc
      refine rb_iconst X (-1) mo_settle_d64 (by decide) ?_
      refine rb_goto X 75 mo_settle_d65 (by decide) ?_
      exact mo_settle_k_75 X h
  · replace h := h.2 hc
    refine rb_aload_n X 0 mo_settle_d32 rfl 0 rfl ?_
    refine mo_g32 X mo_settle_d33 ?_
    refine rb_iload_n X 1 mo_settle_d36 rfl 1 rfl ?_
    refine rb_iload_n X 3 mo_settle_d37 rfl 3 rfl ?_
    obtain ⟨hin, h⟩ := h
    refine rb_iast X 31 (rb_a31 Z) mo_settle_d38 hin (fun S38 e38 => ?_)
    replace h := h S38 e38
    exact rb_vret X mo_settle_d39 h
def mo_settle_p_2 (K : rb_S → Prop) : Nat → Int32 → Int32 → Int32 → rb_S → Prop
  | 0, _, _, _, _ => False
  | n2 + 1, x1, x2, x3, S => (x2 ≤ x3 → mo_settle_p_27 K x1 x2 x3 S) ∧ (¬ x2 ≤ x3 → vp_in x1 16 ∧ (mo_isTaken_p_0 (fun r15 S15 => (r15 = 0 → mo_settle_p_27 K x1 x2 x3 S15) ∧ (¬ r15 = 0 → ∀ v21 : Int32, v21 = x3 + 1 → ((fun a0 a1 a2 T => mo_settle_p_2 K n2 a0 a1 a2 T) x1 x2 v21 S15))) x3 (S 29 x1.toNatClampNeg) S))
theorem mo_settle_k_2 {K : rb_S → Prop}  (X : rb_X p s m args meth c A Z mo_settle_b 5 "RoomMakerModel" none)  : ∀ (n : Nat) (x1 : Int32) (x2 : Int32) (x3 : Int32) (S : rb_S), mo_settle_p_2 K n x1 x2 x3 S → rb_V p l e mo_settle_rm s m args below meth c A (MQ below (va_Qv K (rb_B Z A) A) args s mo_settle_rm.cells mo_settle_rm.slots A) Z 5 2 [(0, .ref (Z.1 23)), (1, .int x1), (2, .int x2), (3, .int x3)] [] S 0 0 := by
  intro n
  induction n with
  | zero =>
    intro x1 x2 x3 S h
    exact (show False from h).elim
  | succ n ih =>
    intro x1 x2 x3 S h
    have hB2 := ih
    rw [mo_settle_p_2] at h
    refine rb_iload_n X 3 mo_settle_d2 rfl 3 rfl ?_
    refine rb_iload_n X 2 mo_settle_d3 rfl 2 rfl ?_
    refine rb_icmp_ge X 27 mo_settle_d4 (by decide) (fun hc => ?_) (fun hc => ?_)
    · replace h := h.1 hc
      exact mo_settle_k_27 X h
    · replace h := h.2 hc
      refine rb_aload_n X 0 mo_settle_d7 rfl 0 rfl ?_
      refine rb_iload_n X 3 mo_settle_d8 rfl 3 rfl ?_
      refine rb_aload_n X 0 mo_settle_d9 rfl 0 rfl ?_
      refine mo_g26 X mo_settle_d10 ?_
      refine rb_iload_n X 1 mo_settle_d13 rfl 1 rfl ?_
      obtain ⟨hin, h⟩ := h
      refine rb_iald X 29 (rb_a29 Z) mo_settle_d14 hin ?_
      refine rb_callVi (As := [.int x3, .int (S 29 x1.toNatClampNeg)]) (rest := []) X (mo_isTaken_c l Z h) mo_isTaken_w ⟨by decide, by decide⟩ rw_695 rw_697 rs_46 (q0 := 23) rfl rfl rfl rfl (Nat.le_of_ble_eq_true rfl) mo_settle_d15 ⟨by decide, by decide⟩ (fun r15 S15 h => ?_)
      refine rb_if_eq X 27 mo_settle_d18 (by decide) (fun hc => ?_) (fun hc => ?_)
      · replace h := h.1 hc
        exact mo_settle_k_27 X h
      · replace h := h.2 hc
        refine rb_iinc X 1 3 [1, 2, 3, 0] (fun v21 => [(0, .ref (Z.1 23)), (1, .int x1), (2, .int x2), (3, .int v21)]) mo_settle_d21 3 rfl (by decide) (by decide) (fun _ => rfl) (fun v21 e21 => ?_)
        replace h := h v21 e21
        refine rb_goto X 2 mo_settle_d24 (by decide) ?_
        exact hB2 _ _ _ _ h
def mo_settle_p_0 (K : rb_S → Prop) (x1 : Int32) (x2 : Int32) (S : rb_S) : Prop := ∃ j2 : Nat, mo_settle_p_2 K j2 x1 x2 0 S
theorem mo_settle_k_0 {K : rb_S → Prop}  (X : rb_X p s m args meth c A Z mo_settle_b 5 "RoomMakerModel" none)  {x1 : Int32} {x2 : Int32} {S : rb_S} (h : mo_settle_p_0 K x1 x2 S) : rb_V p l e mo_settle_rm s m args below meth c A (MQ below (va_Qv K (rb_B Z A) A) args s mo_settle_rm.cells mo_settle_rm.slots A) Z 5 0 [(0, .ref (Z.1 23)), (1, .int x1), (2, .int x2)] [] S 0 0 := by
  unfold mo_settle_p_0 at h
  refine rb_iconst X 0 mo_settle_d0 (by decide) ?_
  refine rb_istore_n X 3 [1, 2, 3, 0] (L' := [(0, .ref (Z.1 23)), (1, .int x1), (2, .int x2), (3, .int 0)]) mo_settle_d1 rfl (by decide) rfl ?_
  obtain ⟨j2, h⟩ := h
  exact mo_settle_k_2 X j2 _ _ _ _ h
theorem mo_settle_c (l : Launch) (Z : rb_Z) {K : rb_S → Prop} {x1 : Int32} {x2 : Int32} {S : rb_S} (h : mo_settle_p_0 K x1 x2 S) : rb_Mv l mo_settle_y mo_settle_b 5 mo_settle_rm Z [.ref (Z.1 23), .int x1, .int x2] S K := rb_startV (by decide) (Nat.le_of_ble_eq_true rfl) (fun p e s m args below meth c A X => mo_settle_k_0 X h)
end
theorem mo_begin_d0 : decode mo_begin_b 0 = .ok (.iconst 0, 1) := by decide +kernel
theorem mo_begin_d1 : decode mo_begin_b 1 = .ok (.istore_n 1, 1) := by decide +kernel
theorem mo_begin_d2 : decode mo_begin_b 2 = .ok (.iload_n 1, 1) := by decide +kernel
theorem mo_begin_d3 : decode mo_begin_b 3 = .ok (.bipush 16, 2) := by decide +kernel
theorem mo_begin_d5 : decode mo_begin_b 5 = .ok (.if_icmp .ge 36, 3) := by decide +kernel
theorem mo_begin_d8 : decode mo_begin_b 8 = .ok (.aload_n 0, 1) := by decide +kernel
theorem mo_begin_d9 : decode mo_begin_b 9 = .ok (.getfield 38, 3) := by decide +kernel
theorem mo_begin_d12 : decode mo_begin_b 12 = .ok (.iload_n 1, 1) := by decide +kernel
theorem mo_begin_d13 : decode mo_begin_b 13 = .ok (.iconst 0, 1) := by decide +kernel
theorem mo_begin_d14 : decode mo_begin_b 14 = .ok (.iastore, 1) := by decide +kernel
theorem mo_begin_d15 : decode mo_begin_b 15 = .ok (.aload_n 0, 1) := by decide +kernel
theorem mo_begin_d16 : decode mo_begin_b 16 = .ok (.getfield 41, 3) := by decide +kernel
theorem mo_begin_d19 : decode mo_begin_b 19 = .ok (.iload_n 1, 1) := by decide +kernel
theorem mo_begin_d20 : decode mo_begin_b 20 = .ok (.iconst 0, 1) := by decide +kernel
theorem mo_begin_d21 : decode mo_begin_b 21 = .ok (.iastore, 1) := by decide +kernel
theorem mo_begin_d22 : decode mo_begin_b 22 = .ok (.iload_n 1, 1) := by decide +kernel
theorem mo_begin_d23 : decode mo_begin_b 23 = .ok (.bipush 8, 2) := by decide +kernel
theorem mo_begin_d25 : decode mo_begin_b 25 = .ok (.if_icmp .ge 10, 3) := by decide +kernel
theorem mo_begin_d28 : decode mo_begin_b 28 = .ok (.aload_n 0, 1) := by decide +kernel
theorem mo_begin_d29 : decode mo_begin_b 29 = .ok (.getfield 35, 3) := by decide +kernel
theorem mo_begin_d32 : decode mo_begin_b 32 = .ok (.iload_n 1, 1) := by decide +kernel
theorem mo_begin_d33 : decode mo_begin_b 33 = .ok (.iconst 0, 1) := by decide +kernel
theorem mo_begin_d34 : decode mo_begin_b 34 = .ok (.iastore, 1) := by decide +kernel
theorem mo_begin_d35 : decode mo_begin_b 35 = .ok (.iinc 1 1, 3) := by decide +kernel
theorem mo_begin_d38 : decode mo_begin_b 38 = .ok (.goto (-36), 3) := by decide +kernel
theorem mo_begin_d41 : decode mo_begin_b 41 = .ok (.aload_n 0, 1) := by decide +kernel
theorem mo_begin_d42 : decode mo_begin_b 42 = .ok (.iconst 0, 1) := by decide +kernel
theorem mo_begin_d43 : decode mo_begin_b 43 = .ok (.putfield 123, 3) := by decide +kernel
theorem mo_begin_d46 : decode mo_begin_b 46 = .ok (.aload_n 0, 1) := by decide +kernel
theorem mo_begin_d47 : decode mo_begin_b 47 = .ok (.iconst 0, 1) := by decide +kernel
theorem mo_begin_d48 : decode mo_begin_b 48 = .ok (.putfield 126, 3) := by decide +kernel
theorem mo_begin_d51 : decode mo_begin_b 51 = .ok (.aload_n 0, 1) := by decide +kernel
theorem mo_begin_d52 : decode mo_begin_b 52 = .ok (.iconst 0, 1) := by decide +kernel
theorem mo_begin_d53 : decode mo_begin_b 53 = .ok (.putfield 129, 3) := by decide +kernel
theorem mo_begin_d56 : decode mo_begin_b 56 = .ok (.aload_n 0, 1) := by decide +kernel
theorem mo_begin_d57 : decode mo_begin_b 57 = .ok (.iconst 0, 1) := by decide +kernel
theorem mo_begin_d58 : decode mo_begin_b 58 = .ok (.putfield 132, 3) := by decide +kernel
theorem mo_begin_d61 : decode mo_begin_b 61 = .ok (.aload_n 0, 1) := by decide +kernel
theorem mo_begin_d62 : decode mo_begin_b 62 = .ok (.iconst 0, 1) := by decide +kernel
theorem mo_begin_d63 : decode mo_begin_b 63 = .ok (.putfield 135, 3) := by decide +kernel
theorem mo_begin_d66 : decode mo_begin_b 66 = .ok (.aload_n 0, 1) := by decide +kernel
theorem mo_begin_d67 : decode mo_begin_b 67 = .ok (.iconst 0, 1) := by decide +kernel
theorem mo_begin_d68 : decode mo_begin_b 68 = .ok (.putfield 72, 3) := by decide +kernel
theorem mo_begin_d71 : decode mo_begin_b 71 = .ok (.return_, 1) := by decide +kernel
abbrev mo_begin_rm : Room := { frames := 0, cells := 0, slots := 0, locals := 0 }
theorem mo_begin_w : rb_cw mo_begin_y mo_begin_b 2 none 0 := ⟨rw_706, rw_7, ⟨by decide, by decide⟩, by decide +kernel⟩
section
variable {p : Program} {l : Launch} {e : Env} {s : State} {m : MethodId} {args : Array Value} {below : List Frame} {meth : Method} {c : Code} {A : Nat → Prop} {Z : rb_Z}
def mo_begin_p_41 (K : rb_S → Prop) (x1 : Int32) (S : rb_S) : Prop := ∀ S43 : rb_S, S43 = rb_u S 1 6 0 → (∀ S48 : rb_S, S48 = rb_u S43 1 7 0 → (∀ S53 : rb_S, S53 = rb_u S48 1 8 0 → (∀ S58 : rb_S, S58 = rb_u S53 1 9 0 → (∀ S63 : rb_S, S63 = rb_u S58 1 10 0 → (∀ S68 : rb_S, S68 = rb_u S63 1 11 0 → (K S68))))))
theorem mo_begin_k_41 {K : rb_S → Prop}  (X : rb_X p s m args meth c A Z mo_begin_b 2 "RoomMakerModel" none)  {x1 : Int32} {S : rb_S} (h : mo_begin_p_41 K x1 S) : rb_V p l e mo_begin_rm s m args below meth c A (MQ below (va_Qv K (rb_B Z A) A) args s mo_begin_rm.cells mo_begin_rm.slots A) Z 2 41 [(0, .ref (Z.1 23)), (1, .int x1)] [] S 0 0 := by
  unfold mo_begin_p_41 at h
  refine rb_aload_n X 0 mo_begin_d41 rfl 0 rfl ?_
  refine rb_iconst X 0 mo_begin_d42 (by decide) ?_
  refine mo_q123 X mo_begin_d43 (fun S43 e43 => ?_)
  replace h := h S43 e43
  refine rb_aload_n X 0 mo_begin_d46 rfl 0 rfl ?_
  refine rb_iconst X 0 mo_begin_d47 (by decide) ?_
  refine mo_q126 X mo_begin_d48 (fun S48 e48 => ?_)
  replace h := h S48 e48
  refine rb_aload_n X 0 mo_begin_d51 rfl 0 rfl ?_
  refine rb_iconst X 0 mo_begin_d52 (by decide) ?_
  refine mo_q129 X mo_begin_d53 (fun S53 e53 => ?_)
  replace h := h S53 e53
  refine rb_aload_n X 0 mo_begin_d56 rfl 0 rfl ?_
  refine rb_iconst X 0 mo_begin_d57 (by decide) ?_
  refine mo_q132 X mo_begin_d58 (fun S58 e58 => ?_)
  replace h := h S58 e58
  refine rb_aload_n X 0 mo_begin_d61 rfl 0 rfl ?_
  refine rb_iconst X 0 mo_begin_d62 (by decide) ?_
  refine mo_q135 X mo_begin_d63 (fun S63 e63 => ?_)
  replace h := h S63 e63
  refine rb_aload_n X 0 mo_begin_d66 rfl 0 rfl ?_
  refine rb_iconst X 0 mo_begin_d67 (by decide) ?_
  refine mo_q72 X mo_begin_d68 (fun S68 e68 => ?_)
  replace h := h S68 e68
  exact rb_vret X mo_begin_d71 h
def mo_begin_p_35 (K : rb_S → Prop) (B2 : Int32 → rb_S → Prop) (x1 : Int32) (S : rb_S) : Prop := ∀ v35 : Int32, v35 = x1 + 1 → (B2 v35 S)
theorem mo_begin_k_35 {K : rb_S → Prop} {B2 : Int32 → rb_S → Prop} (X : rb_X p s m args meth c A Z mo_begin_b 2 "RoomMakerModel" none) (hB2 : ∀ (x1 : Int32) (S : rb_S), B2 x1 S → rb_V p l e mo_begin_rm s m args below meth c A (MQ below (va_Qv K (rb_B Z A) A) args s mo_begin_rm.cells mo_begin_rm.slots A) Z 2 2 [(0, .ref (Z.1 23)), (1, .int x1)] [] S 0 0) {x1 : Int32} {S : rb_S} (h : mo_begin_p_35 K B2 x1 S) : rb_V p l e mo_begin_rm s m args below meth c A (MQ below (va_Qv K (rb_B Z A) A) args s mo_begin_rm.cells mo_begin_rm.slots A) Z 2 35 [(0, .ref (Z.1 23)), (1, .int x1)] [] S 0 0 := by
  unfold mo_begin_p_35 at h
  refine rb_iinc X 1 1 [1, 0] (fun v35 => [(0, .ref (Z.1 23)), (1, .int v35)]) mo_begin_d35 1 rfl (by decide) (by decide) (fun _ => rfl) (fun v35 e35 => ?_)
  replace h := h v35 e35
  refine rb_goto X 2 mo_begin_d38 (by decide) ?_
  exact hB2 _ _ h
def mo_begin_p_2 (K : rb_S → Prop) : Nat → Int32 → rb_S → Prop
  | 0, _, _ => False
  | n2 + 1, x1, S => (16 ≤ x1 → mo_begin_p_41 K x1 S) ∧ (¬ 16 ≤ x1 → vp_in x1 16 ∧ ∀ S14 : rb_S, S14 = rb_u S 33 x1.toNatClampNeg 0 → (vp_in x1 16 ∧ ∀ S21 : rb_S, S21 = rb_u S14 34 x1.toNatClampNeg 0 → ((8 ≤ x1 → mo_begin_p_35 K (fun a0 T => mo_begin_p_2 K n2 a0 T) x1 S21) ∧ (¬ 8 ≤ x1 → vp_in x1 8 ∧ ∀ S34 : rb_S, S34 = rb_u S21 32 x1.toNatClampNeg 0 → (mo_begin_p_35 K (fun a0 T => mo_begin_p_2 K n2 a0 T) x1 S34)))))
theorem mo_begin_k_2 {K : rb_S → Prop}  (X : rb_X p s m args meth c A Z mo_begin_b 2 "RoomMakerModel" none)  : ∀ (n : Nat) (x1 : Int32) (S : rb_S), mo_begin_p_2 K n x1 S → rb_V p l e mo_begin_rm s m args below meth c A (MQ below (va_Qv K (rb_B Z A) A) args s mo_begin_rm.cells mo_begin_rm.slots A) Z 2 2 [(0, .ref (Z.1 23)), (1, .int x1)] [] S 0 0 := by
  intro n
  induction n with
  | zero =>
    intro x1 S h
    exact (show False from h).elim
  | succ n ih =>
    intro x1 S h
    have hB2 := ih
    rw [mo_begin_p_2] at h
    refine rb_iload_n X 1 mo_begin_d2 rfl 1 rfl ?_
    refine rb_bipush X 16 mo_begin_d3 (by decide) ?_
    refine rb_icmp_ge X 41 mo_begin_d5 (by decide) (fun hc => ?_) (fun hc => ?_)
    · replace h := h.1 hc
      exact mo_begin_k_41 X h
    · replace h := h.2 hc
      refine rb_aload_n X 0 mo_begin_d8 rfl 0 rfl ?_
      refine mo_g38 X mo_begin_d9 ?_
      refine rb_iload_n X 1 mo_begin_d12 rfl 1 rfl ?_
      refine rb_iconst X 0 mo_begin_d13 (by decide) ?_
      obtain ⟨hin, h⟩ := h
      refine rb_iast X 33 (rb_a33 Z) mo_begin_d14 hin (fun S14 e14 => ?_)
      replace h := h S14 e14
      refine rb_aload_n X 0 mo_begin_d15 rfl 0 rfl ?_
      refine mo_g41 X mo_begin_d16 ?_
      refine rb_iload_n X 1 mo_begin_d19 rfl 1 rfl ?_
      refine rb_iconst X 0 mo_begin_d20 (by decide) ?_
      obtain ⟨hin, h⟩ := h
      refine rb_iast X 34 (rb_a34 Z) mo_begin_d21 hin (fun S21 e21 => ?_)
      replace h := h S21 e21
      refine rb_iload_n X 1 mo_begin_d22 rfl 1 rfl ?_
      refine rb_bipush X 8 mo_begin_d23 (by decide) ?_
      refine rb_icmp_ge X 35 mo_begin_d25 (by decide) (fun hc => ?_) (fun hc => ?_)
      · replace h := h.1 hc
        exact mo_begin_k_35 X hB2 h
      · replace h := h.2 hc
        refine rb_aload_n X 0 mo_begin_d28 rfl 0 rfl ?_
        refine mo_g35 X mo_begin_d29 ?_
        refine rb_iload_n X 1 mo_begin_d32 rfl 1 rfl ?_
        refine rb_iconst X 0 mo_begin_d33 (by decide) ?_
        obtain ⟨hin, h⟩ := h
        refine rb_iast X 32 (rb_a32 Z) mo_begin_d34 hin (fun S34 e34 => ?_)
        replace h := h S34 e34
        exact mo_begin_k_35 X hB2 h
def mo_begin_p_0 (K : rb_S → Prop)  (S : rb_S) : Prop := ∃ j2 : Nat, mo_begin_p_2 K j2 0 S
theorem mo_begin_k_0 {K : rb_S → Prop}  (X : rb_X p s m args meth c A Z mo_begin_b 2 "RoomMakerModel" none)   {S : rb_S} (h : mo_begin_p_0 K S) : rb_V p l e mo_begin_rm s m args below meth c A (MQ below (va_Qv K (rb_B Z A) A) args s mo_begin_rm.cells mo_begin_rm.slots A) Z 2 0 [(0, .ref (Z.1 23))] [] S 0 0 := by
  unfold mo_begin_p_0 at h
  refine rb_iconst X 0 mo_begin_d0 (by decide) ?_
  refine rb_istore_n X 1 [1, 0] (L' := [(0, .ref (Z.1 23)), (1, .int 0)]) mo_begin_d1 rfl (by decide) rfl ?_
  obtain ⟨j2, h⟩ := h
  exact mo_begin_k_2 X j2 _ _ h
theorem mo_begin_c (l : Launch) (Z : rb_Z) {K : rb_S → Prop}  {S : rb_S} (h : mo_begin_p_0 K S) : rb_Mv l mo_begin_y mo_begin_b 2 mo_begin_rm Z [.ref (Z.1 23)] S K := rb_startV (by decide) (Nat.le_of_ble_eq_true rfl) (fun p e s m args below meth c A X => mo_begin_k_0 X h)
end
theorem mo_build_d0 : decode mo_build_b 0 = .ok (.aload_n 0, 1) := by decide +kernel
theorem mo_build_d1 : decode mo_build_b 1 = .ok (.iload_n 1, 1) := by decide +kernel
theorem mo_build_d2 : decode mo_build_b 2 = .ok (.iconst 1, 1) := by decide +kernel
theorem mo_build_d3 : decode mo_build_b 3 = .ok (.if_icmp .lt 9, 3) := by decide +kernel
theorem mo_build_d6 : decode mo_build_b 6 = .ok (.iload_n 1, 1) := by decide +kernel
theorem mo_build_d7 : decode mo_build_b 7 = .ok (.bipush 8, 2) := by decide +kernel
theorem mo_build_d9 : decode mo_build_b 9 = .ok (.if_icmp .le 7, 3) := by decide +kernel
theorem mo_build_d12 : decode mo_build_b 12 = .ok (.iconst 1, 1) := by decide +kernel
theorem mo_build_d13 : decode mo_build_b 13 = .ok (.goto 15, 3) := by decide +kernel
theorem mo_build_d16 : decode mo_build_b 16 = .ok (.aload_n 0, 1) := by decide +kernel
theorem mo_build_d17 : decode mo_build_b 17 = .ok (.invokevirtual 105, 3) := by decide +kernel
theorem mo_build_d20 : decode mo_build_b 20 = .ok (.ifCond .eq 7, 3) := by decide +kernel
theorem mo_build_d23 : decode mo_build_b 23 = .ok (.iconst 2, 1) := by decide +kernel
theorem mo_build_d24 : decode mo_build_b 24 = .ok (.goto 4, 3) := by decide +kernel
theorem mo_build_d27 : decode mo_build_b 27 = .ok (.iconst 0, 1) := by decide +kernel
theorem mo_build_d28 : decode mo_build_b 28 = .ok (.putfield 47, 3) := by decide +kernel
theorem mo_build_d31 : decode mo_build_b 31 = .ok (.aload_n 0, 1) := by decide +kernel
theorem mo_build_d32 : decode mo_build_b 32 = .ok (.getfield 47, 3) := by decide +kernel
theorem mo_build_d35 : decode mo_build_b 35 = .ok (.ifCond .le 5, 3) := by decide +kernel
theorem mo_build_d38 : decode mo_build_b 38 = .ok (.iconst 0, 1) := by decide +kernel
theorem mo_build_d39 : decode mo_build_b 39 = .ok (.ireturn, 1) := by decide +kernel
theorem mo_build_d40 : decode mo_build_b 40 = .ok (.aload_n 0, 1) := by decide +kernel
theorem mo_build_d41 : decode mo_build_b 41 = .ok (.invokevirtual 109, 3) := by decide +kernel
theorem mo_build_d44 : decode mo_build_b 44 = .ok (.aload_n 0, 1) := by decide +kernel
theorem mo_build_d45 : decode mo_build_b 45 = .ok (.iconst 0, 1) := by decide +kernel
theorem mo_build_d46 : decode mo_build_b 46 = .ok (.putfield 102, 3) := by decide +kernel
theorem mo_build_d49 : decode mo_build_b 49 = .ok (.iconst 0, 1) := by decide +kernel
theorem mo_build_d50 : decode mo_build_b 50 = .ok (.istore_n 2, 1) := by decide +kernel
theorem mo_build_d51 : decode mo_build_b 51 = .ok (.iload_n 2, 1) := by decide +kernel
theorem mo_build_d52 : decode mo_build_b 52 = .ok (.bipush 16, 2) := by decide +kernel
theorem mo_build_d54 : decode mo_build_b 54 = .ok (.if_icmp .ge 16, 3) := by decide +kernel
theorem mo_build_d57 : decode mo_build_b 57 = .ok (.aload_n 0, 1) := by decide +kernel
theorem mo_build_d58 : decode mo_build_b 58 = .ok (.getfield 32, 3) := by decide +kernel
theorem mo_build_d61 : decode mo_build_b 61 = .ok (.iload_n 2, 1) := by decide +kernel
theorem mo_build_d62 : decode mo_build_b 62 = .ok (.iconst (-1), 1) := by decide +kernel
theorem mo_build_d63 : decode mo_build_b 63 = .ok (.iastore, 1) := by decide +kernel
theorem mo_build_d64 : decode mo_build_b 64 = .ok (.iinc 2 1, 3) := by decide +kernel
theorem mo_build_d67 : decode mo_build_b 67 = .ok (.goto (-16), 3) := by decide +kernel
theorem mo_build_d70 : decode mo_build_b 70 = .ok (.aload_n 0, 1) := by decide +kernel
theorem mo_build_d71 : decode mo_build_b 71 = .ok (.iconst (-1), 1) := by decide +kernel
theorem mo_build_d72 : decode mo_build_b 72 = .ok (.invokevirtual 112, 3) := by decide +kernel
theorem mo_build_d75 : decode mo_build_b 75 = .ok (.istore_n 2, 1) := by decide +kernel
theorem mo_build_d76 : decode mo_build_b 76 = .ok (.iload_n 2, 1) := by decide +kernel
theorem mo_build_d77 : decode mo_build_b 77 = .ok (.ifCond .lt 18, 3) := by decide +kernel
theorem mo_build_d80 : decode mo_build_b 80 = .ok (.aload_n 0, 1) := by decide +kernel
theorem mo_build_d81 : decode mo_build_b 81 = .ok (.iload_n 2, 1) := by decide +kernel
theorem mo_build_d82 : decode mo_build_b 82 = .ok (.iload_n 1, 1) := by decide +kernel
theorem mo_build_d83 : decode mo_build_b 83 = .ok (.invokevirtual 116, 3) := by decide +kernel
theorem mo_build_d86 : decode mo_build_b 86 = .ok (.aload_n 0, 1) := by decide +kernel
theorem mo_build_d87 : decode mo_build_b 87 = .ok (.iload_n 2, 1) := by decide +kernel
theorem mo_build_d88 : decode mo_build_b 88 = .ok (.invokevirtual 112, 3) := by decide +kernel
theorem mo_build_d91 : decode mo_build_b 91 = .ok (.istore_n 2, 1) := by decide +kernel
theorem mo_build_d92 : decode mo_build_b 92 = .ok (.goto (-16), 3) := by decide +kernel
theorem mo_build_d95 : decode mo_build_b 95 = .ok (.aload_n 0, 1) := by decide +kernel
theorem mo_build_d96 : decode mo_build_b 96 = .ok (.iconst 1, 1) := by decide +kernel
theorem mo_build_d97 : decode mo_build_b 97 = .ok (.putfield 68, 3) := by decide +kernel
theorem mo_build_d100 : decode mo_build_b 100 = .ok (.aload_n 0, 1) := by decide +kernel
theorem mo_build_d101 : decode mo_build_b 101 = .ok (.invokevirtual 120, 3) := by decide +kernel
theorem mo_build_d104 : decode mo_build_b 104 = .ok (.aload_n 0, 1) := by decide +kernel
theorem mo_build_d105 : decode mo_build_b 105 = .ok (.getfield 102, 3) := by decide +kernel
theorem mo_build_d108 : decode mo_build_b 108 = .ok (.ireturn, 1) := by decide +kernel
abbrev mo_build_rm : Room := { frames := 3, cells := 0, slots := 0, locals := 73 }
theorem mo_build_w : rb_cw mo_build_y mo_build_b 3 (some .int) 1 := ⟨rw_662, rw_7, ⟨by decide, by decide⟩, by decide +kernel⟩
section
variable {p : Program} {l : Launch} {e : Env} {s : State} {m : MethodId} {args : Array Value} {below : List Frame} {meth : Method} {c : Code} {A : Nat → Prop} {Z : rb_Z}
def mo_build_p_95 (K : Int32 → rb_S → Prop) (x1 : Int32) (x2 : Int32) (S : rb_S) : Prop := ∀ S97 : rb_S, S97 = rb_u S 1 3 1 → (mo_begin_p_0 (fun S101 => K (S101 1 5) S101) S97)
theorem mo_build_k_95 {K : Int32 → rb_S → Prop}  (X : rb_X p s m args meth c A Z mo_build_b 3 "RoomMakerModel" (some .int))  {x1 : Int32} {x2 : Int32} {S : rb_S} (h : mo_build_p_95 K x1 x2 S) : rb_V p l e mo_build_rm s m args below meth c A (MQ below (va_Qi K (rb_B Z A) A) args s mo_build_rm.cells mo_build_rm.slots A) Z 3 95 [(0, .ref (Z.1 23)), (1, .int x1), (2, .int x2)] [] S 0 0 := by
  unfold mo_build_p_95 at h
  refine rb_aload_n X 0 mo_build_d95 rfl 0 rfl ?_
  refine rb_iconst X 1 mo_build_d96 (by decide) ?_
  refine mo_q68 X mo_build_d97 rfl rfl (fun S97 e97 => ?_)
  replace h := h S97 e97
  refine rb_aload_n X 0 mo_build_d100 rfl 0 rfl ?_
  refine rb_callVv (As := []) (rest := []) X (mo_begin_c l Z h) mo_begin_w ⟨by decide, by decide⟩ rw_703 rw_705 rs_48 (q0 := 23) rfl rfl rfl rfl (Nat.le_of_ble_eq_true rfl) mo_build_d101 ⟨by decide, by decide⟩ (fun S101 h => ?_)
  refine rb_aload_n X 0 mo_build_d104 rfl 0 rfl ?_
  refine mo_g102 X mo_build_d105 ?_
  exact rb_iret X mo_build_d108 h
def mo_build_p_76 (K : Int32 → rb_S → Prop) : Nat → Int32 → Int32 → rb_S → Prop
  | 0, _, _, _ => False
  | n76 + 1, x1, x2, S => (x2 < 0 → mo_build_p_95 K x1 x2 S) ∧ (¬ x2 < 0 → mo_settle_p_0 (fun S83 => mo_next_p_0 (fun r88 S88 => (fun a0 a1 T => mo_build_p_76 K n76 a0 a1 T) x1 r88 S88) x2 S83) x2 x1 S)
theorem mo_build_k_76 {K : Int32 → rb_S → Prop}  (X : rb_X p s m args meth c A Z mo_build_b 3 "RoomMakerModel" (some .int))  : ∀ (n : Nat) (x1 : Int32) (x2 : Int32) (S : rb_S), mo_build_p_76 K n x1 x2 S → rb_V p l e mo_build_rm s m args below meth c A (MQ below (va_Qi K (rb_B Z A) A) args s mo_build_rm.cells mo_build_rm.slots A) Z 3 76 [(0, .ref (Z.1 23)), (1, .int x1), (2, .int x2)] [] S 0 0 := by
  intro n
  induction n with
  | zero =>
    intro x1 x2 S h
    exact (show False from h).elim
  | succ n ih =>
    intro x1 x2 S h
    have hB76 := ih
    rw [mo_build_p_76] at h
    refine rb_iload_n X 2 mo_build_d76 rfl 2 rfl ?_
    refine rb_if_lt X 95 mo_build_d77 (by decide) (fun hc => ?_) (fun hc => ?_)
    · replace h := h.1 hc
      exact mo_build_k_95 X h
    · replace h := h.2 hc
      refine rb_aload_n X 0 mo_build_d80 rfl 0 rfl ?_
      refine rb_iload_n X 2 mo_build_d81 rfl 2 rfl ?_
      refine rb_iload_n X 1 mo_build_d82 rfl 1 rfl ?_
      refine rb_callVv (As := [.int x2, .int x1]) (rest := []) X (mo_settle_c l Z h) mo_settle_w ⟨by decide, by decide⟩ rw_691 rw_693 rs_45 (q0 := 23) rfl rfl rfl rfl (Nat.le_of_ble_eq_true rfl) mo_build_d83 ⟨by decide, by decide⟩ (fun S83 h => ?_)
      refine rb_aload_n X 0 mo_build_d86 rfl 0 rfl ?_
      refine rb_iload_n X 2 mo_build_d87 rfl 2 rfl ?_
      refine rb_callVi (As := [.int x2]) (rest := []) X (mo_next_c l Z h) mo_next_w ⟨by decide, by decide⟩ rw_687 rw_689 rs_44 (q0 := 23) rfl rfl rfl rfl (Nat.le_of_ble_eq_true rfl) mo_build_d88 ⟨by decide, by decide⟩ (fun r88 S88 h => ?_)
      refine rb_istore_n X 2 [1, 2, 0] (L' := [(0, .ref (Z.1 23)), (1, .int x1), (2, .int r88)]) mo_build_d91 rfl (by decide) rfl ?_
      refine rb_goto X 76 mo_build_d92 (by decide) ?_
      exact hB76 _ _ _ h
def mo_build_p_70 (K : Int32 → rb_S → Prop) (x1 : Int32) (x2 : Int32) (S : rb_S) : Prop := mo_next_p_0 (fun r72 S72 => ∃ j76 : Nat, mo_build_p_76 K j76 x1 r72 S72) (-1) S
theorem mo_build_k_70 {K : Int32 → rb_S → Prop}  (X : rb_X p s m args meth c A Z mo_build_b 3 "RoomMakerModel" (some .int))  {x1 : Int32} {x2 : Int32} {S : rb_S} (h : mo_build_p_70 K x1 x2 S) : rb_V p l e mo_build_rm s m args below meth c A (MQ below (va_Qi K (rb_B Z A) A) args s mo_build_rm.cells mo_build_rm.slots A) Z 3 70 [(0, .ref (Z.1 23)), (1, .int x1), (2, .int x2)] [] S 0 0 := by
  unfold mo_build_p_70 at h
  refine rb_aload_n X 0 mo_build_d70 rfl 0 rfl ?_
  refine rb_iconst X (-1) mo_build_d71 (by decide) ?_
  refine rb_callVi (As := [.int (-1)]) (rest := []) X (mo_next_c l Z h) mo_next_w ⟨by decide, by decide⟩ rw_687 rw_689 rs_44 (q0 := 23) rfl rfl rfl rfl (Nat.le_of_ble_eq_true rfl) mo_build_d72 ⟨by decide, by decide⟩ (fun r72 S72 h => ?_)
  refine rb_istore_n X 2 [1, 2, 0] (L' := [(0, .ref (Z.1 23)), (1, .int x1), (2, .int r72)]) mo_build_d75 rfl (by decide) rfl ?_
  obtain ⟨j76, h⟩ := h
  exact mo_build_k_76 X j76 _ _ _ h
def mo_build_p_51 (K : Int32 → rb_S → Prop) : Nat → Int32 → Int32 → rb_S → Prop
  | 0, _, _, _ => False
  | n51 + 1, x1, x2, S => (16 ≤ x2 → mo_build_p_70 K x1 x2 S) ∧ (¬ 16 ≤ x2 → vp_in x2 16 ∧ ∀ S63 : rb_S, S63 = rb_u S 31 x2.toNatClampNeg (-1) → (∀ v64 : Int32, v64 = x2 + 1 → ((fun a0 a1 T => mo_build_p_51 K n51 a0 a1 T) x1 v64 S63)))
theorem mo_build_k_51 {K : Int32 → rb_S → Prop}  (X : rb_X p s m args meth c A Z mo_build_b 3 "RoomMakerModel" (some .int))  : ∀ (n : Nat) (x1 : Int32) (x2 : Int32) (S : rb_S), mo_build_p_51 K n x1 x2 S → rb_V p l e mo_build_rm s m args below meth c A (MQ below (va_Qi K (rb_B Z A) A) args s mo_build_rm.cells mo_build_rm.slots A) Z 3 51 [(0, .ref (Z.1 23)), (1, .int x1), (2, .int x2)] [] S 0 0 := by
  intro n
  induction n with
  | zero =>
    intro x1 x2 S h
    exact (show False from h).elim
  | succ n ih =>
    intro x1 x2 S h
    have hB51 := ih
    rw [mo_build_p_51] at h
    refine rb_iload_n X 2 mo_build_d51 rfl 2 rfl ?_
    refine rb_bipush X 16 mo_build_d52 (by decide) ?_
    refine rb_icmp_ge X 70 mo_build_d54 (by decide) (fun hc => ?_) (fun hc => ?_)
    · replace h := h.1 hc
      exact mo_build_k_70 X h
    · replace h := h.2 hc
      refine rb_aload_n X 0 mo_build_d57 rfl 0 rfl ?_
      refine mo_g32 X mo_build_d58 ?_
      refine rb_iload_n X 2 mo_build_d61 rfl 2 rfl ?_
      refine rb_iconst X (-1) mo_build_d62 (by decide) ?_
      obtain ⟨hin, h⟩ := h
      refine rb_iast X 31 (rb_a31 Z) mo_build_d63 hin (fun S63 e63 => ?_)
      replace h := h S63 e63
      refine rb_iinc X 1 2 [1, 2, 0] (fun v64 => [(0, .ref (Z.1 23)), (1, .int x1), (2, .int v64)]) mo_build_d64 2 rfl (by decide) (by decide) (fun _ => rfl) (fun v64 e64 => ?_)
      replace h := h v64 e64
      refine rb_goto X 51 mo_build_d67 (by decide) ?_
      exact hB51 _ _ _ h
def mo_build_p_28 (K : Int32 → rb_S → Prop) (x1 : Int32) (y0 : Int32) (S : rb_S) : Prop := ∀ S28 : rb_S, S28 = rb_u S 1 0 y0 → (((S28 1 0) ≤ 0 → mo_spans_p_0 (fun S41 => ∀ S46 : rb_S, S46 = rb_u S41 1 5 0 → (∃ j51 : Nat, mo_build_p_51 K j51 x1 0 S46)) S28) ∧ (¬ (S28 1 0) ≤ 0 → K 0 S28))
theorem mo_build_k_28 {K : Int32 → rb_S → Prop}  (X : rb_X p s m args meth c A Z mo_build_b 3 "RoomMakerModel" (some .int))  {x1 : Int32} {y0 : Int32} {S : rb_S} (h : mo_build_p_28 K x1 y0 S) : rb_V p l e mo_build_rm s m args below meth c A (MQ below (va_Qi K (rb_B Z A) A) args s mo_build_rm.cells mo_build_rm.slots A) Z 3 28 [(0, .ref (Z.1 23)), (1, .int x1)] [.int y0, .ref (Z.1 23)] S 0 0 := by
  unfold mo_build_p_28 at h
  refine mo_q47 X mo_build_d28 (fun S28 e28 => ?_)
  replace h := h S28 e28
  refine rb_aload_n X 0 mo_build_d31 rfl 0 rfl ?_
  refine mo_g47 X mo_build_d32 ?_
  refine rb_if_le X 40 mo_build_d35 (by decide) (fun hc => ?_) (fun hc => ?_)
  · replace h := h.1 hc
    refine rb_aload_n X 0 mo_build_d40 rfl 0 rfl ?_
    refine rb_callVv (As := []) (rest := []) X (mo_spans_c l Z h) mo_spans_w ⟨by decide, by decide⟩ rw_667 rw_669 rs_39 (q0 := 23) rfl rfl rfl rfl (Nat.le_of_ble_eq_true rfl) mo_build_d41 ⟨by decide, by decide⟩ (fun S41 h => ?_)
    refine rb_aload_n X 0 mo_build_d44 rfl 0 rfl ?_
    refine rb_iconst X 0 mo_build_d45 (by decide) ?_
    refine mo_q102 X mo_build_d46 (fun S46 e46 => ?_)
    replace h := h S46 e46
    refine rb_iconst X 0 mo_build_d49 (by decide) ?_
    refine rb_istore_n X 2 [1, 2, 0] (L' := [(0, .ref (Z.1 23)), (1, .int x1), (2, .int 0)]) mo_build_d50 rfl (by decide) rfl ?_
    obtain ⟨j51, h⟩ := h
    exact mo_build_k_51 X j51 _ _ _ h
  · replace h := h.2 hc
    refine rb_iconst X 0 mo_build_d38 (by decide) ?_
    exact rb_iret X mo_build_d39 h
def mo_build_p_12 (K : Int32 → rb_S → Prop) (x1 : Int32) (S : rb_S) : Prop := mo_build_p_28 K x1 1 S
theorem mo_build_k_12 {K : Int32 → rb_S → Prop}  (X : rb_X p s m args meth c A Z mo_build_b 3 "RoomMakerModel" (some .int))  {x1 : Int32} {S : rb_S} (h : mo_build_p_12 K x1 S) : rb_V p l e mo_build_rm s m args below meth c A (MQ below (va_Qi K (rb_B Z A) A) args s mo_build_rm.cells mo_build_rm.slots A) Z 3 12 [(0, .ref (Z.1 23)), (1, .int x1)] [.ref (Z.1 23)] S 0 0 := by
  unfold mo_build_p_12 at h
  refine rb_iconst X 1 mo_build_d12 (by decide) ?_
  refine rb_goto X 28 mo_build_d13 (by decide) ?_
  exact mo_build_k_28 X h
def mo_build_p_0 (K : Int32 → rb_S → Prop) (x1 : Int32) (S : rb_S) : Prop := (x1 < 1 → mo_build_p_12 K x1 S) ∧ (¬ x1 < 1 → (x1 ≤ 8 → mo_goesNowhere_p_0 (fun r17 S17 => (r17 = 0 → mo_build_p_28 K x1 0 S17) ∧ (¬ r17 = 0 → mo_build_p_28 K x1 2 S17)) S) ∧ (¬ x1 ≤ 8 → mo_build_p_12 K x1 S))
theorem mo_build_k_0 {K : Int32 → rb_S → Prop}  (X : rb_X p s m args meth c A Z mo_build_b 3 "RoomMakerModel" (some .int))  {x1 : Int32} {S : rb_S} (h : mo_build_p_0 K x1 S) : rb_V p l e mo_build_rm s m args below meth c A (MQ below (va_Qi K (rb_B Z A) A) args s mo_build_rm.cells mo_build_rm.slots A) Z 3 0 [(0, .ref (Z.1 23)), (1, .int x1)] [] S 0 0 := by
  unfold mo_build_p_0 at h
  refine rb_aload_n X 0 mo_build_d0 rfl 0 rfl ?_
  refine rb_iload_n X 1 mo_build_d1 rfl 1 rfl ?_
  refine rb_iconst X 1 mo_build_d2 (by decide) ?_
  refine rb_icmp_lt X 12 mo_build_d3 (by decide) (fun hc => ?_) (fun hc => ?_)
  · replace h := h.1 hc
    exact mo_build_k_12 X h
  · replace h := h.2 hc
    refine rb_iload_n X 1 mo_build_d6 rfl 1 rfl ?_
    refine rb_bipush X 8 mo_build_d7 (by decide) ?_
    refine rb_icmp_le X 16 mo_build_d9 (by decide) (fun hc => ?_) (fun hc => ?_)
    · replace h := h.1 hc
      refine rb_aload_n X 0 mo_build_d16 rfl 0 rfl ?_
      refine rb_callVi (As := []) (rest := [.ref (Z.1 23)]) X (mo_goesNowhere_c l Z h) mo_goesNowhere_w ⟨by decide, by decide⟩ rw_663 rw_665 rs_38 (q0 := 23) rfl rfl rfl rfl (Nat.le_of_ble_eq_true rfl) mo_build_d17 ⟨by decide, by decide⟩ (fun r17 S17 h => ?_)
      refine rb_if_eq X 27 mo_build_d20 (by decide) (fun hc => ?_) (fun hc => ?_)
      · replace h := h.1 hc
        refine rb_iconst X 0 mo_build_d27 (by decide) ?_
        exact mo_build_k_28 X h
      · replace h := h.2 hc
        refine rb_iconst X 2 mo_build_d23 (by decide) ?_
        refine rb_goto X 28 mo_build_d24 (by decide) ?_
        exact mo_build_k_28 X h
    · replace h := h.2 hc
      exact mo_build_k_12 X h
theorem mo_build_c (l : Launch) (Z : rb_Z) {K : Int32 → rb_S → Prop} {x1 : Int32} {S : rb_S} (h : mo_build_p_0 K x1 S) : rb_Mi l mo_build_y mo_build_b 3 (some .int) mo_build_rm Z [.ref (Z.1 23), .int x1] S K := rb_startI (by decide) (Nat.le_of_ble_eq_true rfl) (fun p e s m args below meth c A X => mo_build_k_0 X h)
end
theorem mo_span_d0 : decode mo_span_b 0 = .ok (.aload_n 0, 1) := by decide +kernel
theorem mo_span_d1 : decode mo_span_b 1 = .ok (.iload_n 1, 1) := by decide +kernel
theorem mo_span_d2 : decode mo_span_b 2 = .ok (.invokestatic 51, 3) := by decide +kernel
theorem mo_span_d5 : decode mo_span_b 5 = .ok (.ifCond .eq 7, 3) := by decide +kernel
theorem mo_span_d8 : decode mo_span_b 8 = .ok (.iconst 0, 1) := by decide +kernel
theorem mo_span_d9 : decode mo_span_b 9 = .ok (.goto 4, 3) := by decide +kernel
theorem mo_span_d12 : decode mo_span_b 12 = .ok (.iconst 1, 1) := by decide +kernel
theorem mo_span_d13 : decode mo_span_b 13 = .ok (.putfield 47, 3) := by decide +kernel
theorem mo_span_d16 : decode mo_span_b 16 = .ok (.aload_n 0, 1) := by decide +kernel
theorem mo_span_d17 : decode mo_span_b 17 = .ok (.getfield 47, 3) := by decide +kernel
theorem mo_span_d20 : decode mo_span_b 20 = .ok (.ifCond .le 5, 3) := by decide +kernel
theorem mo_span_d23 : decode mo_span_b 23 = .ok (.iconst 0, 1) := by decide +kernel
theorem mo_span_d24 : decode mo_span_b 24 = .ok (.ireturn, 1) := by decide +kernel
theorem mo_span_d25 : decode mo_span_b 25 = .ok (.aload_n 0, 1) := by decide +kernel
theorem mo_span_d26 : decode mo_span_b 26 = .ok (.getfield 68, 3) := by decide +kernel
theorem mo_span_d29 : decode mo_span_b 29 = .ok (.ifCond .ne 7, 3) := by decide +kernel
theorem mo_span_d32 : decode mo_span_b 32 = .ok (.iconst (-1), 1) := by decide +kernel
theorem mo_span_d33 : decode mo_span_b 33 = .ok (.goto 22, 3) := by decide +kernel
theorem mo_span_d36 : decode mo_span_b 36 = .ok (.iload_n 2, 1) := by decide +kernel
theorem mo_span_d37 : decode mo_span_b 37 = .ok (.ifCond .eq 12, 3) := by decide +kernel
theorem mo_span_d40 : decode mo_span_b 40 = .ok (.aload_n 0, 1) := by decide +kernel
theorem mo_span_d41 : decode mo_span_b 41 = .ok (.getfield 29, 3) := by decide +kernel
theorem mo_span_d44 : decode mo_span_b 44 = .ok (.iload_n 1, 1) := by decide +kernel
theorem mo_span_d45 : decode mo_span_b 45 = .ok (.iaload, 1) := by decide +kernel
theorem mo_span_d46 : decode mo_span_b 46 = .ok (.goto 9, 3) := by decide +kernel
theorem mo_span_d49 : decode mo_span_b 49 = .ok (.aload_n 0, 1) := by decide +kernel
theorem mo_span_d50 : decode mo_span_b 50 = .ok (.getfield 26, 3) := by decide +kernel
theorem mo_span_d53 : decode mo_span_b 53 = .ok (.iload_n 1, 1) := by decide +kernel
theorem mo_span_d54 : decode mo_span_b 54 = .ok (.iaload, 1) := by decide +kernel
theorem mo_span_d55 : decode mo_span_b 55 = .ok (.ireturn, 1) := by decide +kernel
abbrev mo_span_rm : Room := { frames := 1, cells := 0, slots := 0, locals := 20 }
theorem mo_span_w : rb_cw mo_span_y mo_span_b 3 (some .int) 2 := ⟨rw_710, rw_7, ⟨by decide, by decide⟩, by decide +kernel⟩
section
variable {p : Program} {l : Launch} {e : Env} {s : State} {m : MethodId} {args : Array Value} {below : List Frame} {meth : Method} {c : Code} {A : Nat → Prop} {Z : rb_Z}
def mo_span_p_55 (K : Int32 → rb_S → Prop) (x1 : Int32) (x2 : Int32) (y0 : Int32) (S : rb_S) : Prop := K y0 S
theorem mo_span_k_55 {K : Int32 → rb_S → Prop}  (X : rb_X p s m args meth c A Z mo_span_b 3 "RoomMakerModel" (some .int))  {x1 : Int32} {x2 : Int32} {y0 : Int32} {S : rb_S} (h : mo_span_p_55 K x1 x2 y0 S) : rb_V p l e mo_span_rm s m args below meth c A (MQ below (va_Qi K (rb_B Z A) A) args s mo_span_rm.cells mo_span_rm.slots A) Z 3 55 [(0, .ref (Z.1 23)), (1, .int x1), (2, .int x2)] [.int y0] S 0 0 := by
  unfold mo_span_p_55 at h
  exact rb_iret X mo_span_d55 h
def mo_span_p_13 (K : Int32 → rb_S → Prop) (x1 : Int32) (x2 : Int32) (y0 : Int32) (S : rb_S) : Prop := ∀ S13 : rb_S, S13 = rb_u S 1 0 y0 → (((S13 1 0) ≤ 0 → (¬ (S13 1 3) = 0 → (x2 = 0 → vp_in x1 16 ∧ (mo_span_p_55 K x1 x2 (S13 29 x1.toNatClampNeg) S13)) ∧ (¬ x2 = 0 → vp_in x1 16 ∧ (mo_span_p_55 K x1 x2 (S13 30 x1.toNatClampNeg) S13))) ∧ ((S13 1 3) = 0 → mo_span_p_55 K x1 x2 (-1) S13)) ∧ (¬ (S13 1 0) ≤ 0 → K 0 S13))
theorem mo_span_k_13 {K : Int32 → rb_S → Prop}  (X : rb_X p s m args meth c A Z mo_span_b 3 "RoomMakerModel" (some .int))  {x1 : Int32} {x2 : Int32} {y0 : Int32} {S : rb_S} (h : mo_span_p_13 K x1 x2 y0 S) : rb_V p l e mo_span_rm s m args below meth c A (MQ below (va_Qi K (rb_B Z A) A) args s mo_span_rm.cells mo_span_rm.slots A) Z 3 13 [(0, .ref (Z.1 23)), (1, .int x1), (2, .int x2)] [.int y0, .ref (Z.1 23)] S 0 0 := by
  unfold mo_span_p_13 at h
  refine mo_q47 X mo_span_d13 (fun S13 e13 => ?_)
  replace h := h S13 e13
  refine rb_aload_n X 0 mo_span_d16 rfl 0 rfl ?_
  refine mo_g47 X mo_span_d17 ?_
  refine rb_if_le X 25 mo_span_d20 (by decide) (fun hc => ?_) (fun hc => ?_)
  · replace h := h.1 hc
    refine rb_aload_n X 0 mo_span_d25 rfl 0 rfl ?_
    refine mo_g68 X mo_span_d26 ?_
    refine rb_if_ne X 36 mo_span_d29 (by decide) (fun hc => ?_) (fun hc => ?_)
    · replace h := h.1 hc
      refine rb_iload_n X 2 mo_span_d36 rfl 2 rfl ?_
      refine rb_if_eq X 49 mo_span_d37 (by decide) (fun hc => ?_) (fun hc => ?_)
      · replace h := h.1 hc
        refine rb_aload_n X 0 mo_span_d49 rfl 0 rfl ?_
        refine mo_g26 X mo_span_d50 ?_
        refine rb_iload_n X 1 mo_span_d53 rfl 1 rfl ?_
        obtain ⟨hin, h⟩ := h
        refine rb_iald X 29 (rb_a29 Z) mo_span_d54 hin ?_
        exact mo_span_k_55 X h
      · replace h := h.2 hc
        refine rb_aload_n X 0 mo_span_d40 rfl 0 rfl ?_
        refine mo_g29 X mo_span_d41 ?_
        refine rb_iload_n X 1 mo_span_d44 rfl 1 rfl ?_
        obtain ⟨hin, h⟩ := h
        refine rb_iald X 30 (rb_a30 Z) mo_span_d45 hin ?_
        refine rb_goto X 55 mo_span_d46 (by decide) ?_
        exact mo_span_k_55 X h
    · replace h := h.2 hc
      refine rb_iconst X (-1) mo_span_d32 (by decide) ?_
      refine rb_goto X 55 mo_span_d33 (by decide) ?_
      exact mo_span_k_55 X h
  · replace h := h.2 hc
    refine rb_iconst X 0 mo_span_d23 (by decide) ?_
    exact rb_iret X mo_span_d24 h
def mo_span_p_0 (K : Int32 → rb_S → Prop) (x1 : Int32) (x2 : Int32) (S : rb_S) : Prop := mo_isValue_p_0 (fun r2 S2 => (r2 = 0 → mo_span_p_13 K x1 x2 1 S2) ∧ (¬ r2 = 0 → mo_span_p_13 K x1 x2 0 S2)) x1 S
theorem mo_span_k_0 {K : Int32 → rb_S → Prop}  (X : rb_X p s m args meth c A Z mo_span_b 3 "RoomMakerModel" (some .int))  {x1 : Int32} {x2 : Int32} {S : rb_S} (h : mo_span_p_0 K x1 x2 S) : rb_V p l e mo_span_rm s m args below meth c A (MQ below (va_Qi K (rb_B Z A) A) args s mo_span_rm.cells mo_span_rm.slots A) Z 3 0 [(0, .ref (Z.1 23)), (1, .int x1), (2, .int x2)] [] S 0 0 := by
  unfold mo_span_p_0 at h
  refine rb_aload_n X 0 mo_span_d0 rfl 0 rfl ?_
  refine rb_iload_n X 1 mo_span_d1 rfl 1 rfl ?_
  refine rb_callSi (As := [.int x1]) (rest := [.ref (Z.1 23)]) X (mo_isValue_c l Z h) mo_isValue_w ⟨by decide, by decide⟩ rw_641 rw_642 rfl rfl (Nat.le_of_ble_eq_true rfl) mo_span_d2 ⟨by decide, by decide⟩ (fun r2 S2 h => ?_)
  refine rb_if_eq X 12 mo_span_d5 (by decide) (fun hc => ?_) (fun hc => ?_)
  · replace h := h.1 hc
    refine rb_iconst X 1 mo_span_d12 (by decide) ?_
    exact mo_span_k_13 X h
  · replace h := h.2 hc
    refine rb_iconst X 0 mo_span_d8 (by decide) ?_
    refine rb_goto X 13 mo_span_d9 (by decide) ?_
    exact mo_span_k_13 X h
theorem mo_span_c (l : Launch) (Z : rb_Z) {K : Int32 → rb_S → Prop} {x1 : Int32} {x2 : Int32} {S : rb_S} (h : mo_span_p_0 K x1 x2 S) : rb_Mi l mo_span_y mo_span_b 3 (some .int) mo_span_rm Z [.ref (Z.1 23), .int x1, .int x2] S K := rb_startI (by decide) (Nat.le_of_ble_eq_true rfl) (fun p e s m args below meth c A X => mo_span_k_0 X h)
end
theorem mo_lives_d0 : decode mo_lives_b 0 = .ok (.aload_n 0, 1) := by decide +kernel
theorem mo_lives_d1 : decode mo_lives_b 1 = .ok (.iload_n 1, 1) := by decide +kernel
theorem mo_lives_d2 : decode mo_lives_b 2 = .ok (.invokestatic 51, 3) := by decide +kernel
theorem mo_lives_d5 : decode mo_lives_b 5 = .ok (.ifCond .eq 24, 3) := by decide +kernel
theorem mo_lives_d8 : decode mo_lives_b 8 = .ok (.aload_n 0, 1) := by decide +kernel
theorem mo_lives_d9 : decode mo_lives_b 9 = .ok (.getfield 68, 3) := by decide +kernel
theorem mo_lives_d12 : decode mo_lives_b 12 = .ok (.ifCond .eq 21, 3) := by decide +kernel
theorem mo_lives_d15 : decode mo_lives_b 15 = .ok (.iload_n 2, 1) := by decide +kernel
theorem mo_lives_d16 : decode mo_lives_b 16 = .ok (.ifCond .lt 13, 3) := by decide +kernel
theorem mo_lives_d19 : decode mo_lives_b 19 = .ok (.iload_n 2, 1) := by decide +kernel
theorem mo_lives_d20 : decode mo_lives_b 20 = .ok (.iconst 2, 1) := by decide +kernel
theorem mo_lives_d21 : decode mo_lives_b 21 = .ok (.aload_n 0, 1) := by decide +kernel
theorem mo_lives_d22 : decode mo_lives_b 22 = .ok (.getfield 65, 3) := by decide +kernel
theorem mo_lives_d25 : decode mo_lives_b 25 = .ok (.imul, 1) := by decide +kernel
theorem mo_lives_d26 : decode mo_lives_b 26 = .ok (.if_icmp .lt 7, 3) := by decide +kernel
theorem mo_lives_d29 : decode mo_lives_b 29 = .ok (.iconst 1, 1) := by decide +kernel
theorem mo_lives_d30 : decode mo_lives_b 30 = .ok (.goto 4, 3) := by decide +kernel
theorem mo_lives_d33 : decode mo_lives_b 33 = .ok (.iconst 0, 1) := by decide +kernel
theorem mo_lives_d34 : decode mo_lives_b 34 = .ok (.putfield 47, 3) := by decide +kernel
theorem mo_lives_d37 : decode mo_lives_b 37 = .ok (.aload_n 0, 1) := by decide +kernel
theorem mo_lives_d38 : decode mo_lives_b 38 = .ok (.getfield 47, 3) := by decide +kernel
theorem mo_lives_d41 : decode mo_lives_b 41 = .ok (.ifCond .ne 29, 3) := by decide +kernel
theorem mo_lives_d44 : decode mo_lives_b 44 = .ok (.aload_n 0, 1) := by decide +kernel
theorem mo_lives_d45 : decode mo_lives_b 45 = .ok (.getfield 68, 3) := by decide +kernel
theorem mo_lives_d48 : decode mo_lives_b 48 = .ok (.ifCond .eq 22, 3) := by decide +kernel
theorem mo_lives_d51 : decode mo_lives_b 51 = .ok (.aload_n 0, 1) := by decide +kernel
theorem mo_lives_d52 : decode mo_lives_b 52 = .ok (.getfield 16, 3) := by decide +kernel
theorem mo_lives_d55 : decode mo_lives_b 55 = .ok (.sipush 128, 3) := by decide +kernel
theorem mo_lives_d58 : decode mo_lives_b 58 = .ok (.iload_n 1, 1) := by decide +kernel
theorem mo_lives_d59 : decode mo_lives_b 59 = .ok (.imul, 1) := by decide +kernel
theorem mo_lives_d60 : decode mo_lives_b 60 = .ok (.iload_n 2, 1) := by decide +kernel
theorem mo_lives_d61 : decode mo_lives_b 61 = .ok (.iadd, 1) := by decide +kernel
theorem mo_lives_d62 : decode mo_lives_b 62 = .ok (.baload, 1) := by decide +kernel
theorem mo_lives_d63 : decode mo_lives_b 63 = .ok (.ifCond .eq 7, 3) := by decide +kernel
theorem mo_lives_d66 : decode mo_lives_b 66 = .ok (.iconst 1, 1) := by decide +kernel
theorem mo_lives_d67 : decode mo_lives_b 67 = .ok (.goto 4, 3) := by decide +kernel
theorem mo_lives_d70 : decode mo_lives_b 70 = .ok (.iconst 0, 1) := by decide +kernel
theorem mo_lives_d71 : decode mo_lives_b 71 = .ok (.ireturn, 1) := by decide +kernel
abbrev mo_lives_rm : Room := { frames := 1, cells := 0, slots := 0, locals := 20 }
theorem mo_lives_w : rb_cw mo_lives_y mo_lives_b 3 (some .boolean) 2 := ⟨rw_714, rw_7, ⟨by decide, by decide⟩, by decide +kernel⟩
section
variable {p : Program} {l : Launch} {e : Env} {s : State} {m : MethodId} {args : Array Value} {below : List Frame} {meth : Method} {c : Code} {A : Nat → Prop} {Z : rb_Z}
def mo_lives_p_71 (K : Int32 → rb_S → Prop) (x1 : Int32) (x2 : Int32) (y0 : Int32) (S : rb_S) : Prop := narrow .boolean (.int y0) = .int y0 ∧ K y0 S
theorem mo_lives_k_71 {K : Int32 → rb_S → Prop}  (X : rb_X p s m args meth c A Z mo_lives_b 3 "RoomMakerModel" (some .boolean))  {x1 : Int32} {x2 : Int32} {y0 : Int32} {S : rb_S} (h : mo_lives_p_71 K x1 x2 y0 S) : rb_V p l e mo_lives_rm s m args below meth c A (MQ below (va_Qi K (rb_B Z A) A) args s mo_lives_rm.cells mo_lives_rm.slots A) Z 3 71 [(0, .ref (Z.1 23)), (1, .int x1), (2, .int x2)] [.int y0] S 0 0 := by
  unfold mo_lives_p_71 at h
  obtain ⟨hn, h⟩ := h
  exact rb_zret X mo_lives_d71 hn h
def mo_lives_p_70 (K : Int32 → rb_S → Prop) (x1 : Int32) (x2 : Int32) (S : rb_S) : Prop := mo_lives_p_71 K x1 x2 0 S
theorem mo_lives_k_70 {K : Int32 → rb_S → Prop}  (X : rb_X p s m args meth c A Z mo_lives_b 3 "RoomMakerModel" (some .boolean))  {x1 : Int32} {x2 : Int32} {S : rb_S} (h : mo_lives_p_70 K x1 x2 S) : rb_V p l e mo_lives_rm s m args below meth c A (MQ below (va_Qi K (rb_B Z A) A) args s mo_lives_rm.cells mo_lives_rm.slots A) Z 3 70 [(0, .ref (Z.1 23)), (1, .int x1), (2, .int x2)] [] S 0 0 := by
  unfold mo_lives_p_70 at h
  refine rb_iconst X 0 mo_lives_d70 (by decide) ?_
  exact mo_lives_k_71 X h
def mo_lives_p_34 (K : Int32 → rb_S → Prop) (x1 : Int32) (x2 : Int32) (y0 : Int32) (S : rb_S) : Prop := ∀ S34 : rb_S, S34 = rb_u S 1 0 y0 → ((¬ (S34 1 0) = 0 → mo_lives_p_70 K x1 x2 S34) ∧ ((S34 1 0) = 0 → ((S34 1 3) = 0 → mo_lives_p_70 K x1 x2 S34) ∧ (¬ (S34 1 3) = 0 → vp_in ((128 * x1) + x2) 2048 ∧ (((S34 26 ((128 * x1) + x2).toNatClampNeg) = 0 → mo_lives_p_70 K x1 x2 S34) ∧ (¬ (S34 26 ((128 * x1) + x2).toNatClampNeg) = 0 → mo_lives_p_71 K x1 x2 1 S34)))))
theorem mo_lives_k_34 {K : Int32 → rb_S → Prop}  (X : rb_X p s m args meth c A Z mo_lives_b 3 "RoomMakerModel" (some .boolean))  {x1 : Int32} {x2 : Int32} {y0 : Int32} {S : rb_S} (h : mo_lives_p_34 K x1 x2 y0 S) : rb_V p l e mo_lives_rm s m args below meth c A (MQ below (va_Qi K (rb_B Z A) A) args s mo_lives_rm.cells mo_lives_rm.slots A) Z 3 34 [(0, .ref (Z.1 23)), (1, .int x1), (2, .int x2)] [.int y0, .ref (Z.1 23)] S 0 0 := by
  unfold mo_lives_p_34 at h
  refine mo_q47 X mo_lives_d34 (fun S34 e34 => ?_)
  replace h := h S34 e34
  refine rb_aload_n X 0 mo_lives_d37 rfl 0 rfl ?_
  refine mo_g47 X mo_lives_d38 ?_
  refine rb_if_ne X 70 mo_lives_d41 (by decide) (fun hc => ?_) (fun hc => ?_)
  · replace h := h.1 hc
    exact mo_lives_k_70 X h
  · replace h := h.2 hc
    refine rb_aload_n X 0 mo_lives_d44 rfl 0 rfl ?_
    refine mo_g68 X mo_lives_d45 ?_
    refine rb_if_eq X 70 mo_lives_d48 (by decide) (fun hc => ?_) (fun hc => ?_)
    · replace h := h.1 hc
      exact mo_lives_k_70 X h
    · replace h := h.2 hc
      refine rb_aload_n X 0 mo_lives_d51 rfl 0 rfl ?_
      refine mo_g16 X mo_lives_d52 ?_
      refine rb_sipush X 128 mo_lives_d55 (by decide) ?_
      refine rb_iload_n X 1 mo_lives_d58 rfl 1 rfl ?_
      refine rb_imul X mo_lives_d59 ?_
      refine rb_iload_n X 2 mo_lives_d60 rfl 2 rfl ?_
      refine rb_iadd X mo_lives_d61 ?_
      obtain ⟨hin, h⟩ := h
      refine rb_zald X 26 (rb_a26 Z) mo_lives_d62 hin ?_
      refine rb_if_eq X 70 mo_lives_d63 (by decide) (fun hc => ?_) (fun hc => ?_)
      · replace h := h.1 hc
        exact mo_lives_k_70 X h
      · replace h := h.2 hc
        refine rb_iconst X 1 mo_lives_d66 (by decide) ?_
        refine rb_goto X 71 mo_lives_d67 (by decide) ?_
        exact mo_lives_k_71 X h
def mo_lives_p_29 (K : Int32 → rb_S → Prop) (x1 : Int32) (x2 : Int32) (S : rb_S) : Prop := mo_lives_p_34 K x1 x2 1 S
theorem mo_lives_k_29 {K : Int32 → rb_S → Prop}  (X : rb_X p s m args meth c A Z mo_lives_b 3 "RoomMakerModel" (some .boolean))  {x1 : Int32} {x2 : Int32} {S : rb_S} (h : mo_lives_p_29 K x1 x2 S) : rb_V p l e mo_lives_rm s m args below meth c A (MQ below (va_Qi K (rb_B Z A) A) args s mo_lives_rm.cells mo_lives_rm.slots A) Z 3 29 [(0, .ref (Z.1 23)), (1, .int x1), (2, .int x2)] [.ref (Z.1 23)] S 0 0 := by
  unfold mo_lives_p_29 at h
  refine rb_iconst X 1 mo_lives_d29 (by decide) ?_
  refine rb_goto X 34 mo_lives_d30 (by decide) ?_
  exact mo_lives_k_34 X h
def mo_lives_p_33 (K : Int32 → rb_S → Prop) (x1 : Int32) (x2 : Int32) (S : rb_S) : Prop := mo_lives_p_34 K x1 x2 0 S
theorem mo_lives_k_33 {K : Int32 → rb_S → Prop}  (X : rb_X p s m args meth c A Z mo_lives_b 3 "RoomMakerModel" (some .boolean))  {x1 : Int32} {x2 : Int32} {S : rb_S} (h : mo_lives_p_33 K x1 x2 S) : rb_V p l e mo_lives_rm s m args below meth c A (MQ below (va_Qi K (rb_B Z A) A) args s mo_lives_rm.cells mo_lives_rm.slots A) Z 3 33 [(0, .ref (Z.1 23)), (1, .int x1), (2, .int x2)] [.ref (Z.1 23)] S 0 0 := by
  unfold mo_lives_p_33 at h
  refine rb_iconst X 0 mo_lives_d33 (by decide) ?_
  exact mo_lives_k_34 X h
def mo_lives_p_0 (K : Int32 → rb_S → Prop) (x1 : Int32) (x2 : Int32) (S : rb_S) : Prop := mo_isValue_p_0 (fun r2 S2 => (r2 = 0 → mo_lives_p_29 K x1 x2 S2) ∧ (¬ r2 = 0 → ((S2 1 3) = 0 → mo_lives_p_33 K x1 x2 S2) ∧ (¬ (S2 1 3) = 0 → (x2 < 0 → mo_lives_p_29 K x1 x2 S2) ∧ (¬ x2 < 0 → (x2 < (2 * (S2 1 1)) → mo_lives_p_33 K x1 x2 S2) ∧ (¬ x2 < (2 * (S2 1 1)) → mo_lives_p_29 K x1 x2 S2))))) x1 S
theorem mo_lives_k_0 {K : Int32 → rb_S → Prop}  (X : rb_X p s m args meth c A Z mo_lives_b 3 "RoomMakerModel" (some .boolean))  {x1 : Int32} {x2 : Int32} {S : rb_S} (h : mo_lives_p_0 K x1 x2 S) : rb_V p l e mo_lives_rm s m args below meth c A (MQ below (va_Qi K (rb_B Z A) A) args s mo_lives_rm.cells mo_lives_rm.slots A) Z 3 0 [(0, .ref (Z.1 23)), (1, .int x1), (2, .int x2)] [] S 0 0 := by
  unfold mo_lives_p_0 at h
  refine rb_aload_n X 0 mo_lives_d0 rfl 0 rfl ?_
  refine rb_iload_n X 1 mo_lives_d1 rfl 1 rfl ?_
  refine rb_callSi (As := [.int x1]) (rest := [.ref (Z.1 23)]) X (mo_isValue_c l Z h) mo_isValue_w ⟨by decide, by decide⟩ rw_641 rw_642 rfl rfl (Nat.le_of_ble_eq_true rfl) mo_lives_d2 ⟨by decide, by decide⟩ (fun r2 S2 h => ?_)
  refine rb_if_eq X 29 mo_lives_d5 (by decide) (fun hc => ?_) (fun hc => ?_)
  · replace h := h.1 hc
    exact mo_lives_k_29 X h
  · replace h := h.2 hc
    refine rb_aload_n X 0 mo_lives_d8 rfl 0 rfl ?_
    refine mo_g68 X mo_lives_d9 ?_
    refine rb_if_eq X 33 mo_lives_d12 (by decide) (fun hc => ?_) (fun hc => ?_)
    · replace h := h.1 hc
      exact mo_lives_k_33 X h
    · replace h := h.2 hc
      refine rb_iload_n X 2 mo_lives_d15 rfl 2 rfl ?_
      refine rb_if_lt X 29 mo_lives_d16 (by decide) (fun hc => ?_) (fun hc => ?_)
      · replace h := h.1 hc
        exact mo_lives_k_29 X h
      · replace h := h.2 hc
        refine rb_iload_n X 2 mo_lives_d19 rfl 2 rfl ?_
        refine rb_iconst X 2 mo_lives_d20 (by decide) ?_
        refine rb_aload_n X 0 mo_lives_d21 rfl 0 rfl ?_
        refine mo_g65 X mo_lives_d22 ?_
        refine rb_imul X mo_lives_d25 ?_
        refine rb_icmp_lt X 33 mo_lives_d26 (by decide) (fun hc => ?_) (fun hc => ?_)
        · replace h := h.1 hc
          exact mo_lives_k_33 X h
        · replace h := h.2 hc
          exact mo_lives_k_29 X h
theorem mo_lives_c (l : Launch) (Z : rb_Z) {K : Int32 → rb_S → Prop} {x1 : Int32} {x2 : Int32} {S : rb_S} (h : mo_lives_p_0 K x1 x2 S) : rb_Mi l mo_lives_y mo_lives_b 3 (some .boolean) mo_lives_rm Z [.ref (Z.1 23), .int x1, .int x2] S K := rb_startI (by decide) (Nat.le_of_ble_eq_true rfl) (fun p e s m args below meth c A X => mo_lives_k_0 X h)
end
theorem mo_place_d0 : decode mo_place_b 0 = .ok (.aload_n 0, 1) := by decide +kernel
theorem mo_place_d1 : decode mo_place_b 1 = .ok (.iload_n 1, 1) := by decide +kernel
theorem mo_place_d2 : decode mo_place_b 2 = .ok (.invokestatic 51, 3) := by decide +kernel
theorem mo_place_d5 : decode mo_place_b 5 = .ok (.ifCond .eq 7, 3) := by decide +kernel
theorem mo_place_d8 : decode mo_place_b 8 = .ok (.iconst 0, 1) := by decide +kernel
theorem mo_place_d9 : decode mo_place_b 9 = .ok (.goto 4, 3) := by decide +kernel
theorem mo_place_d12 : decode mo_place_b 12 = .ok (.iconst 1, 1) := by decide +kernel
theorem mo_place_d13 : decode mo_place_b 13 = .ok (.putfield 47, 3) := by decide +kernel
theorem mo_place_d16 : decode mo_place_b 16 = .ok (.aload_n 0, 1) := by decide +kernel
theorem mo_place_d17 : decode mo_place_b 17 = .ok (.getfield 47, 3) := by decide +kernel
theorem mo_place_d20 : decode mo_place_b 20 = .ok (.ifCond .le 5, 3) := by decide +kernel
theorem mo_place_d23 : decode mo_place_b 23 = .ok (.iconst 0, 1) := by decide +kernel
theorem mo_place_d24 : decode mo_place_b 24 = .ok (.ireturn, 1) := by decide +kernel
theorem mo_place_d25 : decode mo_place_b 25 = .ok (.aload_n 0, 1) := by decide +kernel
theorem mo_place_d26 : decode mo_place_b 26 = .ok (.getfield 68, 3) := by decide +kernel
theorem mo_place_d29 : decode mo_place_b 29 = .ok (.ifCond .eq 12, 3) := by decide +kernel
theorem mo_place_d32 : decode mo_place_b 32 = .ok (.aload_n 0, 1) := by decide +kernel
theorem mo_place_d33 : decode mo_place_b 33 = .ok (.getfield 32, 3) := by decide +kernel
theorem mo_place_d36 : decode mo_place_b 36 = .ok (.iload_n 1, 1) := by decide +kernel
theorem mo_place_d37 : decode mo_place_b 37 = .ok (.iaload, 1) := by decide +kernel
theorem mo_place_d38 : decode mo_place_b 38 = .ok (.goto 4, 3) := by decide +kernel
theorem mo_place_d41 : decode mo_place_b 41 = .ok (.iconst (-1), 1) := by decide +kernel
theorem mo_place_d42 : decode mo_place_b 42 = .ok (.ireturn, 1) := by decide +kernel
abbrev mo_place_rm : Room := { frames := 1, cells := 0, slots := 0, locals := 20 }
theorem mo_place_w : rb_cw mo_place_y mo_place_b 2 (some .int) 1 := ⟨rw_718, rw_7, ⟨by decide, by decide⟩, by decide +kernel⟩
section
variable {p : Program} {l : Launch} {e : Env} {s : State} {m : MethodId} {args : Array Value} {below : List Frame} {meth : Method} {c : Code} {A : Nat → Prop} {Z : rb_Z}
def mo_place_p_42 (K : Int32 → rb_S → Prop) (x1 : Int32) (y0 : Int32) (S : rb_S) : Prop := K y0 S
theorem mo_place_k_42 {K : Int32 → rb_S → Prop}  (X : rb_X p s m args meth c A Z mo_place_b 2 "RoomMakerModel" (some .int))  {x1 : Int32} {y0 : Int32} {S : rb_S} (h : mo_place_p_42 K x1 y0 S) : rb_V p l e mo_place_rm s m args below meth c A (MQ below (va_Qi K (rb_B Z A) A) args s mo_place_rm.cells mo_place_rm.slots A) Z 2 42 [(0, .ref (Z.1 23)), (1, .int x1)] [.int y0] S 0 0 := by
  unfold mo_place_p_42 at h
  exact rb_iret X mo_place_d42 h
def mo_place_p_13 (K : Int32 → rb_S → Prop) (x1 : Int32) (y0 : Int32) (S : rb_S) : Prop := ∀ S13 : rb_S, S13 = rb_u S 1 0 y0 → (((S13 1 0) ≤ 0 → ((S13 1 3) = 0 → mo_place_p_42 K x1 (-1) S13) ∧ (¬ (S13 1 3) = 0 → vp_in x1 16 ∧ (mo_place_p_42 K x1 (S13 31 x1.toNatClampNeg) S13))) ∧ (¬ (S13 1 0) ≤ 0 → K 0 S13))
theorem mo_place_k_13 {K : Int32 → rb_S → Prop}  (X : rb_X p s m args meth c A Z mo_place_b 2 "RoomMakerModel" (some .int))  {x1 : Int32} {y0 : Int32} {S : rb_S} (h : mo_place_p_13 K x1 y0 S) : rb_V p l e mo_place_rm s m args below meth c A (MQ below (va_Qi K (rb_B Z A) A) args s mo_place_rm.cells mo_place_rm.slots A) Z 2 13 [(0, .ref (Z.1 23)), (1, .int x1)] [.int y0, .ref (Z.1 23)] S 0 0 := by
  unfold mo_place_p_13 at h
  refine mo_q47 X mo_place_d13 (fun S13 e13 => ?_)
  replace h := h S13 e13
  refine rb_aload_n X 0 mo_place_d16 rfl 0 rfl ?_
  refine mo_g47 X mo_place_d17 ?_
  refine rb_if_le X 25 mo_place_d20 (by decide) (fun hc => ?_) (fun hc => ?_)
  · replace h := h.1 hc
    refine rb_aload_n X 0 mo_place_d25 rfl 0 rfl ?_
    refine mo_g68 X mo_place_d26 ?_
    refine rb_if_eq X 41 mo_place_d29 (by decide) (fun hc => ?_) (fun hc => ?_)
    · replace h := h.1 hc
      refine rb_iconst X (-1) mo_place_d41 (by decide) ?_
      exact mo_place_k_42 X h
    · replace h := h.2 hc
      refine rb_aload_n X 0 mo_place_d32 rfl 0 rfl ?_
      refine mo_g32 X mo_place_d33 ?_
      refine rb_iload_n X 1 mo_place_d36 rfl 1 rfl ?_
      obtain ⟨hin, h⟩ := h
      refine rb_iald X 31 (rb_a31 Z) mo_place_d37 hin ?_
      refine rb_goto X 42 mo_place_d38 (by decide) ?_
      exact mo_place_k_42 X h
  · replace h := h.2 hc
    refine rb_iconst X 0 mo_place_d23 (by decide) ?_
    exact rb_iret X mo_place_d24 h
def mo_place_p_0 (K : Int32 → rb_S → Prop) (x1 : Int32) (S : rb_S) : Prop := mo_isValue_p_0 (fun r2 S2 => (r2 = 0 → mo_place_p_13 K x1 1 S2) ∧ (¬ r2 = 0 → mo_place_p_13 K x1 0 S2)) x1 S
theorem mo_place_k_0 {K : Int32 → rb_S → Prop}  (X : rb_X p s m args meth c A Z mo_place_b 2 "RoomMakerModel" (some .int))  {x1 : Int32} {S : rb_S} (h : mo_place_p_0 K x1 S) : rb_V p l e mo_place_rm s m args below meth c A (MQ below (va_Qi K (rb_B Z A) A) args s mo_place_rm.cells mo_place_rm.slots A) Z 2 0 [(0, .ref (Z.1 23)), (1, .int x1)] [] S 0 0 := by
  unfold mo_place_p_0 at h
  refine rb_aload_n X 0 mo_place_d0 rfl 0 rfl ?_
  refine rb_iload_n X 1 mo_place_d1 rfl 1 rfl ?_
  refine rb_callSi (As := [.int x1]) (rest := [.ref (Z.1 23)]) X (mo_isValue_c l Z h) mo_isValue_w ⟨by decide, by decide⟩ rw_641 rw_642 rfl rfl (Nat.le_of_ble_eq_true rfl) mo_place_d2 ⟨by decide, by decide⟩ (fun r2 S2 h => ?_)
  refine rb_if_eq X 12 mo_place_d5 (by decide) (fun hc => ?_) (fun hc => ?_)
  · replace h := h.1 hc
    refine rb_iconst X 1 mo_place_d12 (by decide) ?_
    exact mo_place_k_13 X h
  · replace h := h.2 hc
    refine rb_iconst X 0 mo_place_d8 (by decide) ?_
    refine rb_goto X 13 mo_place_d9 (by decide) ?_
    exact mo_place_k_13 X h
theorem mo_place_c (l : Launch) (Z : rb_Z) {K : Int32 → rb_S → Prop} {x1 : Int32} {S : rb_S} (h : mo_place_p_0 K x1 S) : rb_Mi l mo_place_y mo_place_b 2 (some .int) mo_place_rm Z [.ref (Z.1 23), .int x1] S K := rb_startI (by decide) (Nat.le_of_ble_eq_true rfl) (fun p e s m args below meth c A X => mo_place_k_0 X h)
end
theorem mo_pressure_d0 : decode mo_pressure_b 0 = .ok (.aload_n 0, 1) := by decide +kernel
theorem mo_pressure_d1 : decode mo_pressure_b 1 = .ok (.iconst 0, 1) := by decide +kernel
theorem mo_pressure_d2 : decode mo_pressure_b 2 = .ok (.putfield 47, 3) := by decide +kernel
theorem mo_pressure_d5 : decode mo_pressure_b 5 = .ok (.aload_n 0, 1) := by decide +kernel
theorem mo_pressure_d6 : decode mo_pressure_b 6 = .ok (.getfield 68, 3) := by decide +kernel
theorem mo_pressure_d9 : decode mo_pressure_b 9 = .ok (.ifCond .ne 5, 3) := by decide +kernel
theorem mo_pressure_d12 : decode mo_pressure_b 12 = .ok (.iconst (-1), 1) := by decide +kernel
theorem mo_pressure_d13 : decode mo_pressure_b 13 = .ok (.ireturn, 1) := by decide +kernel
theorem mo_pressure_d14 : decode mo_pressure_b 14 = .ok (.iconst 0, 1) := by decide +kernel
theorem mo_pressure_d15 : decode mo_pressure_b 15 = .ok (.istore_n 1, 1) := by decide +kernel
theorem mo_pressure_d16 : decode mo_pressure_b 16 = .ok (.iconst 0, 1) := by decide +kernel
theorem mo_pressure_d17 : decode mo_pressure_b 17 = .ok (.istore_n 2, 1) := by decide +kernel
theorem mo_pressure_d18 : decode mo_pressure_b 18 = .ok (.iload_n 2, 1) := by decide +kernel
theorem mo_pressure_d19 : decode mo_pressure_b 19 = .ok (.iconst 2, 1) := by decide +kernel
theorem mo_pressure_d20 : decode mo_pressure_b 20 = .ok (.aload_n 0, 1) := by decide +kernel
theorem mo_pressure_d21 : decode mo_pressure_b 21 = .ok (.getfield 65, 3) := by decide +kernel
theorem mo_pressure_d24 : decode mo_pressure_b 24 = .ok (.imul, 1) := by decide +kernel
theorem mo_pressure_d25 : decode mo_pressure_b 25 = .ok (.if_icmp .ge 78, 3) := by decide +kernel
theorem mo_pressure_d28 : decode mo_pressure_b 28 = .ok (.iconst 0, 1) := by decide +kernel
theorem mo_pressure_d29 : decode mo_pressure_b 29 = .ok (.istore_n 3, 1) := by decide +kernel
theorem mo_pressure_d30 : decode mo_pressure_b 30 = .ok (.iconst 0, 1) := by decide +kernel
theorem mo_pressure_d31 : decode mo_pressure_b 31 = .ok (.istore 4, 2) := by decide +kernel
theorem mo_pressure_d33 : decode mo_pressure_b 33 = .ok (.iload 4, 2) := by decide +kernel
theorem mo_pressure_d35 : decode mo_pressure_b 35 = .ok (.bipush 16, 2) := by decide +kernel
theorem mo_pressure_d37 : decode mo_pressure_b 37 = .ok (.if_icmp .ge 49, 3) := by decide +kernel
theorem mo_pressure_d40 : decode mo_pressure_b 40 = .ok (.iload_n 3, 1) := by decide +kernel
theorem mo_pressure_d41 : decode mo_pressure_b 41 = .ok (.aload_n 0, 1) := by decide +kernel
theorem mo_pressure_d42 : decode mo_pressure_b 42 = .ok (.getfield 26, 3) := by decide +kernel
theorem mo_pressure_d45 : decode mo_pressure_b 45 = .ok (.iload 4, 2) := by decide +kernel
theorem mo_pressure_d47 : decode mo_pressure_b 47 = .ok (.iaload, 1) := by decide +kernel
theorem mo_pressure_d48 : decode mo_pressure_b 48 = .ok (.ifCond .lt 29, 3) := by decide +kernel
theorem mo_pressure_d51 : decode mo_pressure_b 51 = .ok (.aload_n 0, 1) := by decide +kernel
theorem mo_pressure_d52 : decode mo_pressure_b 52 = .ok (.getfield 26, 3) := by decide +kernel
theorem mo_pressure_d55 : decode mo_pressure_b 55 = .ok (.iload 4, 2) := by decide +kernel
theorem mo_pressure_d57 : decode mo_pressure_b 57 = .ok (.iaload, 1) := by decide +kernel
theorem mo_pressure_d58 : decode mo_pressure_b 58 = .ok (.iload_n 2, 1) := by decide +kernel
theorem mo_pressure_d59 : decode mo_pressure_b 59 = .ok (.if_icmp .gt 18, 3) := by decide +kernel
theorem mo_pressure_d62 : decode mo_pressure_b 62 = .ok (.aload_n 0, 1) := by decide +kernel
theorem mo_pressure_d63 : decode mo_pressure_b 63 = .ok (.getfield 29, 3) := by decide +kernel
theorem mo_pressure_d66 : decode mo_pressure_b 66 = .ok (.iload 4, 2) := by decide +kernel
theorem mo_pressure_d68 : decode mo_pressure_b 68 = .ok (.iaload, 1) := by decide +kernel
theorem mo_pressure_d69 : decode mo_pressure_b 69 = .ok (.iload_n 2, 1) := by decide +kernel
theorem mo_pressure_d70 : decode mo_pressure_b 70 = .ok (.if_icmp .lt 7, 3) := by decide +kernel
theorem mo_pressure_d73 : decode mo_pressure_b 73 = .ok (.iconst 1, 1) := by decide +kernel
theorem mo_pressure_d74 : decode mo_pressure_b 74 = .ok (.goto 4, 3) := by decide +kernel
theorem mo_pressure_d77 : decode mo_pressure_b 77 = .ok (.iconst 0, 1) := by decide +kernel
theorem mo_pressure_d78 : decode mo_pressure_b 78 = .ok (.iadd, 1) := by decide +kernel
theorem mo_pressure_d79 : decode mo_pressure_b 79 = .ok (.istore_n 3, 1) := by decide +kernel
theorem mo_pressure_d80 : decode mo_pressure_b 80 = .ok (.iinc 4 1, 3) := by decide +kernel
theorem mo_pressure_d83 : decode mo_pressure_b 83 = .ok (.goto (-50), 3) := by decide +kernel
theorem mo_pressure_d86 : decode mo_pressure_b 86 = .ok (.iload_n 3, 1) := by decide +kernel
theorem mo_pressure_d87 : decode mo_pressure_b 87 = .ok (.iload_n 1, 1) := by decide +kernel
theorem mo_pressure_d88 : decode mo_pressure_b 88 = .ok (.if_icmp .le 7, 3) := by decide +kernel
theorem mo_pressure_d91 : decode mo_pressure_b 91 = .ok (.iload_n 3, 1) := by decide +kernel
theorem mo_pressure_d92 : decode mo_pressure_b 92 = .ok (.goto 4, 3) := by decide +kernel
theorem mo_pressure_d95 : decode mo_pressure_b 95 = .ok (.iload_n 1, 1) := by decide +kernel
theorem mo_pressure_d96 : decode mo_pressure_b 96 = .ok (.istore_n 1, 1) := by decide +kernel
theorem mo_pressure_d97 : decode mo_pressure_b 97 = .ok (.iinc 2 1, 3) := by decide +kernel
theorem mo_pressure_d100 : decode mo_pressure_b 100 = .ok (.goto (-82), 3) := by decide +kernel
theorem mo_pressure_d103 : decode mo_pressure_b 103 = .ok (.iload_n 1, 1) := by decide +kernel
theorem mo_pressure_d104 : decode mo_pressure_b 104 = .ok (.ireturn, 1) := by decide +kernel
abbrev mo_pressure_rm : Room := { frames := 0, cells := 0, slots := 0, locals := 0 }
theorem mo_pressure_w : rb_cw mo_pressure_y mo_pressure_b 5 (some .int) 0 := ⟨rw_722, rw_7, ⟨by decide, by decide⟩, by decide +kernel⟩
section
variable {p : Program} {l : Launch} {e : Env} {s : State} {m : MethodId} {args : Array Value} {below : List Frame} {meth : Method} {c : Code} {A : Nat → Prop} {Z : rb_Z}
def mo_pressure_p_103 (K : Int32 → rb_S → Prop) (x1 : Int32) (x2 : Int32) (S : rb_S) : Prop := K x1 S
theorem mo_pressure_k_103 {K : Int32 → rb_S → Prop}  (X : rb_X p s m args meth c A Z mo_pressure_b 5 "RoomMakerModel" (some .int))  {x1 : Int32} {x2 : Int32} {S : rb_S} (h : mo_pressure_p_103 K x1 x2 S) : rb_V p l e mo_pressure_rm s m args below meth c A (MQ below (va_Qi K (rb_B Z A) A) args s mo_pressure_rm.cells mo_pressure_rm.slots A) Z 5 103 [(0, .ref (Z.1 23)), (1, .int x1), (2, .int x2)] [] S 0 0 := by
  unfold mo_pressure_p_103 at h
  refine rb_iload_n X 1 mo_pressure_d103 rfl 1 rfl ?_
  exact rb_iret X mo_pressure_d104 h
def mo_pressure_p_96 (K : Int32 → rb_S → Prop) (B18 : Int32 → Int32 → rb_S → Prop) (x1 : Int32) (x2 : Int32) (x3 : Int32) (x4 : Int32) (y0 : Int32) (S : rb_S) : Prop := ∀ v97 : Int32, v97 = x2 + 1 → (B18 y0 v97 S)
theorem mo_pressure_k_96 {K : Int32 → rb_S → Prop} {B18 : Int32 → Int32 → rb_S → Prop} (X : rb_X p s m args meth c A Z mo_pressure_b 5 "RoomMakerModel" (some .int)) (hB18 : ∀ (x1 : Int32) (x2 : Int32) (S : rb_S), B18 x1 x2 S → rb_V p l e mo_pressure_rm s m args below meth c A (MQ below (va_Qi K (rb_B Z A) A) args s mo_pressure_rm.cells mo_pressure_rm.slots A) Z 5 18 [(0, .ref (Z.1 23)), (1, .int x1), (2, .int x2)] [] S 0 0) {x1 : Int32} {x2 : Int32} {x3 : Int32} {x4 : Int32} {y0 : Int32} {S : rb_S} (h : mo_pressure_p_96 K B18 x1 x2 x3 x4 y0 S) : rb_V p l e mo_pressure_rm s m args below meth c A (MQ below (va_Qi K (rb_B Z A) A) args s mo_pressure_rm.cells mo_pressure_rm.slots A) Z 5 96 [(0, .ref (Z.1 23)), (1, .int x1), (2, .int x2), (3, .int x3), (4, .int x4)] [.int y0] S 0 0 := by
  unfold mo_pressure_p_96 at h
  refine rb_istore_n X 1 [1, 0, 2, 3, 4] (L' := [(0, .ref (Z.1 23)), (1, .int y0), (2, .int x2), (3, .int x3), (4, .int x4)]) mo_pressure_d96 rfl (by decide) rfl ?_
  refine rb_iinc X 1 2 [1, 2, 0, 3, 4] (fun v97 => [(0, .ref (Z.1 23)), (1, .int y0), (2, .int v97), (3, .int x3), (4, .int x4)]) mo_pressure_d97 2 rfl (by decide) (by decide) (fun _ => rfl) (fun v97 e97 => ?_)
  replace h := h v97 e97
  refine rb_goto X 18 mo_pressure_d100 (by decide) ?_
  refine rb_cut [0, 1, 2] (L' := [(0, .ref (Z.1 23)), (1, .int y0), (2, .int v97)]) rfl ?_
  exact hB18 _ _ _ h
def mo_pressure_p_86 (K : Int32 → rb_S → Prop) (B18 : Int32 → Int32 → rb_S → Prop) (x1 : Int32) (x2 : Int32) (x3 : Int32) (x4 : Int32) (S : rb_S) : Prop := (x3 ≤ x1 → mo_pressure_p_96 K B18 x1 x2 x3 x4 x1 S) ∧ (¬ x3 ≤ x1 → mo_pressure_p_96 K B18 x1 x2 x3 x4 x3 S)
theorem mo_pressure_k_86 {K : Int32 → rb_S → Prop} {B18 : Int32 → Int32 → rb_S → Prop} (X : rb_X p s m args meth c A Z mo_pressure_b 5 "RoomMakerModel" (some .int)) (hB18 : ∀ (x1 : Int32) (x2 : Int32) (S : rb_S), B18 x1 x2 S → rb_V p l e mo_pressure_rm s m args below meth c A (MQ below (va_Qi K (rb_B Z A) A) args s mo_pressure_rm.cells mo_pressure_rm.slots A) Z 5 18 [(0, .ref (Z.1 23)), (1, .int x1), (2, .int x2)] [] S 0 0) {x1 : Int32} {x2 : Int32} {x3 : Int32} {x4 : Int32} {S : rb_S} (h : mo_pressure_p_86 K B18 x1 x2 x3 x4 S) : rb_V p l e mo_pressure_rm s m args below meth c A (MQ below (va_Qi K (rb_B Z A) A) args s mo_pressure_rm.cells mo_pressure_rm.slots A) Z 5 86 [(0, .ref (Z.1 23)), (1, .int x1), (2, .int x2), (3, .int x3), (4, .int x4)] [] S 0 0 := by
  unfold mo_pressure_p_86 at h
  refine rb_iload_n X 3 mo_pressure_d86 rfl 3 rfl ?_
  refine rb_iload_n X 1 mo_pressure_d87 rfl 1 rfl ?_
  refine rb_icmp_le X 95 mo_pressure_d88 (by decide) (fun hc => ?_) (fun hc => ?_)
  · replace h := h.1 hc
    refine rb_iload_n X 1 mo_pressure_d95 rfl 1 rfl ?_
    exact mo_pressure_k_96 X hB18 h
  · replace h := h.2 hc
    refine rb_iload_n X 3 mo_pressure_d91 rfl 3 rfl ?_
    refine rb_goto X 96 mo_pressure_d92 (by decide) ?_
    exact mo_pressure_k_96 X hB18 h
def mo_pressure_p_78 (K : Int32 → rb_S → Prop) (B18 : Int32 → Int32 → rb_S → Prop) (B33 : Int32 → Int32 → Int32 → Int32 → rb_S → Prop) (x1 : Int32) (x2 : Int32) (x3 : Int32) (x4 : Int32) (y0 : Int32) (y1 : Int32) (S : rb_S) : Prop := ∀ v79 : Int32, v79 = (y1 + y0) → (∀ v80 : Int32, v80 = x4 + 1 → (B33 x1 x2 v79 v80 S))
theorem mo_pressure_k_78 {K : Int32 → rb_S → Prop} {B18 : Int32 → Int32 → rb_S → Prop} {B33 : Int32 → Int32 → Int32 → Int32 → rb_S → Prop} (X : rb_X p s m args meth c A Z mo_pressure_b 5 "RoomMakerModel" (some .int)) (hB18 : ∀ (x1 : Int32) (x2 : Int32) (S : rb_S), B18 x1 x2 S → rb_V p l e mo_pressure_rm s m args below meth c A (MQ below (va_Qi K (rb_B Z A) A) args s mo_pressure_rm.cells mo_pressure_rm.slots A) Z 5 18 [(0, .ref (Z.1 23)), (1, .int x1), (2, .int x2)] [] S 0 0) (hB33 : ∀ (x1 : Int32) (x2 : Int32) (x3 : Int32) (x4 : Int32) (S : rb_S), B33 x1 x2 x3 x4 S → rb_V p l e mo_pressure_rm s m args below meth c A (MQ below (va_Qi K (rb_B Z A) A) args s mo_pressure_rm.cells mo_pressure_rm.slots A) Z 5 33 [(0, .ref (Z.1 23)), (1, .int x1), (2, .int x2), (3, .int x3), (4, .int x4)] [] S 0 0) {x1 : Int32} {x2 : Int32} {x3 : Int32} {x4 : Int32} {y0 : Int32} {y1 : Int32} {S : rb_S} (h : mo_pressure_p_78 K B18 B33 x1 x2 x3 x4 y0 y1 S) : rb_V p l e mo_pressure_rm s m args below meth c A (MQ below (va_Qi K (rb_B Z A) A) args s mo_pressure_rm.cells mo_pressure_rm.slots A) Z 5 78 [(0, .ref (Z.1 23)), (1, .int x1), (2, .int x2), (3, .int x3), (4, .int x4)] [.int y0, .int y1] S 0 0 := by
  unfold mo_pressure_p_78 at h
  refine rb_iadd X mo_pressure_d78 ?_
  refine rb_topi (fun v79 e79 => ?_)
  replace h := h v79 e79
  refine rb_istore_n X 3 [1, 2, 3, 0, 4] (L' := [(0, .ref (Z.1 23)), (1, .int x1), (2, .int x2), (3, .int v79), (4, .int x4)]) mo_pressure_d79 rfl (by decide) rfl ?_
  refine rb_iinc X 1 4 [1, 2, 3, 4, 0] (fun v80 => [(0, .ref (Z.1 23)), (1, .int x1), (2, .int x2), (3, .int v79), (4, .int v80)]) mo_pressure_d80 4 rfl (by decide) (by decide) (fun _ => rfl) (fun v80 e80 => ?_)
  replace h := h v80 e80
  refine rb_goto X 33 mo_pressure_d83 (by decide) ?_
  exact hB33 _ _ _ _ _ h
def mo_pressure_p_77 (K : Int32 → rb_S → Prop) (B18 : Int32 → Int32 → rb_S → Prop) (B33 : Int32 → Int32 → Int32 → Int32 → rb_S → Prop) (x1 : Int32) (x2 : Int32) (x3 : Int32) (x4 : Int32) (y0 : Int32) (S : rb_S) : Prop := mo_pressure_p_78 K B18 B33 x1 x2 x3 x4 0 y0 S
theorem mo_pressure_k_77 {K : Int32 → rb_S → Prop} {B18 : Int32 → Int32 → rb_S → Prop} {B33 : Int32 → Int32 → Int32 → Int32 → rb_S → Prop} (X : rb_X p s m args meth c A Z mo_pressure_b 5 "RoomMakerModel" (some .int)) (hB18 : ∀ (x1 : Int32) (x2 : Int32) (S : rb_S), B18 x1 x2 S → rb_V p l e mo_pressure_rm s m args below meth c A (MQ below (va_Qi K (rb_B Z A) A) args s mo_pressure_rm.cells mo_pressure_rm.slots A) Z 5 18 [(0, .ref (Z.1 23)), (1, .int x1), (2, .int x2)] [] S 0 0) (hB33 : ∀ (x1 : Int32) (x2 : Int32) (x3 : Int32) (x4 : Int32) (S : rb_S), B33 x1 x2 x3 x4 S → rb_V p l e mo_pressure_rm s m args below meth c A (MQ below (va_Qi K (rb_B Z A) A) args s mo_pressure_rm.cells mo_pressure_rm.slots A) Z 5 33 [(0, .ref (Z.1 23)), (1, .int x1), (2, .int x2), (3, .int x3), (4, .int x4)] [] S 0 0) {x1 : Int32} {x2 : Int32} {x3 : Int32} {x4 : Int32} {y0 : Int32} {S : rb_S} (h : mo_pressure_p_77 K B18 B33 x1 x2 x3 x4 y0 S) : rb_V p l e mo_pressure_rm s m args below meth c A (MQ below (va_Qi K (rb_B Z A) A) args s mo_pressure_rm.cells mo_pressure_rm.slots A) Z 5 77 [(0, .ref (Z.1 23)), (1, .int x1), (2, .int x2), (3, .int x3), (4, .int x4)] [.int y0] S 0 0 := by
  unfold mo_pressure_p_77 at h
  refine rb_iconst X 0 mo_pressure_d77 (by decide) ?_
  exact mo_pressure_k_78 X hB18 hB33 h
def mo_pressure_p_33 (K : Int32 → rb_S → Prop) (B18 : Int32 → Int32 → rb_S → Prop) : Nat → Int32 → Int32 → Int32 → Int32 → rb_S → Prop
  | 0, _, _, _, _, _ => False
  | n33 + 1, x1, x2, x3, x4, S => (16 ≤ x4 → mo_pressure_p_86 K B18 x1 x2 x3 x4 S) ∧ (¬ 16 ≤ x4 → vp_in x4 16 ∧ (((S 29 x4.toNatClampNeg) < 0 → mo_pressure_p_77 K B18 (fun a0 a1 a2 a3 T => mo_pressure_p_33 K B18 n33 a0 a1 a2 a3 T) x1 x2 x3 x4 x3 S) ∧ (¬ (S 29 x4.toNatClampNeg) < 0 → vp_in x4 16 ∧ ((x2 < (S 29 x4.toNatClampNeg) → mo_pressure_p_77 K B18 (fun a0 a1 a2 a3 T => mo_pressure_p_33 K B18 n33 a0 a1 a2 a3 T) x1 x2 x3 x4 x3 S) ∧ (¬ x2 < (S 29 x4.toNatClampNeg) → vp_in x4 16 ∧ (((S 30 x4.toNatClampNeg) < x2 → mo_pressure_p_77 K B18 (fun a0 a1 a2 a3 T => mo_pressure_p_33 K B18 n33 a0 a1 a2 a3 T) x1 x2 x3 x4 x3 S) ∧ (¬ (S 30 x4.toNatClampNeg) < x2 → mo_pressure_p_78 K B18 (fun a0 a1 a2 a3 T => mo_pressure_p_33 K B18 n33 a0 a1 a2 a3 T) x1 x2 x3 x4 1 x3 S)))))))
theorem mo_pressure_k_33 {K : Int32 → rb_S → Prop} {B18 : Int32 → Int32 → rb_S → Prop} (X : rb_X p s m args meth c A Z mo_pressure_b 5 "RoomMakerModel" (some .int)) (hB18 : ∀ (x1 : Int32) (x2 : Int32) (S : rb_S), B18 x1 x2 S → rb_V p l e mo_pressure_rm s m args below meth c A (MQ below (va_Qi K (rb_B Z A) A) args s mo_pressure_rm.cells mo_pressure_rm.slots A) Z 5 18 [(0, .ref (Z.1 23)), (1, .int x1), (2, .int x2)] [] S 0 0) : ∀ (n : Nat) (x1 : Int32) (x2 : Int32) (x3 : Int32) (x4 : Int32) (S : rb_S), mo_pressure_p_33 K B18 n x1 x2 x3 x4 S → rb_V p l e mo_pressure_rm s m args below meth c A (MQ below (va_Qi K (rb_B Z A) A) args s mo_pressure_rm.cells mo_pressure_rm.slots A) Z 5 33 [(0, .ref (Z.1 23)), (1, .int x1), (2, .int x2), (3, .int x3), (4, .int x4)] [] S 0 0 := by
  intro n
  induction n with
  | zero =>
    intro x1 x2 x3 x4 S h
    exact (show False from h).elim
  | succ n ih =>
    intro x1 x2 x3 x4 S h
    have hB33 := ih
    rw [mo_pressure_p_33] at h
    refine rb_iload X 4 mo_pressure_d33 4 rfl ?_
    refine rb_bipush X 16 mo_pressure_d35 (by decide) ?_
    refine rb_icmp_ge X 86 mo_pressure_d37 (by decide) (fun hc => ?_) (fun hc => ?_)
    · replace h := h.1 hc
      exact mo_pressure_k_86 X hB18 h
    · replace h := h.2 hc
      refine rb_iload_n X 3 mo_pressure_d40 rfl 3 rfl ?_
      refine rb_aload_n X 0 mo_pressure_d41 rfl 0 rfl ?_
      refine mo_g26 X mo_pressure_d42 ?_
      refine rb_iload X 4 mo_pressure_d45 4 rfl ?_
      obtain ⟨hin, h⟩ := h
      refine rb_iald X 29 (rb_a29 Z) mo_pressure_d47 hin ?_
      refine rb_if_lt X 77 mo_pressure_d48 (by decide) (fun hc => ?_) (fun hc => ?_)
      · replace h := h.1 hc
        exact mo_pressure_k_77 X hB18 hB33 h
      · replace h := h.2 hc
        refine rb_aload_n X 0 mo_pressure_d51 rfl 0 rfl ?_
        refine mo_g26 X mo_pressure_d52 ?_
        refine rb_iload X 4 mo_pressure_d55 4 rfl ?_
        obtain ⟨hin, h⟩ := h
        refine rb_iald X 29 (rb_a29 Z) mo_pressure_d57 hin ?_
        refine rb_iload_n X 2 mo_pressure_d58 rfl 2 rfl ?_
        refine rb_icmp_gt X 77 mo_pressure_d59 (by decide) (fun hc => ?_) (fun hc => ?_)
        · replace h := h.1 hc
          exact mo_pressure_k_77 X hB18 hB33 h
        · replace h := h.2 hc
          refine rb_aload_n X 0 mo_pressure_d62 rfl 0 rfl ?_
          refine mo_g29 X mo_pressure_d63 ?_
          refine rb_iload X 4 mo_pressure_d66 4 rfl ?_
          obtain ⟨hin, h⟩ := h
          refine rb_iald X 30 (rb_a30 Z) mo_pressure_d68 hin ?_
          refine rb_iload_n X 2 mo_pressure_d69 rfl 2 rfl ?_
          refine rb_icmp_lt X 77 mo_pressure_d70 (by decide) (fun hc => ?_) (fun hc => ?_)
          · replace h := h.1 hc
            exact mo_pressure_k_77 X hB18 hB33 h
          · replace h := h.2 hc
            refine rb_iconst X 1 mo_pressure_d73 (by decide) ?_
            refine rb_goto X 78 mo_pressure_d74 (by decide) ?_
            exact mo_pressure_k_78 X hB18 hB33 h
def mo_pressure_p_18 (K : Int32 → rb_S → Prop) : Nat → Int32 → Int32 → rb_S → Prop
  | 0, _, _, _ => False
  | n18 + 1, x1, x2, S => ((2 * (S 1 1)) ≤ x2 → mo_pressure_p_103 K x1 x2 S) ∧ (¬ (2 * (S 1 1)) ≤ x2 → ∃ j33 : Nat, mo_pressure_p_33 K (fun a0 a1 T => mo_pressure_p_18 K n18 a0 a1 T) j33 x1 x2 0 0 S)
theorem mo_pressure_k_18 {K : Int32 → rb_S → Prop}  (X : rb_X p s m args meth c A Z mo_pressure_b 5 "RoomMakerModel" (some .int))  : ∀ (n : Nat) (x1 : Int32) (x2 : Int32) (S : rb_S), mo_pressure_p_18 K n x1 x2 S → rb_V p l e mo_pressure_rm s m args below meth c A (MQ below (va_Qi K (rb_B Z A) A) args s mo_pressure_rm.cells mo_pressure_rm.slots A) Z 5 18 [(0, .ref (Z.1 23)), (1, .int x1), (2, .int x2)] [] S 0 0 := by
  intro n
  induction n with
  | zero =>
    intro x1 x2 S h
    exact (show False from h).elim
  | succ n ih =>
    intro x1 x2 S h
    have hB18 := ih
    rw [mo_pressure_p_18] at h
    refine rb_iload_n X 2 mo_pressure_d18 rfl 2 rfl ?_
    refine rb_iconst X 2 mo_pressure_d19 (by decide) ?_
    refine rb_aload_n X 0 mo_pressure_d20 rfl 0 rfl ?_
    refine mo_g65 X mo_pressure_d21 ?_
    refine rb_imul X mo_pressure_d24 ?_
    refine rb_icmp_ge X 103 mo_pressure_d25 (by decide) (fun hc => ?_) (fun hc => ?_)
    · replace h := h.1 hc
      exact mo_pressure_k_103 X h
    · replace h := h.2 hc
      refine rb_iconst X 0 mo_pressure_d28 (by decide) ?_
      refine rb_istore_n X 3 [1, 2, 3, 0] (L' := [(0, .ref (Z.1 23)), (1, .int x1), (2, .int x2), (3, .int 0)]) mo_pressure_d29 rfl (by decide) rfl ?_
      refine rb_iconst X 0 mo_pressure_d30 (by decide) ?_
      refine rb_istore X 4 [1, 2, 3, 4, 0] (L' := [(0, .ref (Z.1 23)), (1, .int x1), (2, .int x2), (3, .int 0), (4, .int 0)]) mo_pressure_d31 (by decide) rfl ?_
      obtain ⟨j33, h⟩ := h
      exact mo_pressure_k_33 X hB18 j33 _ _ _ _ _ h
def mo_pressure_p_0 (K : Int32 → rb_S → Prop)  (S : rb_S) : Prop := ∀ S2 : rb_S, S2 = rb_u S 1 0 0 → ((¬ (S2 1 3) = 0 → ∃ j18 : Nat, mo_pressure_p_18 K j18 0 0 S2) ∧ ((S2 1 3) = 0 → K (-1) S2))
theorem mo_pressure_k_0 {K : Int32 → rb_S → Prop}  (X : rb_X p s m args meth c A Z mo_pressure_b 5 "RoomMakerModel" (some .int))   {S : rb_S} (h : mo_pressure_p_0 K S) : rb_V p l e mo_pressure_rm s m args below meth c A (MQ below (va_Qi K (rb_B Z A) A) args s mo_pressure_rm.cells mo_pressure_rm.slots A) Z 5 0 [(0, .ref (Z.1 23))] [] S 0 0 := by
  unfold mo_pressure_p_0 at h
  refine rb_aload_n X 0 mo_pressure_d0 rfl 0 rfl ?_
  refine rb_iconst X 0 mo_pressure_d1 (by decide) ?_
  refine mo_q47 X mo_pressure_d2 (fun S2 e2 => ?_)
  replace h := h S2 e2
  refine rb_aload_n X 0 mo_pressure_d5 rfl 0 rfl ?_
  refine mo_g68 X mo_pressure_d6 ?_
  refine rb_if_ne X 14 mo_pressure_d9 (by decide) (fun hc => ?_) (fun hc => ?_)
  · replace h := h.1 hc
    refine rb_iconst X 0 mo_pressure_d14 (by decide) ?_
    refine rb_istore_n X 1 [1, 0] (L' := [(0, .ref (Z.1 23)), (1, .int 0)]) mo_pressure_d15 rfl (by decide) rfl ?_
    refine rb_iconst X 0 mo_pressure_d16 (by decide) ?_
    refine rb_istore_n X 2 [1, 2, 0] (L' := [(0, .ref (Z.1 23)), (1, .int 0), (2, .int 0)]) mo_pressure_d17 rfl (by decide) rfl ?_
    obtain ⟨j18, h⟩ := h
    exact mo_pressure_k_18 X j18 _ _ _ h
  · replace h := h.2 hc
    refine rb_iconst X (-1) mo_pressure_d12 (by decide) ?_
    exact rb_iret X mo_pressure_d13 h
theorem mo_pressure_c (l : Launch) (Z : rb_Z) {K : Int32 → rb_S → Prop}  {S : rb_S} (h : mo_pressure_p_0 K S) : rb_Mi l mo_pressure_y mo_pressure_b 5 (some .int) mo_pressure_rm Z [.ref (Z.1 23)] S K := rb_startI (by decide) (Nat.le_of_ble_eq_true rfl) (fun p e s m args below meth c A X => mo_pressure_k_0 X h)
end
theorem mo_get_d0 : decode mo_get_b 0 = .ok (.aload_n 0, 1) := by decide +kernel
theorem mo_get_d1 : decode mo_get_b 1 = .ok (.getfield 32, 3) := by decide +kernel
theorem mo_get_d4 : decode mo_get_b 4 = .ok (.iload_n 1, 1) := by decide +kernel
theorem mo_get_d5 : decode mo_get_b 5 = .ok (.iaload, 1) := by decide +kernel
theorem mo_get_d6 : decode mo_get_b 6 = .ok (.istore_n 2, 1) := by decide +kernel
theorem mo_get_d7 : decode mo_get_b 7 = .ok (.iload_n 2, 1) := by decide +kernel
theorem mo_get_d8 : decode mo_get_b 8 = .ok (.bipush 16, 2) := by decide +kernel
theorem mo_get_d10 : decode mo_get_b 10 = .ok (.if_icmp .ge 10, 3) := by decide +kernel
theorem mo_get_d13 : decode mo_get_b 13 = .ok (.aload_n 0, 1) := by decide +kernel
theorem mo_get_d14 : decode mo_get_b 14 = .ok (.getfield 35, 3) := by decide +kernel
theorem mo_get_d17 : decode mo_get_b 17 = .ok (.iload_n 2, 1) := by decide +kernel
theorem mo_get_d18 : decode mo_get_b 18 = .ok (.iaload, 1) := by decide +kernel
theorem mo_get_d19 : decode mo_get_b 19 = .ok (.ireturn, 1) := by decide +kernel
theorem mo_get_d20 : decode mo_get_b 20 = .ok (.aload_n 0, 1) := by decide +kernel
theorem mo_get_d21 : decode mo_get_b 21 = .ok (.dup, 1) := by decide +kernel
theorem mo_get_d22 : decode mo_get_b 22 = .ok (.getfield 129, 3) := by decide +kernel
theorem mo_get_d25 : decode mo_get_b 25 = .ok (.iconst 1, 1) := by decide +kernel
theorem mo_get_d26 : decode mo_get_b 26 = .ok (.iadd, 1) := by decide +kernel
theorem mo_get_d27 : decode mo_get_b 27 = .ok (.putfield 129, 3) := by decide +kernel
theorem mo_get_d30 : decode mo_get_b 30 = .ok (.aload_n 0, 1) := by decide +kernel
theorem mo_get_d31 : decode mo_get_b 31 = .ok (.getfield 38, 3) := by decide +kernel
theorem mo_get_d34 : decode mo_get_b 34 = .ok (.iload_n 2, 1) := by decide +kernel
theorem mo_get_d35 : decode mo_get_b 35 = .ok (.bipush 16, 2) := by decide +kernel
theorem mo_get_d37 : decode mo_get_b 37 = .ok (.isub, 1) := by decide +kernel
theorem mo_get_d38 : decode mo_get_b 38 = .ok (.iaload, 1) := by decide +kernel
theorem mo_get_d39 : decode mo_get_b 39 = .ok (.ireturn, 1) := by decide +kernel
abbrev mo_get_rm : Room := { frames := 0, cells := 0, slots := 0, locals := 0 }
theorem mo_get_w : rb_cw mo_get_y mo_get_b 3 (some .int) 1 := ⟨rw_738, rw_7, ⟨by decide, by decide⟩, by decide +kernel⟩
section
variable {p : Program} {l : Launch} {e : Env} {s : State} {m : MethodId} {args : Array Value} {below : List Frame} {meth : Method} {c : Code} {A : Nat → Prop} {Z : rb_Z}
def mo_get_p_0 (K : Int32 → rb_S → Prop) (x1 : Int32) (S : rb_S) : Prop := vp_in x1 16 ∧ (∀ v6 : Int32, v6 = (S 31 x1.toNatClampNeg) → ((16 ≤ v6 → ∀ S27 : rb_S, S27 = rb_u S 1 8 ((S 1 8) + 1) → (vp_in (v6 - 16) 16 ∧ (K (S27 33 (v6 - 16).toNatClampNeg) S27))) ∧ (¬ 16 ≤ v6 → vp_in v6 8 ∧ (K (S 32 v6.toNatClampNeg) S))))
theorem mo_get_k_0 {K : Int32 → rb_S → Prop}  (X : rb_X p s m args meth c A Z mo_get_b 3 "RoomMakerModel" (some .int))  {x1 : Int32} {S : rb_S} (h : mo_get_p_0 K x1 S) : rb_V p l e mo_get_rm s m args below meth c A (MQ below (va_Qi K (rb_B Z A) A) args s mo_get_rm.cells mo_get_rm.slots A) Z 3 0 [(0, .ref (Z.1 23)), (1, .int x1)] [] S 0 0 := by
  unfold mo_get_p_0 at h
  refine rb_aload_n X 0 mo_get_d0 rfl 0 rfl ?_
  refine mo_g32 X mo_get_d1 ?_
  refine rb_iload_n X 1 mo_get_d4 rfl 1 rfl ?_
  obtain ⟨hin, h⟩ := h
  refine rb_iald X 31 (rb_a31 Z) mo_get_d5 hin ?_
  refine rb_topi (fun v6 e6 => ?_)
  replace h := h v6 e6
  refine rb_istore_n X 2 [1, 2, 0] (L' := [(0, .ref (Z.1 23)), (1, .int x1), (2, .int v6)]) mo_get_d6 rfl (by decide) rfl ?_
  refine rb_iload_n X 2 mo_get_d7 rfl 2 rfl ?_
  refine rb_bipush X 16 mo_get_d8 (by decide) ?_
  refine rb_icmp_ge X 20 mo_get_d10 (by decide) (fun hc => ?_) (fun hc => ?_)
  · replace h := h.1 hc
    refine rb_aload_n X 0 mo_get_d20 rfl 0 rfl ?_
    refine rb_dup X mo_get_d21 rfl ?_
    refine mo_g129 X mo_get_d22 ?_
    refine rb_iconst X 1 mo_get_d25 (by decide) ?_
    refine rb_iadd X mo_get_d26 ?_
    refine mo_q129 X mo_get_d27 (fun S27 e27 => ?_)
    replace h := h S27 e27
    refine rb_aload_n X 0 mo_get_d30 rfl 0 rfl ?_
    refine mo_g38 X mo_get_d31 ?_
    refine rb_iload_n X 2 mo_get_d34 rfl 2 rfl ?_
    refine rb_bipush X 16 mo_get_d35 (by decide) ?_
    refine rb_isub X mo_get_d37 ?_
    obtain ⟨hin, h⟩ := h
    refine rb_iald X 33 (rb_a33 Z) mo_get_d38 hin ?_
    exact rb_iret X mo_get_d39 h
  · replace h := h.2 hc
    refine rb_aload_n X 0 mo_get_d13 rfl 0 rfl ?_
    refine mo_g35 X mo_get_d14 ?_
    refine rb_iload_n X 2 mo_get_d17 rfl 2 rfl ?_
    obtain ⟨hin, h⟩ := h
    refine rb_iald X 32 (rb_a32 Z) mo_get_d18 hin ?_
    exact rb_iret X mo_get_d19 h
theorem mo_get_c (l : Launch) (Z : rb_Z) {K : Int32 → rb_S → Prop} {x1 : Int32} {S : rb_S} (h : mo_get_p_0 K x1 S) : rb_Mi l mo_get_y mo_get_b 3 (some .int) mo_get_rm Z [.ref (Z.1 23), .int x1] S K := rb_startI (by decide) (Nat.le_of_ble_eq_true rfl) (fun p e s m args below meth c A X => mo_get_k_0 X h)
end
theorem mo_bring_d0 : decode mo_bring_b 0 = .ok (.aload_n 0, 1) := by decide +kernel
theorem mo_bring_d1 : decode mo_bring_b 1 = .ok (.getfield 32, 3) := by decide +kernel
theorem mo_bring_d4 : decode mo_bring_b 4 = .ok (.iload_n 1, 1) := by decide +kernel
theorem mo_bring_d5 : decode mo_bring_b 5 = .ok (.iaload, 1) := by decide +kernel
theorem mo_bring_d6 : decode mo_bring_b 6 = .ok (.istore_n 3, 1) := by decide +kernel
theorem mo_bring_d7 : decode mo_bring_b 7 = .ok (.iload_n 3, 1) := by decide +kernel
theorem mo_bring_d8 : decode mo_bring_b 8 = .ok (.bipush 16, 2) := by decide +kernel
theorem mo_bring_d10 : decode mo_bring_b 10 = .ok (.if_icmp .ge 11, 3) := by decide +kernel
theorem mo_bring_d13 : decode mo_bring_b 13 = .ok (.aload_n 0, 1) := by decide +kernel
theorem mo_bring_d14 : decode mo_bring_b 14 = .ok (.getfield 35, 3) := by decide +kernel
theorem mo_bring_d17 : decode mo_bring_b 17 = .ok (.iload_n 3, 1) := by decide +kernel
theorem mo_bring_d18 : decode mo_bring_b 18 = .ok (.iload_n 2, 1) := by decide +kernel
theorem mo_bring_d19 : decode mo_bring_b 19 = .ok (.iastore, 1) := by decide +kernel
theorem mo_bring_d20 : decode mo_bring_b 20 = .ok (.return_, 1) := by decide +kernel
theorem mo_bring_d21 : decode mo_bring_b 21 = .ok (.aload_n 0, 1) := by decide +kernel
theorem mo_bring_d22 : decode mo_bring_b 22 = .ok (.dup, 1) := by decide +kernel
theorem mo_bring_d23 : decode mo_bring_b 23 = .ok (.getfield 132, 3) := by decide +kernel
theorem mo_bring_d26 : decode mo_bring_b 26 = .ok (.iconst 1, 1) := by decide +kernel
theorem mo_bring_d27 : decode mo_bring_b 27 = .ok (.iadd, 1) := by decide +kernel
theorem mo_bring_d28 : decode mo_bring_b 28 = .ok (.putfield 132, 3) := by decide +kernel
theorem mo_bring_d31 : decode mo_bring_b 31 = .ok (.aload_n 0, 1) := by decide +kernel
theorem mo_bring_d32 : decode mo_bring_b 32 = .ok (.getfield 38, 3) := by decide +kernel
theorem mo_bring_d35 : decode mo_bring_b 35 = .ok (.iload_n 3, 1) := by decide +kernel
theorem mo_bring_d36 : decode mo_bring_b 36 = .ok (.bipush 16, 2) := by decide +kernel
theorem mo_bring_d38 : decode mo_bring_b 38 = .ok (.isub, 1) := by decide +kernel
theorem mo_bring_d39 : decode mo_bring_b 39 = .ok (.iload_n 2, 1) := by decide +kernel
theorem mo_bring_d40 : decode mo_bring_b 40 = .ok (.iastore, 1) := by decide +kernel
theorem mo_bring_d41 : decode mo_bring_b 41 = .ok (.return_, 1) := by decide +kernel
abbrev mo_bring_rm : Room := { frames := 0, cells := 0, slots := 0, locals := 0 }
theorem mo_bring_w : rb_cw mo_bring_y mo_bring_b 4 none 2 := ⟨rw_742, rw_7, ⟨by decide, by decide⟩, by decide +kernel⟩
section
variable {p : Program} {l : Launch} {e : Env} {s : State} {m : MethodId} {args : Array Value} {below : List Frame} {meth : Method} {c : Code} {A : Nat → Prop} {Z : rb_Z}
def mo_bring_p_0 (K : rb_S → Prop) (x1 : Int32) (x2 : Int32) (S : rb_S) : Prop := vp_in x1 16 ∧ (∀ v6 : Int32, v6 = (S 31 x1.toNatClampNeg) → ((16 ≤ v6 → ∀ S28 : rb_S, S28 = rb_u S 1 9 ((S 1 9) + 1) → (vp_in (v6 - 16) 16 ∧ ∀ S40 : rb_S, S40 = rb_u S28 33 (v6 - 16).toNatClampNeg x2 → (K S40))) ∧ (¬ 16 ≤ v6 → vp_in v6 8 ∧ ∀ S19 : rb_S, S19 = rb_u S 32 v6.toNatClampNeg x2 → (K S19))))
theorem mo_bring_k_0 {K : rb_S → Prop}  (X : rb_X p s m args meth c A Z mo_bring_b 4 "RoomMakerModel" none)  {x1 : Int32} {x2 : Int32} {S : rb_S} (h : mo_bring_p_0 K x1 x2 S) : rb_V p l e mo_bring_rm s m args below meth c A (MQ below (va_Qv K (rb_B Z A) A) args s mo_bring_rm.cells mo_bring_rm.slots A) Z 4 0 [(0, .ref (Z.1 23)), (1, .int x1), (2, .int x2)] [] S 0 0 := by
  unfold mo_bring_p_0 at h
  refine rb_aload_n X 0 mo_bring_d0 rfl 0 rfl ?_
  refine mo_g32 X mo_bring_d1 ?_
  refine rb_iload_n X 1 mo_bring_d4 rfl 1 rfl ?_
  obtain ⟨hin, h⟩ := h
  refine rb_iald X 31 (rb_a31 Z) mo_bring_d5 hin ?_
  refine rb_topi (fun v6 e6 => ?_)
  replace h := h v6 e6
  refine rb_istore_n X 3 [1, 2, 3, 0] (L' := [(0, .ref (Z.1 23)), (1, .int x1), (2, .int x2), (3, .int v6)]) mo_bring_d6 rfl (by decide) rfl ?_
  refine rb_iload_n X 3 mo_bring_d7 rfl 3 rfl ?_
  refine rb_bipush X 16 mo_bring_d8 (by decide) ?_
  refine rb_icmp_ge X 21 mo_bring_d10 (by decide) (fun hc => ?_) (fun hc => ?_)
  · replace h := h.1 hc
    refine rb_aload_n X 0 mo_bring_d21 rfl 0 rfl ?_
    refine rb_dup X mo_bring_d22 rfl ?_
    refine mo_g132 X mo_bring_d23 ?_
    refine rb_iconst X 1 mo_bring_d26 (by decide) ?_
    refine rb_iadd X mo_bring_d27 ?_
    refine mo_q132 X mo_bring_d28 (fun S28 e28 => ?_)
    replace h := h S28 e28
    refine rb_aload_n X 0 mo_bring_d31 rfl 0 rfl ?_
    refine mo_g38 X mo_bring_d32 ?_
    refine rb_iload_n X 3 mo_bring_d35 rfl 3 rfl ?_
    refine rb_bipush X 16 mo_bring_d36 (by decide) ?_
    refine rb_isub X mo_bring_d38 ?_
    refine rb_iload_n X 2 mo_bring_d39 rfl 2 rfl ?_
    obtain ⟨hin, h⟩ := h
    refine rb_iast X 33 (rb_a33 Z) mo_bring_d40 hin (fun S40 e40 => ?_)
    replace h := h S40 e40
    exact rb_vret X mo_bring_d41 h
  · replace h := h.2 hc
    refine rb_aload_n X 0 mo_bring_d13 rfl 0 rfl ?_
    refine mo_g35 X mo_bring_d14 ?_
    refine rb_iload_n X 3 mo_bring_d17 rfl 3 rfl ?_
    refine rb_iload_n X 2 mo_bring_d18 rfl 2 rfl ?_
    obtain ⟨hin, h⟩ := h
    refine rb_iast X 32 (rb_a32 Z) mo_bring_d19 hin (fun S19 e19 => ?_)
    replace h := h S19 e19
    exact rb_vret X mo_bring_d20 h
theorem mo_bring_c (l : Launch) (Z : rb_Z) {K : rb_S → Prop} {x1 : Int32} {x2 : Int32} {S : rb_S} (h : mo_bring_p_0 K x1 x2 S) : rb_Mv l mo_bring_y mo_bring_b 4 mo_bring_rm Z [.ref (Z.1 23), .int x1, .int x2] S K := rb_startV (by decide) (Nat.le_of_ble_eq_true rfl) (fun p e s m args below meth c A X => mo_bring_k_0 X h)
end
theorem mo_copy_d0 : decode mo_copy_b 0 = .ok (.aload_n 0, 1) := by decide +kernel
theorem mo_copy_d1 : decode mo_copy_b 1 = .ok (.getfield 32, 3) := by decide +kernel
theorem mo_copy_d4 : decode mo_copy_b 4 = .ok (.iload_n 1, 1) := by decide +kernel
theorem mo_copy_d5 : decode mo_copy_b 5 = .ok (.iaload, 1) := by decide +kernel
theorem mo_copy_d6 : decode mo_copy_b 6 = .ok (.aload_n 0, 1) := by decide +kernel
theorem mo_copy_d7 : decode mo_copy_b 7 = .ok (.getfield 32, 3) := by decide +kernel
theorem mo_copy_d10 : decode mo_copy_b 10 = .ok (.iload_n 2, 1) := by decide +kernel
theorem mo_copy_d11 : decode mo_copy_b 11 = .ok (.iaload, 1) := by decide +kernel
theorem mo_copy_d12 : decode mo_copy_b 12 = .ok (.if_icmp .ne 25, 3) := by decide +kernel
theorem mo_copy_d15 : decode mo_copy_b 15 = .ok (.aload_n 0, 1) := by decide +kernel
theorem mo_copy_d16 : decode mo_copy_b 16 = .ok (.getfield 32, 3) := by decide +kernel
theorem mo_copy_d19 : decode mo_copy_b 19 = .ok (.iload_n 1, 1) := by decide +kernel
theorem mo_copy_d20 : decode mo_copy_b 20 = .ok (.iaload, 1) := by decide +kernel
theorem mo_copy_d21 : decode mo_copy_b 21 = .ok (.bipush 16, 2) := by decide +kernel
theorem mo_copy_d23 : decode mo_copy_b 23 = .ok (.if_icmp .ge 14, 3) := by decide +kernel
theorem mo_copy_d26 : decode mo_copy_b 26 = .ok (.aload_n 0, 1) := by decide +kernel
theorem mo_copy_d27 : decode mo_copy_b 27 = .ok (.dup, 1) := by decide +kernel
theorem mo_copy_d28 : decode mo_copy_b 28 = .ok (.getfield 135, 3) := by decide +kernel
theorem mo_copy_d31 : decode mo_copy_b 31 = .ok (.iconst 1, 1) := by decide +kernel
theorem mo_copy_d32 : decode mo_copy_b 32 = .ok (.iadd, 1) := by decide +kernel
theorem mo_copy_d33 : decode mo_copy_b 33 = .ok (.putfield 135, 3) := by decide +kernel
theorem mo_copy_d36 : decode mo_copy_b 36 = .ok (.return_, 1) := by decide +kernel
theorem mo_copy_d37 : decode mo_copy_b 37 = .ok (.aload_n 0, 1) := by decide +kernel
theorem mo_copy_d38 : decode mo_copy_b 38 = .ok (.iload_n 2, 1) := by decide +kernel
theorem mo_copy_d39 : decode mo_copy_b 39 = .ok (.invokevirtual 138, 3) := by decide +kernel
theorem mo_copy_d42 : decode mo_copy_b 42 = .ok (.istore_n 3, 1) := by decide +kernel
theorem mo_copy_d43 : decode mo_copy_b 43 = .ok (.aload_n 0, 1) := by decide +kernel
theorem mo_copy_d44 : decode mo_copy_b 44 = .ok (.iload_n 1, 1) := by decide +kernel
theorem mo_copy_d45 : decode mo_copy_b 45 = .ok (.iload_n 3, 1) := by decide +kernel
theorem mo_copy_d46 : decode mo_copy_b 46 = .ok (.invokevirtual 141, 3) := by decide +kernel
theorem mo_copy_d49 : decode mo_copy_b 49 = .ok (.return_, 1) := by decide +kernel
abbrev mo_copy_rm : Room := { frames := 1, cells := 0, slots := 0, locals := 23 }
theorem mo_copy_w : rb_cw mo_copy_y mo_copy_b 4 none 2 := ⟨rw_734, rw_7, ⟨by decide, by decide⟩, by decide +kernel⟩
section
variable {p : Program} {l : Launch} {e : Env} {s : State} {m : MethodId} {args : Array Value} {below : List Frame} {meth : Method} {c : Code} {A : Nat → Prop} {Z : rb_Z}
def mo_copy_p_37 (K : rb_S → Prop) (x1 : Int32) (x2 : Int32) (S : rb_S) : Prop := mo_get_p_0 (fun r39 S39 => mo_bring_p_0 (fun S46 => K S46) x1 r39 S39) x2 S
theorem mo_copy_k_37 {K : rb_S → Prop}  (X : rb_X p s m args meth c A Z mo_copy_b 4 "RoomMakerModel" none)  {x1 : Int32} {x2 : Int32} {S : rb_S} (h : mo_copy_p_37 K x1 x2 S) : rb_V p l e mo_copy_rm s m args below meth c A (MQ below (va_Qv K (rb_B Z A) A) args s mo_copy_rm.cells mo_copy_rm.slots A) Z 4 37 [(0, .ref (Z.1 23)), (1, .int x1), (2, .int x2)] [] S 0 0 := by
  unfold mo_copy_p_37 at h
  refine rb_aload_n X 0 mo_copy_d37 rfl 0 rfl ?_
  refine rb_iload_n X 2 mo_copy_d38 rfl 2 rfl ?_
  refine rb_callVi (As := [.int x2]) (rest := []) X (mo_get_c l Z h) mo_get_w ⟨by decide, by decide⟩ rw_735 rw_737 rs_51 (q0 := 23) rfl rfl rfl rfl (Nat.le_of_ble_eq_true rfl) mo_copy_d39 ⟨by decide, by decide⟩ (fun r39 S39 h => ?_)
  refine rb_istore_n X 3 [1, 2, 3, 0] (L' := [(0, .ref (Z.1 23)), (1, .int x1), (2, .int x2), (3, .int r39)]) mo_copy_d42 rfl (by decide) rfl ?_
  refine rb_aload_n X 0 mo_copy_d43 rfl 0 rfl ?_
  refine rb_iload_n X 1 mo_copy_d44 rfl 1 rfl ?_
  refine rb_iload_n X 3 mo_copy_d45 rfl 3 rfl ?_
  refine rb_callVv (As := [.int x1, .int r39]) (rest := []) X (mo_bring_c l Z h) mo_bring_w ⟨by decide, by decide⟩ rw_739 rw_741 rs_52 (q0 := 23) rfl rfl rfl rfl (Nat.le_of_ble_eq_true rfl) mo_copy_d46 ⟨by decide, by decide⟩ (fun S46 h => ?_)
  exact rb_vret X mo_copy_d49 h
def mo_copy_p_0 (K : rb_S → Prop) (x1 : Int32) (x2 : Int32) (S : rb_S) : Prop := vp_in x1 16 ∧ (vp_in x2 16 ∧ ((¬ (S 31 x1.toNatClampNeg) = (S 31 x2.toNatClampNeg) → mo_copy_p_37 K x1 x2 S) ∧ ((S 31 x1.toNatClampNeg) = (S 31 x2.toNatClampNeg) → vp_in x1 16 ∧ ((16 ≤ (S 31 x1.toNatClampNeg) → mo_copy_p_37 K x1 x2 S) ∧ (¬ 16 ≤ (S 31 x1.toNatClampNeg) → ∀ S33 : rb_S, S33 = rb_u S 1 10 ((S 1 10) + 1) → (K S33))))))
theorem mo_copy_k_0 {K : rb_S → Prop}  (X : rb_X p s m args meth c A Z mo_copy_b 4 "RoomMakerModel" none)  {x1 : Int32} {x2 : Int32} {S : rb_S} (h : mo_copy_p_0 K x1 x2 S) : rb_V p l e mo_copy_rm s m args below meth c A (MQ below (va_Qv K (rb_B Z A) A) args s mo_copy_rm.cells mo_copy_rm.slots A) Z 4 0 [(0, .ref (Z.1 23)), (1, .int x1), (2, .int x2)] [] S 0 0 := by
  unfold mo_copy_p_0 at h
  refine rb_aload_n X 0 mo_copy_d0 rfl 0 rfl ?_
  refine mo_g32 X mo_copy_d1 ?_
  refine rb_iload_n X 1 mo_copy_d4 rfl 1 rfl ?_
  obtain ⟨hin, h⟩ := h
  refine rb_iald X 31 (rb_a31 Z) mo_copy_d5 hin ?_
  refine rb_aload_n X 0 mo_copy_d6 rfl 0 rfl ?_
  refine mo_g32 X mo_copy_d7 ?_
  refine rb_iload_n X 2 mo_copy_d10 rfl 2 rfl ?_
  obtain ⟨hin, h⟩ := h
  refine rb_iald X 31 (rb_a31 Z) mo_copy_d11 hin ?_
  refine rb_icmp_ne X 37 mo_copy_d12 (by decide) (fun hc => ?_) (fun hc => ?_)
  · replace h := h.1 hc
    exact mo_copy_k_37 X h
  · replace h := h.2 hc
    refine rb_aload_n X 0 mo_copy_d15 rfl 0 rfl ?_
    refine mo_g32 X mo_copy_d16 ?_
    refine rb_iload_n X 1 mo_copy_d19 rfl 1 rfl ?_
    obtain ⟨hin, h⟩ := h
    refine rb_iald X 31 (rb_a31 Z) mo_copy_d20 hin ?_
    refine rb_bipush X 16 mo_copy_d21 (by decide) ?_
    refine rb_icmp_ge X 37 mo_copy_d23 (by decide) (fun hc => ?_) (fun hc => ?_)
    · replace h := h.1 hc
      exact mo_copy_k_37 X h
    · replace h := h.2 hc
      refine rb_aload_n X 0 mo_copy_d26 rfl 0 rfl ?_
      refine rb_dup X mo_copy_d27 rfl ?_
      refine mo_g135 X mo_copy_d28 ?_
      refine rb_iconst X 1 mo_copy_d31 (by decide) ?_
      refine rb_iadd X mo_copy_d32 ?_
      refine mo_q135 X mo_copy_d33 (fun S33 e33 => ?_)
      replace h := h S33 e33
      exact rb_vret X mo_copy_d36 h
theorem mo_copy_c (l : Launch) (Z : rb_Z) {K : rb_S → Prop} {x1 : Int32} {x2 : Int32} {S : rb_S} (h : mo_copy_p_0 K x1 x2 S) : rb_Mv l mo_copy_y mo_copy_b 4 mo_copy_rm Z [.ref (Z.1 23), .int x1, .int x2] S K := rb_startV (by decide) (Nat.le_of_ble_eq_true rfl) (fun p e s m args below meth c A X => mo_copy_k_0 X h)
end
theorem mo_input_d0 : decode mo_input_b 0 = .ok (.aload_n 0, 1) := by decide +kernel
theorem mo_input_d1 : decode mo_input_b 1 = .ok (.getfield 75, 3) := by decide +kernel
theorem mo_input_d4 : decode mo_input_b 4 = .ok (.ifCond .ne 5, 3) := by decide +kernel
theorem mo_input_d7 : decode mo_input_b 7 = .ok (.iconst 0, 1) := by decide +kernel
theorem mo_input_d8 : decode mo_input_b 8 = .ok (.ireturn, 1) := by decide +kernel
theorem mo_input_d9 : decode mo_input_b 9 = .ok (.aload_n 0, 1) := by decide +kernel
theorem mo_input_d10 : decode mo_input_b 10 = .ok (.getfield 13, 3) := by decide +kernel
theorem mo_input_d13 : decode mo_input_b 13 = .ok (.iconst 0, 1) := by decide +kernel
theorem mo_input_d14 : decode mo_input_b 14 = .ok (.iaload, 1) := by decide +kernel
theorem mo_input_d15 : decode mo_input_b 15 = .ok (.istore_n 1, 1) := by decide +kernel
theorem mo_input_d16 : decode mo_input_b 16 = .ok (.aload_n 0, 1) := by decide +kernel
theorem mo_input_d17 : decode mo_input_b 17 = .ok (.dup, 1) := by decide +kernel
theorem mo_input_d18 : decode mo_input_b 18 = .ok (.getfield 75, 3) := by decide +kernel
theorem mo_input_d21 : decode mo_input_b 21 = .ok (.iconst 1, 1) := by decide +kernel
theorem mo_input_d22 : decode mo_input_b 22 = .ok (.isub, 1) := by decide +kernel
theorem mo_input_d23 : decode mo_input_b 23 = .ok (.putfield 75, 3) := by decide +kernel
theorem mo_input_d26 : decode mo_input_b 26 = .ok (.iconst 0, 1) := by decide +kernel
theorem mo_input_d27 : decode mo_input_b 27 = .ok (.istore_n 2, 1) := by decide +kernel
theorem mo_input_d28 : decode mo_input_b 28 = .ok (.iload_n 2, 1) := by decide +kernel
theorem mo_input_d29 : decode mo_input_b 29 = .ok (.aload_n 0, 1) := by decide +kernel
theorem mo_input_d30 : decode mo_input_b 30 = .ok (.getfield 75, 3) := by decide +kernel
theorem mo_input_d33 : decode mo_input_b 33 = .ok (.if_icmp .ge 23, 3) := by decide +kernel
theorem mo_input_d36 : decode mo_input_b 36 = .ok (.aload_n 0, 1) := by decide +kernel
theorem mo_input_d37 : decode mo_input_b 37 = .ok (.getfield 13, 3) := by decide +kernel
theorem mo_input_d40 : decode mo_input_b 40 = .ok (.iload_n 2, 1) := by decide +kernel
theorem mo_input_d41 : decode mo_input_b 41 = .ok (.aload_n 0, 1) := by decide +kernel
theorem mo_input_d42 : decode mo_input_b 42 = .ok (.getfield 13, 3) := by decide +kernel
theorem mo_input_d45 : decode mo_input_b 45 = .ok (.iload_n 2, 1) := by decide +kernel
theorem mo_input_d46 : decode mo_input_b 46 = .ok (.iconst 1, 1) := by decide +kernel
theorem mo_input_d47 : decode mo_input_b 47 = .ok (.iadd, 1) := by decide +kernel
theorem mo_input_d48 : decode mo_input_b 48 = .ok (.iaload, 1) := by decide +kernel
theorem mo_input_d49 : decode mo_input_b 49 = .ok (.iastore, 1) := by decide +kernel
theorem mo_input_d50 : decode mo_input_b 50 = .ok (.iinc 2 1, 3) := by decide +kernel
theorem mo_input_d53 : decode mo_input_b 53 = .ok (.goto (-25), 3) := by decide +kernel
theorem mo_input_d56 : decode mo_input_b 56 = .ok (.iload_n 1, 1) := by decide +kernel
theorem mo_input_d57 : decode mo_input_b 57 = .ok (.ireturn, 1) := by decide +kernel
abbrev mo_input_rm : Room := { frames := 0, cells := 0, slots := 0, locals := 0 }
theorem mo_input_w : rb_cw mo_input_y mo_input_b 3 (some .int) 0 := ⟨rw_750, rw_7, ⟨by decide, by decide⟩, by decide +kernel⟩
section
variable {p : Program} {l : Launch} {e : Env} {s : State} {m : MethodId} {args : Array Value} {below : List Frame} {meth : Method} {c : Code} {A : Nat → Prop} {Z : rb_Z}
def mo_input_p_56 (K : Int32 → rb_S → Prop) (x1 : Int32) (x2 : Int32) (S : rb_S) : Prop := K x1 S
theorem mo_input_k_56 {K : Int32 → rb_S → Prop}  (X : rb_X p s m args meth c A Z mo_input_b 3 "RoomMakerModel" (some .int))  {x1 : Int32} {x2 : Int32} {S : rb_S} (h : mo_input_p_56 K x1 x2 S) : rb_V p l e mo_input_rm s m args below meth c A (MQ below (va_Qi K (rb_B Z A) A) args s mo_input_rm.cells mo_input_rm.slots A) Z 3 56 [(0, .ref (Z.1 23)), (1, .int x1), (2, .int x2)] [] S 0 0 := by
  unfold mo_input_p_56 at h
  refine rb_iload_n X 1 mo_input_d56 rfl 1 rfl ?_
  exact rb_iret X mo_input_d57 h
def mo_input_p_28 (K : Int32 → rb_S → Prop) : Nat → Int32 → Int32 → rb_S → Prop
  | 0, _, _, _ => False
  | n28 + 1, x1, x2, S => ((S 1 2) ≤ x2 → mo_input_p_56 K x1 x2 S) ∧ (¬ (S 1 2) ≤ x2 → vp_in (x2 + 1) 32 ∧ (vp_in x2 32 ∧ ∀ S49 : rb_S, S49 = rb_u S 25 x2.toNatClampNeg (S 25 (x2 + 1).toNatClampNeg) → (∀ v50 : Int32, v50 = x2 + 1 → ((fun a0 a1 T => mo_input_p_28 K n28 a0 a1 T) x1 v50 S49))))
theorem mo_input_k_28 {K : Int32 → rb_S → Prop}  (X : rb_X p s m args meth c A Z mo_input_b 3 "RoomMakerModel" (some .int))  : ∀ (n : Nat) (x1 : Int32) (x2 : Int32) (S : rb_S), mo_input_p_28 K n x1 x2 S → rb_V p l e mo_input_rm s m args below meth c A (MQ below (va_Qi K (rb_B Z A) A) args s mo_input_rm.cells mo_input_rm.slots A) Z 3 28 [(0, .ref (Z.1 23)), (1, .int x1), (2, .int x2)] [] S 0 0 := by
  intro n
  induction n with
  | zero =>
    intro x1 x2 S h
    exact (show False from h).elim
  | succ n ih =>
    intro x1 x2 S h
    have hB28 := ih
    rw [mo_input_p_28] at h
    refine rb_iload_n X 2 mo_input_d28 rfl 2 rfl ?_
    refine rb_aload_n X 0 mo_input_d29 rfl 0 rfl ?_
    refine mo_g75 X mo_input_d30 ?_
    refine rb_icmp_ge X 56 mo_input_d33 (by decide) (fun hc => ?_) (fun hc => ?_)
    · replace h := h.1 hc
      exact mo_input_k_56 X h
    · replace h := h.2 hc
      refine rb_aload_n X 0 mo_input_d36 rfl 0 rfl ?_
      refine mo_g13 X mo_input_d37 ?_
      refine rb_iload_n X 2 mo_input_d40 rfl 2 rfl ?_
      refine rb_aload_n X 0 mo_input_d41 rfl 0 rfl ?_
      refine mo_g13 X mo_input_d42 ?_
      refine rb_iload_n X 2 mo_input_d45 rfl 2 rfl ?_
      refine rb_iconst X 1 mo_input_d46 (by decide) ?_
      refine rb_iadd X mo_input_d47 ?_
      obtain ⟨hin, h⟩ := h
      refine rb_iald X 25 (rb_a25 Z) mo_input_d48 hin ?_
      obtain ⟨hin, h⟩ := h
      refine rb_iast X 25 (rb_a25 Z) mo_input_d49 hin (fun S49 e49 => ?_)
      replace h := h S49 e49
      refine rb_iinc X 1 2 [1, 2, 0] (fun v50 => [(0, .ref (Z.1 23)), (1, .int x1), (2, .int v50)]) mo_input_d50 2 rfl (by decide) (by decide) (fun _ => rfl) (fun v50 e50 => ?_)
      replace h := h v50 e50
      refine rb_goto X 28 mo_input_d53 (by decide) ?_
      exact hB28 _ _ _ h
def mo_input_p_0 (K : Int32 → rb_S → Prop)  (S : rb_S) : Prop := (¬ (S 1 2) = 0 → vp_in 0 32 ∧ (∀ v15 : Int32, v15 = (S 25 (0 : Int32).toNatClampNeg) → (∀ S23 : rb_S, S23 = rb_u S 1 2 ((S 1 2) - 1) → (∃ j28 : Nat, mo_input_p_28 K j28 v15 0 S23)))) ∧ ((S 1 2) = 0 → K 0 S)
theorem mo_input_k_0 {K : Int32 → rb_S → Prop}  (X : rb_X p s m args meth c A Z mo_input_b 3 "RoomMakerModel" (some .int))   {S : rb_S} (h : mo_input_p_0 K S) : rb_V p l e mo_input_rm s m args below meth c A (MQ below (va_Qi K (rb_B Z A) A) args s mo_input_rm.cells mo_input_rm.slots A) Z 3 0 [(0, .ref (Z.1 23))] [] S 0 0 := by
  unfold mo_input_p_0 at h
  refine rb_aload_n X 0 mo_input_d0 rfl 0 rfl ?_
  refine mo_g75 X mo_input_d1 ?_
  refine rb_if_ne X 9 mo_input_d4 (by decide) (fun hc => ?_) (fun hc => ?_)
  · replace h := h.1 hc
    refine rb_aload_n X 0 mo_input_d9 rfl 0 rfl ?_
    refine mo_g13 X mo_input_d10 ?_
    refine rb_iconst X 0 mo_input_d13 (by decide) ?_
    obtain ⟨hin, h⟩ := h
    refine rb_iald X 25 (rb_a25 Z) mo_input_d14 hin ?_
    refine rb_topi (fun v15 e15 => ?_)
    replace h := h v15 e15
    refine rb_istore_n X 1 [1, 0] (L' := [(0, .ref (Z.1 23)), (1, .int v15)]) mo_input_d15 rfl (by decide) rfl ?_
    refine rb_aload_n X 0 mo_input_d16 rfl 0 rfl ?_
    refine rb_dup X mo_input_d17 rfl ?_
    refine mo_g75 X mo_input_d18 ?_
    refine rb_iconst X 1 mo_input_d21 (by decide) ?_
    refine rb_isub X mo_input_d22 ?_
    refine mo_q75 X mo_input_d23 (fun S23 e23 => ?_)
    replace h := h S23 e23
    refine rb_iconst X 0 mo_input_d26 (by decide) ?_
    refine rb_istore_n X 2 [1, 2, 0] (L' := [(0, .ref (Z.1 23)), (1, .int v15), (2, .int 0)]) mo_input_d27 rfl (by decide) rfl ?_
    obtain ⟨j28, h⟩ := h
    exact mo_input_k_28 X j28 _ _ _ h
  · replace h := h.2 hc
    refine rb_iconst X 0 mo_input_d7 (by decide) ?_
    exact rb_iret X mo_input_d8 h
theorem mo_input_c (l : Launch) (Z : rb_Z) {K : Int32 → rb_S → Prop}  {S : rb_S} (h : mo_input_p_0 K S) : rb_Mi l mo_input_y mo_input_b 3 (some .int) mo_input_rm Z [.ref (Z.1 23)] S K := rb_startI (by decide) (Nat.le_of_ble_eq_true rfl) (fun p e s m args below meth c A X => mo_input_k_0 X h)
end
theorem mo_made_d0 : decode mo_made_b 0 = .ok (.iload_n 1, 1) := by decide +kernel
theorem mo_made_d1 : decode mo_made_b 1 = .ok (.ifCond .ne 5, 3) := by decide +kernel
theorem mo_made_d4 : decode mo_made_b 4 = .ok (.iload_n 2, 1) := by decide +kernel
theorem mo_made_d5 : decode mo_made_b 5 = .ok (.ireturn, 1) := by decide +kernel
theorem mo_made_d6 : decode mo_made_b 6 = .ok (.iload_n 1, 1) := by decide +kernel
theorem mo_made_d7 : decode mo_made_b 7 = .ok (.iconst 5, 1) := by decide +kernel
theorem mo_made_d8 : decode mo_made_b 8 = .ok (.if_icmp .ne 8, 3) := by decide +kernel
theorem mo_made_d11 : decode mo_made_b 11 = .ok (.aload_n 0, 1) := by decide +kernel
theorem mo_made_d12 : decode mo_made_b 12 = .ok (.invokevirtual 144, 3) := by decide +kernel
theorem mo_made_d15 : decode mo_made_b 15 = .ok (.ireturn, 1) := by decide +kernel
theorem mo_made_d16 : decode mo_made_b 16 = .ok (.aload_n 0, 1) := by decide +kernel
theorem mo_made_d17 : decode mo_made_b 17 = .ok (.iload_n 2, 1) := by decide +kernel
theorem mo_made_d18 : decode mo_made_b 18 = .ok (.invokevirtual 138, 3) := by decide +kernel
theorem mo_made_d21 : decode mo_made_b 21 = .ok (.istore 4, 2) := by decide +kernel
theorem mo_made_d23 : decode mo_made_b 23 = .ok (.iload_n 1, 1) := by decide +kernel
theorem mo_made_d24 : decode mo_made_b 24 = .ok (.bipush 6, 2) := by decide +kernel
theorem mo_made_d26 : decode mo_made_b 26 = .ok (.if_icmp .ne 14, 3) := by decide +kernel
theorem mo_made_d29 : decode mo_made_b 29 = .ok (.aload_n 0, 1) := by decide +kernel
theorem mo_made_d30 : decode mo_made_b 30 = .ok (.getfield 41, 3) := by decide +kernel
theorem mo_made_d33 : decode mo_made_b 33 = .ok (.iload 4, 2) := by decide +kernel
theorem mo_made_d35 : decode mo_made_b 35 = .ok (.bipush 15, 2) := by decide +kernel
theorem mo_made_d37 : decode mo_made_b 37 = .ok (.iand, 1) := by decide +kernel
theorem mo_made_d38 : decode mo_made_b 38 = .ok (.iaload, 1) := by decide +kernel
theorem mo_made_d39 : decode mo_made_b 39 = .ok (.ireturn, 1) := by decide +kernel
theorem mo_made_d40 : decode mo_made_b 40 = .ok (.aload_n 0, 1) := by decide +kernel
theorem mo_made_d41 : decode mo_made_b 41 = .ok (.iload_n 3, 1) := by decide +kernel
theorem mo_made_d42 : decode mo_made_b 42 = .ok (.invokevirtual 138, 3) := by decide +kernel
theorem mo_made_d45 : decode mo_made_b 45 = .ok (.istore 5, 2) := by decide +kernel
theorem mo_made_d47 : decode mo_made_b 47 = .ok (.iload_n 1, 1) := by decide +kernel
theorem mo_made_d48 : decode mo_made_b 48 = .ok (.iconst 1, 1) := by decide +kernel
theorem mo_made_d49 : decode mo_made_b 49 = .ok (.if_icmp .ne 11, 3) := by decide +kernel
theorem mo_made_d52 : decode mo_made_b 52 = .ok (.iload 4, 2) := by decide +kernel
theorem mo_made_d54 : decode mo_made_b 54 = .ok (.iload 5, 2) := by decide +kernel
theorem mo_made_d56 : decode mo_made_b 56 = .ok (.iadd, 1) := by decide +kernel
theorem mo_made_d57 : decode mo_made_b 57 = .ok (.goto 21, 3) := by decide +kernel
theorem mo_made_d60 : decode mo_made_b 60 = .ok (.iload_n 1, 1) := by decide +kernel
theorem mo_made_d61 : decode mo_made_b 61 = .ok (.iconst 2, 1) := by decide +kernel
theorem mo_made_d62 : decode mo_made_b 62 = .ok (.if_icmp .ne 11, 3) := by decide +kernel
theorem mo_made_d65 : decode mo_made_b 65 = .ok (.iload 4, 2) := by decide +kernel
theorem mo_made_d67 : decode mo_made_b 67 = .ok (.iload 5, 2) := by decide +kernel
theorem mo_made_d69 : decode mo_made_b 69 = .ok (.isub, 1) := by decide +kernel
theorem mo_made_d70 : decode mo_made_b 70 = .ok (.goto 8, 3) := by decide +kernel
theorem mo_made_d73 : decode mo_made_b 73 = .ok (.iload 4, 2) := by decide +kernel
theorem mo_made_d75 : decode mo_made_b 75 = .ok (.iload 5, 2) := by decide +kernel
theorem mo_made_d77 : decode mo_made_b 77 = .ok (.imul, 1) := by decide +kernel
theorem mo_made_d78 : decode mo_made_b 78 = .ok (.ireturn, 1) := by decide +kernel
abbrev mo_made_rm : Room := { frames := 1, cells := 0, slots := 0, locals := 22 }
theorem mo_made_w : rb_cw mo_made_y mo_made_b 6 (some .int) 3 := ⟨rw_746, rw_7, ⟨by decide, by decide⟩, by decide +kernel⟩
section
variable {p : Program} {l : Launch} {e : Env} {s : State} {m : MethodId} {args : Array Value} {below : List Frame} {meth : Method} {c : Code} {A : Nat → Prop} {Z : rb_Z}
def mo_made_p_78 (K : Int32 → rb_S → Prop) (x1 : Int32) (x2 : Int32) (x3 : Int32) (x4 : Int32) (x5 : Int32) (y0 : Int32) (S : rb_S) : Prop := K y0 S
theorem mo_made_k_78 {K : Int32 → rb_S → Prop}  (X : rb_X p s m args meth c A Z mo_made_b 6 "RoomMakerModel" (some .int))  {x1 : Int32} {x2 : Int32} {x3 : Int32} {x4 : Int32} {x5 : Int32} {y0 : Int32} {S : rb_S} (h : mo_made_p_78 K x1 x2 x3 x4 x5 y0 S) : rb_V p l e mo_made_rm s m args below meth c A (MQ below (va_Qi K (rb_B Z A) A) args s mo_made_rm.cells mo_made_rm.slots A) Z 6 78 [(0, .ref (Z.1 23)), (1, .int x1), (2, .int x2), (3, .int x3), (4, .int x4), (5, .int x5)] [.int y0] S 0 0 := by
  unfold mo_made_p_78 at h
  exact rb_iret X mo_made_d78 h
def mo_made_p_0 (K : Int32 → rb_S → Prop) (x1 : Int32) (x2 : Int32) (x3 : Int32) (S : rb_S) : Prop := (¬ x1 = 0 → (¬ x1 = 5 → mo_get_p_0 (fun r18 S18 => (¬ x1 = 6 → mo_get_p_0 (fun r42 S42 => (¬ x1 = 1 → (¬ x1 = 2 → mo_made_p_78 K x1 x2 x3 r18 r42 (r18 * r42) S42) ∧ (x1 = 2 → mo_made_p_78 K x1 x2 x3 r18 r42 (r18 - r42) S42)) ∧ (x1 = 1 → mo_made_p_78 K x1 x2 x3 r18 r42 (r18 + r42) S42)) x3 S18) ∧ (x1 = 6 → vp_in (r18 &&& 15) 16 ∧ (K (S18 34 (r18 &&& 15).toNatClampNeg) S18))) x2 S) ∧ (x1 = 5 → mo_input_p_0 (fun r12 S12 => K r12 S12) S)) ∧ (x1 = 0 → K x2 S)
theorem mo_made_k_0 {K : Int32 → rb_S → Prop}  (X : rb_X p s m args meth c A Z mo_made_b 6 "RoomMakerModel" (some .int))  {x1 : Int32} {x2 : Int32} {x3 : Int32} {S : rb_S} (h : mo_made_p_0 K x1 x2 x3 S) : rb_V p l e mo_made_rm s m args below meth c A (MQ below (va_Qi K (rb_B Z A) A) args s mo_made_rm.cells mo_made_rm.slots A) Z 6 0 [(0, .ref (Z.1 23)), (1, .int x1), (2, .int x2), (3, .int x3)] [] S 0 0 := by
  unfold mo_made_p_0 at h
  refine rb_iload_n X 1 mo_made_d0 rfl 1 rfl ?_
  refine rb_if_ne X 6 mo_made_d1 (by decide) (fun hc => ?_) (fun hc => ?_)
  · replace h := h.1 hc
    refine rb_iload_n X 1 mo_made_d6 rfl 1 rfl ?_
    refine rb_iconst X 5 mo_made_d7 (by decide) ?_
    refine rb_icmp_ne X 16 mo_made_d8 (by decide) (fun hc => ?_) (fun hc => ?_)
    · replace h := h.1 hc
      refine rb_aload_n X 0 mo_made_d16 rfl 0 rfl ?_
      refine rb_iload_n X 2 mo_made_d17 rfl 2 rfl ?_
      refine rb_callVi (As := [.int x2]) (rest := []) X (mo_get_c l Z h) mo_get_w ⟨by decide, by decide⟩ rw_735 rw_737 rs_51 (q0 := 23) rfl rfl rfl rfl (Nat.le_of_ble_eq_true rfl) mo_made_d18 ⟨by decide, by decide⟩ (fun r18 S18 h => ?_)
      refine rb_istore X 4 [1, 2, 3, 4, 0] (L' := [(0, .ref (Z.1 23)), (1, .int x1), (2, .int x2), (3, .int x3), (4, .int r18)]) mo_made_d21 (by decide) rfl ?_
      refine rb_iload_n X 1 mo_made_d23 rfl 1 rfl ?_
      refine rb_bipush X 6 mo_made_d24 (by decide) ?_
      refine rb_icmp_ne X 40 mo_made_d26 (by decide) (fun hc => ?_) (fun hc => ?_)
      · replace h := h.1 hc
        refine rb_aload_n X 0 mo_made_d40 rfl 0 rfl ?_
        refine rb_iload_n X 3 mo_made_d41 rfl 3 rfl ?_
        refine rb_callVi (As := [.int x3]) (rest := []) X (mo_get_c l Z h) mo_get_w ⟨by decide, by decide⟩ rw_735 rw_737 rs_51 (q0 := 23) rfl rfl rfl rfl (Nat.le_of_ble_eq_true rfl) mo_made_d42 ⟨by decide, by decide⟩ (fun r42 S42 h => ?_)
        refine rb_istore X 5 [1, 2, 3, 4, 5, 0] (L' := [(0, .ref (Z.1 23)), (1, .int x1), (2, .int x2), (3, .int x3), (4, .int r18), (5, .int r42)]) mo_made_d45 (by decide) rfl ?_
        refine rb_iload_n X 1 mo_made_d47 rfl 1 rfl ?_
        refine rb_iconst X 1 mo_made_d48 (by decide) ?_
        refine rb_icmp_ne X 60 mo_made_d49 (by decide) (fun hc => ?_) (fun hc => ?_)
        · replace h := h.1 hc
          refine rb_iload_n X 1 mo_made_d60 rfl 1 rfl ?_
          refine rb_iconst X 2 mo_made_d61 (by decide) ?_
          refine rb_icmp_ne X 73 mo_made_d62 (by decide) (fun hc => ?_) (fun hc => ?_)
          · replace h := h.1 hc
            refine rb_iload X 4 mo_made_d73 4 rfl ?_
            refine rb_iload X 5 mo_made_d75 5 rfl ?_
            refine rb_imul X mo_made_d77 ?_
            exact mo_made_k_78 X h
          · replace h := h.2 hc
            refine rb_iload X 4 mo_made_d65 4 rfl ?_
            refine rb_iload X 5 mo_made_d67 5 rfl ?_
            refine rb_isub X mo_made_d69 ?_
            refine rb_goto X 78 mo_made_d70 (by decide) ?_
            exact mo_made_k_78 X h
        · replace h := h.2 hc
          refine rb_iload X 4 mo_made_d52 4 rfl ?_
          refine rb_iload X 5 mo_made_d54 5 rfl ?_
          refine rb_iadd X mo_made_d56 ?_
          refine rb_goto X 78 mo_made_d57 (by decide) ?_
          exact mo_made_k_78 X h
      · replace h := h.2 hc
        refine rb_aload_n X 0 mo_made_d29 rfl 0 rfl ?_
        refine mo_g41 X mo_made_d30 ?_
        refine rb_iload X 4 mo_made_d33 4 rfl ?_
        refine rb_bipush X 15 mo_made_d35 (by decide) ?_
        refine rb_iand X mo_made_d37 ?_
        obtain ⟨hin, h⟩ := h
        refine rb_iald X 34 (rb_a34 Z) mo_made_d38 hin ?_
        exact rb_iret X mo_made_d39 h
    · replace h := h.2 hc
      refine rb_aload_n X 0 mo_made_d11 rfl 0 rfl ?_
      refine rb_callVi (As := []) (rest := []) X (mo_input_c l Z h) mo_input_w ⟨by decide, by decide⟩ rw_747 rw_749 rs_54 (q0 := 23) rfl rfl rfl rfl (Nat.le_of_ble_eq_true rfl) mo_made_d12 ⟨by decide, by decide⟩ (fun r12 S12 h => ?_)
      exact rb_iret X mo_made_d15 h
  · replace h := h.2 hc
    refine rb_iload_n X 2 mo_made_d4 rfl 2 rfl ?_
    exact rb_iret X mo_made_d5 h
theorem mo_made_c (l : Launch) (Z : rb_Z) {K : Int32 → rb_S → Prop} {x1 : Int32} {x2 : Int32} {x3 : Int32} {S : rb_S} (h : mo_made_p_0 K x1 x2 x3 S) : rb_Mi l mo_made_y mo_made_b 6 (some .int) mo_made_rm Z [.ref (Z.1 23), .int x1, .int x2, .int x3] S K := rb_startI (by decide) (Nat.le_of_ble_eq_true rfl) (fun p e s m args below meth c A X => mo_made_k_0 X h)
end
theorem mo_step_d0 : decode mo_step_b 0 = .ok (.aload_n 0, 1) := by decide +kernel
theorem mo_step_d1 : decode mo_step_b 1 = .ok (.getfield 7, 3) := by decide +kernel
theorem mo_step_d4 : decode mo_step_b 4 = .ok (.iconst 4, 1) := by decide +kernel
theorem mo_step_d5 : decode mo_step_b 5 = .ok (.aload_n 0, 1) := by decide +kernel
theorem mo_step_d6 : decode mo_step_b 6 = .ok (.getfield 123, 3) := by decide +kernel
theorem mo_step_d9 : decode mo_step_b 9 = .ok (.imul, 1) := by decide +kernel
theorem mo_step_d10 : decode mo_step_b 10 = .ok (.iaload, 1) := by decide +kernel
theorem mo_step_d11 : decode mo_step_b 11 = .ok (.istore_n 1, 1) := by decide +kernel
theorem mo_step_d12 : decode mo_step_b 12 = .ok (.aload_n 0, 1) := by decide +kernel
theorem mo_step_d13 : decode mo_step_b 13 = .ok (.getfield 7, 3) := by decide +kernel
theorem mo_step_d16 : decode mo_step_b 16 = .ok (.iconst 4, 1) := by decide +kernel
theorem mo_step_d17 : decode mo_step_b 17 = .ok (.aload_n 0, 1) := by decide +kernel
theorem mo_step_d18 : decode mo_step_b 18 = .ok (.getfield 123, 3) := by decide +kernel
theorem mo_step_d21 : decode mo_step_b 21 = .ok (.imul, 1) := by decide +kernel
theorem mo_step_d22 : decode mo_step_b 22 = .ok (.iconst 1, 1) := by decide +kernel
theorem mo_step_d23 : decode mo_step_b 23 = .ok (.iadd, 1) := by decide +kernel
theorem mo_step_d24 : decode mo_step_b 24 = .ok (.iaload, 1) := by decide +kernel
theorem mo_step_d25 : decode mo_step_b 25 = .ok (.istore_n 2, 1) := by decide +kernel
theorem mo_step_d26 : decode mo_step_b 26 = .ok (.aload_n 0, 1) := by decide +kernel
theorem mo_step_d27 : decode mo_step_b 27 = .ok (.getfield 7, 3) := by decide +kernel
theorem mo_step_d30 : decode mo_step_b 30 = .ok (.iconst 4, 1) := by decide +kernel
theorem mo_step_d31 : decode mo_step_b 31 = .ok (.aload_n 0, 1) := by decide +kernel
theorem mo_step_d32 : decode mo_step_b 32 = .ok (.getfield 123, 3) := by decide +kernel
theorem mo_step_d35 : decode mo_step_b 35 = .ok (.imul, 1) := by decide +kernel
theorem mo_step_d36 : decode mo_step_b 36 = .ok (.iconst 2, 1) := by decide +kernel
theorem mo_step_d37 : decode mo_step_b 37 = .ok (.iadd, 1) := by decide +kernel
theorem mo_step_d38 : decode mo_step_b 38 = .ok (.iaload, 1) := by decide +kernel
theorem mo_step_d39 : decode mo_step_b 39 = .ok (.istore_n 3, 1) := by decide +kernel
theorem mo_step_d40 : decode mo_step_b 40 = .ok (.aload_n 0, 1) := by decide +kernel
theorem mo_step_d41 : decode mo_step_b 41 = .ok (.getfield 7, 3) := by decide +kernel
theorem mo_step_d44 : decode mo_step_b 44 = .ok (.iconst 4, 1) := by decide +kernel
theorem mo_step_d45 : decode mo_step_b 45 = .ok (.aload_n 0, 1) := by decide +kernel
theorem mo_step_d46 : decode mo_step_b 46 = .ok (.getfield 123, 3) := by decide +kernel
theorem mo_step_d49 : decode mo_step_b 49 = .ok (.imul, 1) := by decide +kernel
theorem mo_step_d50 : decode mo_step_b 50 = .ok (.iconst 3, 1) := by decide +kernel
theorem mo_step_d51 : decode mo_step_b 51 = .ok (.iadd, 1) := by decide +kernel
theorem mo_step_d52 : decode mo_step_b 52 = .ok (.iaload, 1) := by decide +kernel
theorem mo_step_d53 : decode mo_step_b 53 = .ok (.istore 4, 2) := by decide +kernel
theorem mo_step_d55 : decode mo_step_b 55 = .ok (.aload_n 0, 1) := by decide +kernel
theorem mo_step_d56 : decode mo_step_b 56 = .ok (.dup, 1) := by decide +kernel
theorem mo_step_d57 : decode mo_step_b 57 = .ok (.getfield 123, 3) := by decide +kernel
theorem mo_step_d60 : decode mo_step_b 60 = .ok (.iconst 1, 1) := by decide +kernel
theorem mo_step_d61 : decode mo_step_b 61 = .ok (.iadd, 1) := by decide +kernel
theorem mo_step_d62 : decode mo_step_b 62 = .ok (.putfield 123, 3) := by decide +kernel
theorem mo_step_d65 : decode mo_step_b 65 = .ok (.aload_n 0, 1) := by decide +kernel
theorem mo_step_d66 : decode mo_step_b 66 = .ok (.dup, 1) := by decide +kernel
theorem mo_step_d67 : decode mo_step_b 67 = .ok (.getfield 126, 3) := by decide +kernel
theorem mo_step_d70 : decode mo_step_b 70 = .ok (.iconst 1, 1) := by decide +kernel
theorem mo_step_d71 : decode mo_step_b 71 = .ok (.iadd, 1) := by decide +kernel
theorem mo_step_d72 : decode mo_step_b 72 = .ok (.putfield 126, 3) := by decide +kernel
theorem mo_step_d75 : decode mo_step_b 75 = .ok (.iload_n 1, 1) := by decide +kernel
theorem mo_step_d76 : decode mo_step_b 76 = .ok (.iconst 4, 1) := by decide +kernel
theorem mo_step_d77 : decode mo_step_b 77 = .ok (.if_icmp .ne 12, 3) := by decide +kernel
theorem mo_step_d80 : decode mo_step_b 80 = .ok (.aload_n 0, 1) := by decide +kernel
theorem mo_step_d81 : decode mo_step_b 81 = .ok (.iload_n 2, 1) := by decide +kernel
theorem mo_step_d82 : decode mo_step_b 82 = .ok (.iload_n 3, 1) := by decide +kernel
theorem mo_step_d83 : decode mo_step_b 83 = .ok (.invokevirtual 148, 3) := by decide +kernel
theorem mo_step_d86 : decode mo_step_b 86 = .ok (.goto 150, 3) := by decide +kernel
theorem mo_step_d89 : decode mo_step_b 89 = .ok (.iload_n 1, 1) := by decide +kernel
theorem mo_step_d90 : decode mo_step_b 90 = .ok (.bipush 6, 2) := by decide +kernel
theorem mo_step_d92 : decode mo_step_b 92 = .ok (.if_icmp .gt 23, 3) := by decide +kernel
theorem mo_step_d95 : decode mo_step_b 95 = .ok (.aload_n 0, 1) := by decide +kernel
theorem mo_step_d96 : decode mo_step_b 96 = .ok (.iload_n 1, 1) := by decide +kernel
theorem mo_step_d97 : decode mo_step_b 97 = .ok (.iload_n 3, 1) := by decide +kernel
theorem mo_step_d98 : decode mo_step_b 98 = .ok (.iload 4, 2) := by decide +kernel
theorem mo_step_d100 : decode mo_step_b 100 = .ok (.invokevirtual 151, 3) := by decide +kernel
theorem mo_step_d103 : decode mo_step_b 103 = .ok (.istore 5, 2) := by decide +kernel
theorem mo_step_d105 : decode mo_step_b 105 = .ok (.aload_n 0, 1) := by decide +kernel
theorem mo_step_d106 : decode mo_step_b 106 = .ok (.iload_n 2, 1) := by decide +kernel
theorem mo_step_d107 : decode mo_step_b 107 = .ok (.iload 5, 2) := by decide +kernel
theorem mo_step_d109 : decode mo_step_b 109 = .ok (.invokevirtual 141, 3) := by decide +kernel
theorem mo_step_d112 : decode mo_step_b 112 = .ok (.goto 124, 3) := by decide +kernel
theorem mo_step_d115 : decode mo_step_b 115 = .ok (.iload_n 1, 1) := by decide +kernel
theorem mo_step_d116 : decode mo_step_b 116 = .ok (.bipush 9, 2) := by decide +kernel
theorem mo_step_d118 : decode mo_step_b 118 = .ok (.if_icmp .ne 11, 3) := by decide +kernel
theorem mo_step_d121 : decode mo_step_b 121 = .ok (.aload_n 0, 1) := by decide +kernel
theorem mo_step_d122 : decode mo_step_b 122 = .ok (.iload_n 2, 1) := by decide +kernel
theorem mo_step_d123 : decode mo_step_b 123 = .ok (.putfield 123, 3) := by decide +kernel
theorem mo_step_d126 : decode mo_step_b 126 = .ok (.goto 110, 3) := by decide +kernel
theorem mo_step_d129 : decode mo_step_b 129 = .ok (.iload_n 1, 1) := by decide +kernel
theorem mo_step_d130 : decode mo_step_b 130 = .ok (.bipush 8, 2) := by decide +kernel
theorem mo_step_d132 : decode mo_step_b 132 = .ok (.if_icmp .ne 33, 3) := by decide +kernel
theorem mo_step_d135 : decode mo_step_b 135 = .ok (.aload_n 0, 1) := by decide +kernel
theorem mo_step_d136 : decode mo_step_b 136 = .ok (.getfield 44, 3) := by decide +kernel
theorem mo_step_d139 : decode mo_step_b 139 = .ok (.aload_n 0, 1) := by decide +kernel
theorem mo_step_d140 : decode mo_step_b 140 = .ok (.getfield 72, 3) := by decide +kernel
theorem mo_step_d143 : decode mo_step_b 143 = .ok (.bipush 16, 2) := by decide +kernel
theorem mo_step_d145 : decode mo_step_b 145 = .ok (.irem, 1) := by decide +kernel
theorem mo_step_d146 : decode mo_step_b 146 = .ok (.aload_n 0, 1) := by decide +kernel
theorem mo_step_d147 : decode mo_step_b 147 = .ok (.iload_n 2, 1) := by decide +kernel
theorem mo_step_d148 : decode mo_step_b 148 = .ok (.invokevirtual 138, 3) := by decide +kernel
theorem mo_step_d151 : decode mo_step_b 151 = .ok (.iastore, 1) := by decide +kernel
theorem mo_step_d152 : decode mo_step_b 152 = .ok (.aload_n 0, 1) := by decide +kernel
theorem mo_step_d153 : decode mo_step_b 153 = .ok (.dup, 1) := by decide +kernel
theorem mo_step_d154 : decode mo_step_b 154 = .ok (.getfield 72, 3) := by decide +kernel
theorem mo_step_d157 : decode mo_step_b 157 = .ok (.iconst 1, 1) := by decide +kernel
theorem mo_step_d158 : decode mo_step_b 158 = .ok (.iadd, 1) := by decide +kernel
theorem mo_step_d159 : decode mo_step_b 159 = .ok (.putfield 72, 3) := by decide +kernel
theorem mo_step_d162 : decode mo_step_b 162 = .ok (.goto 74, 3) := by decide +kernel
theorem mo_step_d165 : decode mo_step_b 165 = .ok (.aload_n 0, 1) := by decide +kernel
theorem mo_step_d166 : decode mo_step_b 166 = .ok (.iload_n 2, 1) := by decide +kernel
theorem mo_step_d167 : decode mo_step_b 167 = .ok (.invokevirtual 138, 3) := by decide +kernel
theorem mo_step_d170 : decode mo_step_b 170 = .ok (.istore 5, 2) := by decide +kernel
theorem mo_step_d172 : decode mo_step_b 172 = .ok (.aload_n 0, 1) := by decide +kernel
theorem mo_step_d173 : decode mo_step_b 173 = .ok (.iload_n 3, 1) := by decide +kernel
theorem mo_step_d174 : decode mo_step_b 174 = .ok (.invokevirtual 138, 3) := by decide +kernel
theorem mo_step_d177 : decode mo_step_b 177 = .ok (.istore 6, 2) := by decide +kernel
theorem mo_step_d179 : decode mo_step_b 179 = .ok (.iload_n 1, 1) := by decide +kernel
theorem mo_step_d180 : decode mo_step_b 180 = .ok (.bipush 7, 2) := by decide +kernel
theorem mo_step_d182 : decode mo_step_b 182 = .ok (.if_icmp .ne 18, 3) := by decide +kernel
theorem mo_step_d185 : decode mo_step_b 185 = .ok (.aload_n 0, 1) := by decide +kernel
theorem mo_step_d186 : decode mo_step_b 186 = .ok (.getfield 41, 3) := by decide +kernel
theorem mo_step_d189 : decode mo_step_b 189 = .ok (.iload 5, 2) := by decide +kernel
theorem mo_step_d191 : decode mo_step_b 191 = .ok (.bipush 15, 2) := by decide +kernel
theorem mo_step_d193 : decode mo_step_b 193 = .ok (.iand, 1) := by decide +kernel
theorem mo_step_d194 : decode mo_step_b 194 = .ok (.iload 6, 2) := by decide +kernel
theorem mo_step_d196 : decode mo_step_b 196 = .ok (.iastore, 1) := by decide +kernel
theorem mo_step_d197 : decode mo_step_b 197 = .ok (.goto 39, 3) := by decide +kernel
theorem mo_step_d200 : decode mo_step_b 200 = .ok (.aload_n 0, 1) := by decide +kernel
theorem mo_step_d201 : decode mo_step_b 201 = .ok (.iload_n 1, 1) := by decide +kernel
theorem mo_step_d202 : decode mo_step_b 202 = .ok (.bipush 10, 2) := by decide +kernel
theorem mo_step_d204 : decode mo_step_b 204 = .ok (.if_icmp .ne 13, 3) := by decide +kernel
theorem mo_step_d207 : decode mo_step_b 207 = .ok (.iload 5, 2) := by decide +kernel
theorem mo_step_d209 : decode mo_step_b 209 = .ok (.iload 6, 2) := by decide +kernel
theorem mo_step_d211 : decode mo_step_b 211 = .ok (.if_icmp .ge 18, 3) := by decide +kernel
theorem mo_step_d214 : decode mo_step_b 214 = .ok (.goto 10, 3) := by decide +kernel
theorem mo_step_d217 : decode mo_step_b 217 = .ok (.iload 5, 2) := by decide +kernel
theorem mo_step_d219 : decode mo_step_b 219 = .ok (.iload 6, 2) := by decide +kernel
theorem mo_step_d221 : decode mo_step_b 221 = .ok (.if_icmp .ne 8, 3) := by decide +kernel
theorem mo_step_d224 : decode mo_step_b 224 = .ok (.iload 4, 2) := by decide +kernel
theorem mo_step_d226 : decode mo_step_b 226 = .ok (.goto 7, 3) := by decide +kernel
theorem mo_step_d229 : decode mo_step_b 229 = .ok (.aload_n 0, 1) := by decide +kernel
theorem mo_step_d230 : decode mo_step_b 230 = .ok (.getfield 123, 3) := by decide +kernel
theorem mo_step_d233 : decode mo_step_b 233 = .ok (.putfield 123, 3) := by decide +kernel
theorem mo_step_d236 : decode mo_step_b 236 = .ok (.return_, 1) := by decide +kernel
abbrev mo_step_rm : Room := { frames := 2, cells := 0, slots := 0, locals := 47 }
theorem mo_step_w : rb_cw mo_step_y mo_step_b 7 none 0 := ⟨rw_730, rw_7, ⟨by decide, by decide⟩, by decide +kernel⟩
section
variable {p : Program} {l : Launch} {e : Env} {s : State} {m : MethodId} {args : Array Value} {below : List Frame} {meth : Method} {c : Code} {A : Nat → Prop} {Z : rb_Z}
def mo_step_p_236 (K : rb_S → Prop) (x1 : Int32) (x2 : Int32) (x3 : Int32) (x4 : Int32) (S : rb_S) : Prop := K S
theorem mo_step_k_236 {K : rb_S → Prop}  (X : rb_X p s m args meth c A Z mo_step_b 7 "RoomMakerModel" none)  {x1 : Int32} {x2 : Int32} {x3 : Int32} {x4 : Int32} {S : rb_S} (h : mo_step_p_236 K x1 x2 x3 x4 S) : rb_V p l e mo_step_rm s m args below meth c A (MQ below (va_Qv K (rb_B Z A) A) args s mo_step_rm.cells mo_step_rm.slots A) Z 7 236 [(0, .ref (Z.1 23)), (1, .int x1), (2, .int x2), (3, .int x3), (4, .int x4)] [] S 0 0 := by
  unfold mo_step_p_236 at h
  exact rb_vret X mo_step_d236 h
def mo_step_p_233 (K : rb_S → Prop) (x1 : Int32) (x2 : Int32) (x3 : Int32) (x4 : Int32) (x5 : Int32) (x6 : Int32) (y0 : Int32) (S : rb_S) : Prop := ∀ S233 : rb_S, S233 = rb_u S 1 6 y0 → (mo_step_p_236 K x1 x2 x3 x4 S233)
theorem mo_step_k_233 {K : rb_S → Prop}  (X : rb_X p s m args meth c A Z mo_step_b 7 "RoomMakerModel" none)  {x1 : Int32} {x2 : Int32} {x3 : Int32} {x4 : Int32} {x5 : Int32} {x6 : Int32} {y0 : Int32} {S : rb_S} (h : mo_step_p_233 K x1 x2 x3 x4 x5 x6 y0 S) : rb_V p l e mo_step_rm s m args below meth c A (MQ below (va_Qv K (rb_B Z A) A) args s mo_step_rm.cells mo_step_rm.slots A) Z 7 233 [(0, .ref (Z.1 23)), (1, .int x1), (2, .int x2), (3, .int x3), (4, .int x4), (5, .int x5), (6, .int x6)] [.int y0, .ref (Z.1 23)] S 0 0 := by
  unfold mo_step_p_233 at h
  refine mo_q123 X mo_step_d233 (fun S233 e233 => ?_)
  replace h := h S233 e233
  refine rb_cut [0, 1, 2, 3, 4] (L' := [(0, .ref (Z.1 23)), (1, .int x1), (2, .int x2), (3, .int x3), (4, .int x4)]) rfl ?_
  exact mo_step_k_236 X h
def mo_step_p_229 (K : rb_S → Prop) (x1 : Int32) (x2 : Int32) (x3 : Int32) (x4 : Int32) (x5 : Int32) (x6 : Int32) (S : rb_S) : Prop := mo_step_p_233 K x1 x2 x3 x4 x5 x6 (S 1 6) S
theorem mo_step_k_229 {K : rb_S → Prop}  (X : rb_X p s m args meth c A Z mo_step_b 7 "RoomMakerModel" none)  {x1 : Int32} {x2 : Int32} {x3 : Int32} {x4 : Int32} {x5 : Int32} {x6 : Int32} {S : rb_S} (h : mo_step_p_229 K x1 x2 x3 x4 x5 x6 S) : rb_V p l e mo_step_rm s m args below meth c A (MQ below (va_Qv K (rb_B Z A) A) args s mo_step_rm.cells mo_step_rm.slots A) Z 7 229 [(0, .ref (Z.1 23)), (1, .int x1), (2, .int x2), (3, .int x3), (4, .int x4), (5, .int x5), (6, .int x6)] [.ref (Z.1 23)] S 0 0 := by
  unfold mo_step_p_229 at h
  refine rb_aload_n X 0 mo_step_d229 rfl 0 rfl ?_
  refine mo_g123 X mo_step_d230 ?_
  exact mo_step_k_233 X h
def mo_step_p_224 (K : rb_S → Prop) (x1 : Int32) (x2 : Int32) (x3 : Int32) (x4 : Int32) (x5 : Int32) (x6 : Int32) (S : rb_S) : Prop := mo_step_p_233 K x1 x2 x3 x4 x5 x6 x4 S
theorem mo_step_k_224 {K : rb_S → Prop}  (X : rb_X p s m args meth c A Z mo_step_b 7 "RoomMakerModel" none)  {x1 : Int32} {x2 : Int32} {x3 : Int32} {x4 : Int32} {x5 : Int32} {x6 : Int32} {S : rb_S} (h : mo_step_p_224 K x1 x2 x3 x4 x5 x6 S) : rb_V p l e mo_step_rm s m args below meth c A (MQ below (va_Qv K (rb_B Z A) A) args s mo_step_rm.cells mo_step_rm.slots A) Z 7 224 [(0, .ref (Z.1 23)), (1, .int x1), (2, .int x2), (3, .int x3), (4, .int x4), (5, .int x5), (6, .int x6)] [.ref (Z.1 23)] S 0 0 := by
  unfold mo_step_p_224 at h
  refine rb_iload X 4 mo_step_d224 4 rfl ?_
  refine rb_goto X 233 mo_step_d226 (by decide) ?_
  exact mo_step_k_233 X h
def mo_step_p_0 (K : rb_S → Prop)  (S : rb_S) : Prop := vp_in (4 * (S 1 6)) 256 ∧ (∀ v11 : Int32, v11 = (S 24 (4 * (S 1 6)).toNatClampNeg) → (vp_in ((4 * (S 1 6)) + 1) 256 ∧ (∀ v25 : Int32, v25 = (S 24 ((4 * (S 1 6)) + 1).toNatClampNeg) → (vp_in ((4 * (S 1 6)) + 2) 256 ∧ (∀ v39 : Int32, v39 = (S 24 ((4 * (S 1 6)) + 2).toNatClampNeg) → (vp_in ((4 * (S 1 6)) + 3) 256 ∧ (∀ v53 : Int32, v53 = (S 24 ((4 * (S 1 6)) + 3).toNatClampNeg) → (∀ S62 : rb_S, S62 = rb_u S 1 6 ((S 1 6) + 1) → (∀ S72 : rb_S, S72 = rb_u S62 1 7 ((S62 1 7) + 1) → ((¬ v11 = 4 → (6 < v11 → (¬ v11 = 9 → (¬ v11 = 8 → mo_get_p_0 (fun r167 S167 => mo_get_p_0 (fun r174 S174 => (¬ v11 = 7 → (¬ v11 = 10 → (¬ r167 = r174 → mo_step_p_229 K v11 v25 v39 v53 r167 r174 S174) ∧ (r167 = r174 → mo_step_p_224 K v11 v25 v39 v53 r167 r174 S174)) ∧ (v11 = 10 → (r174 ≤ r167 → mo_step_p_229 K v11 v25 v39 v53 r167 r174 S174) ∧ (¬ r174 ≤ r167 → mo_step_p_224 K v11 v25 v39 v53 r167 r174 S174))) ∧ (v11 = 7 → vp_in (r167 &&& 15) 16 ∧ ∀ S196 : rb_S, S196 = rb_u S174 34 (r167 &&& 15).toNatClampNeg r174 → (mo_step_p_236 K v11 v25 v39 v53 S196))) v39 S167) v25 S72) ∧ (v11 = 8 → mo_get_p_0 (fun r148 S148 => vp_in ((S72 1 11) - (S72 1 11) / 16 * 16) 16 ∧ ∀ S151 : rb_S, S151 = rb_u S148 35 ((S72 1 11) - (S72 1 11) / 16 * 16).toNatClampNeg r148 → (∀ S159 : rb_S, S159 = rb_u S151 1 11 ((S151 1 11) + 1) → (mo_step_p_236 K v11 v25 v39 v53 S159))) v25 S72)) ∧ (v11 = 9 → ∀ S123 : rb_S, S123 = rb_u S72 1 6 v25 → (mo_step_p_236 K v11 v25 v39 v53 S123))) ∧ (¬ 6 < v11 → mo_made_p_0 (fun r100 S100 => mo_bring_p_0 (fun S109 => mo_step_p_236 K v11 v25 v39 v53 S109) v25 r100 S100) v11 v39 v53 S72)) ∧ (v11 = 4 → mo_copy_p_0 (fun S83 => mo_step_p_236 K v11 v25 v39 v53 S83) v25 v39 S72)))))))))))
theorem mo_step_k_0 {K : rb_S → Prop}  (X : rb_X p s m args meth c A Z mo_step_b 7 "RoomMakerModel" none)   {S : rb_S} (h : mo_step_p_0 K S) : rb_V p l e mo_step_rm s m args below meth c A (MQ below (va_Qv K (rb_B Z A) A) args s mo_step_rm.cells mo_step_rm.slots A) Z 7 0 [(0, .ref (Z.1 23))] [] S 0 0 := by
  unfold mo_step_p_0 at h
  refine rb_aload_n X 0 mo_step_d0 rfl 0 rfl ?_
  refine mo_g7 X mo_step_d1 ?_
  refine rb_iconst X 4 mo_step_d4 (by decide) ?_
  refine rb_aload_n X 0 mo_step_d5 rfl 0 rfl ?_
  refine mo_g123 X mo_step_d6 ?_
  refine rb_imul X mo_step_d9 ?_
  obtain ⟨hin, h⟩ := h
  refine rb_iald X 24 (rb_a24 Z) mo_step_d10 hin ?_
  refine rb_topi (fun v11 e11 => ?_)
  replace h := h v11 e11
  refine rb_istore_n X 1 [1, 0] (L' := [(0, .ref (Z.1 23)), (1, .int v11)]) mo_step_d11 rfl (by decide) rfl ?_
  refine rb_aload_n X 0 mo_step_d12 rfl 0 rfl ?_
  refine mo_g7 X mo_step_d13 ?_
  refine rb_iconst X 4 mo_step_d16 (by decide) ?_
  refine rb_aload_n X 0 mo_step_d17 rfl 0 rfl ?_
  refine mo_g123 X mo_step_d18 ?_
  refine rb_imul X mo_step_d21 ?_
  refine rb_iconst X 1 mo_step_d22 (by decide) ?_
  refine rb_iadd X mo_step_d23 ?_
  obtain ⟨hin, h⟩ := h
  refine rb_iald X 24 (rb_a24 Z) mo_step_d24 hin ?_
  refine rb_topi (fun v25 e25 => ?_)
  replace h := h v25 e25
  refine rb_istore_n X 2 [1, 2, 0] (L' := [(0, .ref (Z.1 23)), (1, .int v11), (2, .int v25)]) mo_step_d25 rfl (by decide) rfl ?_
  refine rb_aload_n X 0 mo_step_d26 rfl 0 rfl ?_
  refine mo_g7 X mo_step_d27 ?_
  refine rb_iconst X 4 mo_step_d30 (by decide) ?_
  refine rb_aload_n X 0 mo_step_d31 rfl 0 rfl ?_
  refine mo_g123 X mo_step_d32 ?_
  refine rb_imul X mo_step_d35 ?_
  refine rb_iconst X 2 mo_step_d36 (by decide) ?_
  refine rb_iadd X mo_step_d37 ?_
  obtain ⟨hin, h⟩ := h
  refine rb_iald X 24 (rb_a24 Z) mo_step_d38 hin ?_
  refine rb_topi (fun v39 e39 => ?_)
  replace h := h v39 e39
  refine rb_istore_n X 3 [1, 2, 3, 0] (L' := [(0, .ref (Z.1 23)), (1, .int v11), (2, .int v25), (3, .int v39)]) mo_step_d39 rfl (by decide) rfl ?_
  refine rb_aload_n X 0 mo_step_d40 rfl 0 rfl ?_
  refine mo_g7 X mo_step_d41 ?_
  refine rb_iconst X 4 mo_step_d44 (by decide) ?_
  refine rb_aload_n X 0 mo_step_d45 rfl 0 rfl ?_
  refine mo_g123 X mo_step_d46 ?_
  refine rb_imul X mo_step_d49 ?_
  refine rb_iconst X 3 mo_step_d50 (by decide) ?_
  refine rb_iadd X mo_step_d51 ?_
  obtain ⟨hin, h⟩ := h
  refine rb_iald X 24 (rb_a24 Z) mo_step_d52 hin ?_
  refine rb_topi (fun v53 e53 => ?_)
  replace h := h v53 e53
  refine rb_istore X 4 [1, 2, 3, 4, 0] (L' := [(0, .ref (Z.1 23)), (1, .int v11), (2, .int v25), (3, .int v39), (4, .int v53)]) mo_step_d53 (by decide) rfl ?_
  refine rb_aload_n X 0 mo_step_d55 rfl 0 rfl ?_
  refine rb_dup X mo_step_d56 rfl ?_
  refine mo_g123 X mo_step_d57 ?_
  refine rb_iconst X 1 mo_step_d60 (by decide) ?_
  refine rb_iadd X mo_step_d61 ?_
  refine mo_q123 X mo_step_d62 (fun S62 e62 => ?_)
  replace h := h S62 e62
  refine rb_aload_n X 0 mo_step_d65 rfl 0 rfl ?_
  refine rb_dup X mo_step_d66 rfl ?_
  refine mo_g126 X mo_step_d67 ?_
  refine rb_iconst X 1 mo_step_d70 (by decide) ?_
  refine rb_iadd X mo_step_d71 ?_
  refine mo_q126 X mo_step_d72 (fun S72 e72 => ?_)
  replace h := h S72 e72
  refine rb_iload_n X 1 mo_step_d75 rfl 1 rfl ?_
  refine rb_iconst X 4 mo_step_d76 (by decide) ?_
  refine rb_icmp_ne X 89 mo_step_d77 (by decide) (fun hc => ?_) (fun hc => ?_)
  · replace h := h.1 hc
    refine rb_iload_n X 1 mo_step_d89 rfl 1 rfl ?_
    refine rb_bipush X 6 mo_step_d90 (by decide) ?_
    refine rb_icmp_gt X 115 mo_step_d92 (by decide) (fun hc => ?_) (fun hc => ?_)
    · replace h := h.1 hc
      refine rb_iload_n X 1 mo_step_d115 rfl 1 rfl ?_
      refine rb_bipush X 9 mo_step_d116 (by decide) ?_
      refine rb_icmp_ne X 129 mo_step_d118 (by decide) (fun hc => ?_) (fun hc => ?_)
      · replace h := h.1 hc
        refine rb_iload_n X 1 mo_step_d129 rfl 1 rfl ?_
        refine rb_bipush X 8 mo_step_d130 (by decide) ?_
        refine rb_icmp_ne X 165 mo_step_d132 (by decide) (fun hc => ?_) (fun hc => ?_)
        · replace h := h.1 hc
          refine rb_aload_n X 0 mo_step_d165 rfl 0 rfl ?_
          refine rb_iload_n X 2 mo_step_d166 rfl 2 rfl ?_
          refine rb_callVi (As := [.int v25]) (rest := []) X (mo_get_c l Z h) mo_get_w ⟨by decide, by decide⟩ rw_735 rw_737 rs_51 (q0 := 23) rfl rfl rfl rfl (Nat.le_of_ble_eq_true rfl) mo_step_d167 ⟨by decide, by decide⟩ (fun r167 S167 h => ?_)
          refine rb_istore X 5 [1, 2, 3, 4, 5, 0] (L' := [(0, .ref (Z.1 23)), (1, .int v11), (2, .int v25), (3, .int v39), (4, .int v53), (5, .int r167)]) mo_step_d170 (by decide) rfl ?_
          refine rb_aload_n X 0 mo_step_d172 rfl 0 rfl ?_
          refine rb_iload_n X 3 mo_step_d173 rfl 3 rfl ?_
          refine rb_callVi (As := [.int v39]) (rest := []) X (mo_get_c l Z h) mo_get_w ⟨by decide, by decide⟩ rw_735 rw_737 rs_51 (q0 := 23) rfl rfl rfl rfl (Nat.le_of_ble_eq_true rfl) mo_step_d174 ⟨by decide, by decide⟩ (fun r174 S174 h => ?_)
          refine rb_istore X 6 [1, 2, 3, 4, 5, 6, 0] (L' := [(0, .ref (Z.1 23)), (1, .int v11), (2, .int v25), (3, .int v39), (4, .int v53), (5, .int r167), (6, .int r174)]) mo_step_d177 (by decide) rfl ?_
          refine rb_iload_n X 1 mo_step_d179 rfl 1 rfl ?_
          refine rb_bipush X 7 mo_step_d180 (by decide) ?_
          refine rb_icmp_ne X 200 mo_step_d182 (by decide) (fun hc => ?_) (fun hc => ?_)
          · replace h := h.1 hc
            refine rb_aload_n X 0 mo_step_d200 rfl 0 rfl ?_
            refine rb_iload_n X 1 mo_step_d201 rfl 1 rfl ?_
            refine rb_bipush X 10 mo_step_d202 (by decide) ?_
            refine rb_icmp_ne X 217 mo_step_d204 (by decide) (fun hc => ?_) (fun hc => ?_)
            · replace h := h.1 hc
              refine rb_iload X 5 mo_step_d217 5 rfl ?_
              refine rb_iload X 6 mo_step_d219 6 rfl ?_
              refine rb_icmp_ne X 229 mo_step_d221 (by decide) (fun hc => ?_) (fun hc => ?_)
              · replace h := h.1 hc
                exact mo_step_k_229 X h
              · replace h := h.2 hc
                exact mo_step_k_224 X h
            · replace h := h.2 hc
              refine rb_iload X 5 mo_step_d207 5 rfl ?_
              refine rb_iload X 6 mo_step_d209 6 rfl ?_
              refine rb_icmp_ge X 229 mo_step_d211 (by decide) (fun hc => ?_) (fun hc => ?_)
              · replace h := h.1 hc
                exact mo_step_k_229 X h
              · replace h := h.2 hc
                refine rb_goto X 224 mo_step_d214 (by decide) ?_
                exact mo_step_k_224 X h
          · replace h := h.2 hc
            refine rb_aload_n X 0 mo_step_d185 rfl 0 rfl ?_
            refine mo_g41 X mo_step_d186 ?_
            refine rb_iload X 5 mo_step_d189 5 rfl ?_
            refine rb_bipush X 15 mo_step_d191 (by decide) ?_
            refine rb_iand X mo_step_d193 ?_
            refine rb_iload X 6 mo_step_d194 6 rfl ?_
            obtain ⟨hin, h⟩ := h
            refine rb_iast X 34 (rb_a34 Z) mo_step_d196 hin (fun S196 e196 => ?_)
            replace h := h S196 e196
            refine rb_goto X 236 mo_step_d197 (by decide) ?_
            refine rb_cut [0, 1, 2, 3, 4] (L' := [(0, .ref (Z.1 23)), (1, .int v11), (2, .int v25), (3, .int v39), (4, .int v53)]) rfl ?_
            exact mo_step_k_236 X h
        · replace h := h.2 hc
          refine rb_aload_n X 0 mo_step_d135 rfl 0 rfl ?_
          refine mo_g44 X mo_step_d136 ?_
          refine rb_aload_n X 0 mo_step_d139 rfl 0 rfl ?_
          refine mo_g72 X mo_step_d140 ?_
          refine rb_bipush X 16 mo_step_d143 (by decide) ?_
          refine rb_irem X mo_step_d145 (by decide) ?_
          refine rb_aload_n X 0 mo_step_d146 rfl 0 rfl ?_
          refine rb_iload_n X 2 mo_step_d147 rfl 2 rfl ?_
          refine rb_callVi (As := [.int v25]) (rest := [.int ((S72 1 11) - (S72 1 11) / 16 * 16), .ref (Z.1 35)]) X (mo_get_c l Z h) mo_get_w ⟨by decide, by decide⟩ rw_735 rw_737 rs_51 (q0 := 23) rfl rfl rfl rfl (Nat.le_of_ble_eq_true rfl) mo_step_d148 ⟨by decide, by decide⟩ (fun r148 S148 h => ?_)
          obtain ⟨hin, h⟩ := h
          refine rb_iast X 35 (rb_a35 Z) mo_step_d151 hin (fun S151 e151 => ?_)
          replace h := h S151 e151
          refine rb_aload_n X 0 mo_step_d152 rfl 0 rfl ?_
          refine rb_dup X mo_step_d153 rfl ?_
          refine mo_g72 X mo_step_d154 ?_
          refine rb_iconst X 1 mo_step_d157 (by decide) ?_
          refine rb_iadd X mo_step_d158 ?_
          refine mo_q72 X mo_step_d159 (fun S159 e159 => ?_)
          replace h := h S159 e159
          refine rb_goto X 236 mo_step_d162 (by decide) ?_
          exact mo_step_k_236 X h
      · replace h := h.2 hc
        refine rb_aload_n X 0 mo_step_d121 rfl 0 rfl ?_
        refine rb_iload_n X 2 mo_step_d122 rfl 2 rfl ?_
        refine mo_q123 X mo_step_d123 (fun S123 e123 => ?_)
        replace h := h S123 e123
        refine rb_goto X 236 mo_step_d126 (by decide) ?_
        exact mo_step_k_236 X h
    · replace h := h.2 hc
      refine rb_aload_n X 0 mo_step_d95 rfl 0 rfl ?_
      refine rb_iload_n X 1 mo_step_d96 rfl 1 rfl ?_
      refine rb_iload_n X 3 mo_step_d97 rfl 3 rfl ?_
      refine rb_iload X 4 mo_step_d98 4 rfl ?_
      refine rb_callVi (As := [.int v11, .int v39, .int v53]) (rest := []) X (mo_made_c l Z h) mo_made_w ⟨by decide, by decide⟩ rw_743 rw_745 rs_53 (q0 := 23) rfl rfl rfl rfl (Nat.le_of_ble_eq_true rfl) mo_step_d100 ⟨by decide, by decide⟩ (fun r100 S100 h => ?_)
      refine rb_istore X 5 [1, 2, 3, 4, 5, 0] (L' := [(0, .ref (Z.1 23)), (1, .int v11), (2, .int v25), (3, .int v39), (4, .int v53), (5, .int r100)]) mo_step_d103 (by decide) rfl ?_
      refine rb_aload_n X 0 mo_step_d105 rfl 0 rfl ?_
      refine rb_iload_n X 2 mo_step_d106 rfl 2 rfl ?_
      refine rb_iload X 5 mo_step_d107 5 rfl ?_
      refine rb_callVv (As := [.int v25, .int r100]) (rest := []) X (mo_bring_c l Z h) mo_bring_w ⟨by decide, by decide⟩ rw_739 rw_741 rs_52 (q0 := 23) rfl rfl rfl rfl (Nat.le_of_ble_eq_true rfl) mo_step_d109 ⟨by decide, by decide⟩ (fun S109 h => ?_)
      refine rb_goto X 236 mo_step_d112 (by decide) ?_
      refine rb_cut [0, 1, 2, 3, 4] (L' := [(0, .ref (Z.1 23)), (1, .int v11), (2, .int v25), (3, .int v39), (4, .int v53)]) rfl ?_
      exact mo_step_k_236 X h
  · replace h := h.2 hc
    refine rb_aload_n X 0 mo_step_d80 rfl 0 rfl ?_
    refine rb_iload_n X 2 mo_step_d81 rfl 2 rfl ?_
    refine rb_iload_n X 3 mo_step_d82 rfl 3 rfl ?_
    refine rb_callVv (As := [.int v25, .int v39]) (rest := []) X (mo_copy_c l Z h) mo_copy_w ⟨by decide, by decide⟩ rw_731 rw_733 rs_50 (q0 := 23) rfl rfl rfl rfl (Nat.le_of_ble_eq_true rfl) mo_step_d83 ⟨by decide, by decide⟩ (fun S83 h => ?_)
    refine rb_goto X 236 mo_step_d86 (by decide) ?_
    exact mo_step_k_236 X h
theorem mo_step_c (l : Launch) (Z : rb_Z) {K : rb_S → Prop}  {S : rb_S} (h : mo_step_p_0 K S) : rb_Mv l mo_step_y mo_step_b 7 mo_step_rm Z [.ref (Z.1 23)] S K := rb_startV (by decide) (Nat.le_of_ble_eq_true rfl) (fun p e s m args below meth c A X => mo_step_k_0 X h)
end
theorem mo_run_d0 : decode mo_run_b 0 = .ok (.aload_n 0, 1) := by decide +kernel
theorem mo_run_d1 : decode mo_run_b 1 = .ok (.aload_n 0, 1) := by decide +kernel
theorem mo_run_d2 : decode mo_run_b 2 = .ok (.getfield 68, 3) := by decide +kernel
theorem mo_run_d5 : decode mo_run_b 5 = .ok (.ifCond .eq 14, 3) := by decide +kernel
theorem mo_run_d8 : decode mo_run_b 8 = .ok (.aload_n 0, 1) := by decide +kernel
theorem mo_run_d9 : decode mo_run_b 9 = .ok (.getfield 123, 3) := by decide +kernel
theorem mo_run_d12 : decode mo_run_b 12 = .ok (.aload_n 0, 1) := by decide +kernel
theorem mo_run_d13 : decode mo_run_b 13 = .ok (.getfield 65, 3) := by decide +kernel
theorem mo_run_d16 : decode mo_run_b 16 = .ok (.if_icmp .ne 7, 3) := by decide +kernel
theorem mo_run_d19 : decode mo_run_b 19 = .ok (.iconst 1, 1) := by decide +kernel
theorem mo_run_d20 : decode mo_run_b 20 = .ok (.goto 20, 3) := by decide +kernel
theorem mo_run_d23 : decode mo_run_b 23 = .ok (.iload_n 1, 1) := by decide +kernel
theorem mo_run_d24 : decode mo_run_b 24 = .ok (.iconst 1, 1) := by decide +kernel
theorem mo_run_d25 : decode mo_run_b 25 = .ok (.if_icmp .lt 10, 3) := by decide +kernel
theorem mo_run_d28 : decode mo_run_b 28 = .ok (.iload_n 1, 1) := by decide +kernel
theorem mo_run_d29 : decode mo_run_b 29 = .ok (.sipush 5000, 3) := by decide +kernel
theorem mo_run_d32 : decode mo_run_b 32 = .ok (.if_icmp .le 7, 3) := by decide +kernel
theorem mo_run_d35 : decode mo_run_b 35 = .ok (.iconst 2, 1) := by decide +kernel
theorem mo_run_d36 : decode mo_run_b 36 = .ok (.goto 4, 3) := by decide +kernel
theorem mo_run_d39 : decode mo_run_b 39 = .ok (.iconst 0, 1) := by decide +kernel
theorem mo_run_d40 : decode mo_run_b 40 = .ok (.putfield 47, 3) := by decide +kernel
theorem mo_run_d43 : decode mo_run_b 43 = .ok (.iconst 0, 1) := by decide +kernel
theorem mo_run_d44 : decode mo_run_b 44 = .ok (.istore_n 2, 1) := by decide +kernel
theorem mo_run_d45 : decode mo_run_b 45 = .ok (.aload_n 0, 1) := by decide +kernel
theorem mo_run_d46 : decode mo_run_b 46 = .ok (.getfield 47, 3) := by decide +kernel
theorem mo_run_d49 : decode mo_run_b 49 = .ok (.ifCond .ne 29, 3) := by decide +kernel
theorem mo_run_d52 : decode mo_run_b 52 = .ok (.iload_n 2, 1) := by decide +kernel
theorem mo_run_d53 : decode mo_run_b 53 = .ok (.iload_n 1, 1) := by decide +kernel
theorem mo_run_d54 : decode mo_run_b 54 = .ok (.if_icmp .ge 24, 3) := by decide +kernel
theorem mo_run_d57 : decode mo_run_b 57 = .ok (.aload_n 0, 1) := by decide +kernel
theorem mo_run_d58 : decode mo_run_b 58 = .ok (.getfield 123, 3) := by decide +kernel
theorem mo_run_d61 : decode mo_run_b 61 = .ok (.aload_n 0, 1) := by decide +kernel
theorem mo_run_d62 : decode mo_run_b 62 = .ok (.getfield 65, 3) := by decide +kernel
theorem mo_run_d65 : decode mo_run_b 65 = .ok (.if_icmp .ge 13, 3) := by decide +kernel
theorem mo_run_d68 : decode mo_run_b 68 = .ok (.aload_n 0, 1) := by decide +kernel
theorem mo_run_d69 : decode mo_run_b 69 = .ok (.invokevirtual 155, 3) := by decide +kernel
theorem mo_run_d72 : decode mo_run_b 72 = .ok (.iinc 2 1, 3) := by decide +kernel
theorem mo_run_d75 : decode mo_run_b 75 = .ok (.goto (-30), 3) := by decide +kernel
theorem mo_run_d78 : decode mo_run_b 78 = .ok (.iload_n 2, 1) := by decide +kernel
theorem mo_run_d79 : decode mo_run_b 79 = .ok (.ireturn, 1) := by decide +kernel
abbrev mo_run_rm : Room := { frames := 3, cells := 0, slots := 0, locals := 73 }
theorem mo_run_w : rb_cw mo_run_y mo_run_b 3 (some .int) 1 := ⟨rw_726, rw_7, ⟨by decide, by decide⟩, by decide +kernel⟩
section
variable {p : Program} {l : Launch} {e : Env} {s : State} {m : MethodId} {args : Array Value} {below : List Frame} {meth : Method} {c : Code} {A : Nat → Prop} {Z : rb_Z}
def mo_run_p_78 (K : Int32 → rb_S → Prop) (x1 : Int32) (x2 : Int32) (S : rb_S) : Prop := K x2 S
theorem mo_run_k_78 {K : Int32 → rb_S → Prop}  (X : rb_X p s m args meth c A Z mo_run_b 3 "RoomMakerModel" (some .int))  {x1 : Int32} {x2 : Int32} {S : rb_S} (h : mo_run_p_78 K x1 x2 S) : rb_V p l e mo_run_rm s m args below meth c A (MQ below (va_Qi K (rb_B Z A) A) args s mo_run_rm.cells mo_run_rm.slots A) Z 3 78 [(0, .ref (Z.1 23)), (1, .int x1), (2, .int x2)] [] S 0 0 := by
  unfold mo_run_p_78 at h
  refine rb_iload_n X 2 mo_run_d78 rfl 2 rfl ?_
  exact rb_iret X mo_run_d79 h
def mo_run_p_45 (K : Int32 → rb_S → Prop) : Nat → Int32 → Int32 → rb_S → Prop
  | 0, _, _, _ => False
  | n45 + 1, x1, x2, S => (¬ (S 1 0) = 0 → mo_run_p_78 K x1 x2 S) ∧ ((S 1 0) = 0 → (x1 ≤ x2 → mo_run_p_78 K x1 x2 S) ∧ (¬ x1 ≤ x2 → ((S 1 1) ≤ (S 1 6) → mo_run_p_78 K x1 x2 S) ∧ (¬ (S 1 1) ≤ (S 1 6) → mo_step_p_0 (fun S69 => ∀ v72 : Int32, v72 = x2 + 1 → ((fun a0 a1 T => mo_run_p_45 K n45 a0 a1 T) x1 v72 S69)) S)))
theorem mo_run_k_45 {K : Int32 → rb_S → Prop}  (X : rb_X p s m args meth c A Z mo_run_b 3 "RoomMakerModel" (some .int))  : ∀ (n : Nat) (x1 : Int32) (x2 : Int32) (S : rb_S), mo_run_p_45 K n x1 x2 S → rb_V p l e mo_run_rm s m args below meth c A (MQ below (va_Qi K (rb_B Z A) A) args s mo_run_rm.cells mo_run_rm.slots A) Z 3 45 [(0, .ref (Z.1 23)), (1, .int x1), (2, .int x2)] [] S 0 0 := by
  intro n
  induction n with
  | zero =>
    intro x1 x2 S h
    exact (show False from h).elim
  | succ n ih =>
    intro x1 x2 S h
    have hB45 := ih
    rw [mo_run_p_45] at h
    refine rb_aload_n X 0 mo_run_d45 rfl 0 rfl ?_
    refine mo_g47 X mo_run_d46 ?_
    refine rb_if_ne X 78 mo_run_d49 (by decide) (fun hc => ?_) (fun hc => ?_)
    · replace h := h.1 hc
      exact mo_run_k_78 X h
    · replace h := h.2 hc
      refine rb_iload_n X 2 mo_run_d52 rfl 2 rfl ?_
      refine rb_iload_n X 1 mo_run_d53 rfl 1 rfl ?_
      refine rb_icmp_ge X 78 mo_run_d54 (by decide) (fun hc => ?_) (fun hc => ?_)
      · replace h := h.1 hc
        exact mo_run_k_78 X h
      · replace h := h.2 hc
        refine rb_aload_n X 0 mo_run_d57 rfl 0 rfl ?_
        refine mo_g123 X mo_run_d58 ?_
        refine rb_aload_n X 0 mo_run_d61 rfl 0 rfl ?_
        refine mo_g65 X mo_run_d62 ?_
        refine rb_icmp_ge X 78 mo_run_d65 (by decide) (fun hc => ?_) (fun hc => ?_)
        · replace h := h.1 hc
          exact mo_run_k_78 X h
        · replace h := h.2 hc
          refine rb_aload_n X 0 mo_run_d68 rfl 0 rfl ?_
          refine rb_callVv (As := []) (rest := []) X (mo_step_c l Z h) mo_step_w ⟨by decide, by decide⟩ rw_727 rw_729 rs_49 (q0 := 23) rfl rfl rfl rfl (Nat.le_of_ble_eq_true rfl) mo_run_d69 ⟨by decide, by decide⟩ (fun S69 h => ?_)
          refine rb_iinc X 1 2 [1, 2, 0] (fun v72 => [(0, .ref (Z.1 23)), (1, .int x1), (2, .int v72)]) mo_run_d72 2 rfl (by decide) (by decide) (fun _ => rfl) (fun v72 e72 => ?_)
          replace h := h v72 e72
          refine rb_goto X 45 mo_run_d75 (by decide) ?_
          exact hB45 _ _ _ h
def mo_run_p_40 (K : Int32 → rb_S → Prop) (x1 : Int32) (y0 : Int32) (S : rb_S) : Prop := ∀ S40 : rb_S, S40 = rb_u S 1 0 y0 → (∃ j45 : Nat, mo_run_p_45 K j45 x1 0 S40)
theorem mo_run_k_40 {K : Int32 → rb_S → Prop}  (X : rb_X p s m args meth c A Z mo_run_b 3 "RoomMakerModel" (some .int))  {x1 : Int32} {y0 : Int32} {S : rb_S} (h : mo_run_p_40 K x1 y0 S) : rb_V p l e mo_run_rm s m args below meth c A (MQ below (va_Qi K (rb_B Z A) A) args s mo_run_rm.cells mo_run_rm.slots A) Z 3 40 [(0, .ref (Z.1 23)), (1, .int x1)] [.int y0, .ref (Z.1 23)] S 0 0 := by
  unfold mo_run_p_40 at h
  refine mo_q47 X mo_run_d40 (fun S40 e40 => ?_)
  replace h := h S40 e40
  refine rb_iconst X 0 mo_run_d43 (by decide) ?_
  refine rb_istore_n X 2 [1, 2, 0] (L' := [(0, .ref (Z.1 23)), (1, .int x1), (2, .int 0)]) mo_run_d44 rfl (by decide) rfl ?_
  obtain ⟨j45, h⟩ := h
  exact mo_run_k_45 X j45 _ _ _ h
def mo_run_p_19 (K : Int32 → rb_S → Prop) (x1 : Int32) (S : rb_S) : Prop := mo_run_p_40 K x1 1 S
theorem mo_run_k_19 {K : Int32 → rb_S → Prop}  (X : rb_X p s m args meth c A Z mo_run_b 3 "RoomMakerModel" (some .int))  {x1 : Int32} {S : rb_S} (h : mo_run_p_19 K x1 S) : rb_V p l e mo_run_rm s m args below meth c A (MQ below (va_Qi K (rb_B Z A) A) args s mo_run_rm.cells mo_run_rm.slots A) Z 3 19 [(0, .ref (Z.1 23)), (1, .int x1)] [.ref (Z.1 23)] S 0 0 := by
  unfold mo_run_p_19 at h
  refine rb_iconst X 1 mo_run_d19 (by decide) ?_
  refine rb_goto X 40 mo_run_d20 (by decide) ?_
  exact mo_run_k_40 X h
def mo_run_p_35 (K : Int32 → rb_S → Prop) (x1 : Int32) (S : rb_S) : Prop := mo_run_p_40 K x1 2 S
theorem mo_run_k_35 {K : Int32 → rb_S → Prop}  (X : rb_X p s m args meth c A Z mo_run_b 3 "RoomMakerModel" (some .int))  {x1 : Int32} {S : rb_S} (h : mo_run_p_35 K x1 S) : rb_V p l e mo_run_rm s m args below meth c A (MQ below (va_Qi K (rb_B Z A) A) args s mo_run_rm.cells mo_run_rm.slots A) Z 3 35 [(0, .ref (Z.1 23)), (1, .int x1)] [.ref (Z.1 23)] S 0 0 := by
  unfold mo_run_p_35 at h
  refine rb_iconst X 2 mo_run_d35 (by decide) ?_
  refine rb_goto X 40 mo_run_d36 (by decide) ?_
  exact mo_run_k_40 X h
def mo_run_p_0 (K : Int32 → rb_S → Prop) (x1 : Int32) (S : rb_S) : Prop := ((S 1 3) = 0 → mo_run_p_19 K x1 S) ∧ (¬ (S 1 3) = 0 → (¬ (S 1 6) = (S 1 1) → (x1 < 1 → mo_run_p_35 K x1 S) ∧ (¬ x1 < 1 → (x1 ≤ 5000 → mo_run_p_40 K x1 0 S) ∧ (¬ x1 ≤ 5000 → mo_run_p_35 K x1 S))) ∧ ((S 1 6) = (S 1 1) → mo_run_p_19 K x1 S))
theorem mo_run_k_0 {K : Int32 → rb_S → Prop}  (X : rb_X p s m args meth c A Z mo_run_b 3 "RoomMakerModel" (some .int))  {x1 : Int32} {S : rb_S} (h : mo_run_p_0 K x1 S) : rb_V p l e mo_run_rm s m args below meth c A (MQ below (va_Qi K (rb_B Z A) A) args s mo_run_rm.cells mo_run_rm.slots A) Z 3 0 [(0, .ref (Z.1 23)), (1, .int x1)] [] S 0 0 := by
  unfold mo_run_p_0 at h
  refine rb_aload_n X 0 mo_run_d0 rfl 0 rfl ?_
  refine rb_aload_n X 0 mo_run_d1 rfl 0 rfl ?_
  refine mo_g68 X mo_run_d2 ?_
  refine rb_if_eq X 19 mo_run_d5 (by decide) (fun hc => ?_) (fun hc => ?_)
  · replace h := h.1 hc
    exact mo_run_k_19 X h
  · replace h := h.2 hc
    refine rb_aload_n X 0 mo_run_d8 rfl 0 rfl ?_
    refine mo_g123 X mo_run_d9 ?_
    refine rb_aload_n X 0 mo_run_d12 rfl 0 rfl ?_
    refine mo_g65 X mo_run_d13 ?_
    refine rb_icmp_ne X 23 mo_run_d16 (by decide) (fun hc => ?_) (fun hc => ?_)
    · replace h := h.1 hc
      refine rb_iload_n X 1 mo_run_d23 rfl 1 rfl ?_
      refine rb_iconst X 1 mo_run_d24 (by decide) ?_
      refine rb_icmp_lt X 35 mo_run_d25 (by decide) (fun hc => ?_) (fun hc => ?_)
      · replace h := h.1 hc
        exact mo_run_k_35 X h
      · replace h := h.2 hc
        refine rb_iload_n X 1 mo_run_d28 rfl 1 rfl ?_
        refine rb_sipush X 5000 mo_run_d29 (by decide) ?_
        refine rb_icmp_le X 39 mo_run_d32 (by decide) (fun hc => ?_) (fun hc => ?_)
        · replace h := h.1 hc
          refine rb_iconst X 0 mo_run_d39 (by decide) ?_
          exact mo_run_k_40 X h
        · replace h := h.2 hc
          exact mo_run_k_35 X h
    · replace h := h.2 hc
      exact mo_run_k_19 X h
theorem mo_run_c (l : Launch) (Z : rb_Z) {K : Int32 → rb_S → Prop} {x1 : Int32} {S : rb_S} (h : mo_run_p_0 K x1 S) : rb_Mi l mo_run_y mo_run_b 3 (some .int) mo_run_rm Z [.ref (Z.1 23), .int x1] S K := rb_startI (by decide) (Nat.le_of_ble_eq_true rfl) (fun p e s m args below meth c A X => mo_run_k_0 X h)
end
theorem mo_restart_d0 : decode mo_restart_b 0 = .ok (.aload_n 0, 1) := by decide +kernel
theorem mo_restart_d1 : decode mo_restart_b 1 = .ok (.iconst 0, 1) := by decide +kernel
theorem mo_restart_d2 : decode mo_restart_b 2 = .ok (.putfield 47, 3) := by decide +kernel
theorem mo_restart_d5 : decode mo_restart_b 5 = .ok (.aload_n 0, 1) := by decide +kernel
theorem mo_restart_d6 : decode mo_restart_b 6 = .ok (.getfield 68, 3) := by decide +kernel
theorem mo_restart_d9 : decode mo_restart_b 9 = .ok (.ifCond .eq 7, 3) := by decide +kernel
theorem mo_restart_d12 : decode mo_restart_b 12 = .ok (.aload_n 0, 1) := by decide +kernel
theorem mo_restart_d13 : decode mo_restart_b 13 = .ok (.invokevirtual 120, 3) := by decide +kernel
theorem mo_restart_d16 : decode mo_restart_b 16 = .ok (.aload_n 0, 1) := by decide +kernel
theorem mo_restart_d17 : decode mo_restart_b 17 = .ok (.getfield 68, 3) := by decide +kernel
theorem mo_restart_d20 : decode mo_restart_b 20 = .ok (.ireturn, 1) := by decide +kernel
abbrev mo_restart_rm : Room := { frames := 1, cells := 0, slots := 0, locals := 21 }
theorem mo_restart_w : rb_cw mo_restart_y mo_restart_b 1 (some .boolean) 0 := ⟨rw_754, rw_7, ⟨by decide, by decide⟩, by decide +kernel⟩
section
variable {p : Program} {l : Launch} {e : Env} {s : State} {m : MethodId} {args : Array Value} {below : List Frame} {meth : Method} {c : Code} {A : Nat → Prop} {Z : rb_Z}
def mo_restart_p_16 (K : Int32 → rb_S → Prop)  (S : rb_S) : Prop := narrow .boolean (.int (S 1 3)) = .int (S 1 3) ∧ K (S 1 3) S
theorem mo_restart_k_16 {K : Int32 → rb_S → Prop}  (X : rb_X p s m args meth c A Z mo_restart_b 1 "RoomMakerModel" (some .boolean))   {S : rb_S} (h : mo_restart_p_16 K S) : rb_V p l e mo_restart_rm s m args below meth c A (MQ below (va_Qi K (rb_B Z A) A) args s mo_restart_rm.cells mo_restart_rm.slots A) Z 1 16 [(0, .ref (Z.1 23))] [] S 0 0 := by
  unfold mo_restart_p_16 at h
  refine rb_aload_n X 0 mo_restart_d16 rfl 0 rfl ?_
  refine mo_g68 X mo_restart_d17 ?_
  obtain ⟨hn, h⟩ := h
  exact rb_zret X mo_restart_d20 hn h
def mo_restart_p_0 (K : Int32 → rb_S → Prop)  (S : rb_S) : Prop := ∀ S2 : rb_S, S2 = rb_u S 1 0 0 → (((S2 1 3) = 0 → mo_restart_p_16 K S2) ∧ (¬ (S2 1 3) = 0 → mo_begin_p_0 (fun S13 => mo_restart_p_16 K S13) S2))
theorem mo_restart_k_0 {K : Int32 → rb_S → Prop}  (X : rb_X p s m args meth c A Z mo_restart_b 1 "RoomMakerModel" (some .boolean))   {S : rb_S} (h : mo_restart_p_0 K S) : rb_V p l e mo_restart_rm s m args below meth c A (MQ below (va_Qi K (rb_B Z A) A) args s mo_restart_rm.cells mo_restart_rm.slots A) Z 1 0 [(0, .ref (Z.1 23))] [] S 0 0 := by
  unfold mo_restart_p_0 at h
  refine rb_aload_n X 0 mo_restart_d0 rfl 0 rfl ?_
  refine rb_iconst X 0 mo_restart_d1 (by decide) ?_
  refine mo_q47 X mo_restart_d2 (fun S2 e2 => ?_)
  replace h := h S2 e2
  refine rb_aload_n X 0 mo_restart_d5 rfl 0 rfl ?_
  refine mo_g68 X mo_restart_d6 ?_
  refine rb_if_eq X 16 mo_restart_d9 (by decide) (fun hc => ?_) (fun hc => ?_)
  · replace h := h.1 hc
    exact mo_restart_k_16 X h
  · replace h := h.2 hc
    refine rb_aload_n X 0 mo_restart_d12 rfl 0 rfl ?_
    refine rb_callVv (As := []) (rest := []) X (mo_begin_c l Z h) mo_begin_w ⟨by decide, by decide⟩ rw_703 rw_705 rs_48 (q0 := 23) rfl rfl rfl rfl (Nat.le_of_ble_eq_true rfl) mo_restart_d13 ⟨by decide, by decide⟩ (fun S13 h => ?_)
    exact mo_restart_k_16 X h
theorem mo_restart_c (l : Launch) (Z : rb_Z) {K : Int32 → rb_S → Prop}  {S : rb_S} (h : mo_restart_p_0 K S) : rb_Mi l mo_restart_y mo_restart_b 1 (some .boolean) mo_restart_rm Z [.ref (Z.1 23)] S K := rb_startI (by decide) (Nat.le_of_ble_eq_true rfl) (fun p e s m args below meth c A X => mo_restart_k_0 X h)
end
theorem mo_value_d0 : decode mo_value_b 0 = .ok (.aload_n 0, 1) := by decide +kernel
theorem mo_value_d1 : decode mo_value_b 1 = .ok (.aload_n 0, 1) := by decide +kernel
theorem mo_value_d2 : decode mo_value_b 2 = .ok (.getfield 68, 3) := by decide +kernel
theorem mo_value_d5 : decode mo_value_b 5 = .ok (.ifCond .ne 7, 3) := by decide +kernel
theorem mo_value_d8 : decode mo_value_b 8 = .ok (.iconst 1, 1) := by decide +kernel
theorem mo_value_d9 : decode mo_value_b 9 = .ok (.goto 18, 3) := by decide +kernel
theorem mo_value_d12 : decode mo_value_b 12 = .ok (.iload_n 1, 1) := by decide +kernel
theorem mo_value_d13 : decode mo_value_b 13 = .ok (.ifCond .lt 9, 3) := by decide +kernel
theorem mo_value_d16 : decode mo_value_b 16 = .ok (.iload_n 1, 1) := by decide +kernel
theorem mo_value_d17 : decode mo_value_b 17 = .ok (.bipush 32, 2) := by decide +kernel
theorem mo_value_d19 : decode mo_value_b 19 = .ok (.if_icmp .lt 7, 3) := by decide +kernel
theorem mo_value_d22 : decode mo_value_b 22 = .ok (.iconst 2, 1) := by decide +kernel
theorem mo_value_d23 : decode mo_value_b 23 = .ok (.goto 4, 3) := by decide +kernel
theorem mo_value_d26 : decode mo_value_b 26 = .ok (.iconst 0, 1) := by decide +kernel
theorem mo_value_d27 : decode mo_value_b 27 = .ok (.putfield 47, 3) := by decide +kernel
theorem mo_value_d30 : decode mo_value_b 30 = .ok (.aload_n 0, 1) := by decide +kernel
theorem mo_value_d31 : decode mo_value_b 31 = .ok (.getfield 47, 3) := by decide +kernel
theorem mo_value_d34 : decode mo_value_b 34 = .ok (.ifCond .le 5, 3) := by decide +kernel
theorem mo_value_d37 : decode mo_value_b 37 = .ok (.iconst 0, 1) := by decide +kernel
theorem mo_value_d38 : decode mo_value_b 38 = .ok (.ireturn, 1) := by decide +kernel
theorem mo_value_d39 : decode mo_value_b 39 = .ok (.iload_n 1, 1) := by decide +kernel
theorem mo_value_d40 : decode mo_value_b 40 = .ok (.bipush 16, 2) := by decide +kernel
theorem mo_value_d42 : decode mo_value_b 42 = .ok (.if_icmp .lt 13, 3) := by decide +kernel
theorem mo_value_d45 : decode mo_value_b 45 = .ok (.aload_n 0, 1) := by decide +kernel
theorem mo_value_d46 : decode mo_value_b 46 = .ok (.getfield 41, 3) := by decide +kernel
theorem mo_value_d49 : decode mo_value_b 49 = .ok (.iload_n 1, 1) := by decide +kernel
theorem mo_value_d50 : decode mo_value_b 50 = .ok (.bipush 16, 2) := by decide +kernel
theorem mo_value_d52 : decode mo_value_b 52 = .ok (.isub, 1) := by decide +kernel
theorem mo_value_d53 : decode mo_value_b 53 = .ok (.iaload, 1) := by decide +kernel
theorem mo_value_d54 : decode mo_value_b 54 = .ok (.ireturn, 1) := by decide +kernel
theorem mo_value_d55 : decode mo_value_b 55 = .ok (.aload_n 0, 1) := by decide +kernel
theorem mo_value_d56 : decode mo_value_b 56 = .ok (.getfield 32, 3) := by decide +kernel
theorem mo_value_d59 : decode mo_value_b 59 = .ok (.iload_n 1, 1) := by decide +kernel
theorem mo_value_d60 : decode mo_value_b 60 = .ok (.iaload, 1) := by decide +kernel
theorem mo_value_d61 : decode mo_value_b 61 = .ok (.istore_n 2, 1) := by decide +kernel
theorem mo_value_d62 : decode mo_value_b 62 = .ok (.iload_n 2, 1) := by decide +kernel
theorem mo_value_d63 : decode mo_value_b 63 = .ok (.ifCond .ge 7, 3) := by decide +kernel
theorem mo_value_d66 : decode mo_value_b 66 = .ok (.iconst 0, 1) := by decide +kernel
theorem mo_value_d67 : decode mo_value_b 67 = .ok (.goto 27, 3) := by decide +kernel
theorem mo_value_d70 : decode mo_value_b 70 = .ok (.iload_n 2, 1) := by decide +kernel
theorem mo_value_d71 : decode mo_value_b 71 = .ok (.bipush 16, 2) := by decide +kernel
theorem mo_value_d73 : decode mo_value_b 73 = .ok (.if_icmp .ge 12, 3) := by decide +kernel
theorem mo_value_d76 : decode mo_value_b 76 = .ok (.aload_n 0, 1) := by decide +kernel
theorem mo_value_d77 : decode mo_value_b 77 = .ok (.getfield 35, 3) := by decide +kernel
theorem mo_value_d80 : decode mo_value_b 80 = .ok (.iload_n 2, 1) := by decide +kernel
theorem mo_value_d81 : decode mo_value_b 81 = .ok (.iaload, 1) := by decide +kernel
theorem mo_value_d82 : decode mo_value_b 82 = .ok (.goto 12, 3) := by decide +kernel
theorem mo_value_d85 : decode mo_value_b 85 = .ok (.aload_n 0, 1) := by decide +kernel
theorem mo_value_d86 : decode mo_value_b 86 = .ok (.getfield 38, 3) := by decide +kernel
theorem mo_value_d89 : decode mo_value_b 89 = .ok (.iload_n 2, 1) := by decide +kernel
theorem mo_value_d90 : decode mo_value_b 90 = .ok (.bipush 16, 2) := by decide +kernel
theorem mo_value_d92 : decode mo_value_b 92 = .ok (.isub, 1) := by decide +kernel
theorem mo_value_d93 : decode mo_value_b 93 = .ok (.iaload, 1) := by decide +kernel
theorem mo_value_d94 : decode mo_value_b 94 = .ok (.ireturn, 1) := by decide +kernel
abbrev mo_value_rm : Room := { frames := 0, cells := 0, slots := 0, locals := 0 }
theorem mo_value_w : rb_cw mo_value_y mo_value_b 3 (some .int) 1 := ⟨rw_758, rw_7, ⟨by decide, by decide⟩, by decide +kernel⟩
section
variable {p : Program} {l : Launch} {e : Env} {s : State} {m : MethodId} {args : Array Value} {below : List Frame} {meth : Method} {c : Code} {A : Nat → Prop} {Z : rb_Z}
def mo_value_p_94 (K : Int32 → rb_S → Prop) (x1 : Int32) (x2 : Int32) (y0 : Int32) (S : rb_S) : Prop := K y0 S
theorem mo_value_k_94 {K : Int32 → rb_S → Prop}  (X : rb_X p s m args meth c A Z mo_value_b 3 "RoomMakerModel" (some .int))  {x1 : Int32} {x2 : Int32} {y0 : Int32} {S : rb_S} (h : mo_value_p_94 K x1 x2 y0 S) : rb_V p l e mo_value_rm s m args below meth c A (MQ below (va_Qi K (rb_B Z A) A) args s mo_value_rm.cells mo_value_rm.slots A) Z 3 94 [(0, .ref (Z.1 23)), (1, .int x1), (2, .int x2)] [.int y0] S 0 0 := by
  unfold mo_value_p_94 at h
  exact rb_iret X mo_value_d94 h
def mo_value_p_27 (K : Int32 → rb_S → Prop) (x1 : Int32) (y0 : Int32) (S : rb_S) : Prop := ∀ S27 : rb_S, S27 = rb_u S 1 0 y0 → (((S27 1 0) ≤ 0 → (x1 < 16 → vp_in x1 16 ∧ (∀ v61 : Int32, v61 = (S27 31 x1.toNatClampNeg) → ((0 ≤ v61 → (16 ≤ v61 → vp_in (v61 - 16) 16 ∧ (mo_value_p_94 K x1 v61 (S27 33 (v61 - 16).toNatClampNeg) S27)) ∧ (¬ 16 ≤ v61 → vp_in v61 8 ∧ (mo_value_p_94 K x1 v61 (S27 32 v61.toNatClampNeg) S27))) ∧ (¬ 0 ≤ v61 → mo_value_p_94 K x1 v61 0 S27)))) ∧ (¬ x1 < 16 → vp_in (x1 - 16) 16 ∧ (K (S27 34 (x1 - 16).toNatClampNeg) S27))) ∧ (¬ (S27 1 0) ≤ 0 → K 0 S27))
theorem mo_value_k_27 {K : Int32 → rb_S → Prop}  (X : rb_X p s m args meth c A Z mo_value_b 3 "RoomMakerModel" (some .int))  {x1 : Int32} {y0 : Int32} {S : rb_S} (h : mo_value_p_27 K x1 y0 S) : rb_V p l e mo_value_rm s m args below meth c A (MQ below (va_Qi K (rb_B Z A) A) args s mo_value_rm.cells mo_value_rm.slots A) Z 3 27 [(0, .ref (Z.1 23)), (1, .int x1)] [.int y0, .ref (Z.1 23)] S 0 0 := by
  unfold mo_value_p_27 at h
  refine mo_q47 X mo_value_d27 (fun S27 e27 => ?_)
  replace h := h S27 e27
  refine rb_aload_n X 0 mo_value_d30 rfl 0 rfl ?_
  refine mo_g47 X mo_value_d31 ?_
  refine rb_if_le X 39 mo_value_d34 (by decide) (fun hc => ?_) (fun hc => ?_)
  · replace h := h.1 hc
    refine rb_iload_n X 1 mo_value_d39 rfl 1 rfl ?_
    refine rb_bipush X 16 mo_value_d40 (by decide) ?_
    refine rb_icmp_lt X 55 mo_value_d42 (by decide) (fun hc => ?_) (fun hc => ?_)
    · replace h := h.1 hc
      refine rb_aload_n X 0 mo_value_d55 rfl 0 rfl ?_
      refine mo_g32 X mo_value_d56 ?_
      refine rb_iload_n X 1 mo_value_d59 rfl 1 rfl ?_
      obtain ⟨hin, h⟩ := h
      refine rb_iald X 31 (rb_a31 Z) mo_value_d60 hin ?_
      refine rb_topi (fun v61 e61 => ?_)
      replace h := h v61 e61
      refine rb_istore_n X 2 [1, 2, 0] (L' := [(0, .ref (Z.1 23)), (1, .int x1), (2, .int v61)]) mo_value_d61 rfl (by decide) rfl ?_
      refine rb_iload_n X 2 mo_value_d62 rfl 2 rfl ?_
      refine rb_if_ge X 70 mo_value_d63 (by decide) (fun hc => ?_) (fun hc => ?_)
      · replace h := h.1 hc
        refine rb_iload_n X 2 mo_value_d70 rfl 2 rfl ?_
        refine rb_bipush X 16 mo_value_d71 (by decide) ?_
        refine rb_icmp_ge X 85 mo_value_d73 (by decide) (fun hc => ?_) (fun hc => ?_)
        · replace h := h.1 hc
          refine rb_aload_n X 0 mo_value_d85 rfl 0 rfl ?_
          refine mo_g38 X mo_value_d86 ?_
          refine rb_iload_n X 2 mo_value_d89 rfl 2 rfl ?_
          refine rb_bipush X 16 mo_value_d90 (by decide) ?_
          refine rb_isub X mo_value_d92 ?_
          obtain ⟨hin, h⟩ := h
          refine rb_iald X 33 (rb_a33 Z) mo_value_d93 hin ?_
          exact mo_value_k_94 X h
        · replace h := h.2 hc
          refine rb_aload_n X 0 mo_value_d76 rfl 0 rfl ?_
          refine mo_g35 X mo_value_d77 ?_
          refine rb_iload_n X 2 mo_value_d80 rfl 2 rfl ?_
          obtain ⟨hin, h⟩ := h
          refine rb_iald X 32 (rb_a32 Z) mo_value_d81 hin ?_
          refine rb_goto X 94 mo_value_d82 (by decide) ?_
          exact mo_value_k_94 X h
      · replace h := h.2 hc
        refine rb_iconst X 0 mo_value_d66 (by decide) ?_
        refine rb_goto X 94 mo_value_d67 (by decide) ?_
        exact mo_value_k_94 X h
    · replace h := h.2 hc
      refine rb_aload_n X 0 mo_value_d45 rfl 0 rfl ?_
      refine mo_g41 X mo_value_d46 ?_
      refine rb_iload_n X 1 mo_value_d49 rfl 1 rfl ?_
      refine rb_bipush X 16 mo_value_d50 (by decide) ?_
      refine rb_isub X mo_value_d52 ?_
      obtain ⟨hin, h⟩ := h
      refine rb_iald X 34 (rb_a34 Z) mo_value_d53 hin ?_
      exact rb_iret X mo_value_d54 h
  · replace h := h.2 hc
    refine rb_iconst X 0 mo_value_d37 (by decide) ?_
    exact rb_iret X mo_value_d38 h
def mo_value_p_22 (K : Int32 → rb_S → Prop) (x1 : Int32) (S : rb_S) : Prop := mo_value_p_27 K x1 2 S
theorem mo_value_k_22 {K : Int32 → rb_S → Prop}  (X : rb_X p s m args meth c A Z mo_value_b 3 "RoomMakerModel" (some .int))  {x1 : Int32} {S : rb_S} (h : mo_value_p_22 K x1 S) : rb_V p l e mo_value_rm s m args below meth c A (MQ below (va_Qi K (rb_B Z A) A) args s mo_value_rm.cells mo_value_rm.slots A) Z 3 22 [(0, .ref (Z.1 23)), (1, .int x1)] [.ref (Z.1 23)] S 0 0 := by
  unfold mo_value_p_22 at h
  refine rb_iconst X 2 mo_value_d22 (by decide) ?_
  refine rb_goto X 27 mo_value_d23 (by decide) ?_
  exact mo_value_k_27 X h
def mo_value_p_0 (K : Int32 → rb_S → Prop) (x1 : Int32) (S : rb_S) : Prop := (¬ (S 1 3) = 0 → (x1 < 0 → mo_value_p_22 K x1 S) ∧ (¬ x1 < 0 → (x1 < 32 → mo_value_p_27 K x1 0 S) ∧ (¬ x1 < 32 → mo_value_p_22 K x1 S))) ∧ ((S 1 3) = 0 → mo_value_p_27 K x1 1 S)
theorem mo_value_k_0 {K : Int32 → rb_S → Prop}  (X : rb_X p s m args meth c A Z mo_value_b 3 "RoomMakerModel" (some .int))  {x1 : Int32} {S : rb_S} (h : mo_value_p_0 K x1 S) : rb_V p l e mo_value_rm s m args below meth c A (MQ below (va_Qi K (rb_B Z A) A) args s mo_value_rm.cells mo_value_rm.slots A) Z 3 0 [(0, .ref (Z.1 23)), (1, .int x1)] [] S 0 0 := by
  unfold mo_value_p_0 at h
  refine rb_aload_n X 0 mo_value_d0 rfl 0 rfl ?_
  refine rb_aload_n X 0 mo_value_d1 rfl 0 rfl ?_
  refine mo_g68 X mo_value_d2 ?_
  refine rb_if_ne X 12 mo_value_d5 (by decide) (fun hc => ?_) (fun hc => ?_)
  · replace h := h.1 hc
    refine rb_iload_n X 1 mo_value_d12 rfl 1 rfl ?_
    refine rb_if_lt X 22 mo_value_d13 (by decide) (fun hc => ?_) (fun hc => ?_)
    · replace h := h.1 hc
      exact mo_value_k_22 X h
    · replace h := h.2 hc
      refine rb_iload_n X 1 mo_value_d16 rfl 1 rfl ?_
      refine rb_bipush X 32 mo_value_d17 (by decide) ?_
      refine rb_icmp_lt X 26 mo_value_d19 (by decide) (fun hc => ?_) (fun hc => ?_)
      · replace h := h.1 hc
        refine rb_iconst X 0 mo_value_d26 (by decide) ?_
        exact mo_value_k_27 X h
      · replace h := h.2 hc
        exact mo_value_k_22 X h
  · replace h := h.2 hc
    refine rb_iconst X 1 mo_value_d8 (by decide) ?_
    refine rb_goto X 27 mo_value_d9 (by decide) ?_
    exact mo_value_k_27 X h
theorem mo_value_c (l : Launch) (Z : rb_Z) {K : Int32 → rb_S → Prop} {x1 : Int32} {S : rb_S} (h : mo_value_p_0 K x1 S) : rb_Mi l mo_value_y mo_value_b 3 (some .int) mo_value_rm Z [.ref (Z.1 23), .int x1] S K := rb_startI (by decide) (Nat.le_of_ble_eq_true rfl) (fun p e s m args below meth c A X => mo_value_k_0 X h)
end
theorem mo_output_d0 : decode mo_output_b 0 = .ok (.aload_n 0, 1) := by decide +kernel
theorem mo_output_d1 : decode mo_output_b 1 = .ok (.iconst 0, 1) := by decide +kernel
theorem mo_output_d2 : decode mo_output_b 2 = .ok (.putfield 47, 3) := by decide +kernel
theorem mo_output_d5 : decode mo_output_b 5 = .ok (.iload_n 1, 1) := by decide +kernel
theorem mo_output_d6 : decode mo_output_b 6 = .ok (.ifCond .lt 17, 3) := by decide +kernel
theorem mo_output_d9 : decode mo_output_b 9 = .ok (.iload_n 1, 1) := by decide +kernel
theorem mo_output_d10 : decode mo_output_b 10 = .ok (.bipush 15, 2) := by decide +kernel
theorem mo_output_d12 : decode mo_output_b 12 = .ok (.if_icmp .gt 11, 3) := by decide +kernel
theorem mo_output_d15 : decode mo_output_b 15 = .ok (.iload_n 1, 1) := by decide +kernel
theorem mo_output_d16 : decode mo_output_b 16 = .ok (.aload_n 0, 1) := by decide +kernel
theorem mo_output_d17 : decode mo_output_b 17 = .ok (.getfield 72, 3) := by decide +kernel
theorem mo_output_d20 : decode mo_output_b 20 = .ok (.if_icmp .lt 7, 3) := by decide +kernel
theorem mo_output_d23 : decode mo_output_b 23 = .ok (.iconst 0, 1) := by decide +kernel
theorem mo_output_d24 : decode mo_output_b 24 = .ok (.goto 19, 3) := by decide +kernel
theorem mo_output_d27 : decode mo_output_b 27 = .ok (.aload_n 0, 1) := by decide +kernel
theorem mo_output_d28 : decode mo_output_b 28 = .ok (.getfield 44, 3) := by decide +kernel
theorem mo_output_d31 : decode mo_output_b 31 = .ok (.aload_n 0, 1) := by decide +kernel
theorem mo_output_d32 : decode mo_output_b 32 = .ok (.getfield 72, 3) := by decide +kernel
theorem mo_output_d35 : decode mo_output_b 35 = .ok (.iconst 1, 1) := by decide +kernel
theorem mo_output_d36 : decode mo_output_b 36 = .ok (.isub, 1) := by decide +kernel
theorem mo_output_d37 : decode mo_output_b 37 = .ok (.iload_n 1, 1) := by decide +kernel
theorem mo_output_d38 : decode mo_output_b 38 = .ok (.isub, 1) := by decide +kernel
theorem mo_output_d39 : decode mo_output_b 39 = .ok (.bipush 16, 2) := by decide +kernel
theorem mo_output_d41 : decode mo_output_b 41 = .ok (.irem, 1) := by decide +kernel
theorem mo_output_d42 : decode mo_output_b 42 = .ok (.iaload, 1) := by decide +kernel
theorem mo_output_d43 : decode mo_output_b 43 = .ok (.ireturn, 1) := by decide +kernel
abbrev mo_output_rm : Room := { frames := 0, cells := 0, slots := 0, locals := 0 }
theorem mo_output_w : rb_cw mo_output_y mo_output_b 2 (some .int) 1 := ⟨rw_762, rw_7, ⟨by decide, by decide⟩, by decide +kernel⟩
section
variable {p : Program} {l : Launch} {e : Env} {s : State} {m : MethodId} {args : Array Value} {below : List Frame} {meth : Method} {c : Code} {A : Nat → Prop} {Z : rb_Z}
def mo_output_p_43 (K : Int32 → rb_S → Prop) (x1 : Int32) (y0 : Int32) (S : rb_S) : Prop := K y0 S
theorem mo_output_k_43 {K : Int32 → rb_S → Prop}  (X : rb_X p s m args meth c A Z mo_output_b 2 "RoomMakerModel" (some .int))  {x1 : Int32} {y0 : Int32} {S : rb_S} (h : mo_output_p_43 K x1 y0 S) : rb_V p l e mo_output_rm s m args below meth c A (MQ below (va_Qi K (rb_B Z A) A) args s mo_output_rm.cells mo_output_rm.slots A) Z 2 43 [(0, .ref (Z.1 23)), (1, .int x1)] [.int y0] S 0 0 := by
  unfold mo_output_p_43 at h
  exact rb_iret X mo_output_d43 h
def mo_output_p_23 (K : Int32 → rb_S → Prop) (x1 : Int32) (S : rb_S) : Prop := mo_output_p_43 K x1 0 S
theorem mo_output_k_23 {K : Int32 → rb_S → Prop}  (X : rb_X p s m args meth c A Z mo_output_b 2 "RoomMakerModel" (some .int))  {x1 : Int32} {S : rb_S} (h : mo_output_p_23 K x1 S) : rb_V p l e mo_output_rm s m args below meth c A (MQ below (va_Qi K (rb_B Z A) A) args s mo_output_rm.cells mo_output_rm.slots A) Z 2 23 [(0, .ref (Z.1 23)), (1, .int x1)] [] S 0 0 := by
  unfold mo_output_p_23 at h
  refine rb_iconst X 0 mo_output_d23 (by decide) ?_
  refine rb_goto X 43 mo_output_d24 (by decide) ?_
  exact mo_output_k_43 X h
def mo_output_p_0 (K : Int32 → rb_S → Prop) (x1 : Int32) (S : rb_S) : Prop := ∀ S2 : rb_S, S2 = rb_u S 1 0 0 → ((x1 < 0 → mo_output_p_23 K x1 S2) ∧ (¬ x1 < 0 → (15 < x1 → mo_output_p_23 K x1 S2) ∧ (¬ 15 < x1 → (x1 < (S2 1 11) → vp_in ((((S2 1 11) - 1) - x1) - (((S2 1 11) - 1) - x1) / 16 * 16) 16 ∧ (mo_output_p_43 K x1 (S2 35 ((((S2 1 11) - 1) - x1) - (((S2 1 11) - 1) - x1) / 16 * 16).toNatClampNeg) S2)) ∧ (¬ x1 < (S2 1 11) → mo_output_p_23 K x1 S2))))
theorem mo_output_k_0 {K : Int32 → rb_S → Prop}  (X : rb_X p s m args meth c A Z mo_output_b 2 "RoomMakerModel" (some .int))  {x1 : Int32} {S : rb_S} (h : mo_output_p_0 K x1 S) : rb_V p l e mo_output_rm s m args below meth c A (MQ below (va_Qi K (rb_B Z A) A) args s mo_output_rm.cells mo_output_rm.slots A) Z 2 0 [(0, .ref (Z.1 23)), (1, .int x1)] [] S 0 0 := by
  unfold mo_output_p_0 at h
  refine rb_aload_n X 0 mo_output_d0 rfl 0 rfl ?_
  refine rb_iconst X 0 mo_output_d1 (by decide) ?_
  refine mo_q47 X mo_output_d2 (fun S2 e2 => ?_)
  replace h := h S2 e2
  refine rb_iload_n X 1 mo_output_d5 rfl 1 rfl ?_
  refine rb_if_lt X 23 mo_output_d6 (by decide) (fun hc => ?_) (fun hc => ?_)
  · replace h := h.1 hc
    exact mo_output_k_23 X h
  · replace h := h.2 hc
    refine rb_iload_n X 1 mo_output_d9 rfl 1 rfl ?_
    refine rb_bipush X 15 mo_output_d10 (by decide) ?_
    refine rb_icmp_gt X 23 mo_output_d12 (by decide) (fun hc => ?_) (fun hc => ?_)
    · replace h := h.1 hc
      exact mo_output_k_23 X h
    · replace h := h.2 hc
      refine rb_iload_n X 1 mo_output_d15 rfl 1 rfl ?_
      refine rb_aload_n X 0 mo_output_d16 rfl 0 rfl ?_
      refine mo_g72 X mo_output_d17 ?_
      refine rb_icmp_lt X 27 mo_output_d20 (by decide) (fun hc => ?_) (fun hc => ?_)
      · replace h := h.1 hc
        refine rb_aload_n X 0 mo_output_d27 rfl 0 rfl ?_
        refine mo_g44 X mo_output_d28 ?_
        refine rb_aload_n X 0 mo_output_d31 rfl 0 rfl ?_
        refine mo_g72 X mo_output_d32 ?_
        refine rb_iconst X 1 mo_output_d35 (by decide) ?_
        refine rb_isub X mo_output_d36 ?_
        refine rb_iload_n X 1 mo_output_d37 rfl 1 rfl ?_
        refine rb_isub X mo_output_d38 ?_
        refine rb_bipush X 16 mo_output_d39 (by decide) ?_
        refine rb_irem X mo_output_d41 (by decide) ?_
        obtain ⟨hin, h⟩ := h
        refine rb_iald X 35 (rb_a35 Z) mo_output_d42 hin ?_
        exact mo_output_k_43 X h
      · replace h := h.2 hc
        exact mo_output_k_23 X h
theorem mo_output_c (l : Launch) (Z : rb_Z) {K : Int32 → rb_S → Prop} {x1 : Int32} {S : rb_S} (h : mo_output_p_0 K x1 S) : rb_Mi l mo_output_y mo_output_b 2 (some .int) mo_output_rm Z [.ref (Z.1 23), .int x1] S K := rb_startI (by decide) (Nat.le_of_ble_eq_true rfl) (fun p e s m args below meth c A X => mo_output_k_0 X h)
end
theorem mo_count_d0 : decode mo_count_b 0 = .ok (.aload_n 0, 1) := by decide +kernel
theorem mo_count_d1 : decode mo_count_b 1 = .ok (.iconst 0, 1) := by decide +kernel
theorem mo_count_d2 : decode mo_count_b 2 = .ok (.putfield 47, 3) := by decide +kernel
theorem mo_count_d5 : decode mo_count_b 5 = .ok (.iload_n 1, 1) := by decide +kernel
theorem mo_count_d6 : decode mo_count_b 6 = .ok (.ifCond .ne 8, 3) := by decide +kernel
theorem mo_count_d9 : decode mo_count_b 9 = .ok (.aload_n 0, 1) := by decide +kernel
theorem mo_count_d10 : decode mo_count_b 10 = .ok (.getfield 65, 3) := by decide +kernel
theorem mo_count_d13 : decode mo_count_b 13 = .ok (.ireturn, 1) := by decide +kernel
theorem mo_count_d14 : decode mo_count_b 14 = .ok (.iload_n 1, 1) := by decide +kernel
theorem mo_count_d15 : decode mo_count_b 15 = .ok (.bipush 8, 2) := by decide +kernel
theorem mo_count_d17 : decode mo_count_b 17 = .ok (.if_icmp .ne 8, 3) := by decide +kernel
theorem mo_count_d20 : decode mo_count_b 20 = .ok (.aload_n 0, 1) := by decide +kernel
theorem mo_count_d21 : decode mo_count_b 21 = .ok (.getfield 75, 3) := by decide +kernel
theorem mo_count_d24 : decode mo_count_b 24 = .ok (.ireturn, 1) := by decide +kernel
theorem mo_count_d25 : decode mo_count_b 25 = .ok (.aload_n 0, 1) := by decide +kernel
theorem mo_count_d26 : decode mo_count_b 26 = .ok (.getfield 68, 3) := by decide +kernel
theorem mo_count_d29 : decode mo_count_b 29 = .ok (.ifCond .ne 5, 3) := by decide +kernel
theorem mo_count_d32 : decode mo_count_b 32 = .ok (.iconst (-1), 1) := by decide +kernel
theorem mo_count_d33 : decode mo_count_b 33 = .ok (.ireturn, 1) := by decide +kernel
theorem mo_count_d34 : decode mo_count_b 34 = .ok (.iload_n 1, 1) := by decide +kernel
theorem mo_count_d35 : decode mo_count_b 35 = .ok (.tableswitch 88 1 7 #[41, 46, 51, 56, 61, 66, 71], 41) := by decide +kernel
theorem mo_count_d76 : decode mo_count_b 76 = .ok (.aload_n 0, 1) := by decide +kernel
theorem mo_count_d77 : decode mo_count_b 77 = .ok (.getfield 123, 3) := by decide +kernel
theorem mo_count_d80 : decode mo_count_b 80 = .ok (.ireturn, 1) := by decide +kernel
theorem mo_count_d81 : decode mo_count_b 81 = .ok (.aload_n 0, 1) := by decide +kernel
theorem mo_count_d82 : decode mo_count_b 82 = .ok (.getfield 126, 3) := by decide +kernel
theorem mo_count_d85 : decode mo_count_b 85 = .ok (.ireturn, 1) := by decide +kernel
theorem mo_count_d86 : decode mo_count_b 86 = .ok (.aload_n 0, 1) := by decide +kernel
theorem mo_count_d87 : decode mo_count_b 87 = .ok (.getfield 129, 3) := by decide +kernel
theorem mo_count_d90 : decode mo_count_b 90 = .ok (.ireturn, 1) := by decide +kernel
theorem mo_count_d91 : decode mo_count_b 91 = .ok (.aload_n 0, 1) := by decide +kernel
theorem mo_count_d92 : decode mo_count_b 92 = .ok (.getfield 132, 3) := by decide +kernel
theorem mo_count_d95 : decode mo_count_b 95 = .ok (.ireturn, 1) := by decide +kernel
theorem mo_count_d96 : decode mo_count_b 96 = .ok (.aload_n 0, 1) := by decide +kernel
theorem mo_count_d97 : decode mo_count_b 97 = .ok (.getfield 135, 3) := by decide +kernel
theorem mo_count_d100 : decode mo_count_b 100 = .ok (.ireturn, 1) := by decide +kernel
theorem mo_count_d101 : decode mo_count_b 101 = .ok (.aload_n 0, 1) := by decide +kernel
theorem mo_count_d102 : decode mo_count_b 102 = .ok (.getfield 72, 3) := by decide +kernel
theorem mo_count_d105 : decode mo_count_b 105 = .ok (.ireturn, 1) := by decide +kernel
theorem mo_count_d106 : decode mo_count_b 106 = .ok (.aload_n 0, 1) := by decide +kernel
theorem mo_count_d107 : decode mo_count_b 107 = .ok (.getfield 123, 3) := by decide +kernel
theorem mo_count_d110 : decode mo_count_b 110 = .ok (.aload_n 0, 1) := by decide +kernel
theorem mo_count_d111 : decode mo_count_b 111 = .ok (.getfield 65, 3) := by decide +kernel
theorem mo_count_d114 : decode mo_count_b 114 = .ok (.if_icmp .ne 7, 3) := by decide +kernel
theorem mo_count_d117 : decode mo_count_b 117 = .ok (.iconst 1, 1) := by decide +kernel
theorem mo_count_d118 : decode mo_count_b 118 = .ok (.goto 4, 3) := by decide +kernel
theorem mo_count_d121 : decode mo_count_b 121 = .ok (.iconst 0, 1) := by decide +kernel
theorem mo_count_d122 : decode mo_count_b 122 = .ok (.ireturn, 1) := by decide +kernel
theorem mo_count_d123 : decode mo_count_b 123 = .ok (.iconst (-1), 1) := by decide +kernel
theorem mo_count_d124 : decode mo_count_b 124 = .ok (.ireturn, 1) := by decide +kernel
abbrev mo_count_rm : Room := { frames := 0, cells := 0, slots := 0, locals := 0 }
theorem mo_count_w : rb_cw mo_count_y mo_count_b 2 (some .int) 1 := ⟨rw_766, rw_7, ⟨by decide, by decide⟩, by decide +kernel⟩
section
variable {p : Program} {l : Launch} {e : Env} {s : State} {m : MethodId} {args : Array Value} {below : List Frame} {meth : Method} {c : Code} {A : Nat → Prop} {Z : rb_Z}
def mo_count_p_122 (K : Int32 → rb_S → Prop) (x1 : Int32) (y0 : Int32) (S : rb_S) : Prop := K y0 S
theorem mo_count_k_122 {K : Int32 → rb_S → Prop}  (X : rb_X p s m args meth c A Z mo_count_b 2 "RoomMakerModel" (some .int))  {x1 : Int32} {y0 : Int32} {S : rb_S} (h : mo_count_p_122 K x1 y0 S) : rb_V p l e mo_count_rm s m args below meth c A (MQ below (va_Qi K (rb_B Z A) A) args s mo_count_rm.cells mo_count_rm.slots A) Z 2 122 [(0, .ref (Z.1 23)), (1, .int x1)] [.int y0] S 0 0 := by
  unfold mo_count_p_122 at h
  exact rb_iret X mo_count_d122 h
def mo_count_p_0 (K : Int32 → rb_S → Prop) (x1 : Int32) (S : rb_S) : Prop := ∀ S2 : rb_S, S2 = rb_u S 1 0 0 → ((¬ x1 = 0 → (¬ x1 = 8 → (¬ (S2 1 3) = 0 → (x1 = 1 → K (S2 1 6) S2) ∧ (x1 = 2 → K (S2 1 7) S2) ∧ (x1 = 3 → K (S2 1 8) S2) ∧ (x1 = 4 → K (S2 1 9) S2) ∧ (x1 = 5 → K (S2 1 10) S2) ∧ (x1 = 6 → K (S2 1 11) S2) ∧ (x1 = 7 → (¬ (S2 1 6) = (S2 1 1) → mo_count_p_122 K x1 0 S2) ∧ ((S2 1 6) = (S2 1 1) → mo_count_p_122 K x1 1 S2)) ∧ (x1.toInt < 1 ∨ 7 < x1.toInt → K (-1) S2)) ∧ ((S2 1 3) = 0 → K (-1) S2)) ∧ (x1 = 8 → K (S2 1 2) S2)) ∧ (x1 = 0 → K (S2 1 1) S2))
theorem mo_count_k_0 {K : Int32 → rb_S → Prop}  (X : rb_X p s m args meth c A Z mo_count_b 2 "RoomMakerModel" (some .int))  {x1 : Int32} {S : rb_S} (h : mo_count_p_0 K x1 S) : rb_V p l e mo_count_rm s m args below meth c A (MQ below (va_Qi K (rb_B Z A) A) args s mo_count_rm.cells mo_count_rm.slots A) Z 2 0 [(0, .ref (Z.1 23)), (1, .int x1)] [] S 0 0 := by
  unfold mo_count_p_0 at h
  refine rb_aload_n X 0 mo_count_d0 rfl 0 rfl ?_
  refine rb_iconst X 0 mo_count_d1 (by decide) ?_
  refine mo_q47 X mo_count_d2 (fun S2 e2 => ?_)
  replace h := h S2 e2
  refine rb_iload_n X 1 mo_count_d5 rfl 1 rfl ?_
  refine rb_if_ne X 14 mo_count_d6 (by decide) (fun hc => ?_) (fun hc => ?_)
  · replace h := h.1 hc
    refine rb_iload_n X 1 mo_count_d14 rfl 1 rfl ?_
    refine rb_bipush X 8 mo_count_d15 (by decide) ?_
    refine rb_icmp_ne X 25 mo_count_d17 (by decide) (fun hc => ?_) (fun hc => ?_)
    · replace h := h.1 hc
      refine rb_aload_n X 0 mo_count_d25 rfl 0 rfl ?_
      refine mo_g68 X mo_count_d26 ?_
      refine rb_if_ne X 34 mo_count_d29 (by decide) (fun hc => ?_) (fun hc => ?_)
      · replace h := h.1 hc
        refine rb_iload_n X 1 mo_count_d34 rfl 1 rfl ?_
        by_cases hc : x1 = 1
        · refine rb_tabIn X 76 mo_count_d35 (by rw [hc]; decide) (by rw [hc]; decide) (by rw [hc]; rfl) (by decide) ?_
          replace h := h.1 hc
          refine rb_aload_n X 0 mo_count_d76 rfl 0 rfl ?_
          refine mo_g123 X mo_count_d77 ?_
          exact rb_iret X mo_count_d80 h
        replace h := h.2
        have hc0 := lv_neT (k := 1) (a := 1) hc (by decide)
        clear hc
        by_cases hc : x1 = 2
        · refine rb_tabIn X 81 mo_count_d35 (by rw [hc]; decide) (by rw [hc]; decide) (by rw [hc]; rfl) (by decide) ?_
          replace h := h.1 hc
          refine rb_aload_n X 0 mo_count_d81 rfl 0 rfl ?_
          refine mo_g126 X mo_count_d82 ?_
          exact rb_iret X mo_count_d85 h
        replace h := h.2
        have hc1 := lv_neT (k := 2) (a := 2) hc (by decide)
        clear hc
        by_cases hc : x1 = 3
        · refine rb_tabIn X 86 mo_count_d35 (by rw [hc]; decide) (by rw [hc]; decide) (by rw [hc]; rfl) (by decide) ?_
          replace h := h.1 hc
          refine rb_aload_n X 0 mo_count_d86 rfl 0 rfl ?_
          refine mo_g129 X mo_count_d87 ?_
          exact rb_iret X mo_count_d90 h
        replace h := h.2
        have hc2 := lv_neT (k := 3) (a := 3) hc (by decide)
        clear hc
        by_cases hc : x1 = 4
        · refine rb_tabIn X 91 mo_count_d35 (by rw [hc]; decide) (by rw [hc]; decide) (by rw [hc]; rfl) (by decide) ?_
          replace h := h.1 hc
          refine rb_aload_n X 0 mo_count_d91 rfl 0 rfl ?_
          refine mo_g132 X mo_count_d92 ?_
          exact rb_iret X mo_count_d95 h
        replace h := h.2
        have hc3 := lv_neT (k := 4) (a := 4) hc (by decide)
        clear hc
        by_cases hc : x1 = 5
        · refine rb_tabIn X 96 mo_count_d35 (by rw [hc]; decide) (by rw [hc]; decide) (by rw [hc]; rfl) (by decide) ?_
          replace h := h.1 hc
          refine rb_aload_n X 0 mo_count_d96 rfl 0 rfl ?_
          refine mo_g135 X mo_count_d97 ?_
          exact rb_iret X mo_count_d100 h
        replace h := h.2
        have hc4 := lv_neT (k := 5) (a := 5) hc (by decide)
        clear hc
        by_cases hc : x1 = 6
        · refine rb_tabIn X 101 mo_count_d35 (by rw [hc]; decide) (by rw [hc]; decide) (by rw [hc]; rfl) (by decide) ?_
          replace h := h.1 hc
          refine rb_aload_n X 0 mo_count_d101 rfl 0 rfl ?_
          refine mo_g72 X mo_count_d102 ?_
          exact rb_iret X mo_count_d105 h
        replace h := h.2
        have hc5 := lv_neT (k := 6) (a := 6) hc (by decide)
        clear hc
        by_cases hc : x1 = 7
        · refine rb_tabIn X 106 mo_count_d35 (by rw [hc]; decide) (by rw [hc]; decide) (by rw [hc]; rfl) (by decide) ?_
          replace h := h.1 hc
          refine rb_aload_n X 0 mo_count_d106 rfl 0 rfl ?_
          refine mo_g123 X mo_count_d107 ?_
          refine rb_aload_n X 0 mo_count_d110 rfl 0 rfl ?_
          refine mo_g65 X mo_count_d111 ?_
          refine rb_icmp_ne X 121 mo_count_d114 (by decide) (fun hc => ?_) (fun hc => ?_)
          · replace h := h.1 hc
            refine rb_iconst X 0 mo_count_d121 (by decide) ?_
            exact mo_count_k_122 X h
          · replace h := h.2 hc
            refine rb_iconst X 1 mo_count_d117 (by decide) ?_
            refine rb_goto X 122 mo_count_d118 (by decide) ?_
            exact mo_count_k_122 X h
        replace h := h.2
        have hc6 := lv_neT (k := 7) (a := 7) hc (by decide)
        clear hc
        have hc : x1.toInt < 1 ∨ 7 < x1.toInt := by omega
        refine rb_tabOut X 123 mo_count_d35 hc (by decide) ?_
        replace h := h hc
        refine rb_iconst X (-1) mo_count_d123 (by decide) ?_
        exact rb_iret X mo_count_d124 h
      · replace h := h.2 hc
        refine rb_iconst X (-1) mo_count_d32 (by decide) ?_
        exact rb_iret X mo_count_d33 h
    · replace h := h.2 hc
      refine rb_aload_n X 0 mo_count_d20 rfl 0 rfl ?_
      refine mo_g75 X mo_count_d21 ?_
      exact rb_iret X mo_count_d24 h
  · replace h := h.2 hc
    refine rb_aload_n X 0 mo_count_d9 rfl 0 rfl ?_
    refine mo_g65 X mo_count_d10 ?_
    exact rb_iret X mo_count_d13 h
theorem mo_count_c (l : Launch) (Z : rb_Z) {K : Int32 → rb_S → Prop} {x1 : Int32} {S : rb_S} (h : mo_count_p_0 K x1 S) : rb_Mi l mo_count_y mo_count_b 2 (some .int) mo_count_rm Z [.ref (Z.1 23), .int x1] S K := rb_startI (by decide) (Nat.le_of_ble_eq_true rfl) (fun p e s m args below meth c A X => mo_count_k_0 X h)
end
