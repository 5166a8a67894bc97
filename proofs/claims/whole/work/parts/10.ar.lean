theorem ar_fill_d0 : decode ar_fill_b 0 = .ok (.iconst 0, 1) := by decide +kernel
theorem ar_fill_d1 : decode ar_fill_b 1 = .ok (.istore_n 2, 1) := by decide +kernel
theorem ar_fill_d2 : decode ar_fill_b 2 = .ok (.aload_n 0, 1) := by decide +kernel
theorem ar_fill_d3 : decode ar_fill_b 3 = .ok (.arraylength, 1) := by decide +kernel
theorem ar_fill_d4 : decode ar_fill_b 4 = .ok (.istore_n 3, 1) := by decide +kernel
theorem ar_fill_d5 : decode ar_fill_b 5 = .ok (.iload_n 2, 1) := by decide +kernel
theorem ar_fill_d6 : decode ar_fill_b 6 = .ok (.iload_n 3, 1) := by decide +kernel
theorem ar_fill_d7 : decode ar_fill_b 7 = .ok (.if_icmp .ge 13, 3) := by decide +kernel
theorem ar_fill_d10 : decode ar_fill_b 10 = .ok (.aload_n 0, 1) := by decide +kernel
theorem ar_fill_d11 : decode ar_fill_b 11 = .ok (.iload_n 2, 1) := by decide +kernel
theorem ar_fill_d12 : decode ar_fill_b 12 = .ok (.iload_n 1, 1) := by decide +kernel
theorem ar_fill_d13 : decode ar_fill_b 13 = .ok (.iastore, 1) := by decide +kernel
theorem ar_fill_d14 : decode ar_fill_b 14 = .ok (.iinc 2 1, 3) := by decide +kernel
theorem ar_fill_d17 : decode ar_fill_b 17 = .ok (.goto (-12), 3) := by decide +kernel
theorem ar_fill_d20 : decode ar_fill_b 20 = .ok (.return_, 1) := by decide +kernel
abbrev ar_fill_rm : Room := { frames := 0, cells := 0, slots := 0, locals := 0 }
theorem ar_fill_w : rb_cw ar_fill_y ar_fill_b 4 none 2 := ⟨rw_229, rw_13, ⟨by decide, by decide⟩, by decide +kernel⟩
section
variable {p : Program} {l : Launch} {e : Env} {s : State} {m : MethodId} {args : Array Value} {below : List Frame} {meth : Method} {c : Code} {A : Nat → Prop} {Z : rb_Z}
def ar_fill_p_20 (g gn : Nat) (K : rb_S → Prop) (x1 : Int32) (x2 : Int32) (x3 : Int32) (S : rb_S) : Prop := K S
theorem ar_fill_k_20 {g gn : Nat} {K : rb_S → Prop}  (X : rb_X p s m args meth c A Z ar_fill_b 4 "java/util/Arrays" none) (hg : rb_isI Z g gn)  {x1 : Int32} {x2 : Int32} {x3 : Int32} {S : rb_S} (h : ar_fill_p_20 g gn K x1 x2 x3 S) : rb_V p l e ar_fill_rm s m args below meth c A (MQ below (va_Qv K (rb_B Z A) A) args s ar_fill_rm.cells ar_fill_rm.slots A) Z 4 20 [(0, .ref (Z.1 g)), (1, .int x1), (2, .int x2), (3, .int x3)] [] S 0 0 := by
  unfold ar_fill_p_20 at h
  exact rb_vret X ar_fill_d20 h
def ar_fill_p_5 (g gn : Nat) (K : rb_S → Prop) : Nat → Int32 → Int32 → Int32 → rb_S → Prop
  | 0, _, _, _, _ => False
  | n5 + 1, x1, x2, x3, S => (x3 ≤ x2 → ar_fill_p_20 g gn K x1 x2 x3 S) ∧ (¬ x3 ≤ x2 → vp_in x2 gn ∧ ∀ S13 : rb_S, S13 = rb_u S g x2.toNatClampNeg x1 → (∀ v14 : Int32, v14 = x2 + 1 → ((fun a0 a1 a2 T => ar_fill_p_5 g gn K n5 a0 a1 a2 T) x1 v14 x3 S13)))
theorem ar_fill_k_5 {g gn : Nat} {K : rb_S → Prop}  (X : rb_X p s m args meth c A Z ar_fill_b 4 "java/util/Arrays" none) (hg : rb_isI Z g gn)  : ∀ (n : Nat) (x1 : Int32) (x2 : Int32) (x3 : Int32) (S : rb_S), ar_fill_p_5 g gn K n x1 x2 x3 S → rb_V p l e ar_fill_rm s m args below meth c A (MQ below (va_Qv K (rb_B Z A) A) args s ar_fill_rm.cells ar_fill_rm.slots A) Z 4 5 [(0, .ref (Z.1 g)), (1, .int x1), (2, .int x2), (3, .int x3)] [] S 0 0 := by
  intro n
  induction n with
  | zero =>
    intro x1 x2 x3 S h
    exact (show False from h).elim
  | succ n ih =>
    intro x1 x2 x3 S h
    have hB5 := ih
    rw [ar_fill_p_5] at h
    refine rb_iload_n X 2 ar_fill_d5 rfl 2 rfl ?_
    refine rb_iload_n X 3 ar_fill_d6 rfl 3 rfl ?_
    refine rb_icmp_ge X 20 ar_fill_d7 (by decide) (fun hc => ?_) (fun hc => ?_)
    · replace h := h.1 hc
      exact ar_fill_k_20 X hg h
    · replace h := h.2 hc
      refine rb_aload_n X 0 ar_fill_d10 rfl 0 rfl ?_
      refine rb_iload_n X 2 ar_fill_d11 rfl 2 rfl ?_
      refine rb_iload_n X 1 ar_fill_d12 rfl 1 rfl ?_
      obtain ⟨hin, h⟩ := h
      refine rb_iast X g hg ar_fill_d13 hin (fun S13 e13 => ?_)
      replace h := h S13 e13
      refine rb_iinc X 1 2 [1, 2, 0, 3] (fun v14 => [(0, .ref (Z.1 g)), (1, .int x1), (2, .int v14), (3, .int x3)]) ar_fill_d14 2 rfl (by decide) (by decide) (fun _ => rfl) (fun v14 e14 => ?_)
      replace h := h v14 e14
      refine rb_goto X 5 ar_fill_d17 (by decide) ?_
      exact hB5 _ _ _ _ h
def ar_fill_p_0 (g gn : Nat) (K : rb_S → Prop) (x1 : Int32) (S : rb_S) : Prop := ∀ v4 : Int32, v4 = (Int32.ofNat gn) → (∃ j5 : Nat, ar_fill_p_5 g gn K j5 x1 0 v4 S)
theorem ar_fill_k_0 {g gn : Nat} {K : rb_S → Prop}  (X : rb_X p s m args meth c A Z ar_fill_b 4 "java/util/Arrays" none) (hg : rb_isI Z g gn)  {x1 : Int32} {S : rb_S} (h : ar_fill_p_0 g gn K x1 S) : rb_V p l e ar_fill_rm s m args below meth c A (MQ below (va_Qv K (rb_B Z A) A) args s ar_fill_rm.cells ar_fill_rm.slots A) Z 4 0 [(0, .ref (Z.1 g)), (1, .int x1)] [] S 0 0 := by
  unfold ar_fill_p_0 at h
  refine rb_iconst X 0 ar_fill_d0 (by decide) ?_
  refine rb_istore_n X 2 [1, 2, 0] (L' := [(0, .ref (Z.1 g)), (1, .int x1), (2, .int 0)]) ar_fill_d1 rfl (by decide) rfl ?_
  refine rb_aload_n X 0 ar_fill_d2 rfl 0 rfl ?_
  refine rb_alen X g hg ar_fill_d3 rfl ?_
  refine rb_topi (fun v4 e4 => ?_)
  replace h := h v4 e4
  refine rb_istore_n X 3 [1, 2, 3, 0] (L' := [(0, .ref (Z.1 g)), (1, .int x1), (2, .int 0), (3, .int v4)]) ar_fill_d4 rfl (by decide) rfl ?_
  obtain ⟨j5, h⟩ := h
  exact ar_fill_k_5 X hg j5 _ _ _ _ h
theorem ar_fill_c (l : Launch) (Z : rb_Z) {g gn : Nat} {K : rb_S → Prop} (hg : rb_isI Z g gn) {x1 : Int32} {S : rb_S} (h : ar_fill_p_0 g gn K x1 S) : rb_Mv l ar_fill_y ar_fill_b 4 ar_fill_rm Z [.ref (Z.1 g), .int x1] S K := rb_startV (by decide) (Nat.le_of_ble_eq_true rfl) (fun p e s m args below meth c A X => ar_fill_k_0 X hg h)
end
theorem rm_isValue_d0 : decode rm_isValue_b 0 = .ok (.iload_n 0, 1) := by decide +kernel
theorem rm_isValue_d1 : decode rm_isValue_b 1 = .ok (.ifCond .lt 13, 3) := by decide +kernel
theorem rm_isValue_d4 : decode rm_isValue_b 4 = .ok (.iload_n 0, 1) := by decide +kernel
theorem rm_isValue_d5 : decode rm_isValue_b 5 = .ok (.bipush 16, 2) := by decide +kernel
theorem rm_isValue_d7 : decode rm_isValue_b 7 = .ok (.if_icmp .ge 7, 3) := by decide +kernel
theorem rm_isValue_d10 : decode rm_isValue_b 10 = .ok (.iconst 1, 1) := by decide +kernel
theorem rm_isValue_d11 : decode rm_isValue_b 11 = .ok (.goto 4, 3) := by decide +kernel
theorem rm_isValue_d14 : decode rm_isValue_b 14 = .ok (.iconst 0, 1) := by decide +kernel
theorem rm_isValue_d15 : decode rm_isValue_b 15 = .ok (.ireturn, 1) := by decide +kernel
abbrev rm_isValue_rm : Room := { frames := 0, cells := 0, slots := 0, locals := 0 }
theorem rm_isValue_w : rb_cw rm_isValue_y rm_isValue_b 1 (some .boolean) 1 := ⟨rw_268, rw_1, ⟨by decide, by decide⟩, by decide +kernel⟩
section
variable {p : Program} {l : Launch} {e : Env} {s : State} {m : MethodId} {args : Array Value} {below : List Frame} {meth : Method} {c : Code} {A : Nat → Prop} {Z : rb_Z}
def rm_isValue_p_15 (K : Int32 → rb_S → Prop) (x0 : Int32) (y0 : Int32) (S : rb_S) : Prop := narrow .boolean (.int y0) = .int y0 ∧ K y0 S
theorem rm_isValue_k_15 {K : Int32 → rb_S → Prop}  (X : rb_X p s m args meth c A Z rm_isValue_b 1 "RoomMaker" (some .boolean))  {x0 : Int32} {y0 : Int32} {S : rb_S} (h : rm_isValue_p_15 K x0 y0 S) : rb_V p l e rm_isValue_rm s m args below meth c A (MQ below (va_Qi K (rb_B Z A) A) args s rm_isValue_rm.cells rm_isValue_rm.slots A) Z 1 15 [(0, .int x0)] [.int y0] S 0 0 := by
  unfold rm_isValue_p_15 at h
  obtain ⟨hn, h⟩ := h
  exact rb_zret X rm_isValue_d15 hn h
def rm_isValue_p_14 (K : Int32 → rb_S → Prop) (x0 : Int32) (S : rb_S) : Prop := rm_isValue_p_15 K x0 0 S
theorem rm_isValue_k_14 {K : Int32 → rb_S → Prop}  (X : rb_X p s m args meth c A Z rm_isValue_b 1 "RoomMaker" (some .boolean))  {x0 : Int32} {S : rb_S} (h : rm_isValue_p_14 K x0 S) : rb_V p l e rm_isValue_rm s m args below meth c A (MQ below (va_Qi K (rb_B Z A) A) args s rm_isValue_rm.cells rm_isValue_rm.slots A) Z 1 14 [(0, .int x0)] [] S 0 0 := by
  unfold rm_isValue_p_14 at h
  refine rb_iconst X 0 rm_isValue_d14 (by decide) ?_
  exact rm_isValue_k_15 X h
def rm_isValue_p_0 (K : Int32 → rb_S → Prop) (x0 : Int32) (S : rb_S) : Prop := (x0 < 0 → rm_isValue_p_14 K x0 S) ∧ (¬ x0 < 0 → (16 ≤ x0 → rm_isValue_p_14 K x0 S) ∧ (¬ 16 ≤ x0 → rm_isValue_p_15 K x0 1 S))
theorem rm_isValue_k_0 {K : Int32 → rb_S → Prop}  (X : rb_X p s m args meth c A Z rm_isValue_b 1 "RoomMaker" (some .boolean))  {x0 : Int32} {S : rb_S} (h : rm_isValue_p_0 K x0 S) : rb_V p l e rm_isValue_rm s m args below meth c A (MQ below (va_Qi K (rb_B Z A) A) args s rm_isValue_rm.cells rm_isValue_rm.slots A) Z 1 0 [(0, .int x0)] [] S 0 0 := by
  unfold rm_isValue_p_0 at h
  refine rb_iload_n X 0 rm_isValue_d0 rfl 0 rfl ?_
  refine rb_if_lt X 14 rm_isValue_d1 (by decide) (fun hc => ?_) (fun hc => ?_)
  · replace h := h.1 hc
    exact rm_isValue_k_14 X h
  · replace h := h.2 hc
    refine rb_iload_n X 0 rm_isValue_d4 rfl 0 rfl ?_
    refine rb_bipush X 16 rm_isValue_d5 (by decide) ?_
    refine rb_icmp_ge X 14 rm_isValue_d7 (by decide) (fun hc => ?_) (fun hc => ?_)
    · replace h := h.1 hc
      exact rm_isValue_k_14 X h
    · replace h := h.2 hc
      refine rb_iconst X 1 rm_isValue_d10 (by decide) ?_
      refine rb_goto X 15 rm_isValue_d11 (by decide) ?_
      exact rm_isValue_k_15 X h
theorem rm_isValue_c (l : Launch) (Z : rb_Z) {K : Int32 → rb_S → Prop} {x0 : Int32} {S : rb_S} (h : rm_isValue_p_0 K x0 S) : rb_Mi l rm_isValue_y rm_isValue_b 1 (some .boolean) rm_isValue_rm Z [.int x0] S K := rb_startI (by decide) (Nat.le_of_ble_eq_true rfl) (fun p e s m args below meth c A X => rm_isValue_k_0 X h)
end
