theorem pg_fits_d0 : decode pg_fits_b 0 = .ok (.iload_n 0, 1) := by decide +kernel
theorem pg_fits_d1 : decode pg_fits_b 1 = .ok (.tableswitch 54 1 4 #[52, 31, 31, 36], 31) := by decide +kernel
theorem pg_fits_d32 : decode pg_fits_b 32 = .ok (.iload_n 1, 1) := by decide +kernel
theorem pg_fits_d33 : decode pg_fits_b 33 = .ok (.invokestatic 37, 3) := by decide +kernel
theorem pg_fits_d36 : decode pg_fits_b 36 = .ok (.ireturn, 1) := by decide +kernel
theorem pg_fits_d37 : decode pg_fits_b 37 = .ok (.iload_n 1, 1) := by decide +kernel
theorem pg_fits_d38 : decode pg_fits_b 38 = .ok (.ifCond .lt 13, 3) := by decide +kernel
theorem pg_fits_d41 : decode pg_fits_b 41 = .ok (.iload_n 1, 1) := by decide +kernel
theorem pg_fits_d42 : decode pg_fits_b 42 = .ok (.bipush 64, 2) := by decide +kernel
theorem pg_fits_d44 : decode pg_fits_b 44 = .ok (.if_icmp .gt 7, 3) := by decide +kernel
theorem pg_fits_d47 : decode pg_fits_b 47 = .ok (.iconst 1, 1) := by decide +kernel
theorem pg_fits_d48 : decode pg_fits_b 48 = .ok (.goto 4, 3) := by decide +kernel
theorem pg_fits_d51 : decode pg_fits_b 51 = .ok (.iconst 0, 1) := by decide +kernel
theorem pg_fits_d52 : decode pg_fits_b 52 = .ok (.ireturn, 1) := by decide +kernel
theorem pg_fits_d53 : decode pg_fits_b 53 = .ok (.iconst 1, 1) := by decide +kernel
theorem pg_fits_d54 : decode pg_fits_b 54 = .ok (.ireturn, 1) := by decide +kernel
theorem pg_fits_d55 : decode pg_fits_b 55 = .ok (.iload_n 1, 1) := by decide +kernel
theorem pg_fits_d56 : decode pg_fits_b 56 = .ok (.ifCond .ne 7, 3) := by decide +kernel
theorem pg_fits_d59 : decode pg_fits_b 59 = .ok (.iconst 1, 1) := by decide +kernel
theorem pg_fits_d60 : decode pg_fits_b 60 = .ok (.goto 4, 3) := by decide +kernel
theorem pg_fits_d63 : decode pg_fits_b 63 = .ok (.iconst 0, 1) := by decide +kernel
theorem pg_fits_d64 : decode pg_fits_b 64 = .ok (.ireturn, 1) := by decide +kernel
abbrev pg_fits_rm : Room := { frames := 1, cells := 0, slots := 0, locals := 20 }
theorem pg_fits_w : rb_cw pg_fits_y pg_fits_b 2 (some .boolean) 2 := ⟨rw_265, rw_2, ⟨by decide, by decide⟩, by decide +kernel⟩
section
variable {p : Program} {l : Launch} {e : Env} {s : State} {m : MethodId} {args : Array Value} {below : List Frame} {meth : Method} {c : Code} {A : Nat → Prop} {Z : rb_Z}
def pg_fits_p_52 (K : Int32 → rb_S → Prop) (x0 : Int32) (x1 : Int32) (y0 : Int32) (S : rb_S) : Prop := narrow .boolean (.int y0) = .int y0 ∧ K y0 S
theorem pg_fits_k_52 {K : Int32 → rb_S → Prop}  (X : rb_X p s m args meth c A Z pg_fits_b 2 "RoomMaker$Program" (some .boolean))  {x0 : Int32} {x1 : Int32} {y0 : Int32} {S : rb_S} (h : pg_fits_p_52 K x0 x1 y0 S) : rb_V p l e pg_fits_rm s m args below meth c A (MQ below (va_Qi K (rb_B Z A) A) args s pg_fits_rm.cells pg_fits_rm.slots A) Z 2 52 [(0, .int x0), (1, .int x1)] [.int y0] S 0 0 := by
  unfold pg_fits_p_52 at h
  obtain ⟨hn, h⟩ := h
  exact rb_zret X pg_fits_d52 hn h
def pg_fits_p_51 (K : Int32 → rb_S → Prop) (x0 : Int32) (x1 : Int32) (S : rb_S) : Prop := pg_fits_p_52 K x0 x1 0 S
theorem pg_fits_k_51 {K : Int32 → rb_S → Prop}  (X : rb_X p s m args meth c A Z pg_fits_b 2 "RoomMaker$Program" (some .boolean))  {x0 : Int32} {x1 : Int32} {S : rb_S} (h : pg_fits_p_51 K x0 x1 S) : rb_V p l e pg_fits_rm s m args below meth c A (MQ below (va_Qi K (rb_B Z A) A) args s pg_fits_rm.cells pg_fits_rm.slots A) Z 2 51 [(0, .int x0), (1, .int x1)] [] S 0 0 := by
  unfold pg_fits_p_51 at h
  refine rb_iconst X 0 pg_fits_d51 (by decide) ?_
  exact pg_fits_k_52 X h
def pg_fits_p_64 (K : Int32 → rb_S → Prop) (x0 : Int32) (x1 : Int32) (y0 : Int32) (S : rb_S) : Prop := narrow .boolean (.int y0) = .int y0 ∧ K y0 S
theorem pg_fits_k_64 {K : Int32 → rb_S → Prop}  (X : rb_X p s m args meth c A Z pg_fits_b 2 "RoomMaker$Program" (some .boolean))  {x0 : Int32} {x1 : Int32} {y0 : Int32} {S : rb_S} (h : pg_fits_p_64 K x0 x1 y0 S) : rb_V p l e pg_fits_rm s m args below meth c A (MQ below (va_Qi K (rb_B Z A) A) args s pg_fits_rm.cells pg_fits_rm.slots A) Z 2 64 [(0, .int x0), (1, .int x1)] [.int y0] S 0 0 := by
  unfold pg_fits_p_64 at h
  obtain ⟨hn, h⟩ := h
  exact rb_zret X pg_fits_d64 hn h
def pg_fits_p_0 (K : Int32 → rb_S → Prop) (x0 : Int32) (x1 : Int32) (S : rb_S) : Prop := (x0 = 1 → narrow .boolean (.int 1) = .int 1 ∧ K 1 S) ∧ (x0 = 2 → rm_isValue_p_0 (fun r33 S33 => narrow .boolean (.int r33) = .int r33 ∧ K r33 S33) x1 S) ∧ (x0 = 3 → rm_isValue_p_0 (fun r33 S33 => narrow .boolean (.int r33) = .int r33 ∧ K r33 S33) x1 S) ∧ (x0 = 4 → (x1 < 0 → pg_fits_p_51 K x0 x1 S) ∧ (¬ x1 < 0 → (64 < x1 → pg_fits_p_51 K x0 x1 S) ∧ (¬ 64 < x1 → pg_fits_p_52 K x0 x1 1 S))) ∧ (x0.toInt < 1 ∨ 4 < x0.toInt → (¬ x1 = 0 → pg_fits_p_64 K x0 x1 0 S) ∧ (x1 = 0 → pg_fits_p_64 K x0 x1 1 S))
theorem pg_fits_k_0 {K : Int32 → rb_S → Prop}  (X : rb_X p s m args meth c A Z pg_fits_b 2 "RoomMaker$Program" (some .boolean))  {x0 : Int32} {x1 : Int32} {S : rb_S} (h : pg_fits_p_0 K x0 x1 S) : rb_V p l e pg_fits_rm s m args below meth c A (MQ below (va_Qi K (rb_B Z A) A) args s pg_fits_rm.cells pg_fits_rm.slots A) Z 2 0 [(0, .int x0), (1, .int x1)] [] S 0 0 := by
  unfold pg_fits_p_0 at h
  refine rb_iload_n X 0 pg_fits_d0 rfl 0 rfl ?_
  by_cases hc : x0 = 1
  · refine rb_tabIn X 53 pg_fits_d1 (by rw [hc]; decide) (by rw [hc]; decide) (by rw [hc]; rfl) (by decide) ?_
    replace h := h.1 hc
    refine rb_iconst X 1 pg_fits_d53 (by decide) ?_
    obtain ⟨hn, h⟩ := h
    exact rb_zret X pg_fits_d54 hn h
  replace h := h.2
  have hc0 := lv_neT (k := 1) (a := 1) hc (by decide)
  clear hc
  by_cases hc : x0 = 2
  · refine rb_tabIn X 32 pg_fits_d1 (by rw [hc]; decide) (by rw [hc]; decide) (by rw [hc]; rfl) (by decide) ?_
    replace h := h.1 hc
    refine rb_iload_n X 1 pg_fits_d32 rfl 1 rfl ?_
    refine rb_callSNi (As := [.int x1]) (rest := []) X (rm_isValue_c l Z h) rm_isValue_w ⟨by decide, by decide⟩ rn_266 rw_267 rfl rfl (Nat.le_of_ble_eq_true rfl) pg_fits_d33 ⟨by decide, by decide⟩ (fun r33 S33 h => ?_)
    obtain ⟨hn, h⟩ := h
    exact rb_zret X pg_fits_d36 hn h
  replace h := h.2
  have hc1 := lv_neT (k := 2) (a := 2) hc (by decide)
  clear hc
  by_cases hc : x0 = 3
  · refine rb_tabIn X 32 pg_fits_d1 (by rw [hc]; decide) (by rw [hc]; decide) (by rw [hc]; rfl) (by decide) ?_
    replace h := h.1 hc
    refine rb_iload_n X 1 pg_fits_d32 rfl 1 rfl ?_
    refine rb_callSNi (As := [.int x1]) (rest := []) X (rm_isValue_c l Z h) rm_isValue_w ⟨by decide, by decide⟩ rn_266 rw_267 rfl rfl (Nat.le_of_ble_eq_true rfl) pg_fits_d33 ⟨by decide, by decide⟩ (fun r33 S33 h => ?_)
    obtain ⟨hn, h⟩ := h
    exact rb_zret X pg_fits_d36 hn h
  replace h := h.2
  have hc2 := lv_neT (k := 3) (a := 3) hc (by decide)
  clear hc
  by_cases hc : x0 = 4
  · refine rb_tabIn X 37 pg_fits_d1 (by rw [hc]; decide) (by rw [hc]; decide) (by rw [hc]; rfl) (by decide) ?_
    replace h := h.1 hc
    refine rb_iload_n X 1 pg_fits_d37 rfl 1 rfl ?_
    refine rb_if_lt X 51 pg_fits_d38 (by decide) (fun hc => ?_) (fun hc => ?_)
    · replace h := h.1 hc
      exact pg_fits_k_51 X h
    · replace h := h.2 hc
      refine rb_iload_n X 1 pg_fits_d41 rfl 1 rfl ?_
      refine rb_bipush X 64 pg_fits_d42 (by decide) ?_
      refine rb_icmp_gt X 51 pg_fits_d44 (by decide) (fun hc => ?_) (fun hc => ?_)
      · replace h := h.1 hc
        exact pg_fits_k_51 X h
      · replace h := h.2 hc
        refine rb_iconst X 1 pg_fits_d47 (by decide) ?_
        refine rb_goto X 52 pg_fits_d48 (by decide) ?_
        exact pg_fits_k_52 X h
  replace h := h.2
  have hc3 := lv_neT (k := 4) (a := 4) hc (by decide)
  clear hc
  have hc : x0.toInt < 1 ∨ 4 < x0.toInt := by omega
  refine rb_tabOut X 55 pg_fits_d1 hc (by decide) ?_
  replace h := h hc
  refine rb_iload_n X 1 pg_fits_d55 rfl 1 rfl ?_
  refine rb_if_ne X 63 pg_fits_d56 (by decide) (fun hc => ?_) (fun hc => ?_)
  · replace h := h.1 hc
    refine rb_iconst X 0 pg_fits_d63 (by decide) ?_
    exact pg_fits_k_64 X h
  · replace h := h.2 hc
    refine rb_iconst X 1 pg_fits_d59 (by decide) ?_
    refine rb_goto X 64 pg_fits_d60 (by decide) ?_
    exact pg_fits_k_64 X h
theorem pg_fits_c (l : Launch) (Z : rb_Z) {K : Int32 → rb_S → Prop} {x0 : Int32} {x1 : Int32} {S : rb_S} (h : pg_fits_p_0 K x0 x1 S) : rb_Mi l pg_fits_y pg_fits_b 2 (some .boolean) pg_fits_rm Z [.int x0, .int x1] S K := rb_startI (by decide) (Nat.le_of_ble_eq_true rfl) (fun p e s m args below meth c A X => pg_fits_k_0 X h)
end
theorem pg_allows_d0 : decode pg_allows_b 0 = .ok (.iload_n 0, 1) := by decide +kernel
theorem pg_allows_d1 : decode pg_allows_b 1 = .ok (.ifCond .lt 49, 3) := by decide +kernel
theorem pg_allows_d4 : decode pg_allows_b 4 = .ok (.iload_n 0, 1) := by decide +kernel
theorem pg_allows_d5 : decode pg_allows_b 5 = .ok (.bipush 12, 2) := by decide +kernel
theorem pg_allows_d7 : decode pg_allows_b 7 = .ok (.if_icmp .ge 43, 3) := by decide +kernel
theorem pg_allows_d10 : decode pg_allows_b 10 = .ok (.getstatic 24, 3) := by decide +kernel
theorem pg_allows_d13 : decode pg_allows_b 13 = .ok (.iload_n 0, 1) := by decide +kernel
theorem pg_allows_d14 : decode pg_allows_b 14 = .ok (.iaload, 1) := by decide +kernel
theorem pg_allows_d15 : decode pg_allows_b 15 = .ok (.iload_n 1, 1) := by decide +kernel
theorem pg_allows_d16 : decode pg_allows_b 16 = .ok (.invokestatic 27, 3) := by decide +kernel
theorem pg_allows_d19 : decode pg_allows_b 19 = .ok (.ifCond .eq 31, 3) := by decide +kernel
theorem pg_allows_d22 : decode pg_allows_b 22 = .ok (.getstatic 31, 3) := by decide +kernel
theorem pg_allows_d25 : decode pg_allows_b 25 = .ok (.iload_n 0, 1) := by decide +kernel
theorem pg_allows_d26 : decode pg_allows_b 26 = .ok (.iaload, 1) := by decide +kernel
theorem pg_allows_d27 : decode pg_allows_b 27 = .ok (.iload_n 2, 1) := by decide +kernel
theorem pg_allows_d28 : decode pg_allows_b 28 = .ok (.invokestatic 27, 3) := by decide +kernel
theorem pg_allows_d31 : decode pg_allows_b 31 = .ok (.ifCond .eq 19, 3) := by decide +kernel
theorem pg_allows_d34 : decode pg_allows_b 34 = .ok (.getstatic 34, 3) := by decide +kernel
theorem pg_allows_d37 : decode pg_allows_b 37 = .ok (.iload_n 0, 1) := by decide +kernel
theorem pg_allows_d38 : decode pg_allows_b 38 = .ok (.iaload, 1) := by decide +kernel
theorem pg_allows_d39 : decode pg_allows_b 39 = .ok (.iload_n 3, 1) := by decide +kernel
theorem pg_allows_d40 : decode pg_allows_b 40 = .ok (.invokestatic 27, 3) := by decide +kernel
theorem pg_allows_d43 : decode pg_allows_b 43 = .ok (.ifCond .eq 7, 3) := by decide +kernel
theorem pg_allows_d46 : decode pg_allows_b 46 = .ok (.iconst 1, 1) := by decide +kernel
theorem pg_allows_d47 : decode pg_allows_b 47 = .ok (.goto 4, 3) := by decide +kernel
theorem pg_allows_d50 : decode pg_allows_b 50 = .ok (.iconst 0, 1) := by decide +kernel
theorem pg_allows_d51 : decode pg_allows_b 51 = .ok (.ireturn, 1) := by decide +kernel
abbrev pg_allows_rm : Room := { frames := 2, cells := 0, slots := 0, locals := 41 }
theorem pg_allows_w : rb_cw pg_allows_y pg_allows_b 4 (some .boolean) 4 := ⟨rw_260, rw_2, ⟨by decide, by decide⟩, by decide +kernel⟩
section
variable {p : Program} {l : Launch} {e : Env} {s : State} {m : MethodId} {args : Array Value} {below : List Frame} {meth : Method} {c : Code} {A : Nat → Prop} {Z : rb_Z}
def pg_allows_p_51 (K : Int32 → rb_S → Prop) (x0 : Int32) (x1 : Int32) (x2 : Int32) (x3 : Int32) (y0 : Int32) (S : rb_S) : Prop := narrow .boolean (.int y0) = .int y0 ∧ K y0 S
theorem pg_allows_k_51 {K : Int32 → rb_S → Prop}  (X : rb_X p s m args meth c A Z pg_allows_b 4 "RoomMaker$Program" (some .boolean))  {x0 : Int32} {x1 : Int32} {x2 : Int32} {x3 : Int32} {y0 : Int32} {S : rb_S} (h : pg_allows_p_51 K x0 x1 x2 x3 y0 S) : rb_V p l e pg_allows_rm s m args below meth c A (MQ below (va_Qi K (rb_B Z A) A) args s pg_allows_rm.cells pg_allows_rm.slots A) Z 4 51 [(0, .int x0), (1, .int x1), (2, .int x2), (3, .int x3)] [.int y0] S 0 0 := by
  unfold pg_allows_p_51 at h
  obtain ⟨hn, h⟩ := h
  exact rb_zret X pg_allows_d51 hn h
def pg_allows_p_50 (K : Int32 → rb_S → Prop) (x0 : Int32) (x1 : Int32) (x2 : Int32) (x3 : Int32) (S : rb_S) : Prop := pg_allows_p_51 K x0 x1 x2 x3 0 S
theorem pg_allows_k_50 {K : Int32 → rb_S → Prop}  (X : rb_X p s m args meth c A Z pg_allows_b 4 "RoomMaker$Program" (some .boolean))  {x0 : Int32} {x1 : Int32} {x2 : Int32} {x3 : Int32} {S : rb_S} (h : pg_allows_p_50 K x0 x1 x2 x3 S) : rb_V p l e pg_allows_rm s m args below meth c A (MQ below (va_Qi K (rb_B Z A) A) args s pg_allows_rm.cells pg_allows_rm.slots A) Z 4 50 [(0, .int x0), (1, .int x1), (2, .int x2), (3, .int x3)] [] S 0 0 := by
  unfold pg_allows_p_50 at h
  refine rb_iconst X 0 pg_allows_d50 (by decide) ?_
  exact pg_allows_k_51 X h
def pg_allows_p_0 (K : Int32 → rb_S → Prop) (x0 : Int32) (x1 : Int32) (x2 : Int32) (x3 : Int32) (S : rb_S) : Prop := (x0 < 0 → pg_allows_p_50 K x0 x1 x2 x3 S) ∧ (¬ x0 < 0 → (12 ≤ x0 → pg_allows_p_50 K x0 x1 x2 x3 S) ∧ (¬ 12 ≤ x0 → vp_in x0 12 ∧ (pg_fits_p_0 (fun r16 S16 => (r16 = 0 → pg_allows_p_50 K x0 x1 x2 x3 S16) ∧ (¬ r16 = 0 → vp_in x0 12 ∧ (pg_fits_p_0 (fun r28 S28 => (r28 = 0 → pg_allows_p_50 K x0 x1 x2 x3 S28) ∧ (¬ r28 = 0 → vp_in x0 12 ∧ (pg_fits_p_0 (fun r40 S40 => (r40 = 0 → pg_allows_p_50 K x0 x1 x2 x3 S40) ∧ (¬ r40 = 0 → pg_allows_p_51 K x0 x1 x2 x3 1 S40)) (rb_rz x0.toNatClampNeg) x3 S28))) (rb_ry x0.toNatClampNeg) x2 S16))) (rb_rx x0.toNatClampNeg) x1 S)))
theorem pg_allows_k_0 {K : Int32 → rb_S → Prop}  (X : rb_X p s m args meth c A Z pg_allows_b 4 "RoomMaker$Program" (some .boolean))  {x0 : Int32} {x1 : Int32} {x2 : Int32} {x3 : Int32} {S : rb_S} (h : pg_allows_p_0 K x0 x1 x2 x3 S) : rb_V p l e pg_allows_rm s m args below meth c A (MQ below (va_Qi K (rb_B Z A) A) args s pg_allows_rm.cells pg_allows_rm.slots A) Z 4 0 [(0, .int x0), (1, .int x1), (2, .int x2), (3, .int x3)] [] S 0 0 := by
  unfold pg_allows_p_0 at h
  refine rb_iload_n X 0 pg_allows_d0 rfl 0 rfl ?_
  refine rb_if_lt X 50 pg_allows_d1 (by decide) (fun hc => ?_) (fun hc => ?_)
  · replace h := h.1 hc
    exact pg_allows_k_50 X h
  · replace h := h.2 hc
    refine rb_iload_n X 0 pg_allows_d4 rfl 0 rfl ?_
    refine rb_bipush X 12 pg_allows_d5 (by decide) ?_
    refine rb_icmp_ge X 50 pg_allows_d7 (by decide) (fun hc => ?_) (fun hc => ?_)
    · replace h := h.1 hc
      exact pg_allows_k_50 X h
    · replace h := h.2 hc
      refine pg_s24 X pg_allows_d10 ?_
      refine rb_iload_n X 0 pg_allows_d13 rfl 0 rfl ?_
      obtain ⟨hin, h⟩ := h
      refine rb_tald0 X pg_allows_d14 hin ?_
      refine rb_iload_n X 1 pg_allows_d15 rfl 1 rfl ?_
      refine rb_callSi (As := [.int (rb_rx x0.toNatClampNeg), .int x1]) (rest := []) X (pg_fits_c l Z h) pg_fits_w ⟨by decide, by decide⟩ rw_263 rw_264 rfl rfl (Nat.le_of_ble_eq_true rfl) pg_allows_d16 ⟨by decide, by decide⟩ (fun r16 S16 h => ?_)
      refine rb_if_eq X 50 pg_allows_d19 (by decide) (fun hc => ?_) (fun hc => ?_)
      · replace h := h.1 hc
        exact pg_allows_k_50 X h
      · replace h := h.2 hc
        refine pg_s31 X pg_allows_d22 ?_
        refine rb_iload_n X 0 pg_allows_d25 rfl 0 rfl ?_
        obtain ⟨hin, h⟩ := h
        refine rb_tald1 X pg_allows_d26 hin ?_
        refine rb_iload_n X 2 pg_allows_d27 rfl 2 rfl ?_
        refine rb_callSi (As := [.int (rb_ry x0.toNatClampNeg), .int x2]) (rest := []) X (pg_fits_c l Z h) pg_fits_w ⟨by decide, by decide⟩ rw_263 rw_264 rfl rfl (Nat.le_of_ble_eq_true rfl) pg_allows_d28 ⟨by decide, by decide⟩ (fun r28 S28 h => ?_)
        refine rb_if_eq X 50 pg_allows_d31 (by decide) (fun hc => ?_) (fun hc => ?_)
        · replace h := h.1 hc
          exact pg_allows_k_50 X h
        · replace h := h.2 hc
          refine pg_s34 X pg_allows_d34 ?_
          refine rb_iload_n X 0 pg_allows_d37 rfl 0 rfl ?_
          obtain ⟨hin, h⟩ := h
          refine rb_tald2 X pg_allows_d38 hin ?_
          refine rb_iload_n X 3 pg_allows_d39 rfl 3 rfl ?_
          refine rb_callSi (As := [.int (rb_rz x0.toNatClampNeg), .int x3]) (rest := []) X (pg_fits_c l Z h) pg_fits_w ⟨by decide, by decide⟩ rw_263 rw_264 rfl rfl (Nat.le_of_ble_eq_true rfl) pg_allows_d40 ⟨by decide, by decide⟩ (fun r40 S40 h => ?_)
          refine rb_if_eq X 50 pg_allows_d43 (by decide) (fun hc => ?_) (fun hc => ?_)
          · replace h := h.1 hc
            exact pg_allows_k_50 X h
          · replace h := h.2 hc
            refine rb_iconst X 1 pg_allows_d46 (by decide) ?_
            refine rb_goto X 51 pg_allows_d47 (by decide) ?_
            exact pg_allows_k_51 X h
theorem pg_allows_c (l : Launch) (Z : rb_Z) {K : Int32 → rb_S → Prop} {x0 : Int32} {x1 : Int32} {x2 : Int32} {x3 : Int32} {S : rb_S} (h : pg_allows_p_0 K x0 x1 x2 x3 S) : rb_Mi l pg_allows_y pg_allows_b 4 (some .boolean) pg_allows_rm Z [.int x0, .int x1, .int x2, .int x3] S K := rb_startI (by decide) (Nat.le_of_ble_eq_true rfl) (fun p e s m args below meth c A X => pg_allows_k_0 X h)
end
theorem pg_append_d0 : decode pg_append_b 0 = .ok (.aload_n 0, 1) := by decide +kernel
theorem pg_append_d1 : decode pg_append_b 1 = .ok (.getfield 41, 3) := by decide +kernel
theorem pg_append_d4 : decode pg_append_b 4 = .ok (.bipush 64, 2) := by decide +kernel
theorem pg_append_d6 : decode pg_append_b 6 = .ok (.if_icmp .lt 5, 3) := by decide +kernel
theorem pg_append_d9 : decode pg_append_b 9 = .ok (.iconst (-1), 1) := by decide +kernel
theorem pg_append_d10 : decode pg_append_b 10 = .ok (.ireturn, 1) := by decide +kernel
theorem pg_append_d11 : decode pg_append_b 11 = .ok (.aload_n 0, 1) := by decide +kernel
theorem pg_append_d12 : decode pg_append_b 12 = .ok (.getfield 9, 3) := by decide +kernel
theorem pg_append_d15 : decode pg_append_b 15 = .ok (.aload_n 0, 1) := by decide +kernel
theorem pg_append_d16 : decode pg_append_b 16 = .ok (.getfield 41, 3) := by decide +kernel
theorem pg_append_d19 : decode pg_append_b 19 = .ok (.iload_n 1, 1) := by decide +kernel
theorem pg_append_d20 : decode pg_append_b 20 = .ok (.iastore, 1) := by decide +kernel
theorem pg_append_d21 : decode pg_append_b 21 = .ok (.aload_n 0, 1) := by decide +kernel
theorem pg_append_d22 : decode pg_append_b 22 = .ok (.getfield 15, 3) := by decide +kernel
theorem pg_append_d25 : decode pg_append_b 25 = .ok (.aload_n 0, 1) := by decide +kernel
theorem pg_append_d26 : decode pg_append_b 26 = .ok (.getfield 41, 3) := by decide +kernel
theorem pg_append_d29 : decode pg_append_b 29 = .ok (.iload_n 2, 1) := by decide +kernel
theorem pg_append_d30 : decode pg_append_b 30 = .ok (.iastore, 1) := by decide +kernel
theorem pg_append_d31 : decode pg_append_b 31 = .ok (.aload_n 0, 1) := by decide +kernel
theorem pg_append_d32 : decode pg_append_b 32 = .ok (.getfield 18, 3) := by decide +kernel
theorem pg_append_d35 : decode pg_append_b 35 = .ok (.aload_n 0, 1) := by decide +kernel
theorem pg_append_d36 : decode pg_append_b 36 = .ok (.getfield 41, 3) := by decide +kernel
theorem pg_append_d39 : decode pg_append_b 39 = .ok (.iload_n 3, 1) := by decide +kernel
theorem pg_append_d40 : decode pg_append_b 40 = .ok (.iastore, 1) := by decide +kernel
theorem pg_append_d41 : decode pg_append_b 41 = .ok (.aload_n 0, 1) := by decide +kernel
theorem pg_append_d42 : decode pg_append_b 42 = .ok (.getfield 21, 3) := by decide +kernel
theorem pg_append_d45 : decode pg_append_b 45 = .ok (.aload_n 0, 1) := by decide +kernel
theorem pg_append_d46 : decode pg_append_b 46 = .ok (.getfield 41, 3) := by decide +kernel
theorem pg_append_d49 : decode pg_append_b 49 = .ok (.iload 4, 2) := by decide +kernel
theorem pg_append_d51 : decode pg_append_b 51 = .ok (.iastore, 1) := by decide +kernel
theorem pg_append_d52 : decode pg_append_b 52 = .ok (.aload_n 0, 1) := by decide +kernel
theorem pg_append_d53 : decode pg_append_b 53 = .ok (.dup, 1) := by decide +kernel
theorem pg_append_d54 : decode pg_append_b 54 = .ok (.getfield 41, 3) := by decide +kernel
theorem pg_append_d57 : decode pg_append_b 57 = .ok (.iconst 1, 1) := by decide +kernel
theorem pg_append_d58 : decode pg_append_b 58 = .ok (.iadd, 1) := by decide +kernel
theorem pg_append_d59 : decode pg_append_b 59 = .ok (.putfield 41, 3) := by decide +kernel
theorem pg_append_d62 : decode pg_append_b 62 = .ok (.aload_n 0, 1) := by decide +kernel
theorem pg_append_d63 : decode pg_append_b 63 = .ok (.getfield 41, 3) := by decide +kernel
theorem pg_append_d66 : decode pg_append_b 66 = .ok (.ireturn, 1) := by decide +kernel
abbrev pg_append_rm : Room := { frames := 0, cells := 0, slots := 0, locals := 0 }
theorem pg_append_w : rb_cw pg_append_y pg_append_b 5 (some .int) 4 := ⟨rw_344, rw_2, ⟨by decide, by decide⟩, by decide +kernel⟩
section
variable {p : Program} {l : Launch} {e : Env} {s : State} {m : MethodId} {args : Array Value} {below : List Frame} {meth : Method} {c : Code} {A : Nat → Prop} {Z : rb_Z}
def pg_append_p_0 (K : Int32 → rb_S → Prop) (x1 : Int32) (x2 : Int32) (x3 : Int32) (x4 : Int32) (S : rb_S) : Prop := ((S 0 1) < 64 → vp_in (S 0 1) 64 ∧ ∀ S20 : rb_S, S20 = rb_u S 6 (S 0 1).toNatClampNeg x1 → (vp_in (S20 0 1) 64 ∧ ∀ S30 : rb_S, S30 = rb_u S20 7 (S20 0 1).toNatClampNeg x2 → (vp_in (S30 0 1) 64 ∧ ∀ S40 : rb_S, S40 = rb_u S30 8 (S30 0 1).toNatClampNeg x3 → (vp_in (S40 0 1) 64 ∧ ∀ S51 : rb_S, S51 = rb_u S40 9 (S40 0 1).toNatClampNeg x4 → (∀ S59 : rb_S, S59 = rb_u S51 0 1 ((S51 0 1) + 1) → (K (S59 0 1) S59)))))) ∧ (¬ (S 0 1) < 64 → K (-1) S)
theorem pg_append_k_0 {K : Int32 → rb_S → Prop}  (X : rb_X p s m args meth c A Z pg_append_b 5 "RoomMaker$Program" (some .int))  {x1 : Int32} {x2 : Int32} {x3 : Int32} {x4 : Int32} {S : rb_S} (h : pg_append_p_0 K x1 x2 x3 x4 S) : rb_V p l e pg_append_rm s m args below meth c A (MQ below (va_Qi K (rb_B Z A) A) args s pg_append_rm.cells pg_append_rm.slots A) Z 5 0 [(0, .ref (Z.1 1)), (1, .int x1), (2, .int x2), (3, .int x3), (4, .int x4)] [] S 0 0 := by
  unfold pg_append_p_0 at h
  refine rb_aload_n X 0 pg_append_d0 rfl 0 rfl ?_
  refine pg_g41 X pg_append_d1 ?_
  refine rb_bipush X 64 pg_append_d4 (by decide) ?_
  refine rb_icmp_lt X 11 pg_append_d6 (by decide) (fun hc => ?_) (fun hc => ?_)
  · replace h := h.1 hc
    refine rb_aload_n X 0 pg_append_d11 rfl 0 rfl ?_
    refine pg_g9 X pg_append_d12 ?_
    refine rb_aload_n X 0 pg_append_d15 rfl 0 rfl ?_
    refine pg_g41 X pg_append_d16 ?_
    refine rb_iload_n X 1 pg_append_d19 rfl 1 rfl ?_
    obtain ⟨hin, h⟩ := h
    refine rb_iast X 6 (rb_a6 Z) pg_append_d20 hin (fun S20 e20 => ?_)
    replace h := h S20 e20
    refine rb_aload_n X 0 pg_append_d21 rfl 0 rfl ?_
    refine pg_g15 X pg_append_d22 ?_
    refine rb_aload_n X 0 pg_append_d25 rfl 0 rfl ?_
    refine pg_g41 X pg_append_d26 ?_
    refine rb_iload_n X 2 pg_append_d29 rfl 2 rfl ?_
    obtain ⟨hin, h⟩ := h
    refine rb_iast X 7 (rb_a7 Z) pg_append_d30 hin (fun S30 e30 => ?_)
    replace h := h S30 e30
    refine rb_aload_n X 0 pg_append_d31 rfl 0 rfl ?_
    refine pg_g18 X pg_append_d32 ?_
    refine rb_aload_n X 0 pg_append_d35 rfl 0 rfl ?_
    refine pg_g41 X pg_append_d36 ?_
    refine rb_iload_n X 3 pg_append_d39 rfl 3 rfl ?_
    obtain ⟨hin, h⟩ := h
    refine rb_iast X 8 (rb_a8 Z) pg_append_d40 hin (fun S40 e40 => ?_)
    replace h := h S40 e40
    refine rb_aload_n X 0 pg_append_d41 rfl 0 rfl ?_
    refine pg_g21 X pg_append_d42 ?_
    refine rb_aload_n X 0 pg_append_d45 rfl 0 rfl ?_
    refine pg_g41 X pg_append_d46 ?_
    refine rb_iload X 4 pg_append_d49 4 rfl ?_
    obtain ⟨hin, h⟩ := h
    refine rb_iast X 9 (rb_a9 Z) pg_append_d51 hin (fun S51 e51 => ?_)
    replace h := h S51 e51
    refine rb_aload_n X 0 pg_append_d52 rfl 0 rfl ?_
    refine rb_dup X pg_append_d53 rfl ?_
    refine pg_g41 X pg_append_d54 ?_
    refine rb_iconst X 1 pg_append_d57 (by decide) ?_
    refine rb_iadd X pg_append_d58 ?_
    refine pg_q41 X pg_append_d59 (fun S59 e59 => ?_)
    replace h := h S59 e59
    refine rb_aload_n X 0 pg_append_d62 rfl 0 rfl ?_
    refine pg_g41 X pg_append_d63 ?_
    exact rb_iret X pg_append_d66 h
  · replace h := h.2 hc
    refine rb_iconst X (-1) pg_append_d9 (by decide) ?_
    exact rb_iret X pg_append_d10 h
theorem pg_append_c (l : Launch) (Z : rb_Z) {K : Int32 → rb_S → Prop} {x1 : Int32} {x2 : Int32} {x3 : Int32} {x4 : Int32} {S : rb_S} (h : pg_append_p_0 K x1 x2 x3 x4 S) : rb_Mi l pg_append_y pg_append_b 5 (some .int) pg_append_rm Z [.ref (Z.1 1), .int x1, .int x2, .int x3, .int x4] S K := rb_startI (by decide) (Nat.le_of_ble_eq_true rfl) (fun p e s m args below meth c A X => pg_append_k_0 X h)
end
theorem pg_targetOf_d0 : decode pg_targetOf_b 0 = .ok (.getstatic 24, 3) := by decide +kernel
theorem pg_targetOf_d3 : decode pg_targetOf_b 3 = .ok (.aload_n 0, 1) := by decide +kernel
theorem pg_targetOf_d4 : decode pg_targetOf_b 4 = .ok (.getfield 9, 3) := by decide +kernel
theorem pg_targetOf_d7 : decode pg_targetOf_b 7 = .ok (.iload_n 1, 1) := by decide +kernel
theorem pg_targetOf_d8 : decode pg_targetOf_b 8 = .ok (.iaload, 1) := by decide +kernel
theorem pg_targetOf_d9 : decode pg_targetOf_b 9 = .ok (.iaload, 1) := by decide +kernel
theorem pg_targetOf_d10 : decode pg_targetOf_b 10 = .ok (.iconst 4, 1) := by decide +kernel
theorem pg_targetOf_d11 : decode pg_targetOf_b 11 = .ok (.if_icmp .ne 10, 3) := by decide +kernel
theorem pg_targetOf_d14 : decode pg_targetOf_b 14 = .ok (.aload_n 0, 1) := by decide +kernel
theorem pg_targetOf_d15 : decode pg_targetOf_b 15 = .ok (.getfield 15, 3) := by decide +kernel
theorem pg_targetOf_d18 : decode pg_targetOf_b 18 = .ok (.iload_n 1, 1) := by decide +kernel
theorem pg_targetOf_d19 : decode pg_targetOf_b 19 = .ok (.iaload, 1) := by decide +kernel
theorem pg_targetOf_d20 : decode pg_targetOf_b 20 = .ok (.ireturn, 1) := by decide +kernel
theorem pg_targetOf_d21 : decode pg_targetOf_b 21 = .ok (.getstatic 34, 3) := by decide +kernel
theorem pg_targetOf_d24 : decode pg_targetOf_b 24 = .ok (.aload_n 0, 1) := by decide +kernel
theorem pg_targetOf_d25 : decode pg_targetOf_b 25 = .ok (.getfield 9, 3) := by decide +kernel
theorem pg_targetOf_d28 : decode pg_targetOf_b 28 = .ok (.iload_n 1, 1) := by decide +kernel
theorem pg_targetOf_d29 : decode pg_targetOf_b 29 = .ok (.iaload, 1) := by decide +kernel
theorem pg_targetOf_d30 : decode pg_targetOf_b 30 = .ok (.iaload, 1) := by decide +kernel
theorem pg_targetOf_d31 : decode pg_targetOf_b 31 = .ok (.iconst 4, 1) := by decide +kernel
theorem pg_targetOf_d32 : decode pg_targetOf_b 32 = .ok (.if_icmp .ne 12, 3) := by decide +kernel
theorem pg_targetOf_d35 : decode pg_targetOf_b 35 = .ok (.aload_n 0, 1) := by decide +kernel
theorem pg_targetOf_d36 : decode pg_targetOf_b 36 = .ok (.getfield 21, 3) := by decide +kernel
theorem pg_targetOf_d39 : decode pg_targetOf_b 39 = .ok (.iload_n 1, 1) := by decide +kernel
theorem pg_targetOf_d40 : decode pg_targetOf_b 40 = .ok (.iaload, 1) := by decide +kernel
theorem pg_targetOf_d41 : decode pg_targetOf_b 41 = .ok (.goto 4, 3) := by decide +kernel
theorem pg_targetOf_d44 : decode pg_targetOf_b 44 = .ok (.iconst (-1), 1) := by decide +kernel
theorem pg_targetOf_d45 : decode pg_targetOf_b 45 = .ok (.ireturn, 1) := by decide +kernel
abbrev pg_targetOf_rm : Room := { frames := 0, cells := 0, slots := 0, locals := 0 }
theorem pg_targetOf_w : rb_cw pg_targetOf_y pg_targetOf_b 2 (some .int) 1 := ⟨rw_361, rw_2, ⟨by decide, by decide⟩, by decide +kernel⟩
section
variable {p : Program} {l : Launch} {e : Env} {s : State} {m : MethodId} {args : Array Value} {below : List Frame} {meth : Method} {c : Code} {A : Nat → Prop} {Z : rb_Z}
def pg_targetOf_p_45 (K : Int32 → rb_S → Prop) (x1 : Int32) (y0 : Int32) (S : rb_S) : Prop := K y0 S
theorem pg_targetOf_k_45 {K : Int32 → rb_S → Prop}  (X : rb_X p s m args meth c A Z pg_targetOf_b 2 "RoomMaker$Program" (some .int))  {x1 : Int32} {y0 : Int32} {S : rb_S} (h : pg_targetOf_p_45 K x1 y0 S) : rb_V p l e pg_targetOf_rm s m args below meth c A (MQ below (va_Qi K (rb_B Z A) A) args s pg_targetOf_rm.cells pg_targetOf_rm.slots A) Z 2 45 [(0, .ref (Z.1 1)), (1, .int x1)] [.int y0] S 0 0 := by
  unfold pg_targetOf_p_45 at h
  exact rb_iret X pg_targetOf_d45 h
def pg_targetOf_p_0 (K : Int32 → rb_S → Prop) (x1 : Int32) (S : rb_S) : Prop := vp_in x1 64 ∧ (vp_in (S 6 x1.toNatClampNeg) 12 ∧ ((¬ (rb_rx (S 6 x1.toNatClampNeg).toNatClampNeg) = 4 → vp_in x1 64 ∧ (vp_in (S 6 x1.toNatClampNeg) 12 ∧ ((¬ (rb_rz (S 6 x1.toNatClampNeg).toNatClampNeg) = 4 → pg_targetOf_p_45 K x1 (-1) S) ∧ ((rb_rz (S 6 x1.toNatClampNeg).toNatClampNeg) = 4 → vp_in x1 64 ∧ (pg_targetOf_p_45 K x1 (S 9 x1.toNatClampNeg) S))))) ∧ ((rb_rx (S 6 x1.toNatClampNeg).toNatClampNeg) = 4 → vp_in x1 64 ∧ (K (S 7 x1.toNatClampNeg) S))))
theorem pg_targetOf_k_0 {K : Int32 → rb_S → Prop}  (X : rb_X p s m args meth c A Z pg_targetOf_b 2 "RoomMaker$Program" (some .int))  {x1 : Int32} {S : rb_S} (h : pg_targetOf_p_0 K x1 S) : rb_V p l e pg_targetOf_rm s m args below meth c A (MQ below (va_Qi K (rb_B Z A) A) args s pg_targetOf_rm.cells pg_targetOf_rm.slots A) Z 2 0 [(0, .ref (Z.1 1)), (1, .int x1)] [] S 0 0 := by
  unfold pg_targetOf_p_0 at h
  refine pg_s24 X pg_targetOf_d0 ?_
  refine rb_aload_n X 0 pg_targetOf_d3 rfl 0 rfl ?_
  refine pg_g9 X pg_targetOf_d4 ?_
  refine rb_iload_n X 1 pg_targetOf_d7 rfl 1 rfl ?_
  obtain ⟨hin, h⟩ := h
  refine rb_iald X 6 (rb_a6 Z) pg_targetOf_d8 hin ?_
  obtain ⟨hin, h⟩ := h
  refine rb_tald0 X pg_targetOf_d9 hin ?_
  refine rb_iconst X 4 pg_targetOf_d10 (by decide) ?_
  refine rb_icmp_ne X 21 pg_targetOf_d11 (by decide) (fun hc => ?_) (fun hc => ?_)
  · replace h := h.1 hc
    refine pg_s34 X pg_targetOf_d21 ?_
    refine rb_aload_n X 0 pg_targetOf_d24 rfl 0 rfl ?_
    refine pg_g9 X pg_targetOf_d25 ?_
    refine rb_iload_n X 1 pg_targetOf_d28 rfl 1 rfl ?_
    obtain ⟨hin, h⟩ := h
    refine rb_iald X 6 (rb_a6 Z) pg_targetOf_d29 hin ?_
    obtain ⟨hin, h⟩ := h
    refine rb_tald2 X pg_targetOf_d30 hin ?_
    refine rb_iconst X 4 pg_targetOf_d31 (by decide) ?_
    refine rb_icmp_ne X 44 pg_targetOf_d32 (by decide) (fun hc => ?_) (fun hc => ?_)
    · replace h := h.1 hc
      refine rb_iconst X (-1) pg_targetOf_d44 (by decide) ?_
      exact pg_targetOf_k_45 X h
    · replace h := h.2 hc
      refine rb_aload_n X 0 pg_targetOf_d35 rfl 0 rfl ?_
      refine pg_g21 X pg_targetOf_d36 ?_
      refine rb_iload_n X 1 pg_targetOf_d39 rfl 1 rfl ?_
      obtain ⟨hin, h⟩ := h
      refine rb_iald X 9 (rb_a9 Z) pg_targetOf_d40 hin ?_
      refine rb_goto X 45 pg_targetOf_d41 (by decide) ?_
      exact pg_targetOf_k_45 X h
  · replace h := h.2 hc
    refine rb_aload_n X 0 pg_targetOf_d14 rfl 0 rfl ?_
    refine pg_g15 X pg_targetOf_d15 ?_
    refine rb_iload_n X 1 pg_targetOf_d18 rfl 1 rfl ?_
    obtain ⟨hin, h⟩ := h
    refine rb_iald X 7 (rb_a7 Z) pg_targetOf_d19 hin ?_
    exact rb_iret X pg_targetOf_d20 h
theorem pg_targetOf_c (l : Launch) (Z : rb_Z) {K : Int32 → rb_S → Prop} {x1 : Int32} {S : rb_S} (h : pg_targetOf_p_0 K x1 S) : rb_Mi l pg_targetOf_y pg_targetOf_b 2 (some .int) pg_targetOf_rm Z [.ref (Z.1 1), .int x1] S K := rb_startI (by decide) (Nat.le_of_ble_eq_true rfl) (fun p e s m args below meth c A X => pg_targetOf_k_0 X h)
end
theorem pg_leadsAstray_d0 : decode pg_leadsAstray_b 0 = .ok (.iconst 0, 1) := by decide +kernel
theorem pg_leadsAstray_d1 : decode pg_leadsAstray_b 1 = .ok (.istore_n 1, 1) := by decide +kernel
theorem pg_leadsAstray_d2 : decode pg_leadsAstray_b 2 = .ok (.iload_n 1, 1) := by decide +kernel
theorem pg_leadsAstray_d3 : decode pg_leadsAstray_b 3 = .ok (.aload_n 0, 1) := by decide +kernel
theorem pg_leadsAstray_d4 : decode pg_leadsAstray_b 4 = .ok (.getfield 41, 3) := by decide +kernel
theorem pg_leadsAstray_d7 : decode pg_leadsAstray_b 7 = .ok (.if_icmp .ge 23, 3) := by decide +kernel
theorem pg_leadsAstray_d10 : decode pg_leadsAstray_b 10 = .ok (.aload_n 0, 1) := by decide +kernel
theorem pg_leadsAstray_d11 : decode pg_leadsAstray_b 11 = .ok (.iload_n 1, 1) := by decide +kernel
theorem pg_leadsAstray_d12 : decode pg_leadsAstray_b 12 = .ok (.invokevirtual 49, 3) := by decide +kernel
theorem pg_leadsAstray_d15 : decode pg_leadsAstray_b 15 = .ok (.aload_n 0, 1) := by decide +kernel
theorem pg_leadsAstray_d16 : decode pg_leadsAstray_b 16 = .ok (.getfield 41, 3) := by decide +kernel
theorem pg_leadsAstray_d19 : decode pg_leadsAstray_b 19 = .ok (.if_icmp .le 5, 3) := by decide +kernel
theorem pg_leadsAstray_d22 : decode pg_leadsAstray_b 22 = .ok (.iconst 1, 1) := by decide +kernel
theorem pg_leadsAstray_d23 : decode pg_leadsAstray_b 23 = .ok (.ireturn, 1) := by decide +kernel
theorem pg_leadsAstray_d24 : decode pg_leadsAstray_b 24 = .ok (.iinc 1 1, 3) := by decide +kernel
theorem pg_leadsAstray_d27 : decode pg_leadsAstray_b 27 = .ok (.goto (-25), 3) := by decide +kernel
theorem pg_leadsAstray_d30 : decode pg_leadsAstray_b 30 = .ok (.iconst 0, 1) := by decide +kernel
theorem pg_leadsAstray_d31 : decode pg_leadsAstray_b 31 = .ok (.ireturn, 1) := by decide +kernel
abbrev pg_leadsAstray_rm : Room := { frames := 1, cells := 0, slots := 0, locals := 21 }
theorem pg_leadsAstray_w : rb_cw pg_leadsAstray_y pg_leadsAstray_b 2 (some .boolean) 0 := ⟨rw_357, rw_2, ⟨by decide, by decide⟩, by decide +kernel⟩
section
variable {p : Program} {l : Launch} {e : Env} {s : State} {m : MethodId} {args : Array Value} {below : List Frame} {meth : Method} {c : Code} {A : Nat → Prop} {Z : rb_Z}
def pg_leadsAstray_p_30 (K : Int32 → rb_S → Prop) (x1 : Int32) (S : rb_S) : Prop := narrow .boolean (.int 0) = .int 0 ∧ K 0 S
theorem pg_leadsAstray_k_30 {K : Int32 → rb_S → Prop}  (X : rb_X p s m args meth c A Z pg_leadsAstray_b 2 "RoomMaker$Program" (some .boolean))  {x1 : Int32} {S : rb_S} (h : pg_leadsAstray_p_30 K x1 S) : rb_V p l e pg_leadsAstray_rm s m args below meth c A (MQ below (va_Qi K (rb_B Z A) A) args s pg_leadsAstray_rm.cells pg_leadsAstray_rm.slots A) Z 2 30 [(0, .ref (Z.1 1)), (1, .int x1)] [] S 0 0 := by
  unfold pg_leadsAstray_p_30 at h
  refine rb_iconst X 0 pg_leadsAstray_d30 (by decide) ?_
  obtain ⟨hn, h⟩ := h
  exact rb_zret X pg_leadsAstray_d31 hn h
def pg_leadsAstray_p_22 (K : Int32 → rb_S → Prop) (x1 : Int32) (S : rb_S) : Prop := narrow .boolean (.int 1) = .int 1 ∧ K 1 S
theorem pg_leadsAstray_k_22 {K : Int32 → rb_S → Prop}  (X : rb_X p s m args meth c A Z pg_leadsAstray_b 2 "RoomMaker$Program" (some .boolean))  {x1 : Int32} {S : rb_S} (h : pg_leadsAstray_p_22 K x1 S) : rb_V p l e pg_leadsAstray_rm s m args below meth c A (MQ below (va_Qi K (rb_B Z A) A) args s pg_leadsAstray_rm.cells pg_leadsAstray_rm.slots A) Z 2 22 [(0, .ref (Z.1 1)), (1, .int x1)] [] S 0 0 := by
  unfold pg_leadsAstray_p_22 at h
  refine rb_iconst X 1 pg_leadsAstray_d22 (by decide) ?_
  obtain ⟨hn, h⟩ := h
  exact rb_zret X pg_leadsAstray_d23 hn h
def pg_leadsAstray_p_2 (K : Int32 → rb_S → Prop) : Nat → Int32 → rb_S → Prop
  | 0, _, _ => False
  | n2 + 1, x1, S => ((S 0 1) ≤ x1 → pg_leadsAstray_p_30 K x1 S) ∧ (¬ (S 0 1) ≤ x1 → pg_targetOf_p_0 (fun r12 S12 => (r12 ≤ (S12 0 1) → ∀ v24 : Int32, v24 = x1 + 1 → ((fun a0 T => pg_leadsAstray_p_2 K n2 a0 T) v24 S12)) ∧ (¬ r12 ≤ (S12 0 1) → pg_leadsAstray_p_22 K x1 S12)) x1 S)
theorem pg_leadsAstray_k_2 {K : Int32 → rb_S → Prop}  (X : rb_X p s m args meth c A Z pg_leadsAstray_b 2 "RoomMaker$Program" (some .boolean))  : ∀ (n : Nat) (x1 : Int32) (S : rb_S), pg_leadsAstray_p_2 K n x1 S → rb_V p l e pg_leadsAstray_rm s m args below meth c A (MQ below (va_Qi K (rb_B Z A) A) args s pg_leadsAstray_rm.cells pg_leadsAstray_rm.slots A) Z 2 2 [(0, .ref (Z.1 1)), (1, .int x1)] [] S 0 0 := by
  intro n
  induction n with
  | zero =>
    intro x1 S h
    exact (show False from h).elim
  | succ n ih =>
    intro x1 S h
    have hB2 := ih
    rw [pg_leadsAstray_p_2] at h
    refine rb_iload_n X 1 pg_leadsAstray_d2 rfl 1 rfl ?_
    refine rb_aload_n X 0 pg_leadsAstray_d3 rfl 0 rfl ?_
    refine pg_g41 X pg_leadsAstray_d4 ?_
    refine rb_icmp_ge X 30 pg_leadsAstray_d7 (by decide) (fun hc => ?_) (fun hc => ?_)
    · replace h := h.1 hc
      exact pg_leadsAstray_k_30 X h
    · replace h := h.2 hc
      refine rb_aload_n X 0 pg_leadsAstray_d10 rfl 0 rfl ?_
      refine rb_iload_n X 1 pg_leadsAstray_d11 rfl 1 rfl ?_
      refine rb_callVi (As := [.int x1]) (rest := []) X (pg_targetOf_c l Z h) pg_targetOf_w ⟨by decide, by decide⟩ rw_358 rw_360 rs_11 (q0 := 1) rfl rfl rfl rfl (Nat.le_of_ble_eq_true rfl) pg_leadsAstray_d12 ⟨by decide, by decide⟩ (fun r12 S12 h => ?_)
      refine rb_aload_n X 0 pg_leadsAstray_d15 rfl 0 rfl ?_
      refine pg_g41 X pg_leadsAstray_d16 ?_
      refine rb_icmp_le X 24 pg_leadsAstray_d19 (by decide) (fun hc => ?_) (fun hc => ?_)
      · replace h := h.1 hc
        refine rb_iinc X 1 1 [1, 0] (fun v24 => [(0, .ref (Z.1 1)), (1, .int v24)]) pg_leadsAstray_d24 1 rfl (by decide) (by decide) (fun _ => rfl) (fun v24 e24 => ?_)
        replace h := h v24 e24
        refine rb_goto X 2 pg_leadsAstray_d27 (by decide) ?_
        exact hB2 _ _ h
      · replace h := h.2 hc
        exact pg_leadsAstray_k_22 X h
def pg_leadsAstray_p_0 (K : Int32 → rb_S → Prop)  (S : rb_S) : Prop := ∃ j2 : Nat, pg_leadsAstray_p_2 K j2 0 S
theorem pg_leadsAstray_k_0 {K : Int32 → rb_S → Prop}  (X : rb_X p s m args meth c A Z pg_leadsAstray_b 2 "RoomMaker$Program" (some .boolean))   {S : rb_S} (h : pg_leadsAstray_p_0 K S) : rb_V p l e pg_leadsAstray_rm s m args below meth c A (MQ below (va_Qi K (rb_B Z A) A) args s pg_leadsAstray_rm.cells pg_leadsAstray_rm.slots A) Z 2 0 [(0, .ref (Z.1 1))] [] S 0 0 := by
  unfold pg_leadsAstray_p_0 at h
  refine rb_iconst X 0 pg_leadsAstray_d0 (by decide) ?_
  refine rb_istore_n X 1 [1, 0] (L' := [(0, .ref (Z.1 1)), (1, .int 0)]) pg_leadsAstray_d1 rfl (by decide) rfl ?_
  obtain ⟨j2, h⟩ := h
  exact pg_leadsAstray_k_2 X j2 _ _ h
theorem pg_leadsAstray_c (l : Launch) (Z : rb_Z) {K : Int32 → rb_S → Prop}  {S : rb_S} (h : pg_leadsAstray_p_0 K S) : rb_Mi l pg_leadsAstray_y pg_leadsAstray_b 2 (some .boolean) pg_leadsAstray_rm Z [.ref (Z.1 1)] S K := rb_startI (by decide) (Nat.le_of_ble_eq_true rfl) (fun p e s m args below meth c A X => pg_leadsAstray_k_0 X h)
end
theorem pg_goesOn_d0 : decode pg_goesOn_b 0 = .ok (.aload_n 0, 1) := by decide +kernel
theorem pg_goesOn_d1 : decode pg_goesOn_b 1 = .ok (.getfield 9, 3) := by decide +kernel
theorem pg_goesOn_d4 : decode pg_goesOn_b 4 = .ok (.iload_n 1, 1) := by decide +kernel
theorem pg_goesOn_d5 : decode pg_goesOn_b 5 = .ok (.iaload, 1) := by decide +kernel
theorem pg_goesOn_d6 : decode pg_goesOn_b 6 = .ok (.bipush 9, 2) := by decide +kernel
theorem pg_goesOn_d8 : decode pg_goesOn_b 8 = .ok (.if_icmp .eq 7, 3) := by decide +kernel
theorem pg_goesOn_d11 : decode pg_goesOn_b 11 = .ok (.iconst 1, 1) := by decide +kernel
theorem pg_goesOn_d12 : decode pg_goesOn_b 12 = .ok (.goto 4, 3) := by decide +kernel
theorem pg_goesOn_d15 : decode pg_goesOn_b 15 = .ok (.iconst 0, 1) := by decide +kernel
theorem pg_goesOn_d16 : decode pg_goesOn_b 16 = .ok (.ireturn, 1) := by decide +kernel
abbrev pg_goesOn_rm : Room := { frames := 0, cells := 0, slots := 0, locals := 0 }
theorem pg_goesOn_w : rb_cw pg_goesOn_y pg_goesOn_b 2 (some .boolean) 1 := ⟨rw_394, rw_2, ⟨by decide, by decide⟩, by decide +kernel⟩
section
variable {p : Program} {l : Launch} {e : Env} {s : State} {m : MethodId} {args : Array Value} {below : List Frame} {meth : Method} {c : Code} {A : Nat → Prop} {Z : rb_Z}
def pg_goesOn_p_16 (K : Int32 → rb_S → Prop) (x1 : Int32) (y0 : Int32) (S : rb_S) : Prop := narrow .boolean (.int y0) = .int y0 ∧ K y0 S
theorem pg_goesOn_k_16 {K : Int32 → rb_S → Prop}  (X : rb_X p s m args meth c A Z pg_goesOn_b 2 "RoomMaker$Program" (some .boolean))  {x1 : Int32} {y0 : Int32} {S : rb_S} (h : pg_goesOn_p_16 K x1 y0 S) : rb_V p l e pg_goesOn_rm s m args below meth c A (MQ below (va_Qi K (rb_B Z A) A) args s pg_goesOn_rm.cells pg_goesOn_rm.slots A) Z 2 16 [(0, .ref (Z.1 1)), (1, .int x1)] [.int y0] S 0 0 := by
  unfold pg_goesOn_p_16 at h
  obtain ⟨hn, h⟩ := h
  exact rb_zret X pg_goesOn_d16 hn h
def pg_goesOn_p_0 (K : Int32 → rb_S → Prop) (x1 : Int32) (S : rb_S) : Prop := vp_in x1 64 ∧ (((S 6 x1.toNatClampNeg) = 9 → pg_goesOn_p_16 K x1 0 S) ∧ (¬ (S 6 x1.toNatClampNeg) = 9 → pg_goesOn_p_16 K x1 1 S))
theorem pg_goesOn_k_0 {K : Int32 → rb_S → Prop}  (X : rb_X p s m args meth c A Z pg_goesOn_b 2 "RoomMaker$Program" (some .boolean))  {x1 : Int32} {S : rb_S} (h : pg_goesOn_p_0 K x1 S) : rb_V p l e pg_goesOn_rm s m args below meth c A (MQ below (va_Qi K (rb_B Z A) A) args s pg_goesOn_rm.cells pg_goesOn_rm.slots A) Z 2 0 [(0, .ref (Z.1 1)), (1, .int x1)] [] S 0 0 := by
  unfold pg_goesOn_p_0 at h
  refine rb_aload_n X 0 pg_goesOn_d0 rfl 0 rfl ?_
  refine pg_g9 X pg_goesOn_d1 ?_
  refine rb_iload_n X 1 pg_goesOn_d4 rfl 1 rfl ?_
  obtain ⟨hin, h⟩ := h
  refine rb_iald X 6 (rb_a6 Z) pg_goesOn_d5 hin ?_
  refine rb_bipush X 9 pg_goesOn_d6 (by decide) ?_
  refine rb_icmp_eq X 15 pg_goesOn_d8 (by decide) (fun hc => ?_) (fun hc => ?_)
  · replace h := h.1 hc
    refine rb_iconst X 0 pg_goesOn_d15 (by decide) ?_
    exact pg_goesOn_k_16 X h
  · replace h := h.2 hc
    refine rb_iconst X 1 pg_goesOn_d11 (by decide) ?_
    refine rb_goto X 16 pg_goesOn_d12 (by decide) ?_
    exact pg_goesOn_k_16 X h
theorem pg_goesOn_c (l : Launch) (Z : rb_Z) {K : Int32 → rb_S → Prop} {x1 : Int32} {S : rb_S} (h : pg_goesOn_p_0 K x1 S) : rb_Mi l pg_goesOn_y pg_goesOn_b 2 (some .boolean) pg_goesOn_rm Z [.ref (Z.1 1), .int x1] S K := rb_startI (by decide) (Nat.le_of_ble_eq_true rfl) (fun p e s m args below meth c A X => pg_goesOn_k_0 X h)
end
theorem pg_bitIf_d0 : decode pg_bitIf_b 0 = .ok (.iload_n 0, 1) := by decide +kernel
theorem pg_bitIf_d1 : decode pg_bitIf_b 1 = .ok (.ifCond .eq 9, 3) := by decide +kernel
theorem pg_bitIf_d4 : decode pg_bitIf_b 4 = .ok (.iconst 1, 1) := by decide +kernel
theorem pg_bitIf_d5 : decode pg_bitIf_b 5 = .ok (.iload_n 1, 1) := by decide +kernel
theorem pg_bitIf_d6 : decode pg_bitIf_b 6 = .ok (.ishl, 1) := by decide +kernel
theorem pg_bitIf_d7 : decode pg_bitIf_b 7 = .ok (.goto 4, 3) := by decide +kernel
theorem pg_bitIf_d10 : decode pg_bitIf_b 10 = .ok (.iconst 0, 1) := by decide +kernel
theorem pg_bitIf_d11 : decode pg_bitIf_b 11 = .ok (.ireturn, 1) := by decide +kernel
abbrev pg_bitIf_rm : Room := { frames := 0, cells := 0, slots := 0, locals := 0 }
theorem pg_bitIf_w : rb_cw pg_bitIf_y pg_bitIf_b 2 (some .int) 2 := ⟨rw_406, rw_2, ⟨by decide, by decide⟩, by decide +kernel⟩
section
variable {p : Program} {l : Launch} {e : Env} {s : State} {m : MethodId} {args : Array Value} {below : List Frame} {meth : Method} {c : Code} {A : Nat → Prop} {Z : rb_Z}
def pg_bitIf_p_11 (K : Int32 → rb_S → Prop) (x0 : Int32) (x1 : Int32) (y0 : Int32) (S : rb_S) : Prop := K y0 S
theorem pg_bitIf_k_11 {K : Int32 → rb_S → Prop}  (X : rb_X p s m args meth c A Z pg_bitIf_b 2 "RoomMaker$Program" (some .int))  {x0 : Int32} {x1 : Int32} {y0 : Int32} {S : rb_S} (h : pg_bitIf_p_11 K x0 x1 y0 S) : rb_V p l e pg_bitIf_rm s m args below meth c A (MQ below (va_Qi K (rb_B Z A) A) args s pg_bitIf_rm.cells pg_bitIf_rm.slots A) Z 2 11 [(0, .int x0), (1, .int x1)] [.int y0] S 0 0 := by
  unfold pg_bitIf_p_11 at h
  exact rb_iret X pg_bitIf_d11 h
def pg_bitIf_p_0 (K : Int32 → rb_S → Prop) (x0 : Int32) (x1 : Int32) (S : rb_S) : Prop := (x0 = 0 → pg_bitIf_p_11 K x0 x1 0 S) ∧ (¬ x0 = 0 → pg_bitIf_p_11 K x0 x1 (1 <<< (x1 &&& 31)) S)
theorem pg_bitIf_k_0 {K : Int32 → rb_S → Prop}  (X : rb_X p s m args meth c A Z pg_bitIf_b 2 "RoomMaker$Program" (some .int))  {x0 : Int32} {x1 : Int32} {S : rb_S} (h : pg_bitIf_p_0 K x0 x1 S) : rb_V p l e pg_bitIf_rm s m args below meth c A (MQ below (va_Qi K (rb_B Z A) A) args s pg_bitIf_rm.cells pg_bitIf_rm.slots A) Z 2 0 [(0, .int x0), (1, .int x1)] [] S 0 0 := by
  unfold pg_bitIf_p_0 at h
  refine rb_iload_n X 0 pg_bitIf_d0 rfl 0 rfl ?_
  refine rb_if_eq X 10 pg_bitIf_d1 (by decide) (fun hc => ?_) (fun hc => ?_)
  · replace h := h.1 hc
    refine rb_iconst X 0 pg_bitIf_d10 (by decide) ?_
    exact pg_bitIf_k_11 X h
  · replace h := h.2 hc
    refine rb_iconst X 1 pg_bitIf_d4 (by decide) ?_
    refine rb_iload_n X 1 pg_bitIf_d5 rfl 1 rfl ?_
    refine rb_ishl X pg_bitIf_d6 ?_
    refine rb_goto X 11 pg_bitIf_d7 (by decide) ?_
    exact pg_bitIf_k_11 X h
theorem pg_bitIf_c (l : Launch) (Z : rb_Z) {K : Int32 → rb_S → Prop} {x0 : Int32} {x1 : Int32} {S : rb_S} (h : pg_bitIf_p_0 K x0 x1 S) : rb_Mi l pg_bitIf_y pg_bitIf_b 2 (some .int) pg_bitIf_rm Z [.int x0, .int x1] S K := rb_startI (by decide) (Nat.le_of_ble_eq_true rfl) (fun p e s m args below meth c A X => pg_bitIf_k_0 X h)
end
theorem pg_readBy_d0 : decode pg_readBy_b 0 = .ok (.aload_n 0, 1) := by decide +kernel
theorem pg_readBy_d1 : decode pg_readBy_b 1 = .ok (.getfield 9, 3) := by decide +kernel
theorem pg_readBy_d4 : decode pg_readBy_b 4 = .ok (.iload_n 1, 1) := by decide +kernel
theorem pg_readBy_d5 : decode pg_readBy_b 5 = .ok (.iaload, 1) := by decide +kernel
theorem pg_readBy_d6 : decode pg_readBy_b 6 = .ok (.istore_n 2, 1) := by decide +kernel
theorem pg_readBy_d7 : decode pg_readBy_b 7 = .ok (.getstatic 24, 3) := by decide +kernel
theorem pg_readBy_d10 : decode pg_readBy_b 10 = .ok (.iload_n 2, 1) := by decide +kernel
theorem pg_readBy_d11 : decode pg_readBy_b 11 = .ok (.iaload, 1) := by decide +kernel
theorem pg_readBy_d12 : decode pg_readBy_b 12 = .ok (.iconst 3, 1) := by decide +kernel
theorem pg_readBy_d13 : decode pg_readBy_b 13 = .ok (.if_icmp .ne 7, 3) := by decide +kernel
theorem pg_readBy_d16 : decode pg_readBy_b 16 = .ok (.iconst 1, 1) := by decide +kernel
theorem pg_readBy_d17 : decode pg_readBy_b 17 = .ok (.goto 4, 3) := by decide +kernel
theorem pg_readBy_d20 : decode pg_readBy_b 20 = .ok (.iconst 0, 1) := by decide +kernel
theorem pg_readBy_d21 : decode pg_readBy_b 21 = .ok (.aload_n 0, 1) := by decide +kernel
theorem pg_readBy_d22 : decode pg_readBy_b 22 = .ok (.getfield 15, 3) := by decide +kernel
theorem pg_readBy_d25 : decode pg_readBy_b 25 = .ok (.iload_n 1, 1) := by decide +kernel
theorem pg_readBy_d26 : decode pg_readBy_b 26 = .ok (.iaload, 1) := by decide +kernel
theorem pg_readBy_d27 : decode pg_readBy_b 27 = .ok (.invokestatic 45, 3) := by decide +kernel
theorem pg_readBy_d30 : decode pg_readBy_b 30 = .ok (.getstatic 31, 3) := by decide +kernel
theorem pg_readBy_d33 : decode pg_readBy_b 33 = .ok (.iload_n 2, 1) := by decide +kernel
theorem pg_readBy_d34 : decode pg_readBy_b 34 = .ok (.iaload, 1) := by decide +kernel
theorem pg_readBy_d35 : decode pg_readBy_b 35 = .ok (.iconst 3, 1) := by decide +kernel
theorem pg_readBy_d36 : decode pg_readBy_b 36 = .ok (.if_icmp .ne 7, 3) := by decide +kernel
theorem pg_readBy_d39 : decode pg_readBy_b 39 = .ok (.iconst 1, 1) := by decide +kernel
theorem pg_readBy_d40 : decode pg_readBy_b 40 = .ok (.goto 4, 3) := by decide +kernel
theorem pg_readBy_d43 : decode pg_readBy_b 43 = .ok (.iconst 0, 1) := by decide +kernel
theorem pg_readBy_d44 : decode pg_readBy_b 44 = .ok (.aload_n 0, 1) := by decide +kernel
theorem pg_readBy_d45 : decode pg_readBy_b 45 = .ok (.getfield 18, 3) := by decide +kernel
theorem pg_readBy_d48 : decode pg_readBy_b 48 = .ok (.iload_n 1, 1) := by decide +kernel
theorem pg_readBy_d49 : decode pg_readBy_b 49 = .ok (.iaload, 1) := by decide +kernel
theorem pg_readBy_d50 : decode pg_readBy_b 50 = .ok (.invokestatic 45, 3) := by decide +kernel
theorem pg_readBy_d53 : decode pg_readBy_b 53 = .ok (.ior, 1) := by decide +kernel
theorem pg_readBy_d54 : decode pg_readBy_b 54 = .ok (.getstatic 34, 3) := by decide +kernel
theorem pg_readBy_d57 : decode pg_readBy_b 57 = .ok (.iload_n 2, 1) := by decide +kernel
theorem pg_readBy_d58 : decode pg_readBy_b 58 = .ok (.iaload, 1) := by decide +kernel
theorem pg_readBy_d59 : decode pg_readBy_b 59 = .ok (.iconst 3, 1) := by decide +kernel
theorem pg_readBy_d60 : decode pg_readBy_b 60 = .ok (.if_icmp .ne 7, 3) := by decide +kernel
theorem pg_readBy_d63 : decode pg_readBy_b 63 = .ok (.iconst 1, 1) := by decide +kernel
theorem pg_readBy_d64 : decode pg_readBy_b 64 = .ok (.goto 4, 3) := by decide +kernel
theorem pg_readBy_d67 : decode pg_readBy_b 67 = .ok (.iconst 0, 1) := by decide +kernel
theorem pg_readBy_d68 : decode pg_readBy_b 68 = .ok (.aload_n 0, 1) := by decide +kernel
theorem pg_readBy_d69 : decode pg_readBy_b 69 = .ok (.getfield 21, 3) := by decide +kernel
theorem pg_readBy_d72 : decode pg_readBy_b 72 = .ok (.iload_n 1, 1) := by decide +kernel
theorem pg_readBy_d73 : decode pg_readBy_b 73 = .ok (.iaload, 1) := by decide +kernel
theorem pg_readBy_d74 : decode pg_readBy_b 74 = .ok (.invokestatic 45, 3) := by decide +kernel
theorem pg_readBy_d77 : decode pg_readBy_b 77 = .ok (.ior, 1) := by decide +kernel
theorem pg_readBy_d78 : decode pg_readBy_b 78 = .ok (.ireturn, 1) := by decide +kernel
abbrev pg_readBy_rm : Room := { frames := 1, cells := 0, slots := 0, locals := 21 }
theorem pg_readBy_w : rb_cw pg_readBy_y pg_readBy_b 3 (some .int) 1 := ⟨rw_403, rw_2, ⟨by decide, by decide⟩, by decide +kernel⟩
section
variable {p : Program} {l : Launch} {e : Env} {s : State} {m : MethodId} {args : Array Value} {below : List Frame} {meth : Method} {c : Code} {A : Nat → Prop} {Z : rb_Z}
def pg_readBy_p_68 (K : Int32 → rb_S → Prop) (x1 : Int32) (x2 : Int32) (y0 : Int32) (y1 : Int32) (S : rb_S) : Prop := vp_in x1 64 ∧ (pg_bitIf_p_0 (fun r74 S74 => K (y1 ||| r74) S74) y0 (S 9 x1.toNatClampNeg) S)
theorem pg_readBy_k_68 {K : Int32 → rb_S → Prop}  (X : rb_X p s m args meth c A Z pg_readBy_b 3 "RoomMaker$Program" (some .int))  {x1 : Int32} {x2 : Int32} {y0 : Int32} {y1 : Int32} {S : rb_S} (h : pg_readBy_p_68 K x1 x2 y0 y1 S) : rb_V p l e pg_readBy_rm s m args below meth c A (MQ below (va_Qi K (rb_B Z A) A) args s pg_readBy_rm.cells pg_readBy_rm.slots A) Z 3 68 [(0, .ref (Z.1 1)), (1, .int x1), (2, .int x2)] [.int y0, .int y1] S 0 0 := by
  unfold pg_readBy_p_68 at h
  refine rb_aload_n X 0 pg_readBy_d68 rfl 0 rfl ?_
  refine pg_g21 X pg_readBy_d69 ?_
  refine rb_iload_n X 1 pg_readBy_d72 rfl 1 rfl ?_
  obtain ⟨hin, h⟩ := h
  refine rb_iald X 9 (rb_a9 Z) pg_readBy_d73 hin ?_
  refine rb_callSi (As := [.int y0, .int (S 9 x1.toNatClampNeg)]) (rest := [.int y1]) X (pg_bitIf_c l Z h) pg_bitIf_w ⟨by decide, by decide⟩ rw_404 rw_405 rfl rfl (Nat.le_of_ble_eq_true rfl) pg_readBy_d74 ⟨by decide, by decide⟩ (fun r74 S74 h => ?_)
  refine rb_ior X pg_readBy_d77 ?_
  exact rb_iret X pg_readBy_d78 h
def pg_readBy_p_44 (K : Int32 → rb_S → Prop) (x1 : Int32) (x2 : Int32) (y0 : Int32) (y1 : Int32) (S : rb_S) : Prop := vp_in x1 64 ∧ (pg_bitIf_p_0 (fun r50 S50 => vp_in x2 12 ∧ ((¬ (rb_rz x2.toNatClampNeg) = 3 → pg_readBy_p_68 K x1 x2 0 (y1 ||| r50) S50) ∧ ((rb_rz x2.toNatClampNeg) = 3 → pg_readBy_p_68 K x1 x2 1 (y1 ||| r50) S50))) y0 (S 8 x1.toNatClampNeg) S)
theorem pg_readBy_k_44 {K : Int32 → rb_S → Prop}  (X : rb_X p s m args meth c A Z pg_readBy_b 3 "RoomMaker$Program" (some .int))  {x1 : Int32} {x2 : Int32} {y0 : Int32} {y1 : Int32} {S : rb_S} (h : pg_readBy_p_44 K x1 x2 y0 y1 S) : rb_V p l e pg_readBy_rm s m args below meth c A (MQ below (va_Qi K (rb_B Z A) A) args s pg_readBy_rm.cells pg_readBy_rm.slots A) Z 3 44 [(0, .ref (Z.1 1)), (1, .int x1), (2, .int x2)] [.int y0, .int y1] S 0 0 := by
  unfold pg_readBy_p_44 at h
  refine rb_aload_n X 0 pg_readBy_d44 rfl 0 rfl ?_
  refine pg_g18 X pg_readBy_d45 ?_
  refine rb_iload_n X 1 pg_readBy_d48 rfl 1 rfl ?_
  obtain ⟨hin, h⟩ := h
  refine rb_iald X 8 (rb_a8 Z) pg_readBy_d49 hin ?_
  refine rb_callSi (As := [.int y0, .int (S 8 x1.toNatClampNeg)]) (rest := [.int y1]) X (pg_bitIf_c l Z h) pg_bitIf_w ⟨by decide, by decide⟩ rw_404 rw_405 rfl rfl (Nat.le_of_ble_eq_true rfl) pg_readBy_d50 ⟨by decide, by decide⟩ (fun r50 S50 h => ?_)
  refine rb_ior X pg_readBy_d53 ?_
  refine pg_s34 X pg_readBy_d54 ?_
  refine rb_iload_n X 2 pg_readBy_d57 rfl 2 rfl ?_
  obtain ⟨hin, h⟩ := h
  refine rb_tald2 X pg_readBy_d58 hin ?_
  refine rb_iconst X 3 pg_readBy_d59 (by decide) ?_
  refine rb_icmp_ne X 67 pg_readBy_d60 (by decide) (fun hc => ?_) (fun hc => ?_)
  · replace h := h.1 hc
    refine rb_iconst X 0 pg_readBy_d67 (by decide) ?_
    exact pg_readBy_k_68 X h
  · replace h := h.2 hc
    refine rb_iconst X 1 pg_readBy_d63 (by decide) ?_
    refine rb_goto X 68 pg_readBy_d64 (by decide) ?_
    exact pg_readBy_k_68 X h
def pg_readBy_p_21 (K : Int32 → rb_S → Prop) (x1 : Int32) (x2 : Int32) (y0 : Int32) (S : rb_S) : Prop := vp_in x1 64 ∧ (pg_bitIf_p_0 (fun r27 S27 => vp_in x2 12 ∧ ((¬ (rb_ry x2.toNatClampNeg) = 3 → pg_readBy_p_44 K x1 x2 0 r27 S27) ∧ ((rb_ry x2.toNatClampNeg) = 3 → pg_readBy_p_44 K x1 x2 1 r27 S27))) y0 (S 7 x1.toNatClampNeg) S)
theorem pg_readBy_k_21 {K : Int32 → rb_S → Prop}  (X : rb_X p s m args meth c A Z pg_readBy_b 3 "RoomMaker$Program" (some .int))  {x1 : Int32} {x2 : Int32} {y0 : Int32} {S : rb_S} (h : pg_readBy_p_21 K x1 x2 y0 S) : rb_V p l e pg_readBy_rm s m args below meth c A (MQ below (va_Qi K (rb_B Z A) A) args s pg_readBy_rm.cells pg_readBy_rm.slots A) Z 3 21 [(0, .ref (Z.1 1)), (1, .int x1), (2, .int x2)] [.int y0] S 0 0 := by
  unfold pg_readBy_p_21 at h
  refine rb_aload_n X 0 pg_readBy_d21 rfl 0 rfl ?_
  refine pg_g15 X pg_readBy_d22 ?_
  refine rb_iload_n X 1 pg_readBy_d25 rfl 1 rfl ?_
  obtain ⟨hin, h⟩ := h
  refine rb_iald X 7 (rb_a7 Z) pg_readBy_d26 hin ?_
  refine rb_callSi (As := [.int y0, .int (S 7 x1.toNatClampNeg)]) (rest := []) X (pg_bitIf_c l Z h) pg_bitIf_w ⟨by decide, by decide⟩ rw_404 rw_405 rfl rfl (Nat.le_of_ble_eq_true rfl) pg_readBy_d27 ⟨by decide, by decide⟩ (fun r27 S27 h => ?_)
  refine pg_s31 X pg_readBy_d30 ?_
  refine rb_iload_n X 2 pg_readBy_d33 rfl 2 rfl ?_
  obtain ⟨hin, h⟩ := h
  refine rb_tald1 X pg_readBy_d34 hin ?_
  refine rb_iconst X 3 pg_readBy_d35 (by decide) ?_
  refine rb_icmp_ne X 43 pg_readBy_d36 (by decide) (fun hc => ?_) (fun hc => ?_)
  · replace h := h.1 hc
    refine rb_iconst X 0 pg_readBy_d43 (by decide) ?_
    exact pg_readBy_k_44 X h
  · replace h := h.2 hc
    refine rb_iconst X 1 pg_readBy_d39 (by decide) ?_
    refine rb_goto X 44 pg_readBy_d40 (by decide) ?_
    exact pg_readBy_k_44 X h
def pg_readBy_p_0 (K : Int32 → rb_S → Prop) (x1 : Int32) (S : rb_S) : Prop := vp_in x1 64 ∧ (∀ v6 : Int32, v6 = (S 6 x1.toNatClampNeg) → (vp_in v6 12 ∧ ((¬ (rb_rx v6.toNatClampNeg) = 3 → pg_readBy_p_21 K x1 v6 0 S) ∧ ((rb_rx v6.toNatClampNeg) = 3 → pg_readBy_p_21 K x1 v6 1 S))))
theorem pg_readBy_k_0 {K : Int32 → rb_S → Prop}  (X : rb_X p s m args meth c A Z pg_readBy_b 3 "RoomMaker$Program" (some .int))  {x1 : Int32} {S : rb_S} (h : pg_readBy_p_0 K x1 S) : rb_V p l e pg_readBy_rm s m args below meth c A (MQ below (va_Qi K (rb_B Z A) A) args s pg_readBy_rm.cells pg_readBy_rm.slots A) Z 3 0 [(0, .ref (Z.1 1)), (1, .int x1)] [] S 0 0 := by
  unfold pg_readBy_p_0 at h
  refine rb_aload_n X 0 pg_readBy_d0 rfl 0 rfl ?_
  refine pg_g9 X pg_readBy_d1 ?_
  refine rb_iload_n X 1 pg_readBy_d4 rfl 1 rfl ?_
  obtain ⟨hin, h⟩ := h
  refine rb_iald X 6 (rb_a6 Z) pg_readBy_d5 hin ?_
  refine rb_topi (fun v6 e6 => ?_)
  replace h := h v6 e6
  refine rb_istore_n X 2 [1, 2, 0] (L' := [(0, .ref (Z.1 1)), (1, .int x1), (2, .int v6)]) pg_readBy_d6 rfl (by decide) rfl ?_
  refine pg_s24 X pg_readBy_d7 ?_
  refine rb_iload_n X 2 pg_readBy_d10 rfl 2 rfl ?_
  obtain ⟨hin, h⟩ := h
  refine rb_tald0 X pg_readBy_d11 hin ?_
  refine rb_iconst X 3 pg_readBy_d12 (by decide) ?_
  refine rb_icmp_ne X 20 pg_readBy_d13 (by decide) (fun hc => ?_) (fun hc => ?_)
  · replace h := h.1 hc
    refine rb_iconst X 0 pg_readBy_d20 (by decide) ?_
    exact pg_readBy_k_21 X h
  · replace h := h.2 hc
    refine rb_iconst X 1 pg_readBy_d16 (by decide) ?_
    refine rb_goto X 21 pg_readBy_d17 (by decide) ?_
    exact pg_readBy_k_21 X h
theorem pg_readBy_c (l : Launch) (Z : rb_Z) {K : Int32 → rb_S → Prop} {x1 : Int32} {S : rb_S} (h : pg_readBy_p_0 K x1 S) : rb_Mi l pg_readBy_y pg_readBy_b 3 (some .int) pg_readBy_rm Z [.ref (Z.1 1), .int x1] S K := rb_startI (by decide) (Nat.le_of_ble_eq_true rfl) (fun p e s m args below meth c A X => pg_readBy_k_0 X h)
end
theorem pg_setBy_d0 : decode pg_setBy_b 0 = .ok (.getstatic 24, 3) := by decide +kernel
theorem pg_setBy_d3 : decode pg_setBy_b 3 = .ok (.aload_n 0, 1) := by decide +kernel
theorem pg_setBy_d4 : decode pg_setBy_b 4 = .ok (.getfield 9, 3) := by decide +kernel
theorem pg_setBy_d7 : decode pg_setBy_b 7 = .ok (.iload_n 1, 1) := by decide +kernel
theorem pg_setBy_d8 : decode pg_setBy_b 8 = .ok (.iaload, 1) := by decide +kernel
theorem pg_setBy_d9 : decode pg_setBy_b 9 = .ok (.iaload, 1) := by decide +kernel
theorem pg_setBy_d10 : decode pg_setBy_b 10 = .ok (.iconst 2, 1) := by decide +kernel
theorem pg_setBy_d11 : decode pg_setBy_b 11 = .ok (.if_icmp .ne 7, 3) := by decide +kernel
theorem pg_setBy_d14 : decode pg_setBy_b 14 = .ok (.iconst 1, 1) := by decide +kernel
theorem pg_setBy_d15 : decode pg_setBy_b 15 = .ok (.goto 4, 3) := by decide +kernel
theorem pg_setBy_d18 : decode pg_setBy_b 18 = .ok (.iconst 0, 1) := by decide +kernel
theorem pg_setBy_d19 : decode pg_setBy_b 19 = .ok (.aload_n 0, 1) := by decide +kernel
theorem pg_setBy_d20 : decode pg_setBy_b 20 = .ok (.getfield 15, 3) := by decide +kernel
theorem pg_setBy_d23 : decode pg_setBy_b 23 = .ok (.iload_n 1, 1) := by decide +kernel
theorem pg_setBy_d24 : decode pg_setBy_b 24 = .ok (.iaload, 1) := by decide +kernel
theorem pg_setBy_d25 : decode pg_setBy_b 25 = .ok (.invokestatic 45, 3) := by decide +kernel
theorem pg_setBy_d28 : decode pg_setBy_b 28 = .ok (.ireturn, 1) := by decide +kernel
abbrev pg_setBy_rm : Room := { frames := 1, cells := 0, slots := 0, locals := 21 }
theorem pg_setBy_w : rb_cw pg_setBy_y pg_setBy_b 2 (some .int) 1 := ⟨rw_410, rw_2, ⟨by decide, by decide⟩, by decide +kernel⟩
section
variable {p : Program} {l : Launch} {e : Env} {s : State} {m : MethodId} {args : Array Value} {below : List Frame} {meth : Method} {c : Code} {A : Nat → Prop} {Z : rb_Z}
def pg_setBy_p_19 (K : Int32 → rb_S → Prop) (x1 : Int32) (y0 : Int32) (S : rb_S) : Prop := vp_in x1 64 ∧ (pg_bitIf_p_0 (fun r25 S25 => K r25 S25) y0 (S 7 x1.toNatClampNeg) S)
theorem pg_setBy_k_19 {K : Int32 → rb_S → Prop}  (X : rb_X p s m args meth c A Z pg_setBy_b 2 "RoomMaker$Program" (some .int))  {x1 : Int32} {y0 : Int32} {S : rb_S} (h : pg_setBy_p_19 K x1 y0 S) : rb_V p l e pg_setBy_rm s m args below meth c A (MQ below (va_Qi K (rb_B Z A) A) args s pg_setBy_rm.cells pg_setBy_rm.slots A) Z 2 19 [(0, .ref (Z.1 1)), (1, .int x1)] [.int y0] S 0 0 := by
  unfold pg_setBy_p_19 at h
  refine rb_aload_n X 0 pg_setBy_d19 rfl 0 rfl ?_
  refine pg_g15 X pg_setBy_d20 ?_
  refine rb_iload_n X 1 pg_setBy_d23 rfl 1 rfl ?_
  obtain ⟨hin, h⟩ := h
  refine rb_iald X 7 (rb_a7 Z) pg_setBy_d24 hin ?_
  refine rb_callSi (As := [.int y0, .int (S 7 x1.toNatClampNeg)]) (rest := []) X (pg_bitIf_c l Z h) pg_bitIf_w ⟨by decide, by decide⟩ rw_404 rw_405 rfl rfl (Nat.le_of_ble_eq_true rfl) pg_setBy_d25 ⟨by decide, by decide⟩ (fun r25 S25 h => ?_)
  exact rb_iret X pg_setBy_d28 h
def pg_setBy_p_0 (K : Int32 → rb_S → Prop) (x1 : Int32) (S : rb_S) : Prop := vp_in x1 64 ∧ (vp_in (S 6 x1.toNatClampNeg) 12 ∧ ((¬ (rb_rx (S 6 x1.toNatClampNeg).toNatClampNeg) = 2 → pg_setBy_p_19 K x1 0 S) ∧ ((rb_rx (S 6 x1.toNatClampNeg).toNatClampNeg) = 2 → pg_setBy_p_19 K x1 1 S)))
theorem pg_setBy_k_0 {K : Int32 → rb_S → Prop}  (X : rb_X p s m args meth c A Z pg_setBy_b 2 "RoomMaker$Program" (some .int))  {x1 : Int32} {S : rb_S} (h : pg_setBy_p_0 K x1 S) : rb_V p l e pg_setBy_rm s m args below meth c A (MQ below (va_Qi K (rb_B Z A) A) args s pg_setBy_rm.cells pg_setBy_rm.slots A) Z 2 0 [(0, .ref (Z.1 1)), (1, .int x1)] [] S 0 0 := by
  unfold pg_setBy_p_0 at h
  refine pg_s24 X pg_setBy_d0 ?_
  refine rb_aload_n X 0 pg_setBy_d3 rfl 0 rfl ?_
  refine pg_g9 X pg_setBy_d4 ?_
  refine rb_iload_n X 1 pg_setBy_d7 rfl 1 rfl ?_
  obtain ⟨hin, h⟩ := h
  refine rb_iald X 6 (rb_a6 Z) pg_setBy_d8 hin ?_
  obtain ⟨hin, h⟩ := h
  refine rb_tald0 X pg_setBy_d9 hin ?_
  refine rb_iconst X 2 pg_setBy_d10 (by decide) ?_
  refine rb_icmp_ne X 18 pg_setBy_d11 (by decide) (fun hc => ?_) (fun hc => ?_)
  · replace h := h.1 hc
    refine rb_iconst X 0 pg_setBy_d18 (by decide) ?_
    exact pg_setBy_k_19 X h
  · replace h := h.2 hc
    refine rb_iconst X 1 pg_setBy_d14 (by decide) ?_
    refine rb_goto X 19 pg_setBy_d15 (by decide) ?_
    exact pg_setBy_k_19 X h
theorem pg_setBy_c (l : Launch) (Z : rb_Z) {K : Int32 → rb_S → Prop} {x1 : Int32} {S : rb_S} (h : pg_setBy_p_0 K x1 S) : rb_Mi l pg_setBy_y pg_setBy_b 2 (some .int) pg_setBy_rm Z [.ref (Z.1 1), .int x1] S K := rb_startI (by decide) (Nat.le_of_ble_eq_true rfl) (fun p e s m args below meth c A X => pg_setBy_k_0 X h)
end
