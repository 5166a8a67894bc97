theorem pg_init_d0 : decode pg_init_b 0 = .ok (.aload_n 0, 1) := by decide +kernel
theorem pg_init_d1 : decode pg_init_b 1 = .ok (.invokespecial 3, 3) := by decide +kernel
theorem pg_init_d4 : decode pg_init_b 4 = .ok (.aload_n 0, 1) := by decide +kernel
theorem pg_init_d5 : decode pg_init_b 5 = .ok (.bipush 64, 2) := by decide +kernel
theorem pg_init_d7 : decode pg_init_b 7 = .ok (.newarray .int, 2) := by decide +kernel
theorem pg_init_d9 : decode pg_init_b 9 = .ok (.putfield 9, 3) := by decide +kernel
theorem pg_init_d12 : decode pg_init_b 12 = .ok (.aload_n 0, 1) := by decide +kernel
theorem pg_init_d13 : decode pg_init_b 13 = .ok (.bipush 64, 2) := by decide +kernel
theorem pg_init_d15 : decode pg_init_b 15 = .ok (.newarray .int, 2) := by decide +kernel
theorem pg_init_d17 : decode pg_init_b 17 = .ok (.putfield 15, 3) := by decide +kernel
theorem pg_init_d20 : decode pg_init_b 20 = .ok (.aload_n 0, 1) := by decide +kernel
theorem pg_init_d21 : decode pg_init_b 21 = .ok (.bipush 64, 2) := by decide +kernel
theorem pg_init_d23 : decode pg_init_b 23 = .ok (.newarray .int, 2) := by decide +kernel
theorem pg_init_d25 : decode pg_init_b 25 = .ok (.putfield 18, 3) := by decide +kernel
theorem pg_init_d28 : decode pg_init_b 28 = .ok (.aload_n 0, 1) := by decide +kernel
theorem pg_init_d29 : decode pg_init_b 29 = .ok (.bipush 64, 2) := by decide +kernel
theorem pg_init_d31 : decode pg_init_b 31 = .ok (.newarray .int, 2) := by decide +kernel
theorem pg_init_d33 : decode pg_init_b 33 = .ok (.putfield 21, 3) := by decide +kernel
theorem pg_init_d36 : decode pg_init_b 36 = .ok (.return_, 1) := by decide +kernel
theorem pg_init_w : rb_cw pg_init_y pg_init_b 1 none 0 := ⟨rw_28, rw_2, ⟨by decide, by decide⟩, by decide +kernel⟩
abbrev pg_init_rm : Room := { frames := 1, cells := 4, slots := 256, locals := 12 }
set_option maxHeartbeats 4000000 in
set_option maxRecDepth 100000 in
theorem pg_init_c (l : Launch) (dC : Nat → ClassId) (dI : Nat → Nat → Nat) (h0 : Nat) (sz : Nat) : Met l pg_init_y (Cond.code pg_init_y pg_init_b 1 none :: rb_ws) pg_init_rm (va_Pc [.ref h0] (fun U => U.heap.size = sz ∧ va_P (dC, dI) vwCl [(h0, .inr (1, [.null, .null, .null, .null, .int 0]))] U.heap ∧ va_K (dC, dI) vwCl [] U ∧ va_D (fun _ => True) [(h0, .inr (1, [.null, .null, .null, .null, .int 0]))])) (va_Qv (fun _ : Unit => True) (fun _ t => ∃ (q : Nat → Nat) (ca : Nat → ClassId), va_P (dC, dI) vwCl ((h0, .inr (1, [.ref (q 0), .ref (q 1), .ref (q 2), .ref (q 3), .int 0])) :: [(q 0, .inl (ca 0, 64, .inl (fun _ => 0))), (q 1, .inl (ca 1, 64, .inl (fun _ => 0))), (q 2, .inl (ca 2, 64, .inl (fun _ => 0))), (q 3, .inl (ca 3, 64, .inl (fun _ => 0)))] : va_W) t.heap ∧ va_K (dC, dI) vwCl [(ca 0, .int), (ca 1, .int), (ca 2, .int), (ca 3, .int)] t ∧ va_D (va_A [(h0, .inr (1, [.null, .null, .null, .null, .int 0]))] sz) ((h0, .inr (1, [.ref (q 0), .ref (q 1), .ref (q 2), .ref (q 3), .int 0])) :: [(q 0, .inl (ca 0, 64, .inl (fun _ => 0))), (q 1, .inl (ca 1, 64, .inl (fun _ => 0))), (q 2, .inl (ca 2, 64, .inl (fun _ => 0))), (q 3, .inl (ca 3, 64, .inl (fun _ => 0)))] : va_W)) (va_A [(h0, .inr (1, [.null, .null, .null, .null, .int 0]))] sz)) 4 256 (va_A [(h0, .inr (1, [.null, .null, .null, .null, .int 0]))] sz) := by
  refine Met.ofW (cc := pg_init_b) (maxL := 1) (ret := none) (by decide) rfl ?_
  intro p e s m args below meth c s₁ B hml hv
  obtain ⟨rfl, hsz, hP, hK, hD0⟩ := hv
  have hx := B.exec
  have hb := B.bytes
  have hr := B.returns
  have hts0 := atoms_spec (ws := Cond.code pg_init_y pg_init_b 1 none :: rb_ws) B.pre
  have hts : ∀ w ∈ rb_ws, w.before _ s = true := fun w hw => hts0 w (List.mem_cons_of_mem _ hw)
  have hown : s.vm.findClass "RoomMaker$Program" = some m.cls := findClass_of_methodNamed B.named
  have hlocks := B.notSynchronized
  have hin : meth.name = "<init>" := (name_of_methodNamed B.named B.method).1
  subst hsz
  have hD := hD0.self (sz := s.heap.size)
  generalize hAe : va_A [(h0, .inr (1, [.null, .null, .null, .null, .int 0]))] s.heap.size = A at hD ⊢
  have hA : ∀ q : Nat, s.heap.size ≤ q → A q := fun q h => by rw [← hAe]; exact Or.inr h
  have hS : va_S A s.heap s.heap [] := va_S.rf
  have hl := lv_entry ([.ref h0]) (n := 1) (Nat.le_of_ble_eq_true rfl)
  rw [lg_entry_eq]
  generalize (lg_sl ([.ref h0]) ++ List.replicate (1 - (lg_sl ([.ref h0])).length) Slot.unset).toArray = ls at hl ⊢
  have hl : lv_has ls 1 [(0, .ref h0)] := hl
  refine lv_aload_n hx hb pg_init_d0 rfl (lv_at hl 0 rfl) ?_
  refine W.objInit hx hb hown (hts _ rw_29) (hts _ rw_22) (hts _ rw_23) rfl (by rw [hml]; exact hl.1) rfl pg_init_d1 (Nat.le_of_ble_eq_true rfl) (Nat.le_of_ble_eq_true rfl) ?_
  refine W.eq (g2 := F0 m 4 ls []) rfl ?_
  refine lv_aload_n hx hb pg_init_d4 rfl (lv_at hl 0 rfl) ?_
  refine lv_bipush (v := 64) hx hb pg_init_d5 (by decide) ?_
  refine va_newa (atype := .int) (N' := 64) (a0 := (64, .inl (fun _ => 0))) hx hb (hts _ rw_53) (ty := .int) rfl hK hP hD hS hA (fun _ => rfl) (by decide) (by decide) (by decide) (by decide) (by decide) pg_init_d7 (fun q0 ca0 H hK hP hD hS => ?_)
  have hP : va_P (dC, dI) vwCl [(h0, .inr (1, [.null, .null, .null, .null, .int 0])), (q0, .inl (ca0, 64, .inl (fun _ => 0)))] H := hP
  have hD : va_D A [(h0, .inr (1, [.null, .null, .null, .null, .int 0])), (q0, .inl (ca0, 64, .inl (fun _ => 0)))] := hD
  have hK : va_K (dC, dI) vwCl [(ca0, .int)] s := hK
  refine W.widen (k := 1) (n := 64) (by decide) (by decide) ?_
  refine va_putF (D := (dC, dI)) (ci := 1) (v := .ref q0) (ty := .array .int) (C := "RoomMaker$Program") (T := pg_F) (N := 5) (ref := "RoomMaker$Program") hx hb hts pg_in pg_t pg_ok pg_n hown hK hP hD hS 0 rfl rfl 0 (by decide) (hts _ rw_30) (fun _ h9 => h9) rfl hin rfl (by decide +kernel) rfl rfl (Nat.le_of_ble_eq_true rfl) pg_init_d9 (fun H locs hP hD hS => ?_)
  have hP : va_P (dC, dI) vwCl [(h0, .inr (1, [.ref q0, .null, .null, .null, .int 0])), (q0, .inl (ca0, 64, .inl (fun _ => 0)))] H := hP
  have hD : va_D A [(h0, .inr (1, [.ref q0, .null, .null, .null, .int 0])), (q0, .inl (ca0, 64, .inl (fun _ => 0)))] := hD
  refine lv_aload_n hx hb pg_init_d12 rfl (lv_at hl 0 rfl) ?_
  refine lv_bipush (v := 64) hx hb pg_init_d13 (by decide) ?_
  refine va_newa (atype := .int) (N' := 64) (a0 := (64, .inl (fun _ => 0))) hx hb (hts _ rw_53) (ty := .int) rfl hK hP hD hS hA (fun _ => rfl) (by decide) (by decide) (by decide) (by decide) (by decide) pg_init_d15 (fun q1 ca1 H hK hP hD hS => ?_)
  have hP : va_P (dC, dI) vwCl [(h0, .inr (1, [.ref q0, .null, .null, .null, .int 0])), (q0, .inl (ca0, 64, .inl (fun _ => 0))), (q1, .inl (ca1, 64, .inl (fun _ => 0)))] H := hP
  have hD : va_D A [(h0, .inr (1, [.ref q0, .null, .null, .null, .int 0])), (q0, .inl (ca0, 64, .inl (fun _ => 0))), (q1, .inl (ca1, 64, .inl (fun _ => 0)))] := hD
  have hK : va_K (dC, dI) vwCl [(ca0, .int), (ca1, .int)] s := hK
  refine W.widen (k := 2) (n := 128) (by decide) (by decide) ?_
  refine va_putF (D := (dC, dI)) (ci := 1) (v := .ref q1) (ty := .array .int) (C := "RoomMaker$Program") (T := pg_F) (N := 5) (ref := "RoomMaker$Program") hx hb hts pg_in pg_t pg_ok pg_n hown hK hP hD hS 0 rfl rfl 1 (by decide) (hts _ rw_32) (fun _ h9 => h9) rfl hin rfl (by decide +kernel) rfl rfl (Nat.le_of_ble_eq_true rfl) pg_init_d17 (fun H locs hP hD hS => ?_)
  have hP : va_P (dC, dI) vwCl [(h0, .inr (1, [.ref q0, .ref q1, .null, .null, .int 0])), (q0, .inl (ca0, 64, .inl (fun _ => 0))), (q1, .inl (ca1, 64, .inl (fun _ => 0)))] H := hP
  have hD : va_D A [(h0, .inr (1, [.ref q0, .ref q1, .null, .null, .int 0])), (q0, .inl (ca0, 64, .inl (fun _ => 0))), (q1, .inl (ca1, 64, .inl (fun _ => 0)))] := hD
  refine lv_aload_n hx hb pg_init_d20 rfl (lv_at hl 0 rfl) ?_
  refine lv_bipush (v := 64) hx hb pg_init_d21 (by decide) ?_
  refine va_newa (atype := .int) (N' := 64) (a0 := (64, .inl (fun _ => 0))) hx hb (hts _ rw_53) (ty := .int) rfl hK hP hD hS hA (fun _ => rfl) (by decide) (by decide) (by decide) (by decide) (by decide) pg_init_d23 (fun q2 ca2 H hK hP hD hS => ?_)
  have hP : va_P (dC, dI) vwCl [(h0, .inr (1, [.ref q0, .ref q1, .null, .null, .int 0])), (q0, .inl (ca0, 64, .inl (fun _ => 0))), (q1, .inl (ca1, 64, .inl (fun _ => 0))), (q2, .inl (ca2, 64, .inl (fun _ => 0)))] H := hP
  have hD : va_D A [(h0, .inr (1, [.ref q0, .ref q1, .null, .null, .int 0])), (q0, .inl (ca0, 64, .inl (fun _ => 0))), (q1, .inl (ca1, 64, .inl (fun _ => 0))), (q2, .inl (ca2, 64, .inl (fun _ => 0)))] := hD
  have hK : va_K (dC, dI) vwCl [(ca0, .int), (ca1, .int), (ca2, .int)] s := hK
  refine W.widen (k := 3) (n := 192) (by decide) (by decide) ?_
  refine va_putF (D := (dC, dI)) (ci := 1) (v := .ref q2) (ty := .array .int) (C := "RoomMaker$Program") (T := pg_F) (N := 5) (ref := "RoomMaker$Program") hx hb hts pg_in pg_t pg_ok pg_n hown hK hP hD hS 0 rfl rfl 2 (by decide) (hts _ rw_34) (fun _ h9 => h9) rfl hin rfl (by decide +kernel) rfl rfl (Nat.le_of_ble_eq_true rfl) pg_init_d25 (fun H locs hP hD hS => ?_)
  have hP : va_P (dC, dI) vwCl [(h0, .inr (1, [.ref q0, .ref q1, .ref q2, .null, .int 0])), (q0, .inl (ca0, 64, .inl (fun _ => 0))), (q1, .inl (ca1, 64, .inl (fun _ => 0))), (q2, .inl (ca2, 64, .inl (fun _ => 0)))] H := hP
  have hD : va_D A [(h0, .inr (1, [.ref q0, .ref q1, .ref q2, .null, .int 0])), (q0, .inl (ca0, 64, .inl (fun _ => 0))), (q1, .inl (ca1, 64, .inl (fun _ => 0))), (q2, .inl (ca2, 64, .inl (fun _ => 0)))] := hD
  refine lv_aload_n hx hb pg_init_d28 rfl (lv_at hl 0 rfl) ?_
  refine lv_bipush (v := 64) hx hb pg_init_d29 (by decide) ?_
  refine va_newa (atype := .int) (N' := 64) (a0 := (64, .inl (fun _ => 0))) hx hb (hts _ rw_53) (ty := .int) rfl hK hP hD hS hA (fun _ => rfl) (by decide) (by decide) (by decide) (by decide) (by decide) pg_init_d31 (fun q3 ca3 H hK hP hD hS => ?_)
  have hP : va_P (dC, dI) vwCl [(h0, .inr (1, [.ref q0, .ref q1, .ref q2, .null, .int 0])), (q0, .inl (ca0, 64, .inl (fun _ => 0))), (q1, .inl (ca1, 64, .inl (fun _ => 0))), (q2, .inl (ca2, 64, .inl (fun _ => 0))), (q3, .inl (ca3, 64, .inl (fun _ => 0)))] H := hP
  have hD : va_D A [(h0, .inr (1, [.ref q0, .ref q1, .ref q2, .null, .int 0])), (q0, .inl (ca0, 64, .inl (fun _ => 0))), (q1, .inl (ca1, 64, .inl (fun _ => 0))), (q2, .inl (ca2, 64, .inl (fun _ => 0))), (q3, .inl (ca3, 64, .inl (fun _ => 0)))] := hD
  have hK : va_K (dC, dI) vwCl [(ca0, .int), (ca1, .int), (ca2, .int), (ca3, .int)] s := hK
  refine W.widen (k := 4) (n := 256) (by decide) (by decide) ?_
  refine va_putF (D := (dC, dI)) (ci := 1) (v := .ref q3) (ty := .array .int) (C := "RoomMaker$Program") (T := pg_F) (N := 5) (ref := "RoomMaker$Program") hx hb hts pg_in pg_t pg_ok pg_n hown hK hP hD hS 0 rfl rfl 3 (by decide) (hts _ rw_36) (fun _ h9 => h9) rfl hin rfl (by decide +kernel) rfl rfl (Nat.le_of_ble_eq_true rfl) pg_init_d33 (fun H locs hP hD hS => ?_)
  have hP : va_P (dC, dI) vwCl [(h0, .inr (1, [.ref q0, .ref q1, .ref q2, .ref q3, .int 0])), (q0, .inl (ca0, 64, .inl (fun _ => 0))), (q1, .inl (ca1, 64, .inl (fun _ => 0))), (q2, .inl (ca2, 64, .inl (fun _ => 0))), (q3, .inl (ca3, 64, .inl (fun _ => 0)))] H := hP
  have hD : va_D A [(h0, .inr (1, [.ref q0, .ref q1, .ref q2, .ref q3, .int 0])), (q0, .inl (ca0, 64, .inl (fun _ => 0))), (q1, .inl (ca1, 64, .inl (fun _ => 0))), (q2, .inl (ca2, 64, .inl (fun _ => 0))), (q3, .inl (ca3, 64, .inl (fun _ => 0)))] := hD
  exact W.vret hx hb hr (fun t ht hW => ⟨⟨(), rfl, trivial, (fun n => match n with | 0 => q0 | 1 => q1 | 2 => q2 | _ => q3), (fun n => match n with | 0 => ca0 | 1 => ca1 | 2 => ca2 | _ => ca3), by rw [ht]; exact hP, va_K.moved hW.alike hK, hD⟩, hS.F ht⟩) hS.2.2 pg_init_d36
theorem ip_init_d0 : decode ip_init_b 0 = .ok (.aload_n 0, 1) := by decide +kernel
theorem ip_init_d1 : decode ip_init_b 1 = .ok (.invokespecial 3, 3) := by decide +kernel
theorem ip_init_d4 : decode ip_init_b 4 = .ok (.aload_n 0, 1) := by decide +kernel
theorem ip_init_d5 : decode ip_init_b 5 = .ok (.bipush 32, 2) := by decide +kernel
theorem ip_init_d7 : decode ip_init_b 7 = .ok (.newarray .int, 2) := by decide +kernel
theorem ip_init_d9 : decode ip_init_b 9 = .ok (.putfield 9, 3) := by decide +kernel
theorem ip_init_d12 : decode ip_init_b 12 = .ok (.return_, 1) := by decide +kernel
theorem ip_init_w : rb_cw ip_init_y ip_init_b 1 none 0 := ⟨rw_58, rw_3, ⟨by decide, by decide⟩, by decide +kernel⟩
abbrev ip_init_rm : Room := { frames := 1, cells := 1, slots := 32, locals := 12 }
set_option maxHeartbeats 4000000 in
set_option maxRecDepth 100000 in
theorem ip_init_c (l : Launch) (dC : Nat → ClassId) (dI : Nat → Nat → Nat) (h0 : Nat) (sz : Nat) : Met l ip_init_y (Cond.code ip_init_y ip_init_b 1 none :: rb_ws) ip_init_rm (va_Pc [.ref h0] (fun U => U.heap.size = sz ∧ va_P (dC, dI) vwCl [(h0, .inr (2, [.null, .int 0, .int 0]))] U.heap ∧ va_K (dC, dI) vwCl [] U ∧ va_D (fun _ => True) [(h0, .inr (2, [.null, .int 0, .int 0]))])) (va_Qv (fun _ : Unit => True) (fun _ t => ∃ (q : Nat → Nat) (ca : Nat → ClassId), va_P (dC, dI) vwCl ((h0, .inr (2, [.ref (q 0), .int 0, .int 0])) :: [(q 0, .inl (ca 0, 32, .inl (fun _ => 0)))] : va_W) t.heap ∧ va_K (dC, dI) vwCl [(ca 0, .int)] t ∧ va_D (va_A [(h0, .inr (2, [.null, .int 0, .int 0]))] sz) ((h0, .inr (2, [.ref (q 0), .int 0, .int 0])) :: [(q 0, .inl (ca 0, 32, .inl (fun _ => 0)))] : va_W)) (va_A [(h0, .inr (2, [.null, .int 0, .int 0]))] sz)) 1 32 (va_A [(h0, .inr (2, [.null, .int 0, .int 0]))] sz) := by
  refine Met.ofW (cc := ip_init_b) (maxL := 1) (ret := none) (by decide) rfl ?_
  intro p e s m args below meth c s₁ B hml hv
  obtain ⟨rfl, hsz, hP, hK, hD0⟩ := hv
  have hx := B.exec
  have hb := B.bytes
  have hr := B.returns
  have hts0 := atoms_spec (ws := Cond.code ip_init_y ip_init_b 1 none :: rb_ws) B.pre
  have hts : ∀ w ∈ rb_ws, w.before _ s = true := fun w hw => hts0 w (List.mem_cons_of_mem _ hw)
  have hown : s.vm.findClass "RoomMaker$Inputs" = some m.cls := findClass_of_methodNamed B.named
  have hlocks := B.notSynchronized
  have hin : meth.name = "<init>" := (name_of_methodNamed B.named B.method).1
  subst hsz
  have hD := hD0.self (sz := s.heap.size)
  generalize hAe : va_A [(h0, .inr (2, [.null, .int 0, .int 0]))] s.heap.size = A at hD ⊢
  have hA : ∀ q : Nat, s.heap.size ≤ q → A q := fun q h => by rw [← hAe]; exact Or.inr h
  have hS : va_S A s.heap s.heap [] := va_S.rf
  have hl := lv_entry ([.ref h0]) (n := 1) (Nat.le_of_ble_eq_true rfl)
  rw [lg_entry_eq]
  generalize (lg_sl ([.ref h0]) ++ List.replicate (1 - (lg_sl ([.ref h0])).length) Slot.unset).toArray = ls at hl ⊢
  have hl : lv_has ls 1 [(0, .ref h0)] := hl
  refine lv_aload_n hx hb ip_init_d0 rfl (lv_at hl 0 rfl) ?_
  refine W.objInit hx hb hown (hts _ rw_59) (hts _ rw_22) (hts _ rw_23) rfl (by rw [hml]; exact hl.1) rfl ip_init_d1 (Nat.le_of_ble_eq_true rfl) (Nat.le_of_ble_eq_true rfl) ?_
  refine W.eq (g2 := F0 m 4 ls []) rfl ?_
  refine lv_aload_n hx hb ip_init_d4 rfl (lv_at hl 0 rfl) ?_
  refine lv_bipush (v := 32) hx hb ip_init_d5 (by decide) ?_
  refine va_newa (atype := .int) (N' := 32) (a0 := (32, .inl (fun _ => 0))) hx hb (hts _ rw_53) (ty := .int) rfl hK hP hD hS hA (fun _ => rfl) (by decide) (by decide) (by decide) (by decide) (by decide) ip_init_d7 (fun q0 ca0 H hK hP hD hS => ?_)
  have hP : va_P (dC, dI) vwCl [(h0, .inr (2, [.null, .int 0, .int 0])), (q0, .inl (ca0, 32, .inl (fun _ => 0)))] H := hP
  have hD : va_D A [(h0, .inr (2, [.null, .int 0, .int 0])), (q0, .inl (ca0, 32, .inl (fun _ => 0)))] := hD
  have hK : va_K (dC, dI) vwCl [(ca0, .int)] s := hK
  refine W.widen (k := 1) (n := 32) (by decide) (by decide) ?_
  refine va_putF (D := (dC, dI)) (ci := 2) (v := .ref q0) (ty := .array .int) (C := "RoomMaker$Inputs") (T := ip_F) (N := 3) (ref := "RoomMaker$Inputs") hx hb hts ip_in ip_t ip_ok ip_n hown hK hP hD hS 0 rfl rfl 0 (by decide) (hts _ rw_60) (fun _ h9 => h9) rfl hin rfl (by decide +kernel) rfl rfl (Nat.le_of_ble_eq_true rfl) ip_init_d9 (fun H locs hP hD hS => ?_)
  have hP : va_P (dC, dI) vwCl [(h0, .inr (2, [.ref q0, .int 0, .int 0])), (q0, .inl (ca0, 32, .inl (fun _ => 0)))] H := hP
  have hD : va_D A [(h0, .inr (2, [.ref q0, .int 0, .int 0])), (q0, .inl (ca0, 32, .inl (fun _ => 0)))] := hD
  exact W.vret hx hb hr (fun t ht hW => ⟨⟨(), rfl, trivial, (fun n => match n with  | _ => q0), (fun n => match n with  | _ => ca0), by rw [ht]; exact hP, va_K.moved hW.alike hK, hD⟩, hS.F ht⟩) hS.2.2 ip_init_d12
theorem sp_init_d0 : decode sp_init_b 0 = .ok (.aload_n 0, 1) := by decide +kernel
theorem sp_init_d1 : decode sp_init_b 1 = .ok (.invokespecial 3, 3) := by decide +kernel
theorem sp_init_d4 : decode sp_init_b 4 = .ok (.aload_n 0, 1) := by decide +kernel
theorem sp_init_d5 : decode sp_init_b 5 = .ok (.sipush 128, 3) := by decide +kernel
theorem sp_init_d8 : decode sp_init_b 8 = .ok (.newarray .int, 2) := by decide +kernel
theorem sp_init_d10 : decode sp_init_b 10 = .ok (.putfield 9, 3) := by decide +kernel
theorem sp_init_d13 : decode sp_init_b 13 = .ok (.aload_n 0, 1) := by decide +kernel
theorem sp_init_d14 : decode sp_init_b 14 = .ok (.bipush 16, 2) := by decide +kernel
theorem sp_init_d16 : decode sp_init_b 16 = .ok (.newarray .int, 2) := by decide +kernel
theorem sp_init_d18 : decode sp_init_b 18 = .ok (.putfield 15, 3) := by decide +kernel
theorem sp_init_d21 : decode sp_init_b 21 = .ok (.aload_n 0, 1) := by decide +kernel
theorem sp_init_d22 : decode sp_init_b 22 = .ok (.bipush 16, 2) := by decide +kernel
theorem sp_init_d24 : decode sp_init_b 24 = .ok (.newarray .int, 2) := by decide +kernel
theorem sp_init_d26 : decode sp_init_b 26 = .ok (.putfield 18, 3) := by decide +kernel
theorem sp_init_d29 : decode sp_init_b 29 = .ok (.return_, 1) := by decide +kernel
theorem sp_init_w : rb_cw sp_init_y sp_init_b 1 none 0 := ⟨rw_75, rw_4, ⟨by decide, by decide⟩, by decide +kernel⟩
abbrev sp_init_rm : Room := { frames := 1, cells := 3, slots := 160, locals := 12 }
set_option maxHeartbeats 4000000 in
set_option maxRecDepth 100000 in
theorem sp_init_c (l : Launch) (dC : Nat → ClassId) (dI : Nat → Nat → Nat) (h0 : Nat) (sz : Nat) : Met l sp_init_y (Cond.code sp_init_y sp_init_b 1 none :: rb_ws) sp_init_rm (va_Pc [.ref h0] (fun U => U.heap.size = sz ∧ va_P (dC, dI) vwCl [(h0, .inr (3, [.null, .null, .null, .int 0]))] U.heap ∧ va_K (dC, dI) vwCl [] U ∧ va_D (fun _ => True) [(h0, .inr (3, [.null, .null, .null, .int 0]))])) (va_Qv (fun _ : Unit => True) (fun _ t => ∃ (q : Nat → Nat) (ca : Nat → ClassId), va_P (dC, dI) vwCl ((h0, .inr (3, [.ref (q 0), .ref (q 1), .ref (q 2), .int 0])) :: [(q 0, .inl (ca 0, 128, .inl (fun _ => 0))), (q 1, .inl (ca 1, 16, .inl (fun _ => 0))), (q 2, .inl (ca 2, 16, .inl (fun _ => 0)))] : va_W) t.heap ∧ va_K (dC, dI) vwCl [(ca 0, .int), (ca 1, .int), (ca 2, .int)] t ∧ va_D (va_A [(h0, .inr (3, [.null, .null, .null, .int 0]))] sz) ((h0, .inr (3, [.ref (q 0), .ref (q 1), .ref (q 2), .int 0])) :: [(q 0, .inl (ca 0, 128, .inl (fun _ => 0))), (q 1, .inl (ca 1, 16, .inl (fun _ => 0))), (q 2, .inl (ca 2, 16, .inl (fun _ => 0)))] : va_W)) (va_A [(h0, .inr (3, [.null, .null, .null, .int 0]))] sz)) 3 160 (va_A [(h0, .inr (3, [.null, .null, .null, .int 0]))] sz) := by
  refine Met.ofW (cc := sp_init_b) (maxL := 1) (ret := none) (by decide) rfl ?_
  intro p e s m args below meth c s₁ B hml hv
  obtain ⟨rfl, hsz, hP, hK, hD0⟩ := hv
  have hx := B.exec
  have hb := B.bytes
  have hr := B.returns
  have hts0 := atoms_spec (ws := Cond.code sp_init_y sp_init_b 1 none :: rb_ws) B.pre
  have hts : ∀ w ∈ rb_ws, w.before _ s = true := fun w hw => hts0 w (List.mem_cons_of_mem _ hw)
  have hown : s.vm.findClass "RoomMaker$Spans" = some m.cls := findClass_of_methodNamed B.named
  have hlocks := B.notSynchronized
  have hin : meth.name = "<init>" := (name_of_methodNamed B.named B.method).1
  subst hsz
  have hD := hD0.self (sz := s.heap.size)
  generalize hAe : va_A [(h0, .inr (3, [.null, .null, .null, .int 0]))] s.heap.size = A at hD ⊢
  have hA : ∀ q : Nat, s.heap.size ≤ q → A q := fun q h => by rw [← hAe]; exact Or.inr h
  have hS : va_S A s.heap s.heap [] := va_S.rf
  have hl := lv_entry ([.ref h0]) (n := 1) (Nat.le_of_ble_eq_true rfl)
  rw [lg_entry_eq]
  generalize (lg_sl ([.ref h0]) ++ List.replicate (1 - (lg_sl ([.ref h0])).length) Slot.unset).toArray = ls at hl ⊢
  have hl : lv_has ls 1 [(0, .ref h0)] := hl
  refine lv_aload_n hx hb sp_init_d0 rfl (lv_at hl 0 rfl) ?_
  refine W.objInit hx hb hown (hts _ rw_76) (hts _ rw_22) (hts _ rw_23) rfl (by rw [hml]; exact hl.1) rfl sp_init_d1 (Nat.le_of_ble_eq_true rfl) (Nat.le_of_ble_eq_true rfl) ?_
  refine W.eq (g2 := F0 m 4 ls []) rfl ?_
  refine lv_aload_n hx hb sp_init_d4 rfl (lv_at hl 0 rfl) ?_
  refine lv_sipush (v := 128) hx hb sp_init_d5 (by decide) ?_
  refine va_newa (atype := .int) (N' := 128) (a0 := (128, .inl (fun _ => 0))) hx hb (hts _ rw_53) (ty := .int) rfl hK hP hD hS hA (fun _ => rfl) (by decide) (by decide) (by decide) (by decide) (by decide) sp_init_d8 (fun q0 ca0 H hK hP hD hS => ?_)
  have hP : va_P (dC, dI) vwCl [(h0, .inr (3, [.null, .null, .null, .int 0])), (q0, .inl (ca0, 128, .inl (fun _ => 0)))] H := hP
  have hD : va_D A [(h0, .inr (3, [.null, .null, .null, .int 0])), (q0, .inl (ca0, 128, .inl (fun _ => 0)))] := hD
  have hK : va_K (dC, dI) vwCl [(ca0, .int)] s := hK
  refine W.widen (k := 1) (n := 128) (by decide) (by decide) ?_
  refine va_putF (D := (dC, dI)) (ci := 3) (v := .ref q0) (ty := .array .int) (C := "RoomMaker$Spans") (T := sp_F) (N := 4) (ref := "RoomMaker$Spans") hx hb hts sp_in sp_t sp_ok sp_n hown hK hP hD hS 0 rfl rfl 0 (by decide) (hts _ rw_77) (fun _ h9 => h9) rfl hin rfl (by decide +kernel) rfl rfl (Nat.le_of_ble_eq_true rfl) sp_init_d10 (fun H locs hP hD hS => ?_)
  have hP : va_P (dC, dI) vwCl [(h0, .inr (3, [.ref q0, .null, .null, .int 0])), (q0, .inl (ca0, 128, .inl (fun _ => 0)))] H := hP
  have hD : va_D A [(h0, .inr (3, [.ref q0, .null, .null, .int 0])), (q0, .inl (ca0, 128, .inl (fun _ => 0)))] := hD
  refine lv_aload_n hx hb sp_init_d13 rfl (lv_at hl 0 rfl) ?_
  refine lv_bipush (v := 16) hx hb sp_init_d14 (by decide) ?_
  refine va_newa (atype := .int) (N' := 16) (a0 := (16, .inl (fun _ => 0))) hx hb (hts _ rw_53) (ty := .int) rfl hK hP hD hS hA (fun _ => rfl) (by decide) (by decide) (by decide) (by decide) (by decide) sp_init_d16 (fun q1 ca1 H hK hP hD hS => ?_)
  have hP : va_P (dC, dI) vwCl [(h0, .inr (3, [.ref q0, .null, .null, .int 0])), (q0, .inl (ca0, 128, .inl (fun _ => 0))), (q1, .inl (ca1, 16, .inl (fun _ => 0)))] H := hP
  have hD : va_D A [(h0, .inr (3, [.ref q0, .null, .null, .int 0])), (q0, .inl (ca0, 128, .inl (fun _ => 0))), (q1, .inl (ca1, 16, .inl (fun _ => 0)))] := hD
  have hK : va_K (dC, dI) vwCl [(ca0, .int), (ca1, .int)] s := hK
  refine W.widen (k := 2) (n := 144) (by decide) (by decide) ?_
  refine va_putF (D := (dC, dI)) (ci := 3) (v := .ref q1) (ty := .array .int) (C := "RoomMaker$Spans") (T := sp_F) (N := 4) (ref := "RoomMaker$Spans") hx hb hts sp_in sp_t sp_ok sp_n hown hK hP hD hS 0 rfl rfl 1 (by decide) (hts _ rw_79) (fun _ h9 => h9) rfl hin rfl (by decide +kernel) rfl rfl (Nat.le_of_ble_eq_true rfl) sp_init_d18 (fun H locs hP hD hS => ?_)
  have hP : va_P (dC, dI) vwCl [(h0, .inr (3, [.ref q0, .ref q1, .null, .int 0])), (q0, .inl (ca0, 128, .inl (fun _ => 0))), (q1, .inl (ca1, 16, .inl (fun _ => 0)))] H := hP
  have hD : va_D A [(h0, .inr (3, [.ref q0, .ref q1, .null, .int 0])), (q0, .inl (ca0, 128, .inl (fun _ => 0))), (q1, .inl (ca1, 16, .inl (fun _ => 0)))] := hD
  refine lv_aload_n hx hb sp_init_d21 rfl (lv_at hl 0 rfl) ?_
  refine lv_bipush (v := 16) hx hb sp_init_d22 (by decide) ?_
  refine va_newa (atype := .int) (N' := 16) (a0 := (16, .inl (fun _ => 0))) hx hb (hts _ rw_53) (ty := .int) rfl hK hP hD hS hA (fun _ => rfl) (by decide) (by decide) (by decide) (by decide) (by decide) sp_init_d24 (fun q2 ca2 H hK hP hD hS => ?_)
  have hP : va_P (dC, dI) vwCl [(h0, .inr (3, [.ref q0, .ref q1, .null, .int 0])), (q0, .inl (ca0, 128, .inl (fun _ => 0))), (q1, .inl (ca1, 16, .inl (fun _ => 0))), (q2, .inl (ca2, 16, .inl (fun _ => 0)))] H := hP
  have hD : va_D A [(h0, .inr (3, [.ref q0, .ref q1, .null, .int 0])), (q0, .inl (ca0, 128, .inl (fun _ => 0))), (q1, .inl (ca1, 16, .inl (fun _ => 0))), (q2, .inl (ca2, 16, .inl (fun _ => 0)))] := hD
  have hK : va_K (dC, dI) vwCl [(ca0, .int), (ca1, .int), (ca2, .int)] s := hK
  refine W.widen (k := 3) (n := 160) (by decide) (by decide) ?_
  refine va_putF (D := (dC, dI)) (ci := 3) (v := .ref q2) (ty := .array .int) (C := "RoomMaker$Spans") (T := sp_F) (N := 4) (ref := "RoomMaker$Spans") hx hb hts sp_in sp_t sp_ok sp_n hown hK hP hD hS 0 rfl rfl 2 (by decide) (hts _ rw_82) (fun _ h9 => h9) rfl hin rfl (by decide +kernel) rfl rfl (Nat.le_of_ble_eq_true rfl) sp_init_d26 (fun H locs hP hD hS => ?_)
  have hP : va_P (dC, dI) vwCl [(h0, .inr (3, [.ref q0, .ref q1, .ref q2, .int 0])), (q0, .inl (ca0, 128, .inl (fun _ => 0))), (q1, .inl (ca1, 16, .inl (fun _ => 0))), (q2, .inl (ca2, 16, .inl (fun _ => 0)))] H := hP
  have hD : va_D A [(h0, .inr (3, [.ref q0, .ref q1, .ref q2, .int 0])), (q0, .inl (ca0, 128, .inl (fun _ => 0))), (q1, .inl (ca1, 16, .inl (fun _ => 0))), (q2, .inl (ca2, 16, .inl (fun _ => 0)))] := hD
  exact W.vret hx hb hr (fun t ht hW => ⟨⟨(), rfl, trivial, (fun n => match n with | 0 => q0 | 1 => q1 | _ => q2), (fun n => match n with | 0 => ca0 | 1 => ca1 | _ => ca2), by rw [ht]; exact hP, va_K.moved hW.alike hK, hD⟩, hS.F ht⟩) hS.2.2 sp_init_d29
theorem ro_init_d0 : decode ro_init_b 0 = .ok (.aload_n 0, 1) := by decide +kernel
theorem ro_init_d1 : decode ro_init_b 1 = .ok (.invokespecial 3, 3) := by decide +kernel
theorem ro_init_d4 : decode ro_init_b 4 = .ok (.aload_n 0, 1) := by decide +kernel
theorem ro_init_d5 : decode ro_init_b 5 = .ok (.bipush 16, 2) := by decide +kernel
theorem ro_init_d7 : decode ro_init_b 7 = .ok (.newarray .int, 2) := by decide +kernel
theorem ro_init_d9 : decode ro_init_b 9 = .ok (.putfield 9, 3) := by decide +kernel
theorem ro_init_d12 : decode ro_init_b 12 = .ok (.aload_n 0, 1) := by decide +kernel
theorem ro_init_d13 : decode ro_init_b 13 = .ok (.bipush 8, 2) := by decide +kernel
theorem ro_init_d15 : decode ro_init_b 15 = .ok (.newarray .int, 2) := by decide +kernel
theorem ro_init_d17 : decode ro_init_b 17 = .ok (.putfield 15, 3) := by decide +kernel
theorem ro_init_d20 : decode ro_init_b 20 = .ok (.return_, 1) := by decide +kernel
theorem ro_init_w : rb_cw ro_init_y ro_init_b 1 none 0 := ⟨rw_101, rw_5, ⟨by decide, by decide⟩, by decide +kernel⟩
abbrev ro_init_rm : Room := { frames := 1, cells := 2, slots := 24, locals := 12 }
set_option maxHeartbeats 4000000 in
set_option maxRecDepth 100000 in
theorem ro_init_c (l : Launch) (dC : Nat → ClassId) (dI : Nat → Nat → Nat) (h0 : Nat) (sz : Nat) : Met l ro_init_y (Cond.code ro_init_y ro_init_b 1 none :: rb_ws) ro_init_rm (va_Pc [.ref h0] (fun U => U.heap.size = sz ∧ va_P (dC, dI) vwCl [(h0, .inr (4, [.null, .null, .int 0, .int 0]))] U.heap ∧ va_K (dC, dI) vwCl [] U ∧ va_D (fun _ => True) [(h0, .inr (4, [.null, .null, .int 0, .int 0]))])) (va_Qv (fun _ : Unit => True) (fun _ t => ∃ (q : Nat → Nat) (ca : Nat → ClassId), va_P (dC, dI) vwCl ((h0, .inr (4, [.ref (q 0), .ref (q 1), .int 0, .int 0])) :: [(q 0, .inl (ca 0, 16, .inl (fun _ => 0))), (q 1, .inl (ca 1, 8, .inl (fun _ => 0)))] : va_W) t.heap ∧ va_K (dC, dI) vwCl [(ca 0, .int), (ca 1, .int)] t ∧ va_D (va_A [(h0, .inr (4, [.null, .null, .int 0, .int 0]))] sz) ((h0, .inr (4, [.ref (q 0), .ref (q 1), .int 0, .int 0])) :: [(q 0, .inl (ca 0, 16, .inl (fun _ => 0))), (q 1, .inl (ca 1, 8, .inl (fun _ => 0)))] : va_W)) (va_A [(h0, .inr (4, [.null, .null, .int 0, .int 0]))] sz)) 2 24 (va_A [(h0, .inr (4, [.null, .null, .int 0, .int 0]))] sz) := by
  refine Met.ofW (cc := ro_init_b) (maxL := 1) (ret := none) (by decide) rfl ?_
  intro p e s m args below meth c s₁ B hml hv
  obtain ⟨rfl, hsz, hP, hK, hD0⟩ := hv
  have hx := B.exec
  have hb := B.bytes
  have hr := B.returns
  have hts0 := atoms_spec (ws := Cond.code ro_init_y ro_init_b 1 none :: rb_ws) B.pre
  have hts : ∀ w ∈ rb_ws, w.before _ s = true := fun w hw => hts0 w (List.mem_cons_of_mem _ hw)
  have hown : s.vm.findClass "RoomMaker$Rooms" = some m.cls := findClass_of_methodNamed B.named
  have hlocks := B.notSynchronized
  have hin : meth.name = "<init>" := (name_of_methodNamed B.named B.method).1
  subst hsz
  have hD := hD0.self (sz := s.heap.size)
  generalize hAe : va_A [(h0, .inr (4, [.null, .null, .int 0, .int 0]))] s.heap.size = A at hD ⊢
  have hA : ∀ q : Nat, s.heap.size ≤ q → A q := fun q h => by rw [← hAe]; exact Or.inr h
  have hS : va_S A s.heap s.heap [] := va_S.rf
  have hl := lv_entry ([.ref h0]) (n := 1) (Nat.le_of_ble_eq_true rfl)
  rw [lg_entry_eq]
  generalize (lg_sl ([.ref h0]) ++ List.replicate (1 - (lg_sl ([.ref h0])).length) Slot.unset).toArray = ls at hl ⊢
  have hl : lv_has ls 1 [(0, .ref h0)] := hl
  refine lv_aload_n hx hb ro_init_d0 rfl (lv_at hl 0 rfl) ?_
  refine W.objInit hx hb hown (hts _ rw_102) (hts _ rw_22) (hts _ rw_23) rfl (by rw [hml]; exact hl.1) rfl ro_init_d1 (Nat.le_of_ble_eq_true rfl) (Nat.le_of_ble_eq_true rfl) ?_
  refine W.eq (g2 := F0 m 4 ls []) rfl ?_
  refine lv_aload_n hx hb ro_init_d4 rfl (lv_at hl 0 rfl) ?_
  refine lv_bipush (v := 16) hx hb ro_init_d5 (by decide) ?_
  refine va_newa (atype := .int) (N' := 16) (a0 := (16, .inl (fun _ => 0))) hx hb (hts _ rw_53) (ty := .int) rfl hK hP hD hS hA (fun _ => rfl) (by decide) (by decide) (by decide) (by decide) (by decide) ro_init_d7 (fun q0 ca0 H hK hP hD hS => ?_)
  have hP : va_P (dC, dI) vwCl [(h0, .inr (4, [.null, .null, .int 0, .int 0])), (q0, .inl (ca0, 16, .inl (fun _ => 0)))] H := hP
  have hD : va_D A [(h0, .inr (4, [.null, .null, .int 0, .int 0])), (q0, .inl (ca0, 16, .inl (fun _ => 0)))] := hD
  have hK : va_K (dC, dI) vwCl [(ca0, .int)] s := hK
  refine W.widen (k := 1) (n := 16) (by decide) (by decide) ?_
  refine va_putF (D := (dC, dI)) (ci := 4) (v := .ref q0) (ty := .array .int) (C := "RoomMaker$Rooms") (T := ro_F) (N := 4) (ref := "RoomMaker$Rooms") hx hb hts ro_in ro_t ro_ok ro_n hown hK hP hD hS 0 rfl rfl 0 (by decide) (hts _ rw_103) (fun _ h9 => h9) rfl hin rfl (by decide +kernel) rfl rfl (Nat.le_of_ble_eq_true rfl) ro_init_d9 (fun H locs hP hD hS => ?_)
  have hP : va_P (dC, dI) vwCl [(h0, .inr (4, [.ref q0, .null, .int 0, .int 0])), (q0, .inl (ca0, 16, .inl (fun _ => 0)))] H := hP
  have hD : va_D A [(h0, .inr (4, [.ref q0, .null, .int 0, .int 0])), (q0, .inl (ca0, 16, .inl (fun _ => 0)))] := hD
  refine lv_aload_n hx hb ro_init_d12 rfl (lv_at hl 0 rfl) ?_
  refine lv_bipush (v := 8) hx hb ro_init_d13 (by decide) ?_
  refine va_newa (atype := .int) (N' := 8) (a0 := (8, .inl (fun _ => 0))) hx hb (hts _ rw_53) (ty := .int) rfl hK hP hD hS hA (fun _ => rfl) (by decide) (by decide) (by decide) (by decide) (by decide) ro_init_d15 (fun q1 ca1 H hK hP hD hS => ?_)
  have hP : va_P (dC, dI) vwCl [(h0, .inr (4, [.ref q0, .null, .int 0, .int 0])), (q0, .inl (ca0, 16, .inl (fun _ => 0))), (q1, .inl (ca1, 8, .inl (fun _ => 0)))] H := hP
  have hD : va_D A [(h0, .inr (4, [.ref q0, .null, .int 0, .int 0])), (q0, .inl (ca0, 16, .inl (fun _ => 0))), (q1, .inl (ca1, 8, .inl (fun _ => 0)))] := hD
  have hK : va_K (dC, dI) vwCl [(ca0, .int), (ca1, .int)] s := hK
  refine W.widen (k := 2) (n := 24) (by decide) (by decide) ?_
  refine va_putF (D := (dC, dI)) (ci := 4) (v := .ref q1) (ty := .array .int) (C := "RoomMaker$Rooms") (T := ro_F) (N := 4) (ref := "RoomMaker$Rooms") hx hb hts ro_in ro_t ro_ok ro_n hown hK hP hD hS 0 rfl rfl 1 (by decide) (hts _ rw_106) (fun _ h9 => h9) rfl hin rfl (by decide +kernel) rfl rfl (Nat.le_of_ble_eq_true rfl) ro_init_d17 (fun H locs hP hD hS => ?_)
  have hP : va_P (dC, dI) vwCl [(h0, .inr (4, [.ref q0, .ref q1, .int 0, .int 0])), (q0, .inl (ca0, 16, .inl (fun _ => 0))), (q1, .inl (ca1, 8, .inl (fun _ => 0)))] H := hP
  have hD : va_D A [(h0, .inr (4, [.ref q0, .ref q1, .int 0, .int 0])), (q0, .inl (ca0, 16, .inl (fun _ => 0))), (q1, .inl (ca1, 8, .inl (fun _ => 0)))] := hD
  exact W.vret hx hb hr (fun t ht hW => ⟨⟨(), rfl, trivial, (fun n => match n with | 0 => q0 | _ => q1), (fun n => match n with | 0 => ca0 | _ => ca1), by rw [ht]; exact hP, va_K.moved hW.alike hK, hD⟩, hS.F ht⟩) hS.2.2 ro_init_d20
theorem ma_init_d0 : decode ma_init_b 0 = .ok (.aload_n 0, 1) := by decide +kernel
theorem ma_init_d1 : decode ma_init_b 1 = .ok (.invokespecial 3, 3) := by decide +kernel
theorem ma_init_d4 : decode ma_init_b 4 = .ok (.aload_n 0, 1) := by decide +kernel
theorem ma_init_d5 : decode ma_init_b 5 = .ok (.bipush 64, 2) := by decide +kernel
theorem ma_init_d7 : decode ma_init_b 7 = .ok (.newarray .int, 2) := by decide +kernel
theorem ma_init_d9 : decode ma_init_b 9 = .ok (.putfield 9, 3) := by decide +kernel
theorem ma_init_d12 : decode ma_init_b 12 = .ok (.aload_n 0, 1) := by decide +kernel
theorem ma_init_d13 : decode ma_init_b 13 = .ok (.bipush 64, 2) := by decide +kernel
theorem ma_init_d15 : decode ma_init_b 15 = .ok (.newarray .int, 2) := by decide +kernel
theorem ma_init_d17 : decode ma_init_b 17 = .ok (.putfield 15, 3) := by decide +kernel
theorem ma_init_d20 : decode ma_init_b 20 = .ok (.aload_n 0, 1) := by decide +kernel
theorem ma_init_d21 : decode ma_init_b 21 = .ok (.bipush 64, 2) := by decide +kernel
theorem ma_init_d23 : decode ma_init_b 23 = .ok (.newarray .int, 2) := by decide +kernel
theorem ma_init_d25 : decode ma_init_b 25 = .ok (.putfield 18, 3) := by decide +kernel
theorem ma_init_d28 : decode ma_init_b 28 = .ok (.aload_n 0, 1) := by decide +kernel
theorem ma_init_d29 : decode ma_init_b 29 = .ok (.bipush 64, 2) := by decide +kernel
theorem ma_init_d31 : decode ma_init_b 31 = .ok (.newarray .int, 2) := by decide +kernel
theorem ma_init_d33 : decode ma_init_b 33 = .ok (.putfield 21, 3) := by decide +kernel
theorem ma_init_d36 : decode ma_init_b 36 = .ok (.aload_n 0, 1) := by decide +kernel
theorem ma_init_d37 : decode ma_init_b 37 = .ok (.bipush 32, 2) := by decide +kernel
theorem ma_init_d39 : decode ma_init_b 39 = .ok (.newarray .int, 2) := by decide +kernel
theorem ma_init_d41 : decode ma_init_b 41 = .ok (.putfield 24, 3) := by decide +kernel
theorem ma_init_d44 : decode ma_init_b 44 = .ok (.aload_n 0, 1) := by decide +kernel
theorem ma_init_d45 : decode ma_init_b 45 = .ok (.bipush 16, 2) := by decide +kernel
theorem ma_init_d47 : decode ma_init_b 47 = .ok (.newarray .int, 2) := by decide +kernel
theorem ma_init_d49 : decode ma_init_b 49 = .ok (.putfield 27, 3) := by decide +kernel
theorem ma_init_d52 : decode ma_init_b 52 = .ok (.aload_n 0, 1) := by decide +kernel
theorem ma_init_d53 : decode ma_init_b 53 = .ok (.bipush 16, 2) := by decide +kernel
theorem ma_init_d55 : decode ma_init_b 55 = .ok (.newarray .int, 2) := by decide +kernel
theorem ma_init_d57 : decode ma_init_b 57 = .ok (.putfield 30, 3) := by decide +kernel
theorem ma_init_d60 : decode ma_init_b 60 = .ok (.return_, 1) := by decide +kernel
theorem ma_init_w : rb_cw ma_init_y ma_init_b 1 none 0 := ⟨rw_123, rw_6, ⟨by decide, by decide⟩, by decide +kernel⟩
abbrev ma_init_rm : Room := { frames := 1, cells := 7, slots := 320, locals := 12 }
set_option maxHeartbeats 4000000 in
set_option maxRecDepth 100000 in
theorem ma_init_c (l : Launch) (dC : Nat → ClassId) (dI : Nat → Nat → Nat) (h0 : Nat) (sz : Nat) : Met l ma_init_y (Cond.code ma_init_y ma_init_b 1 none :: rb_ws) ma_init_rm (va_Pc [.ref h0] (fun U => U.heap.size = sz ∧ va_P (dC, dI) vwCl [(h0, .inr (5, [.null, .null, .null, .null, .int 0, .null, .null, .null, .int 0, .int 0, .int 0, .int 0, .int 0, .int 0]))] U.heap ∧ va_K (dC, dI) vwCl [] U ∧ va_D (fun _ => True) [(h0, .inr (5, [.null, .null, .null, .null, .int 0, .null, .null, .null, .int 0, .int 0, .int 0, .int 0, .int 0, .int 0]))])) (va_Qv (fun _ : Unit => True) (fun _ t => ∃ (q : Nat → Nat) (ca : Nat → ClassId), va_P (dC, dI) vwCl ((h0, .inr (5, [.ref (q 0), .ref (q 1), .ref (q 2), .ref (q 3), .int 0, .ref (q 4), .ref (q 5), .ref (q 6), .int 0, .int 0, .int 0, .int 0, .int 0, .int 0])) :: [(q 0, .inl (ca 0, 64, .inl (fun _ => 0))), (q 1, .inl (ca 1, 64, .inl (fun _ => 0))), (q 2, .inl (ca 2, 64, .inl (fun _ => 0))), (q 3, .inl (ca 3, 64, .inl (fun _ => 0))), (q 4, .inl (ca 4, 32, .inl (fun _ => 0))), (q 5, .inl (ca 5, 16, .inl (fun _ => 0))), (q 6, .inl (ca 6, 16, .inl (fun _ => 0)))] : va_W) t.heap ∧ va_K (dC, dI) vwCl [(ca 0, .int), (ca 1, .int), (ca 2, .int), (ca 3, .int), (ca 4, .int), (ca 5, .int), (ca 6, .int)] t ∧ va_D (va_A [(h0, .inr (5, [.null, .null, .null, .null, .int 0, .null, .null, .null, .int 0, .int 0, .int 0, .int 0, .int 0, .int 0]))] sz) ((h0, .inr (5, [.ref (q 0), .ref (q 1), .ref (q 2), .ref (q 3), .int 0, .ref (q 4), .ref (q 5), .ref (q 6), .int 0, .int 0, .int 0, .int 0, .int 0, .int 0])) :: [(q 0, .inl (ca 0, 64, .inl (fun _ => 0))), (q 1, .inl (ca 1, 64, .inl (fun _ => 0))), (q 2, .inl (ca 2, 64, .inl (fun _ => 0))), (q 3, .inl (ca 3, 64, .inl (fun _ => 0))), (q 4, .inl (ca 4, 32, .inl (fun _ => 0))), (q 5, .inl (ca 5, 16, .inl (fun _ => 0))), (q 6, .inl (ca 6, 16, .inl (fun _ => 0)))] : va_W)) (va_A [(h0, .inr (5, [.null, .null, .null, .null, .int 0, .null, .null, .null, .int 0, .int 0, .int 0, .int 0, .int 0, .int 0]))] sz)) 7 320 (va_A [(h0, .inr (5, [.null, .null, .null, .null, .int 0, .null, .null, .null, .int 0, .int 0, .int 0, .int 0, .int 0, .int 0]))] sz) := by
  refine Met.ofW (cc := ma_init_b) (maxL := 1) (ret := none) (by decide) rfl ?_
  intro p e s m args below meth c s₁ B hml hv
  obtain ⟨rfl, hsz, hP, hK, hD0⟩ := hv
  have hx := B.exec
  have hb := B.bytes
  have hr := B.returns
  have hts0 := atoms_spec (ws := Cond.code ma_init_y ma_init_b 1 none :: rb_ws) B.pre
  have hts : ∀ w ∈ rb_ws, w.before _ s = true := fun w hw => hts0 w (List.mem_cons_of_mem _ hw)
  have hown : s.vm.findClass "RoomMaker$Machine" = some m.cls := findClass_of_methodNamed B.named
  have hlocks := B.notSynchronized
  have hin : meth.name = "<init>" := (name_of_methodNamed B.named B.method).1
  subst hsz
  have hD := hD0.self (sz := s.heap.size)
  generalize hAe : va_A [(h0, .inr (5, [.null, .null, .null, .null, .int 0, .null, .null, .null, .int 0, .int 0, .int 0, .int 0, .int 0, .int 0]))] s.heap.size = A at hD ⊢
  have hA : ∀ q : Nat, s.heap.size ≤ q → A q := fun q h => by rw [← hAe]; exact Or.inr h
  have hS : va_S A s.heap s.heap [] := va_S.rf
  have hl := lv_entry ([.ref h0]) (n := 1) (Nat.le_of_ble_eq_true rfl)
  rw [lg_entry_eq]
  generalize (lg_sl ([.ref h0]) ++ List.replicate (1 - (lg_sl ([.ref h0])).length) Slot.unset).toArray = ls at hl ⊢
  have hl : lv_has ls 1 [(0, .ref h0)] := hl
  refine lv_aload_n hx hb ma_init_d0 rfl (lv_at hl 0 rfl) ?_
  refine W.objInit hx hb hown (hts _ rw_124) (hts _ rw_22) (hts _ rw_23) rfl (by rw [hml]; exact hl.1) rfl ma_init_d1 (Nat.le_of_ble_eq_true rfl) (Nat.le_of_ble_eq_true rfl) ?_
  refine W.eq (g2 := F0 m 4 ls []) rfl ?_
  refine lv_aload_n hx hb ma_init_d4 rfl (lv_at hl 0 rfl) ?_
  refine lv_bipush (v := 64) hx hb ma_init_d5 (by decide) ?_
  refine va_newa (atype := .int) (N' := 64) (a0 := (64, .inl (fun _ => 0))) hx hb (hts _ rw_53) (ty := .int) rfl hK hP hD hS hA (fun _ => rfl) (by decide) (by decide) (by decide) (by decide) (by decide) ma_init_d7 (fun q0 ca0 H hK hP hD hS => ?_)
  have hP : va_P (dC, dI) vwCl [(h0, .inr (5, [.null, .null, .null, .null, .int 0, .null, .null, .null, .int 0, .int 0, .int 0, .int 0, .int 0, .int 0])), (q0, .inl (ca0, 64, .inl (fun _ => 0)))] H := hP
  have hD : va_D A [(h0, .inr (5, [.null, .null, .null, .null, .int 0, .null, .null, .null, .int 0, .int 0, .int 0, .int 0, .int 0, .int 0])), (q0, .inl (ca0, 64, .inl (fun _ => 0)))] := hD
  have hK : va_K (dC, dI) vwCl [(ca0, .int)] s := hK
  refine W.widen (k := 1) (n := 64) (by decide) (by decide) ?_
  refine va_putF (D := (dC, dI)) (ci := 5) (v := .ref q0) (ty := .array .int) (C := "RoomMaker$Machine") (T := ma_F) (N := 14) (ref := "RoomMaker$Machine") hx hb hts ma_in ma_t ma_ok ma_n hown hK hP hD hS 0 rfl rfl 0 (by decide) (hts _ rw_125) (fun _ h9 => h9) rfl hin rfl (by decide +kernel) rfl rfl (Nat.le_of_ble_eq_true rfl) ma_init_d9 (fun H locs hP hD hS => ?_)
  have hP : va_P (dC, dI) vwCl [(h0, .inr (5, [.ref q0, .null, .null, .null, .int 0, .null, .null, .null, .int 0, .int 0, .int 0, .int 0, .int 0, .int 0])), (q0, .inl (ca0, 64, .inl (fun _ => 0)))] H := hP
  have hD : va_D A [(h0, .inr (5, [.ref q0, .null, .null, .null, .int 0, .null, .null, .null, .int 0, .int 0, .int 0, .int 0, .int 0, .int 0])), (q0, .inl (ca0, 64, .inl (fun _ => 0)))] := hD
  refine lv_aload_n hx hb ma_init_d12 rfl (lv_at hl 0 rfl) ?_
  refine lv_bipush (v := 64) hx hb ma_init_d13 (by decide) ?_
  refine va_newa (atype := .int) (N' := 64) (a0 := (64, .inl (fun _ => 0))) hx hb (hts _ rw_53) (ty := .int) rfl hK hP hD hS hA (fun _ => rfl) (by decide) (by decide) (by decide) (by decide) (by decide) ma_init_d15 (fun q1 ca1 H hK hP hD hS => ?_)
  have hP : va_P (dC, dI) vwCl [(h0, .inr (5, [.ref q0, .null, .null, .null, .int 0, .null, .null, .null, .int 0, .int 0, .int 0, .int 0, .int 0, .int 0])), (q0, .inl (ca0, 64, .inl (fun _ => 0))), (q1, .inl (ca1, 64, .inl (fun _ => 0)))] H := hP
  have hD : va_D A [(h0, .inr (5, [.ref q0, .null, .null, .null, .int 0, .null, .null, .null, .int 0, .int 0, .int 0, .int 0, .int 0, .int 0])), (q0, .inl (ca0, 64, .inl (fun _ => 0))), (q1, .inl (ca1, 64, .inl (fun _ => 0)))] := hD
  have hK : va_K (dC, dI) vwCl [(ca0, .int), (ca1, .int)] s := hK
  refine W.widen (k := 2) (n := 128) (by decide) (by decide) ?_
  refine va_putF (D := (dC, dI)) (ci := 5) (v := .ref q1) (ty := .array .int) (C := "RoomMaker$Machine") (T := ma_F) (N := 14) (ref := "RoomMaker$Machine") hx hb hts ma_in ma_t ma_ok ma_n hown hK hP hD hS 0 rfl rfl 1 (by decide) (hts _ rw_126) (fun _ h9 => h9) rfl hin rfl (by decide +kernel) rfl rfl (Nat.le_of_ble_eq_true rfl) ma_init_d17 (fun H locs hP hD hS => ?_)
  have hP : va_P (dC, dI) vwCl [(h0, .inr (5, [.ref q0, .ref q1, .null, .null, .int 0, .null, .null, .null, .int 0, .int 0, .int 0, .int 0, .int 0, .int 0])), (q0, .inl (ca0, 64, .inl (fun _ => 0))), (q1, .inl (ca1, 64, .inl (fun _ => 0)))] H := hP
  have hD : va_D A [(h0, .inr (5, [.ref q0, .ref q1, .null, .null, .int 0, .null, .null, .null, .int 0, .int 0, .int 0, .int 0, .int 0, .int 0])), (q0, .inl (ca0, 64, .inl (fun _ => 0))), (q1, .inl (ca1, 64, .inl (fun _ => 0)))] := hD
  refine lv_aload_n hx hb ma_init_d20 rfl (lv_at hl 0 rfl) ?_
  refine lv_bipush (v := 64) hx hb ma_init_d21 (by decide) ?_
  refine va_newa (atype := .int) (N' := 64) (a0 := (64, .inl (fun _ => 0))) hx hb (hts _ rw_53) (ty := .int) rfl hK hP hD hS hA (fun _ => rfl) (by decide) (by decide) (by decide) (by decide) (by decide) ma_init_d23 (fun q2 ca2 H hK hP hD hS => ?_)
  have hP : va_P (dC, dI) vwCl [(h0, .inr (5, [.ref q0, .ref q1, .null, .null, .int 0, .null, .null, .null, .int 0, .int 0, .int 0, .int 0, .int 0, .int 0])), (q0, .inl (ca0, 64, .inl (fun _ => 0))), (q1, .inl (ca1, 64, .inl (fun _ => 0))), (q2, .inl (ca2, 64, .inl (fun _ => 0)))] H := hP
  have hD : va_D A [(h0, .inr (5, [.ref q0, .ref q1, .null, .null, .int 0, .null, .null, .null, .int 0, .int 0, .int 0, .int 0, .int 0, .int 0])), (q0, .inl (ca0, 64, .inl (fun _ => 0))), (q1, .inl (ca1, 64, .inl (fun _ => 0))), (q2, .inl (ca2, 64, .inl (fun _ => 0)))] := hD
  have hK : va_K (dC, dI) vwCl [(ca0, .int), (ca1, .int), (ca2, .int)] s := hK
  refine W.widen (k := 3) (n := 192) (by decide) (by decide) ?_
  refine va_putF (D := (dC, dI)) (ci := 5) (v := .ref q2) (ty := .array .int) (C := "RoomMaker$Machine") (T := ma_F) (N := 14) (ref := "RoomMaker$Machine") hx hb hts ma_in ma_t ma_ok ma_n hown hK hP hD hS 0 rfl rfl 2 (by decide) (hts _ rw_127) (fun _ h9 => h9) rfl hin rfl (by decide +kernel) rfl rfl (Nat.le_of_ble_eq_true rfl) ma_init_d25 (fun H locs hP hD hS => ?_)
  have hP : va_P (dC, dI) vwCl [(h0, .inr (5, [.ref q0, .ref q1, .ref q2, .null, .int 0, .null, .null, .null, .int 0, .int 0, .int 0, .int 0, .int 0, .int 0])), (q0, .inl (ca0, 64, .inl (fun _ => 0))), (q1, .inl (ca1, 64, .inl (fun _ => 0))), (q2, .inl (ca2, 64, .inl (fun _ => 0)))] H := hP
  have hD : va_D A [(h0, .inr (5, [.ref q0, .ref q1, .ref q2, .null, .int 0, .null, .null, .null, .int 0, .int 0, .int 0, .int 0, .int 0, .int 0])), (q0, .inl (ca0, 64, .inl (fun _ => 0))), (q1, .inl (ca1, 64, .inl (fun _ => 0))), (q2, .inl (ca2, 64, .inl (fun _ => 0)))] := hD
  refine lv_aload_n hx hb ma_init_d28 rfl (lv_at hl 0 rfl) ?_
  refine lv_bipush (v := 64) hx hb ma_init_d29 (by decide) ?_
  refine va_newa (atype := .int) (N' := 64) (a0 := (64, .inl (fun _ => 0))) hx hb (hts _ rw_53) (ty := .int) rfl hK hP hD hS hA (fun _ => rfl) (by decide) (by decide) (by decide) (by decide) (by decide) ma_init_d31 (fun q3 ca3 H hK hP hD hS => ?_)
  have hP : va_P (dC, dI) vwCl [(h0, .inr (5, [.ref q0, .ref q1, .ref q2, .null, .int 0, .null, .null, .null, .int 0, .int 0, .int 0, .int 0, .int 0, .int 0])), (q0, .inl (ca0, 64, .inl (fun _ => 0))), (q1, .inl (ca1, 64, .inl (fun _ => 0))), (q2, .inl (ca2, 64, .inl (fun _ => 0))), (q3, .inl (ca3, 64, .inl (fun _ => 0)))] H := hP
  have hD : va_D A [(h0, .inr (5, [.ref q0, .ref q1, .ref q2, .null, .int 0, .null, .null, .null, .int 0, .int 0, .int 0, .int 0, .int 0, .int 0])), (q0, .inl (ca0, 64, .inl (fun _ => 0))), (q1, .inl (ca1, 64, .inl (fun _ => 0))), (q2, .inl (ca2, 64, .inl (fun _ => 0))), (q3, .inl (ca3, 64, .inl (fun _ => 0)))] := hD
  have hK : va_K (dC, dI) vwCl [(ca0, .int), (ca1, .int), (ca2, .int), (ca3, .int)] s := hK
  refine W.widen (k := 4) (n := 256) (by decide) (by decide) ?_
  refine va_putF (D := (dC, dI)) (ci := 5) (v := .ref q3) (ty := .array .int) (C := "RoomMaker$Machine") (T := ma_F) (N := 14) (ref := "RoomMaker$Machine") hx hb hts ma_in ma_t ma_ok ma_n hown hK hP hD hS 0 rfl rfl 3 (by decide) (hts _ rw_128) (fun _ h9 => h9) rfl hin rfl (by decide +kernel) rfl rfl (Nat.le_of_ble_eq_true rfl) ma_init_d33 (fun H locs hP hD hS => ?_)
  have hP : va_P (dC, dI) vwCl [(h0, .inr (5, [.ref q0, .ref q1, .ref q2, .ref q3, .int 0, .null, .null, .null, .int 0, .int 0, .int 0, .int 0, .int 0, .int 0])), (q0, .inl (ca0, 64, .inl (fun _ => 0))), (q1, .inl (ca1, 64, .inl (fun _ => 0))), (q2, .inl (ca2, 64, .inl (fun _ => 0))), (q3, .inl (ca3, 64, .inl (fun _ => 0)))] H := hP
  have hD : va_D A [(h0, .inr (5, [.ref q0, .ref q1, .ref q2, .ref q3, .int 0, .null, .null, .null, .int 0, .int 0, .int 0, .int 0, .int 0, .int 0])), (q0, .inl (ca0, 64, .inl (fun _ => 0))), (q1, .inl (ca1, 64, .inl (fun _ => 0))), (q2, .inl (ca2, 64, .inl (fun _ => 0))), (q3, .inl (ca3, 64, .inl (fun _ => 0)))] := hD
  refine lv_aload_n hx hb ma_init_d36 rfl (lv_at hl 0 rfl) ?_
  refine lv_bipush (v := 32) hx hb ma_init_d37 (by decide) ?_
  refine va_newa (atype := .int) (N' := 32) (a0 := (32, .inl (fun _ => 0))) hx hb (hts _ rw_53) (ty := .int) rfl hK hP hD hS hA (fun _ => rfl) (by decide) (by decide) (by decide) (by decide) (by decide) ma_init_d39 (fun q4 ca4 H hK hP hD hS => ?_)
  have hP : va_P (dC, dI) vwCl [(h0, .inr (5, [.ref q0, .ref q1, .ref q2, .ref q3, .int 0, .null, .null, .null, .int 0, .int 0, .int 0, .int 0, .int 0, .int 0])), (q0, .inl (ca0, 64, .inl (fun _ => 0))), (q1, .inl (ca1, 64, .inl (fun _ => 0))), (q2, .inl (ca2, 64, .inl (fun _ => 0))), (q3, .inl (ca3, 64, .inl (fun _ => 0))), (q4, .inl (ca4, 32, .inl (fun _ => 0)))] H := hP
  have hD : va_D A [(h0, .inr (5, [.ref q0, .ref q1, .ref q2, .ref q3, .int 0, .null, .null, .null, .int 0, .int 0, .int 0, .int 0, .int 0, .int 0])), (q0, .inl (ca0, 64, .inl (fun _ => 0))), (q1, .inl (ca1, 64, .inl (fun _ => 0))), (q2, .inl (ca2, 64, .inl (fun _ => 0))), (q3, .inl (ca3, 64, .inl (fun _ => 0))), (q4, .inl (ca4, 32, .inl (fun _ => 0)))] := hD
  have hK : va_K (dC, dI) vwCl [(ca0, .int), (ca1, .int), (ca2, .int), (ca3, .int), (ca4, .int)] s := hK
  refine W.widen (k := 5) (n := 288) (by decide) (by decide) ?_
  refine va_putF (D := (dC, dI)) (ci := 5) (v := .ref q4) (ty := .array .int) (C := "RoomMaker$Machine") (T := ma_F) (N := 14) (ref := "RoomMaker$Machine") hx hb hts ma_in ma_t ma_ok ma_n hown hK hP hD hS 0 rfl rfl 5 (by decide) (hts _ rw_130) (fun _ h9 => h9) rfl hin rfl (by decide +kernel) rfl rfl (Nat.le_of_ble_eq_true rfl) ma_init_d41 (fun H locs hP hD hS => ?_)
  have hP : va_P (dC, dI) vwCl [(h0, .inr (5, [.ref q0, .ref q1, .ref q2, .ref q3, .int 0, .ref q4, .null, .null, .int 0, .int 0, .int 0, .int 0, .int 0, .int 0])), (q0, .inl (ca0, 64, .inl (fun _ => 0))), (q1, .inl (ca1, 64, .inl (fun _ => 0))), (q2, .inl (ca2, 64, .inl (fun _ => 0))), (q3, .inl (ca3, 64, .inl (fun _ => 0))), (q4, .inl (ca4, 32, .inl (fun _ => 0)))] H := hP
  have hD : va_D A [(h0, .inr (5, [.ref q0, .ref q1, .ref q2, .ref q3, .int 0, .ref q4, .null, .null, .int 0, .int 0, .int 0, .int 0, .int 0, .int 0])), (q0, .inl (ca0, 64, .inl (fun _ => 0))), (q1, .inl (ca1, 64, .inl (fun _ => 0))), (q2, .inl (ca2, 64, .inl (fun _ => 0))), (q3, .inl (ca3, 64, .inl (fun _ => 0))), (q4, .inl (ca4, 32, .inl (fun _ => 0)))] := hD
  refine lv_aload_n hx hb ma_init_d44 rfl (lv_at hl 0 rfl) ?_
  refine lv_bipush (v := 16) hx hb ma_init_d45 (by decide) ?_
  refine va_newa (atype := .int) (N' := 16) (a0 := (16, .inl (fun _ => 0))) hx hb (hts _ rw_53) (ty := .int) rfl hK hP hD hS hA (fun _ => rfl) (by decide) (by decide) (by decide) (by decide) (by decide) ma_init_d47 (fun q5 ca5 H hK hP hD hS => ?_)
  have hP : va_P (dC, dI) vwCl [(h0, .inr (5, [.ref q0, .ref q1, .ref q2, .ref q3, .int 0, .ref q4, .null, .null, .int 0, .int 0, .int 0, .int 0, .int 0, .int 0])), (q0, .inl (ca0, 64, .inl (fun _ => 0))), (q1, .inl (ca1, 64, .inl (fun _ => 0))), (q2, .inl (ca2, 64, .inl (fun _ => 0))), (q3, .inl (ca3, 64, .inl (fun _ => 0))), (q4, .inl (ca4, 32, .inl (fun _ => 0))), (q5, .inl (ca5, 16, .inl (fun _ => 0)))] H := hP
  have hD : va_D A [(h0, .inr (5, [.ref q0, .ref q1, .ref q2, .ref q3, .int 0, .ref q4, .null, .null, .int 0, .int 0, .int 0, .int 0, .int 0, .int 0])), (q0, .inl (ca0, 64, .inl (fun _ => 0))), (q1, .inl (ca1, 64, .inl (fun _ => 0))), (q2, .inl (ca2, 64, .inl (fun _ => 0))), (q3, .inl (ca3, 64, .inl (fun _ => 0))), (q4, .inl (ca4, 32, .inl (fun _ => 0))), (q5, .inl (ca5, 16, .inl (fun _ => 0)))] := hD
  have hK : va_K (dC, dI) vwCl [(ca0, .int), (ca1, .int), (ca2, .int), (ca3, .int), (ca4, .int), (ca5, .int)] s := hK
  refine W.widen (k := 6) (n := 304) (by decide) (by decide) ?_
  refine va_putF (D := (dC, dI)) (ci := 5) (v := .ref q5) (ty := .array .int) (C := "RoomMaker$Machine") (T := ma_F) (N := 14) (ref := "RoomMaker$Machine") hx hb hts ma_in ma_t ma_ok ma_n hown hK hP hD hS 0 rfl rfl 6 (by decide) (hts _ rw_131) (fun _ h9 => h9) rfl hin rfl (by decide +kernel) rfl rfl (Nat.le_of_ble_eq_true rfl) ma_init_d49 (fun H locs hP hD hS => ?_)
  have hP : va_P (dC, dI) vwCl [(h0, .inr (5, [.ref q0, .ref q1, .ref q2, .ref q3, .int 0, .ref q4, .ref q5, .null, .int 0, .int 0, .int 0, .int 0, .int 0, .int 0])), (q0, .inl (ca0, 64, .inl (fun _ => 0))), (q1, .inl (ca1, 64, .inl (fun _ => 0))), (q2, .inl (ca2, 64, .inl (fun _ => 0))), (q3, .inl (ca3, 64, .inl (fun _ => 0))), (q4, .inl (ca4, 32, .inl (fun _ => 0))), (q5, .inl (ca5, 16, .inl (fun _ => 0)))] H := hP
  have hD : va_D A [(h0, .inr (5, [.ref q0, .ref q1, .ref q2, .ref q3, .int 0, .ref q4, .ref q5, .null, .int 0, .int 0, .int 0, .int 0, .int 0, .int 0])), (q0, .inl (ca0, 64, .inl (fun _ => 0))), (q1, .inl (ca1, 64, .inl (fun _ => 0))), (q2, .inl (ca2, 64, .inl (fun _ => 0))), (q3, .inl (ca3, 64, .inl (fun _ => 0))), (q4, .inl (ca4, 32, .inl (fun _ => 0))), (q5, .inl (ca5, 16, .inl (fun _ => 0)))] := hD
  refine lv_aload_n hx hb ma_init_d52 rfl (lv_at hl 0 rfl) ?_
  refine lv_bipush (v := 16) hx hb ma_init_d53 (by decide) ?_
  refine va_newa (atype := .int) (N' := 16) (a0 := (16, .inl (fun _ => 0))) hx hb (hts _ rw_53) (ty := .int) rfl hK hP hD hS hA (fun _ => rfl) (by decide) (by decide) (by decide) (by decide) (by decide) ma_init_d55 (fun q6 ca6 H hK hP hD hS => ?_)
  have hP : va_P (dC, dI) vwCl [(h0, .inr (5, [.ref q0, .ref q1, .ref q2, .ref q3, .int 0, .ref q4, .ref q5, .null, .int 0, .int 0, .int 0, .int 0, .int 0, .int 0])), (q0, .inl (ca0, 64, .inl (fun _ => 0))), (q1, .inl (ca1, 64, .inl (fun _ => 0))), (q2, .inl (ca2, 64, .inl (fun _ => 0))), (q3, .inl (ca3, 64, .inl (fun _ => 0))), (q4, .inl (ca4, 32, .inl (fun _ => 0))), (q5, .inl (ca5, 16, .inl (fun _ => 0))), (q6, .inl (ca6, 16, .inl (fun _ => 0)))] H := hP
  have hD : va_D A [(h0, .inr (5, [.ref q0, .ref q1, .ref q2, .ref q3, .int 0, .ref q4, .ref q5, .null, .int 0, .int 0, .int 0, .int 0, .int 0, .int 0])), (q0, .inl (ca0, 64, .inl (fun _ => 0))), (q1, .inl (ca1, 64, .inl (fun _ => 0))), (q2, .inl (ca2, 64, .inl (fun _ => 0))), (q3, .inl (ca3, 64, .inl (fun _ => 0))), (q4, .inl (ca4, 32, .inl (fun _ => 0))), (q5, .inl (ca5, 16, .inl (fun _ => 0))), (q6, .inl (ca6, 16, .inl (fun _ => 0)))] := hD
  have hK : va_K (dC, dI) vwCl [(ca0, .int), (ca1, .int), (ca2, .int), (ca3, .int), (ca4, .int), (ca5, .int), (ca6, .int)] s := hK
  refine W.widen (k := 7) (n := 320) (by decide) (by decide) ?_
  refine va_putF (D := (dC, dI)) (ci := 5) (v := .ref q6) (ty := .array .int) (C := "RoomMaker$Machine") (T := ma_F) (N := 14) (ref := "RoomMaker$Machine") hx hb hts ma_in ma_t ma_ok ma_n hown hK hP hD hS 0 rfl rfl 7 (by decide) (hts _ rw_133) (fun _ h9 => h9) rfl hin rfl (by decide +kernel) rfl rfl (Nat.le_of_ble_eq_true rfl) ma_init_d57 (fun H locs hP hD hS => ?_)
  have hP : va_P (dC, dI) vwCl [(h0, .inr (5, [.ref q0, .ref q1, .ref q2, .ref q3, .int 0, .ref q4, .ref q5, .ref q6, .int 0, .int 0, .int 0, .int 0, .int 0, .int 0])), (q0, .inl (ca0, 64, .inl (fun _ => 0))), (q1, .inl (ca1, 64, .inl (fun _ => 0))), (q2, .inl (ca2, 64, .inl (fun _ => 0))), (q3, .inl (ca3, 64, .inl (fun _ => 0))), (q4, .inl (ca4, 32, .inl (fun _ => 0))), (q5, .inl (ca5, 16, .inl (fun _ => 0))), (q6, .inl (ca6, 16, .inl (fun _ => 0)))] H := hP
  have hD : va_D A [(h0, .inr (5, [.ref q0, .ref q1, .ref q2, .ref q3, .int 0, .ref q4, .ref q5, .ref q6, .int 0, .int 0, .int 0, .int 0, .int 0, .int 0])), (q0, .inl (ca0, 64, .inl (fun _ => 0))), (q1, .inl (ca1, 64, .inl (fun _ => 0))), (q2, .inl (ca2, 64, .inl (fun _ => 0))), (q3, .inl (ca3, 64, .inl (fun _ => 0))), (q4, .inl (ca4, 32, .inl (fun _ => 0))), (q5, .inl (ca5, 16, .inl (fun _ => 0))), (q6, .inl (ca6, 16, .inl (fun _ => 0)))] := hD
  exact W.vret hx hb hr (fun t ht hW => ⟨⟨(), rfl, trivial, (fun n => match n with | 0 => q0 | 1 => q1 | 2 => q2 | 3 => q3 | 4 => q4 | 5 => q5 | _ => q6), (fun n => match n with | 0 => ca0 | 1 => ca1 | 2 => ca2 | 3 => ca3 | 4 => ca4 | 5 => ca5 | _ => ca6), by rw [ht]; exact hP, va_K.moved hW.alike hK, hD⟩, hS.F ht⟩) hS.2.2 ma_init_d60
theorem mo_init_d0 : decode mo_init_b 0 = .ok (.aload_n 0, 1) := by decide +kernel
theorem mo_init_d1 : decode mo_init_b 1 = .ok (.invokespecial 1, 3) := by decide +kernel
theorem mo_init_d4 : decode mo_init_b 4 = .ok (.aload_n 0, 1) := by decide +kernel
theorem mo_init_d5 : decode mo_init_b 5 = .ok (.sipush 256, 3) := by decide +kernel
theorem mo_init_d8 : decode mo_init_b 8 = .ok (.newarray .int, 2) := by decide +kernel
theorem mo_init_d10 : decode mo_init_b 10 = .ok (.putfield 7, 3) := by decide +kernel
theorem mo_init_d13 : decode mo_init_b 13 = .ok (.aload_n 0, 1) := by decide +kernel
theorem mo_init_d14 : decode mo_init_b 14 = .ok (.bipush 32, 2) := by decide +kernel
theorem mo_init_d16 : decode mo_init_b 16 = .ok (.newarray .int, 2) := by decide +kernel
theorem mo_init_d18 : decode mo_init_b 18 = .ok (.putfield 13, 3) := by decide +kernel
theorem mo_init_d21 : decode mo_init_b 21 = .ok (.aload_n 0, 1) := by decide +kernel
theorem mo_init_d22 : decode mo_init_b 22 = .ok (.sipush 2048, 3) := by decide +kernel
theorem mo_init_d25 : decode mo_init_b 25 = .ok (.newarray .boolean, 2) := by decide +kernel
theorem mo_init_d27 : decode mo_init_b 27 = .ok (.putfield 16, 3) := by decide +kernel
theorem mo_init_d30 : decode mo_init_b 30 = .ok (.aload_n 0, 1) := by decide +kernel
theorem mo_init_d31 : decode mo_init_b 31 = .ok (.sipush 128, 3) := by decide +kernel
theorem mo_init_d34 : decode mo_init_b 34 = .ok (.newarray .boolean, 2) := by decide +kernel
theorem mo_init_d36 : decode mo_init_b 36 = .ok (.putfield 20, 3) := by decide +kernel
theorem mo_init_d39 : decode mo_init_b 39 = .ok (.aload_n 0, 1) := by decide +kernel
theorem mo_init_d40 : decode mo_init_b 40 = .ok (.sipush 256, 3) := by decide +kernel
theorem mo_init_d43 : decode mo_init_b 43 = .ok (.newarray .int, 2) := by decide +kernel
theorem mo_init_d45 : decode mo_init_b 45 = .ok (.putfield 23, 3) := by decide +kernel
theorem mo_init_d48 : decode mo_init_b 48 = .ok (.aload_n 0, 1) := by decide +kernel
theorem mo_init_d49 : decode mo_init_b 49 = .ok (.bipush 16, 2) := by decide +kernel
theorem mo_init_d51 : decode mo_init_b 51 = .ok (.newarray .int, 2) := by decide +kernel
theorem mo_init_d53 : decode mo_init_b 53 = .ok (.putfield 26, 3) := by decide +kernel
theorem mo_init_d56 : decode mo_init_b 56 = .ok (.aload_n 0, 1) := by decide +kernel
theorem mo_init_d57 : decode mo_init_b 57 = .ok (.bipush 16, 2) := by decide +kernel
theorem mo_init_d59 : decode mo_init_b 59 = .ok (.newarray .int, 2) := by decide +kernel
theorem mo_init_d61 : decode mo_init_b 61 = .ok (.putfield 29, 3) := by decide +kernel
theorem mo_init_d64 : decode mo_init_b 64 = .ok (.aload_n 0, 1) := by decide +kernel
theorem mo_init_d65 : decode mo_init_b 65 = .ok (.bipush 16, 2) := by decide +kernel
theorem mo_init_d67 : decode mo_init_b 67 = .ok (.newarray .int, 2) := by decide +kernel
theorem mo_init_d69 : decode mo_init_b 69 = .ok (.putfield 32, 3) := by decide +kernel
theorem mo_init_d72 : decode mo_init_b 72 = .ok (.aload_n 0, 1) := by decide +kernel
theorem mo_init_d73 : decode mo_init_b 73 = .ok (.bipush 8, 2) := by decide +kernel
theorem mo_init_d75 : decode mo_init_b 75 = .ok (.newarray .int, 2) := by decide +kernel
theorem mo_init_d77 : decode mo_init_b 77 = .ok (.putfield 35, 3) := by decide +kernel
theorem mo_init_d80 : decode mo_init_b 80 = .ok (.aload_n 0, 1) := by decide +kernel
theorem mo_init_d81 : decode mo_init_b 81 = .ok (.bipush 16, 2) := by decide +kernel
theorem mo_init_d83 : decode mo_init_b 83 = .ok (.newarray .int, 2) := by decide +kernel
theorem mo_init_d85 : decode mo_init_b 85 = .ok (.putfield 38, 3) := by decide +kernel
theorem mo_init_d88 : decode mo_init_b 88 = .ok (.aload_n 0, 1) := by decide +kernel
theorem mo_init_d89 : decode mo_init_b 89 = .ok (.bipush 16, 2) := by decide +kernel
theorem mo_init_d91 : decode mo_init_b 91 = .ok (.newarray .int, 2) := by decide +kernel
theorem mo_init_d93 : decode mo_init_b 93 = .ok (.putfield 41, 3) := by decide +kernel
theorem mo_init_d96 : decode mo_init_b 96 = .ok (.aload_n 0, 1) := by decide +kernel
theorem mo_init_d97 : decode mo_init_b 97 = .ok (.bipush 16, 2) := by decide +kernel
theorem mo_init_d99 : decode mo_init_b 99 = .ok (.newarray .int, 2) := by decide +kernel
theorem mo_init_d101 : decode mo_init_b 101 = .ok (.putfield 44, 3) := by decide +kernel
theorem mo_init_d104 : decode mo_init_b 104 = .ok (.return_, 1) := by decide +kernel
theorem mo_init_w : rb_cw mo_init_y mo_init_b 1 none 0 := ⟨rw_554, rw_7, ⟨by decide, by decide⟩, by decide +kernel⟩
abbrev mo_init_rm : Room := { frames := 1, cells := 12, slots := 2824, locals := 12 }
set_option maxHeartbeats 4000000 in
set_option maxRecDepth 100000 in
theorem mo_init_c (l : Launch) (dC : Nat → ClassId) (dI : Nat → Nat → Nat) (h0 : Nat) (sz : Nat) : Met l mo_init_y (Cond.code mo_init_y mo_init_b 1 none :: rb_ws) mo_init_rm (va_Pc [.ref h0] (fun U => U.heap.size = sz ∧ va_P (dC, dI) vwCl [(h0, .inr (6, [.int 0, .null, .int 0, .null, .int 0, .int 0, .null, .null, .null, .int 0, .null, .null, .null, .int 0, .null, .null, .null, .null, .int 0, .int 0, .int 0, .int 0, .int 0, .int 0]))] U.heap ∧ va_K (dC, dI) vwCl [] U ∧ va_D (fun _ => True) [(h0, .inr (6, [.int 0, .null, .int 0, .null, .int 0, .int 0, .null, .null, .null, .int 0, .null, .null, .null, .int 0, .null, .null, .null, .null, .int 0, .int 0, .int 0, .int 0, .int 0, .int 0]))])) (va_Qv (fun _ : Unit => True) (fun _ t => ∃ (q : Nat → Nat) (ca : Nat → ClassId), va_P (dC, dI) vwCl ((h0, .inr (6, [.int 0, .ref (q 0), .int 0, .ref (q 1), .int 0, .int 0, .ref (q 2), .ref (q 3), .ref (q 4), .int 0, .ref (q 5), .ref (q 6), .ref (q 7), .int 0, .ref (q 8), .ref (q 9), .ref (q 10), .ref (q 11), .int 0, .int 0, .int 0, .int 0, .int 0, .int 0])) :: [(q 0, .inl (ca 0, 256, .inl (fun _ => 0))), (q 1, .inl (ca 1, 32, .inl (fun _ => 0))), (q 2, .inl (ca 2, 2048, .inl (fun _ => 0))), (q 3, .inl (ca 3, 128, .inl (fun _ => 0))), (q 4, .inl (ca 4, 256, .inl (fun _ => 0))), (q 5, .inl (ca 5, 16, .inl (fun _ => 0))), (q 6, .inl (ca 6, 16, .inl (fun _ => 0))), (q 7, .inl (ca 7, 16, .inl (fun _ => 0))), (q 8, .inl (ca 8, 8, .inl (fun _ => 0))), (q 9, .inl (ca 9, 16, .inl (fun _ => 0))), (q 10, .inl (ca 10, 16, .inl (fun _ => 0))), (q 11, .inl (ca 11, 16, .inl (fun _ => 0)))] : va_W) t.heap ∧ va_K (dC, dI) vwCl [(ca 0, .int), (ca 1, .int), (ca 2, .boolean), (ca 3, .boolean), (ca 4, .int), (ca 5, .int), (ca 6, .int), (ca 7, .int), (ca 8, .int), (ca 9, .int), (ca 10, .int), (ca 11, .int)] t ∧ va_D (va_A [(h0, .inr (6, [.int 0, .null, .int 0, .null, .int 0, .int 0, .null, .null, .null, .int 0, .null, .null, .null, .int 0, .null, .null, .null, .null, .int 0, .int 0, .int 0, .int 0, .int 0, .int 0]))] sz) ((h0, .inr (6, [.int 0, .ref (q 0), .int 0, .ref (q 1), .int 0, .int 0, .ref (q 2), .ref (q 3), .ref (q 4), .int 0, .ref (q 5), .ref (q 6), .ref (q 7), .int 0, .ref (q 8), .ref (q 9), .ref (q 10), .ref (q 11), .int 0, .int 0, .int 0, .int 0, .int 0, .int 0])) :: [(q 0, .inl (ca 0, 256, .inl (fun _ => 0))), (q 1, .inl (ca 1, 32, .inl (fun _ => 0))), (q 2, .inl (ca 2, 2048, .inl (fun _ => 0))), (q 3, .inl (ca 3, 128, .inl (fun _ => 0))), (q 4, .inl (ca 4, 256, .inl (fun _ => 0))), (q 5, .inl (ca 5, 16, .inl (fun _ => 0))), (q 6, .inl (ca 6, 16, .inl (fun _ => 0))), (q 7, .inl (ca 7, 16, .inl (fun _ => 0))), (q 8, .inl (ca 8, 8, .inl (fun _ => 0))), (q 9, .inl (ca 9, 16, .inl (fun _ => 0))), (q 10, .inl (ca 10, 16, .inl (fun _ => 0))), (q 11, .inl (ca 11, 16, .inl (fun _ => 0)))] : va_W)) (va_A [(h0, .inr (6, [.int 0, .null, .int 0, .null, .int 0, .int 0, .null, .null, .null, .int 0, .null, .null, .null, .int 0, .null, .null, .null, .null, .int 0, .int 0, .int 0, .int 0, .int 0, .int 0]))] sz)) 12 2824 (va_A [(h0, .inr (6, [.int 0, .null, .int 0, .null, .int 0, .int 0, .null, .null, .null, .int 0, .null, .null, .null, .int 0, .null, .null, .null, .null, .int 0, .int 0, .int 0, .int 0, .int 0, .int 0]))] sz) := by
  refine Met.ofW (cc := mo_init_b) (maxL := 1) (ret := none) (by decide) rfl ?_
  intro p e s m args below meth c s₁ B hml hv
  obtain ⟨rfl, hsz, hP, hK, hD0⟩ := hv
  have hx := B.exec
  have hb := B.bytes
  have hr := B.returns
  have hts0 := atoms_spec (ws := Cond.code mo_init_y mo_init_b 1 none :: rb_ws) B.pre
  have hts : ∀ w ∈ rb_ws, w.before _ s = true := fun w hw => hts0 w (List.mem_cons_of_mem _ hw)
  have hown : s.vm.findClass "RoomMakerModel" = some m.cls := findClass_of_methodNamed B.named
  have hlocks := B.notSynchronized
  have hin : meth.name = "<init>" := (name_of_methodNamed B.named B.method).1
  subst hsz
  have hD := hD0.self (sz := s.heap.size)
  generalize hAe : va_A [(h0, .inr (6, [.int 0, .null, .int 0, .null, .int 0, .int 0, .null, .null, .null, .int 0, .null, .null, .null, .int 0, .null, .null, .null, .null, .int 0, .int 0, .int 0, .int 0, .int 0, .int 0]))] s.heap.size = A at hD ⊢
  have hA : ∀ q : Nat, s.heap.size ≤ q → A q := fun q h => by rw [← hAe]; exact Or.inr h
  have hS : va_S A s.heap s.heap [] := va_S.rf
  have hl := lv_entry ([.ref h0]) (n := 1) (Nat.le_of_ble_eq_true rfl)
  rw [lg_entry_eq]
  generalize (lg_sl ([.ref h0]) ++ List.replicate (1 - (lg_sl ([.ref h0])).length) Slot.unset).toArray = ls at hl ⊢
  have hl : lv_has ls 1 [(0, .ref h0)] := hl
  refine lv_aload_n hx hb mo_init_d0 rfl (lv_at hl 0 rfl) ?_
  refine W.objInit hx hb hown (hts _ rw_555) (hts _ rw_22) (hts _ rw_23) rfl (by rw [hml]; exact hl.1) rfl mo_init_d1 (Nat.le_of_ble_eq_true rfl) (Nat.le_of_ble_eq_true rfl) ?_
  refine W.eq (g2 := F0 m 4 ls []) rfl ?_
  refine lv_aload_n hx hb mo_init_d4 rfl (lv_at hl 0 rfl) ?_
  refine lv_sipush (v := 256) hx hb mo_init_d5 (by decide) ?_
  refine va_newa (atype := .int) (N' := 256) (a0 := (256, .inl (fun _ => 0))) hx hb (hts _ rw_53) (ty := .int) rfl hK hP hD hS hA (fun _ => rfl) (by decide) (by decide) (by decide) (by decide) (by decide) mo_init_d8 (fun q0 ca0 H hK hP hD hS => ?_)
  have hP : va_P (dC, dI) vwCl [(h0, .inr (6, [.int 0, .null, .int 0, .null, .int 0, .int 0, .null, .null, .null, .int 0, .null, .null, .null, .int 0, .null, .null, .null, .null, .int 0, .int 0, .int 0, .int 0, .int 0, .int 0])), (q0, .inl (ca0, 256, .inl (fun _ => 0)))] H := hP
  have hD : va_D A [(h0, .inr (6, [.int 0, .null, .int 0, .null, .int 0, .int 0, .null, .null, .null, .int 0, .null, .null, .null, .int 0, .null, .null, .null, .null, .int 0, .int 0, .int 0, .int 0, .int 0, .int 0])), (q0, .inl (ca0, 256, .inl (fun _ => 0)))] := hD
  have hK : va_K (dC, dI) vwCl [(ca0, .int)] s := hK
  refine W.widen (k := 1) (n := 256) (by decide) (by decide) ?_
  refine va_putF (D := (dC, dI)) (ci := 6) (v := .ref q0) (ty := .array .int) (C := "RoomMakerModel") (T := mo_F) (N := 24) (ref := "RoomMakerModel") hx hb hts mo_in mo_t mo_ok mo_n hown hK hP hD hS 0 rfl rfl 1 (by decide) (hts _ rw_557) (fun _ h9 => h9) rfl hin rfl (by decide +kernel) rfl rfl (Nat.le_of_ble_eq_true rfl) mo_init_d10 (fun H locs hP hD hS => ?_)
  have hP : va_P (dC, dI) vwCl [(h0, .inr (6, [.int 0, .ref q0, .int 0, .null, .int 0, .int 0, .null, .null, .null, .int 0, .null, .null, .null, .int 0, .null, .null, .null, .null, .int 0, .int 0, .int 0, .int 0, .int 0, .int 0])), (q0, .inl (ca0, 256, .inl (fun _ => 0)))] H := hP
  have hD : va_D A [(h0, .inr (6, [.int 0, .ref q0, .int 0, .null, .int 0, .int 0, .null, .null, .null, .int 0, .null, .null, .null, .int 0, .null, .null, .null, .null, .int 0, .int 0, .int 0, .int 0, .int 0, .int 0])), (q0, .inl (ca0, 256, .inl (fun _ => 0)))] := hD
  refine lv_aload_n hx hb mo_init_d13 rfl (lv_at hl 0 rfl) ?_
  refine lv_bipush (v := 32) hx hb mo_init_d14 (by decide) ?_
  refine va_newa (atype := .int) (N' := 32) (a0 := (32, .inl (fun _ => 0))) hx hb (hts _ rw_53) (ty := .int) rfl hK hP hD hS hA (fun _ => rfl) (by decide) (by decide) (by decide) (by decide) (by decide) mo_init_d16 (fun q1 ca1 H hK hP hD hS => ?_)
  have hP : va_P (dC, dI) vwCl [(h0, .inr (6, [.int 0, .ref q0, .int 0, .null, .int 0, .int 0, .null, .null, .null, .int 0, .null, .null, .null, .int 0, .null, .null, .null, .null, .int 0, .int 0, .int 0, .int 0, .int 0, .int 0])), (q0, .inl (ca0, 256, .inl (fun _ => 0))), (q1, .inl (ca1, 32, .inl (fun _ => 0)))] H := hP
  have hD : va_D A [(h0, .inr (6, [.int 0, .ref q0, .int 0, .null, .int 0, .int 0, .null, .null, .null, .int 0, .null, .null, .null, .int 0, .null, .null, .null, .null, .int 0, .int 0, .int 0, .int 0, .int 0, .int 0])), (q0, .inl (ca0, 256, .inl (fun _ => 0))), (q1, .inl (ca1, 32, .inl (fun _ => 0)))] := hD
  have hK : va_K (dC, dI) vwCl [(ca0, .int), (ca1, .int)] s := hK
  refine W.widen (k := 2) (n := 288) (by decide) (by decide) ?_
  refine va_putF (D := (dC, dI)) (ci := 6) (v := .ref q1) (ty := .array .int) (C := "RoomMakerModel") (T := mo_F) (N := 24) (ref := "RoomMakerModel") hx hb hts mo_in mo_t mo_ok mo_n hown hK hP hD hS 0 rfl rfl 3 (by decide) (hts _ rw_559) (fun _ h9 => h9) rfl hin rfl (by decide +kernel) rfl rfl (Nat.le_of_ble_eq_true rfl) mo_init_d18 (fun H locs hP hD hS => ?_)
  have hP : va_P (dC, dI) vwCl [(h0, .inr (6, [.int 0, .ref q0, .int 0, .ref q1, .int 0, .int 0, .null, .null, .null, .int 0, .null, .null, .null, .int 0, .null, .null, .null, .null, .int 0, .int 0, .int 0, .int 0, .int 0, .int 0])), (q0, .inl (ca0, 256, .inl (fun _ => 0))), (q1, .inl (ca1, 32, .inl (fun _ => 0)))] H := hP
  have hD : va_D A [(h0, .inr (6, [.int 0, .ref q0, .int 0, .ref q1, .int 0, .int 0, .null, .null, .null, .int 0, .null, .null, .null, .int 0, .null, .null, .null, .null, .int 0, .int 0, .int 0, .int 0, .int 0, .int 0])), (q0, .inl (ca0, 256, .inl (fun _ => 0))), (q1, .inl (ca1, 32, .inl (fun _ => 0)))] := hD
  refine lv_aload_n hx hb mo_init_d21 rfl (lv_at hl 0 rfl) ?_
  refine lv_sipush (v := 2048) hx hb mo_init_d22 (by decide) ?_
  refine va_newa (atype := .boolean) (N' := 2048) (a0 := (2048, .inl (fun _ => 0))) hx hb (hts _ rw_629) (ty := .boolean) rfl hK hP hD hS hA (fun _ => rfl) (by decide) (by decide) (by decide) (by decide) (by decide) mo_init_d25 (fun q2 ca2 H hK hP hD hS => ?_)
  have hP : va_P (dC, dI) vwCl [(h0, .inr (6, [.int 0, .ref q0, .int 0, .ref q1, .int 0, .int 0, .null, .null, .null, .int 0, .null, .null, .null, .int 0, .null, .null, .null, .null, .int 0, .int 0, .int 0, .int 0, .int 0, .int 0])), (q0, .inl (ca0, 256, .inl (fun _ => 0))), (q1, .inl (ca1, 32, .inl (fun _ => 0))), (q2, .inl (ca2, 2048, .inl (fun _ => 0)))] H := hP
  have hD : va_D A [(h0, .inr (6, [.int 0, .ref q0, .int 0, .ref q1, .int 0, .int 0, .null, .null, .null, .int 0, .null, .null, .null, .int 0, .null, .null, .null, .null, .int 0, .int 0, .int 0, .int 0, .int 0, .int 0])), (q0, .inl (ca0, 256, .inl (fun _ => 0))), (q1, .inl (ca1, 32, .inl (fun _ => 0))), (q2, .inl (ca2, 2048, .inl (fun _ => 0)))] := hD
  have hK : va_K (dC, dI) vwCl [(ca0, .int), (ca1, .int), (ca2, .boolean)] s := hK
  refine W.widen (k := 3) (n := 2336) (by decide) (by decide) ?_
  refine va_putF (D := (dC, dI)) (ci := 6) (v := .ref q2) (ty := .array .boolean) (C := "RoomMakerModel") (T := mo_F) (N := 24) (ref := "RoomMakerModel") hx hb hts mo_in mo_t mo_ok mo_n hown hK hP hD hS 0 rfl rfl 6 (by decide) (hts _ rw_562) (fun _ h9 => h9) rfl hin rfl (by decide +kernel) rfl rfl (Nat.le_of_ble_eq_true rfl) mo_init_d27 (fun H locs hP hD hS => ?_)
  have hP : va_P (dC, dI) vwCl [(h0, .inr (6, [.int 0, .ref q0, .int 0, .ref q1, .int 0, .int 0, .ref q2, .null, .null, .int 0, .null, .null, .null, .int 0, .null, .null, .null, .null, .int 0, .int 0, .int 0, .int 0, .int 0, .int 0])), (q0, .inl (ca0, 256, .inl (fun _ => 0))), (q1, .inl (ca1, 32, .inl (fun _ => 0))), (q2, .inl (ca2, 2048, .inl (fun _ => 0)))] H := hP
  have hD : va_D A [(h0, .inr (6, [.int 0, .ref q0, .int 0, .ref q1, .int 0, .int 0, .ref q2, .null, .null, .int 0, .null, .null, .null, .int 0, .null, .null, .null, .null, .int 0, .int 0, .int 0, .int 0, .int 0, .int 0])), (q0, .inl (ca0, 256, .inl (fun _ => 0))), (q1, .inl (ca1, 32, .inl (fun _ => 0))), (q2, .inl (ca2, 2048, .inl (fun _ => 0)))] := hD
  refine lv_aload_n hx hb mo_init_d30 rfl (lv_at hl 0 rfl) ?_
  refine lv_sipush (v := 128) hx hb mo_init_d31 (by decide) ?_
  refine va_newa (atype := .boolean) (N' := 128) (a0 := (128, .inl (fun _ => 0))) hx hb (hts _ rw_629) (ty := .boolean) rfl hK hP hD hS hA (fun _ => rfl) (by decide) (by decide) (by decide) (by decide) (by decide) mo_init_d34 (fun q3 ca3 H hK hP hD hS => ?_)
  have hP : va_P (dC, dI) vwCl [(h0, .inr (6, [.int 0, .ref q0, .int 0, .ref q1, .int 0, .int 0, .ref q2, .null, .null, .int 0, .null, .null, .null, .int 0, .null, .null, .null, .null, .int 0, .int 0, .int 0, .int 0, .int 0, .int 0])), (q0, .inl (ca0, 256, .inl (fun _ => 0))), (q1, .inl (ca1, 32, .inl (fun _ => 0))), (q2, .inl (ca2, 2048, .inl (fun _ => 0))), (q3, .inl (ca3, 128, .inl (fun _ => 0)))] H := hP
  have hD : va_D A [(h0, .inr (6, [.int 0, .ref q0, .int 0, .ref q1, .int 0, .int 0, .ref q2, .null, .null, .int 0, .null, .null, .null, .int 0, .null, .null, .null, .null, .int 0, .int 0, .int 0, .int 0, .int 0, .int 0])), (q0, .inl (ca0, 256, .inl (fun _ => 0))), (q1, .inl (ca1, 32, .inl (fun _ => 0))), (q2, .inl (ca2, 2048, .inl (fun _ => 0))), (q3, .inl (ca3, 128, .inl (fun _ => 0)))] := hD
  have hK : va_K (dC, dI) vwCl [(ca0, .int), (ca1, .int), (ca2, .boolean), (ca3, .boolean)] s := hK
  refine W.widen (k := 4) (n := 2464) (by decide) (by decide) ?_
  refine va_putF (D := (dC, dI)) (ci := 6) (v := .ref q3) (ty := .array .boolean) (C := "RoomMakerModel") (T := mo_F) (N := 24) (ref := "RoomMakerModel") hx hb hts mo_in mo_t mo_ok mo_n hown hK hP hD hS 0 rfl rfl 7 (by decide) (hts _ rw_563) (fun _ h9 => h9) rfl hin rfl (by decide +kernel) rfl rfl (Nat.le_of_ble_eq_true rfl) mo_init_d36 (fun H locs hP hD hS => ?_)
  have hP : va_P (dC, dI) vwCl [(h0, .inr (6, [.int 0, .ref q0, .int 0, .ref q1, .int 0, .int 0, .ref q2, .ref q3, .null, .int 0, .null, .null, .null, .int 0, .null, .null, .null, .null, .int 0, .int 0, .int 0, .int 0, .int 0, .int 0])), (q0, .inl (ca0, 256, .inl (fun _ => 0))), (q1, .inl (ca1, 32, .inl (fun _ => 0))), (q2, .inl (ca2, 2048, .inl (fun _ => 0))), (q3, .inl (ca3, 128, .inl (fun _ => 0)))] H := hP
  have hD : va_D A [(h0, .inr (6, [.int 0, .ref q0, .int 0, .ref q1, .int 0, .int 0, .ref q2, .ref q3, .null, .int 0, .null, .null, .null, .int 0, .null, .null, .null, .null, .int 0, .int 0, .int 0, .int 0, .int 0, .int 0])), (q0, .inl (ca0, 256, .inl (fun _ => 0))), (q1, .inl (ca1, 32, .inl (fun _ => 0))), (q2, .inl (ca2, 2048, .inl (fun _ => 0))), (q3, .inl (ca3, 128, .inl (fun _ => 0)))] := hD
  refine lv_aload_n hx hb mo_init_d39 rfl (lv_at hl 0 rfl) ?_
  refine lv_sipush (v := 256) hx hb mo_init_d40 (by decide) ?_
  refine va_newa (atype := .int) (N' := 256) (a0 := (256, .inl (fun _ => 0))) hx hb (hts _ rw_53) (ty := .int) rfl hK hP hD hS hA (fun _ => rfl) (by decide) (by decide) (by decide) (by decide) (by decide) mo_init_d43 (fun q4 ca4 H hK hP hD hS => ?_)
  have hP : va_P (dC, dI) vwCl [(h0, .inr (6, [.int 0, .ref q0, .int 0, .ref q1, .int 0, .int 0, .ref q2, .ref q3, .null, .int 0, .null, .null, .null, .int 0, .null, .null, .null, .null, .int 0, .int 0, .int 0, .int 0, .int 0, .int 0])), (q0, .inl (ca0, 256, .inl (fun _ => 0))), (q1, .inl (ca1, 32, .inl (fun _ => 0))), (q2, .inl (ca2, 2048, .inl (fun _ => 0))), (q3, .inl (ca3, 128, .inl (fun _ => 0))), (q4, .inl (ca4, 256, .inl (fun _ => 0)))] H := hP
  have hD : va_D A [(h0, .inr (6, [.int 0, .ref q0, .int 0, .ref q1, .int 0, .int 0, .ref q2, .ref q3, .null, .int 0, .null, .null, .null, .int 0, .null, .null, .null, .null, .int 0, .int 0, .int 0, .int 0, .int 0, .int 0])), (q0, .inl (ca0, 256, .inl (fun _ => 0))), (q1, .inl (ca1, 32, .inl (fun _ => 0))), (q2, .inl (ca2, 2048, .inl (fun _ => 0))), (q3, .inl (ca3, 128, .inl (fun _ => 0))), (q4, .inl (ca4, 256, .inl (fun _ => 0)))] := hD
  have hK : va_K (dC, dI) vwCl [(ca0, .int), (ca1, .int), (ca2, .boolean), (ca3, .boolean), (ca4, .int)] s := hK
  refine W.widen (k := 5) (n := 2720) (by decide) (by decide) ?_
  refine va_putF (D := (dC, dI)) (ci := 6) (v := .ref q4) (ty := .array .int) (C := "RoomMakerModel") (T := mo_F) (N := 24) (ref := "RoomMakerModel") hx hb hts mo_in mo_t mo_ok mo_n hown hK hP hD hS 0 rfl rfl 8 (by decide) (hts _ rw_564) (fun _ h9 => h9) rfl hin rfl (by decide +kernel) rfl rfl (Nat.le_of_ble_eq_true rfl) mo_init_d45 (fun H locs hP hD hS => ?_)
  have hP : va_P (dC, dI) vwCl [(h0, .inr (6, [.int 0, .ref q0, .int 0, .ref q1, .int 0, .int 0, .ref q2, .ref q3, .ref q4, .int 0, .null, .null, .null, .int 0, .null, .null, .null, .null, .int 0, .int 0, .int 0, .int 0, .int 0, .int 0])), (q0, .inl (ca0, 256, .inl (fun _ => 0))), (q1, .inl (ca1, 32, .inl (fun _ => 0))), (q2, .inl (ca2, 2048, .inl (fun _ => 0))), (q3, .inl (ca3, 128, .inl (fun _ => 0))), (q4, .inl (ca4, 256, .inl (fun _ => 0)))] H := hP
  have hD : va_D A [(h0, .inr (6, [.int 0, .ref q0, .int 0, .ref q1, .int 0, .int 0, .ref q2, .ref q3, .ref q4, .int 0, .null, .null, .null, .int 0, .null, .null, .null, .null, .int 0, .int 0, .int 0, .int 0, .int 0, .int 0])), (q0, .inl (ca0, 256, .inl (fun _ => 0))), (q1, .inl (ca1, 32, .inl (fun _ => 0))), (q2, .inl (ca2, 2048, .inl (fun _ => 0))), (q3, .inl (ca3, 128, .inl (fun _ => 0))), (q4, .inl (ca4, 256, .inl (fun _ => 0)))] := hD
  refine lv_aload_n hx hb mo_init_d48 rfl (lv_at hl 0 rfl) ?_
  refine lv_bipush (v := 16) hx hb mo_init_d49 (by decide) ?_
  refine va_newa (atype := .int) (N' := 16) (a0 := (16, .inl (fun _ => 0))) hx hb (hts _ rw_53) (ty := .int) rfl hK hP hD hS hA (fun _ => rfl) (by decide) (by decide) (by decide) (by decide) (by decide) mo_init_d51 (fun q5 ca5 H hK hP hD hS => ?_)
  have hP : va_P (dC, dI) vwCl [(h0, .inr (6, [.int 0, .ref q0, .int 0, .ref q1, .int 0, .int 0, .ref q2, .ref q3, .ref q4, .int 0, .null, .null, .null, .int 0, .null, .null, .null, .null, .int 0, .int 0, .int 0, .int 0, .int 0, .int 0])), (q0, .inl (ca0, 256, .inl (fun _ => 0))), (q1, .inl (ca1, 32, .inl (fun _ => 0))), (q2, .inl (ca2, 2048, .inl (fun _ => 0))), (q3, .inl (ca3, 128, .inl (fun _ => 0))), (q4, .inl (ca4, 256, .inl (fun _ => 0))), (q5, .inl (ca5, 16, .inl (fun _ => 0)))] H := hP
  have hD : va_D A [(h0, .inr (6, [.int 0, .ref q0, .int 0, .ref q1, .int 0, .int 0, .ref q2, .ref q3, .ref q4, .int 0, .null, .null, .null, .int 0, .null, .null, .null, .null, .int 0, .int 0, .int 0, .int 0, .int 0, .int 0])), (q0, .inl (ca0, 256, .inl (fun _ => 0))), (q1, .inl (ca1, 32, .inl (fun _ => 0))), (q2, .inl (ca2, 2048, .inl (fun _ => 0))), (q3, .inl (ca3, 128, .inl (fun _ => 0))), (q4, .inl (ca4, 256, .inl (fun _ => 0))), (q5, .inl (ca5, 16, .inl (fun _ => 0)))] := hD
  have hK : va_K (dC, dI) vwCl [(ca0, .int), (ca1, .int), (ca2, .boolean), (ca3, .boolean), (ca4, .int), (ca5, .int)] s := hK
  refine W.widen (k := 6) (n := 2736) (by decide) (by decide) ?_
  refine va_putF (D := (dC, dI)) (ci := 6) (v := .ref q5) (ty := .array .int) (C := "RoomMakerModel") (T := mo_F) (N := 24) (ref := "RoomMakerModel") hx hb hts mo_in mo_t mo_ok mo_n hown hK hP hD hS 0 rfl rfl 10 (by decide) (hts _ rw_566) (fun _ h9 => h9) rfl hin rfl (by decide +kernel) rfl rfl (Nat.le_of_ble_eq_true rfl) mo_init_d53 (fun H locs hP hD hS => ?_)
  have hP : va_P (dC, dI) vwCl [(h0, .inr (6, [.int 0, .ref q0, .int 0, .ref q1, .int 0, .int 0, .ref q2, .ref q3, .ref q4, .int 0, .ref q5, .null, .null, .int 0, .null, .null, .null, .null, .int 0, .int 0, .int 0, .int 0, .int 0, .int 0])), (q0, .inl (ca0, 256, .inl (fun _ => 0))), (q1, .inl (ca1, 32, .inl (fun _ => 0))), (q2, .inl (ca2, 2048, .inl (fun _ => 0))), (q3, .inl (ca3, 128, .inl (fun _ => 0))), (q4, .inl (ca4, 256, .inl (fun _ => 0))), (q5, .inl (ca5, 16, .inl (fun _ => 0)))] H := hP
  have hD : va_D A [(h0, .inr (6, [.int 0, .ref q0, .int 0, .ref q1, .int 0, .int 0, .ref q2, .ref q3, .ref q4, .int 0, .ref q5, .null, .null, .int 0, .null, .null, .null, .null, .int 0, .int 0, .int 0, .int 0, .int 0, .int 0])), (q0, .inl (ca0, 256, .inl (fun _ => 0))), (q1, .inl (ca1, 32, .inl (fun _ => 0))), (q2, .inl (ca2, 2048, .inl (fun _ => 0))), (q3, .inl (ca3, 128, .inl (fun _ => 0))), (q4, .inl (ca4, 256, .inl (fun _ => 0))), (q5, .inl (ca5, 16, .inl (fun _ => 0)))] := hD
  refine lv_aload_n hx hb mo_init_d56 rfl (lv_at hl 0 rfl) ?_
  refine lv_bipush (v := 16) hx hb mo_init_d57 (by decide) ?_
  refine va_newa (atype := .int) (N' := 16) (a0 := (16, .inl (fun _ => 0))) hx hb (hts _ rw_53) (ty := .int) rfl hK hP hD hS hA (fun _ => rfl) (by decide) (by decide) (by decide) (by decide) (by decide) mo_init_d59 (fun q6 ca6 H hK hP hD hS => ?_)
  have hP : va_P (dC, dI) vwCl [(h0, .inr (6, [.int 0, .ref q0, .int 0, .ref q1, .int 0, .int 0, .ref q2, .ref q3, .ref q4, .int 0, .ref q5, .null, .null, .int 0, .null, .null, .null, .null, .int 0, .int 0, .int 0, .int 0, .int 0, .int 0])), (q0, .inl (ca0, 256, .inl (fun _ => 0))), (q1, .inl (ca1, 32, .inl (fun _ => 0))), (q2, .inl (ca2, 2048, .inl (fun _ => 0))), (q3, .inl (ca3, 128, .inl (fun _ => 0))), (q4, .inl (ca4, 256, .inl (fun _ => 0))), (q5, .inl (ca5, 16, .inl (fun _ => 0))), (q6, .inl (ca6, 16, .inl (fun _ => 0)))] H := hP
  have hD : va_D A [(h0, .inr (6, [.int 0, .ref q0, .int 0, .ref q1, .int 0, .int 0, .ref q2, .ref q3, .ref q4, .int 0, .ref q5, .null, .null, .int 0, .null, .null, .null, .null, .int 0, .int 0, .int 0, .int 0, .int 0, .int 0])), (q0, .inl (ca0, 256, .inl (fun _ => 0))), (q1, .inl (ca1, 32, .inl (fun _ => 0))), (q2, .inl (ca2, 2048, .inl (fun _ => 0))), (q3, .inl (ca3, 128, .inl (fun _ => 0))), (q4, .inl (ca4, 256, .inl (fun _ => 0))), (q5, .inl (ca5, 16, .inl (fun _ => 0))), (q6, .inl (ca6, 16, .inl (fun _ => 0)))] := hD
  have hK : va_K (dC, dI) vwCl [(ca0, .int), (ca1, .int), (ca2, .boolean), (ca3, .boolean), (ca4, .int), (ca5, .int), (ca6, .int)] s := hK
  refine W.widen (k := 7) (n := 2752) (by decide) (by decide) ?_
  refine va_putF (D := (dC, dI)) (ci := 6) (v := .ref q6) (ty := .array .int) (C := "RoomMakerModel") (T := mo_F) (N := 24) (ref := "RoomMakerModel") hx hb hts mo_in mo_t mo_ok mo_n hown hK hP hD hS 0 rfl rfl 11 (by decide) (hts _ rw_567) (fun _ h9 => h9) rfl hin rfl (by decide +kernel) rfl rfl (Nat.le_of_ble_eq_true rfl) mo_init_d61 (fun H locs hP hD hS => ?_)
  have hP : va_P (dC, dI) vwCl [(h0, .inr (6, [.int 0, .ref q0, .int 0, .ref q1, .int 0, .int 0, .ref q2, .ref q3, .ref q4, .int 0, .ref q5, .ref q6, .null, .int 0, .null, .null, .null, .null, .int 0, .int 0, .int 0, .int 0, .int 0, .int 0])), (q0, .inl (ca0, 256, .inl (fun _ => 0))), (q1, .inl (ca1, 32, .inl (fun _ => 0))), (q2, .inl (ca2, 2048, .inl (fun _ => 0))), (q3, .inl (ca3, 128, .inl (fun _ => 0))), (q4, .inl (ca4, 256, .inl (fun _ => 0))), (q5, .inl (ca5, 16, .inl (fun _ => 0))), (q6, .inl (ca6, 16, .inl (fun _ => 0)))] H := hP
  have hD : va_D A [(h0, .inr (6, [.int 0, .ref q0, .int 0, .ref q1, .int 0, .int 0, .ref q2, .ref q3, .ref q4, .int 0, .ref q5, .ref q6, .null, .int 0, .null, .null, .null, .null, .int 0, .int 0, .int 0, .int 0, .int 0, .int 0])), (q0, .inl (ca0, 256, .inl (fun _ => 0))), (q1, .inl (ca1, 32, .inl (fun _ => 0))), (q2, .inl (ca2, 2048, .inl (fun _ => 0))), (q3, .inl (ca3, 128, .inl (fun _ => 0))), (q4, .inl (ca4, 256, .inl (fun _ => 0))), (q5, .inl (ca5, 16, .inl (fun _ => 0))), (q6, .inl (ca6, 16, .inl (fun _ => 0)))] := hD
  refine lv_aload_n hx hb mo_init_d64 rfl (lv_at hl 0 rfl) ?_
  refine lv_bipush (v := 16) hx hb mo_init_d65 (by decide) ?_
  refine va_newa (atype := .int) (N' := 16) (a0 := (16, .inl (fun _ => 0))) hx hb (hts _ rw_53) (ty := .int) rfl hK hP hD hS hA (fun _ => rfl) (by decide) (by decide) (by decide) (by decide) (by decide) mo_init_d67 (fun q7 ca7 H hK hP hD hS => ?_)
  have hP : va_P (dC, dI) vwCl [(h0, .inr (6, [.int 0, .ref q0, .int 0, .ref q1, .int 0, .int 0, .ref q2, .ref q3, .ref q4, .int 0, .ref q5, .ref q6, .null, .int 0, .null, .null, .null, .null, .int 0, .int 0, .int 0, .int 0, .int 0, .int 0])), (q0, .inl (ca0, 256, .inl (fun _ => 0))), (q1, .inl (ca1, 32, .inl (fun _ => 0))), (q2, .inl (ca2, 2048, .inl (fun _ => 0))), (q3, .inl (ca3, 128, .inl (fun _ => 0))), (q4, .inl (ca4, 256, .inl (fun _ => 0))), (q5, .inl (ca5, 16, .inl (fun _ => 0))), (q6, .inl (ca6, 16, .inl (fun _ => 0))), (q7, .inl (ca7, 16, .inl (fun _ => 0)))] H := hP
  have hD : va_D A [(h0, .inr (6, [.int 0, .ref q0, .int 0, .ref q1, .int 0, .int 0, .ref q2, .ref q3, .ref q4, .int 0, .ref q5, .ref q6, .null, .int 0, .null, .null, .null, .null, .int 0, .int 0, .int 0, .int 0, .int 0, .int 0])), (q0, .inl (ca0, 256, .inl (fun _ => 0))), (q1, .inl (ca1, 32, .inl (fun _ => 0))), (q2, .inl (ca2, 2048, .inl (fun _ => 0))), (q3, .inl (ca3, 128, .inl (fun _ => 0))), (q4, .inl (ca4, 256, .inl (fun _ => 0))), (q5, .inl (ca5, 16, .inl (fun _ => 0))), (q6, .inl (ca6, 16, .inl (fun _ => 0))), (q7, .inl (ca7, 16, .inl (fun _ => 0)))] := hD
  have hK : va_K (dC, dI) vwCl [(ca0, .int), (ca1, .int), (ca2, .boolean), (ca3, .boolean), (ca4, .int), (ca5, .int), (ca6, .int), (ca7, .int)] s := hK
  refine W.widen (k := 8) (n := 2768) (by decide) (by decide) ?_
  refine va_putF (D := (dC, dI)) (ci := 6) (v := .ref q7) (ty := .array .int) (C := "RoomMakerModel") (T := mo_F) (N := 24) (ref := "RoomMakerModel") hx hb hts mo_in mo_t mo_ok mo_n hown hK hP hD hS 0 rfl rfl 12 (by decide) (hts _ rw_568) (fun _ h9 => h9) rfl hin rfl (by decide +kernel) rfl rfl (Nat.le_of_ble_eq_true rfl) mo_init_d69 (fun H locs hP hD hS => ?_)
  have hP : va_P (dC, dI) vwCl [(h0, .inr (6, [.int 0, .ref q0, .int 0, .ref q1, .int 0, .int 0, .ref q2, .ref q3, .ref q4, .int 0, .ref q5, .ref q6, .ref q7, .int 0, .null, .null, .null, .null, .int 0, .int 0, .int 0, .int 0, .int 0, .int 0])), (q0, .inl (ca0, 256, .inl (fun _ => 0))), (q1, .inl (ca1, 32, .inl (fun _ => 0))), (q2, .inl (ca2, 2048, .inl (fun _ => 0))), (q3, .inl (ca3, 128, .inl (fun _ => 0))), (q4, .inl (ca4, 256, .inl (fun _ => 0))), (q5, .inl (ca5, 16, .inl (fun _ => 0))), (q6, .inl (ca6, 16, .inl (fun _ => 0))), (q7, .inl (ca7, 16, .inl (fun _ => 0)))] H := hP
  have hD : va_D A [(h0, .inr (6, [.int 0, .ref q0, .int 0, .ref q1, .int 0, .int 0, .ref q2, .ref q3, .ref q4, .int 0, .ref q5, .ref q6, .ref q7, .int 0, .null, .null, .null, .null, .int 0, .int 0, .int 0, .int 0, .int 0, .int 0])), (q0, .inl (ca0, 256, .inl (fun _ => 0))), (q1, .inl (ca1, 32, .inl (fun _ => 0))), (q2, .inl (ca2, 2048, .inl (fun _ => 0))), (q3, .inl (ca3, 128, .inl (fun _ => 0))), (q4, .inl (ca4, 256, .inl (fun _ => 0))), (q5, .inl (ca5, 16, .inl (fun _ => 0))), (q6, .inl (ca6, 16, .inl (fun _ => 0))), (q7, .inl (ca7, 16, .inl (fun _ => 0)))] := hD
  refine lv_aload_n hx hb mo_init_d72 rfl (lv_at hl 0 rfl) ?_
  refine lv_bipush (v := 8) hx hb mo_init_d73 (by decide) ?_
  refine va_newa (atype := .int) (N' := 8) (a0 := (8, .inl (fun _ => 0))) hx hb (hts _ rw_53) (ty := .int) rfl hK hP hD hS hA (fun _ => rfl) (by decide) (by decide) (by decide) (by decide) (by decide) mo_init_d75 (fun q8 ca8 H hK hP hD hS => ?_)
  have hP : va_P (dC, dI) vwCl [(h0, .inr (6, [.int 0, .ref q0, .int 0, .ref q1, .int 0, .int 0, .ref q2, .ref q3, .ref q4, .int 0, .ref q5, .ref q6, .ref q7, .int 0, .null, .null, .null, .null, .int 0, .int 0, .int 0, .int 0, .int 0, .int 0])), (q0, .inl (ca0, 256, .inl (fun _ => 0))), (q1, .inl (ca1, 32, .inl (fun _ => 0))), (q2, .inl (ca2, 2048, .inl (fun _ => 0))), (q3, .inl (ca3, 128, .inl (fun _ => 0))), (q4, .inl (ca4, 256, .inl (fun _ => 0))), (q5, .inl (ca5, 16, .inl (fun _ => 0))), (q6, .inl (ca6, 16, .inl (fun _ => 0))), (q7, .inl (ca7, 16, .inl (fun _ => 0))), (q8, .inl (ca8, 8, .inl (fun _ => 0)))] H := hP
  have hD : va_D A [(h0, .inr (6, [.int 0, .ref q0, .int 0, .ref q1, .int 0, .int 0, .ref q2, .ref q3, .ref q4, .int 0, .ref q5, .ref q6, .ref q7, .int 0, .null, .null, .null, .null, .int 0, .int 0, .int 0, .int 0, .int 0, .int 0])), (q0, .inl (ca0, 256, .inl (fun _ => 0))), (q1, .inl (ca1, 32, .inl (fun _ => 0))), (q2, .inl (ca2, 2048, .inl (fun _ => 0))), (q3, .inl (ca3, 128, .inl (fun _ => 0))), (q4, .inl (ca4, 256, .inl (fun _ => 0))), (q5, .inl (ca5, 16, .inl (fun _ => 0))), (q6, .inl (ca6, 16, .inl (fun _ => 0))), (q7, .inl (ca7, 16, .inl (fun _ => 0))), (q8, .inl (ca8, 8, .inl (fun _ => 0)))] := hD
  have hK : va_K (dC, dI) vwCl [(ca0, .int), (ca1, .int), (ca2, .boolean), (ca3, .boolean), (ca4, .int), (ca5, .int), (ca6, .int), (ca7, .int), (ca8, .int)] s := hK
  refine W.widen (k := 9) (n := 2776) (by decide) (by decide) ?_
  refine va_putF (D := (dC, dI)) (ci := 6) (v := .ref q8) (ty := .array .int) (C := "RoomMakerModel") (T := mo_F) (N := 24) (ref := "RoomMakerModel") hx hb hts mo_in mo_t mo_ok mo_n hown hK hP hD hS 0 rfl rfl 14 (by decide) (hts _ rw_570) (fun _ h9 => h9) rfl hin rfl (by decide +kernel) rfl rfl (Nat.le_of_ble_eq_true rfl) mo_init_d77 (fun H locs hP hD hS => ?_)
  have hP : va_P (dC, dI) vwCl [(h0, .inr (6, [.int 0, .ref q0, .int 0, .ref q1, .int 0, .int 0, .ref q2, .ref q3, .ref q4, .int 0, .ref q5, .ref q6, .ref q7, .int 0, .ref q8, .null, .null, .null, .int 0, .int 0, .int 0, .int 0, .int 0, .int 0])), (q0, .inl (ca0, 256, .inl (fun _ => 0))), (q1, .inl (ca1, 32, .inl (fun _ => 0))), (q2, .inl (ca2, 2048, .inl (fun _ => 0))), (q3, .inl (ca3, 128, .inl (fun _ => 0))), (q4, .inl (ca4, 256, .inl (fun _ => 0))), (q5, .inl (ca5, 16, .inl (fun _ => 0))), (q6, .inl (ca6, 16, .inl (fun _ => 0))), (q7, .inl (ca7, 16, .inl (fun _ => 0))), (q8, .inl (ca8, 8, .inl (fun _ => 0)))] H := hP
  have hD : va_D A [(h0, .inr (6, [.int 0, .ref q0, .int 0, .ref q1, .int 0, .int 0, .ref q2, .ref q3, .ref q4, .int 0, .ref q5, .ref q6, .ref q7, .int 0, .ref q8, .null, .null, .null, .int 0, .int 0, .int 0, .int 0, .int 0, .int 0])), (q0, .inl (ca0, 256, .inl (fun _ => 0))), (q1, .inl (ca1, 32, .inl (fun _ => 0))), (q2, .inl (ca2, 2048, .inl (fun _ => 0))), (q3, .inl (ca3, 128, .inl (fun _ => 0))), (q4, .inl (ca4, 256, .inl (fun _ => 0))), (q5, .inl (ca5, 16, .inl (fun _ => 0))), (q6, .inl (ca6, 16, .inl (fun _ => 0))), (q7, .inl (ca7, 16, .inl (fun _ => 0))), (q8, .inl (ca8, 8, .inl (fun _ => 0)))] := hD
  refine lv_aload_n hx hb mo_init_d80 rfl (lv_at hl 0 rfl) ?_
  refine lv_bipush (v := 16) hx hb mo_init_d81 (by decide) ?_
  refine va_newa (atype := .int) (N' := 16) (a0 := (16, .inl (fun _ => 0))) hx hb (hts _ rw_53) (ty := .int) rfl hK hP hD hS hA (fun _ => rfl) (by decide) (by decide) (by decide) (by decide) (by decide) mo_init_d83 (fun q9 ca9 H hK hP hD hS => ?_)
  have hP : va_P (dC, dI) vwCl [(h0, .inr (6, [.int 0, .ref q0, .int 0, .ref q1, .int 0, .int 0, .ref q2, .ref q3, .ref q4, .int 0, .ref q5, .ref q6, .ref q7, .int 0, .ref q8, .null, .null, .null, .int 0, .int 0, .int 0, .int 0, .int 0, .int 0])), (q0, .inl (ca0, 256, .inl (fun _ => 0))), (q1, .inl (ca1, 32, .inl (fun _ => 0))), (q2, .inl (ca2, 2048, .inl (fun _ => 0))), (q3, .inl (ca3, 128, .inl (fun _ => 0))), (q4, .inl (ca4, 256, .inl (fun _ => 0))), (q5, .inl (ca5, 16, .inl (fun _ => 0))), (q6, .inl (ca6, 16, .inl (fun _ => 0))), (q7, .inl (ca7, 16, .inl (fun _ => 0))), (q8, .inl (ca8, 8, .inl (fun _ => 0))), (q9, .inl (ca9, 16, .inl (fun _ => 0)))] H := hP
  have hD : va_D A [(h0, .inr (6, [.int 0, .ref q0, .int 0, .ref q1, .int 0, .int 0, .ref q2, .ref q3, .ref q4, .int 0, .ref q5, .ref q6, .ref q7, .int 0, .ref q8, .null, .null, .null, .int 0, .int 0, .int 0, .int 0, .int 0, .int 0])), (q0, .inl (ca0, 256, .inl (fun _ => 0))), (q1, .inl (ca1, 32, .inl (fun _ => 0))), (q2, .inl (ca2, 2048, .inl (fun _ => 0))), (q3, .inl (ca3, 128, .inl (fun _ => 0))), (q4, .inl (ca4, 256, .inl (fun _ => 0))), (q5, .inl (ca5, 16, .inl (fun _ => 0))), (q6, .inl (ca6, 16, .inl (fun _ => 0))), (q7, .inl (ca7, 16, .inl (fun _ => 0))), (q8, .inl (ca8, 8, .inl (fun _ => 0))), (q9, .inl (ca9, 16, .inl (fun _ => 0)))] := hD
  have hK : va_K (dC, dI) vwCl [(ca0, .int), (ca1, .int), (ca2, .boolean), (ca3, .boolean), (ca4, .int), (ca5, .int), (ca6, .int), (ca7, .int), (ca8, .int), (ca9, .int)] s := hK
  refine W.widen (k := 10) (n := 2792) (by decide) (by decide) ?_
  refine va_putF (D := (dC, dI)) (ci := 6) (v := .ref q9) (ty := .array .int) (C := "RoomMakerModel") (T := mo_F) (N := 24) (ref := "RoomMakerModel") hx hb hts mo_in mo_t mo_ok mo_n hown hK hP hD hS 0 rfl rfl 15 (by decide) (hts _ rw_571) (fun _ h9 => h9) rfl hin rfl (by decide +kernel) rfl rfl (Nat.le_of_ble_eq_true rfl) mo_init_d85 (fun H locs hP hD hS => ?_)
  have hP : va_P (dC, dI) vwCl [(h0, .inr (6, [.int 0, .ref q0, .int 0, .ref q1, .int 0, .int 0, .ref q2, .ref q3, .ref q4, .int 0, .ref q5, .ref q6, .ref q7, .int 0, .ref q8, .ref q9, .null, .null, .int 0, .int 0, .int 0, .int 0, .int 0, .int 0])), (q0, .inl (ca0, 256, .inl (fun _ => 0))), (q1, .inl (ca1, 32, .inl (fun _ => 0))), (q2, .inl (ca2, 2048, .inl (fun _ => 0))), (q3, .inl (ca3, 128, .inl (fun _ => 0))), (q4, .inl (ca4, 256, .inl (fun _ => 0))), (q5, .inl (ca5, 16, .inl (fun _ => 0))), (q6, .inl (ca6, 16, .inl (fun _ => 0))), (q7, .inl (ca7, 16, .inl (fun _ => 0))), (q8, .inl (ca8, 8, .inl (fun _ => 0))), (q9, .inl (ca9, 16, .inl (fun _ => 0)))] H := hP
  have hD : va_D A [(h0, .inr (6, [.int 0, .ref q0, .int 0, .ref q1, .int 0, .int 0, .ref q2, .ref q3, .ref q4, .int 0, .ref q5, .ref q6, .ref q7, .int 0, .ref q8, .ref q9, .null, .null, .int 0, .int 0, .int 0, .int 0, .int 0, .int 0])), (q0, .inl (ca0, 256, .inl (fun _ => 0))), (q1, .inl (ca1, 32, .inl (fun _ => 0))), (q2, .inl (ca2, 2048, .inl (fun _ => 0))), (q3, .inl (ca3, 128, .inl (fun _ => 0))), (q4, .inl (ca4, 256, .inl (fun _ => 0))), (q5, .inl (ca5, 16, .inl (fun _ => 0))), (q6, .inl (ca6, 16, .inl (fun _ => 0))), (q7, .inl (ca7, 16, .inl (fun _ => 0))), (q8, .inl (ca8, 8, .inl (fun _ => 0))), (q9, .inl (ca9, 16, .inl (fun _ => 0)))] := hD
  refine lv_aload_n hx hb mo_init_d88 rfl (lv_at hl 0 rfl) ?_
  refine lv_bipush (v := 16) hx hb mo_init_d89 (by decide) ?_
  refine va_newa (atype := .int) (N' := 16) (a0 := (16, .inl (fun _ => 0))) hx hb (hts _ rw_53) (ty := .int) rfl hK hP hD hS hA (fun _ => rfl) (by decide) (by decide) (by decide) (by decide) (by decide) mo_init_d91 (fun q10 ca10 H hK hP hD hS => ?_)
  have hP : va_P (dC, dI) vwCl [(h0, .inr (6, [.int 0, .ref q0, .int 0, .ref q1, .int 0, .int 0, .ref q2, .ref q3, .ref q4, .int 0, .ref q5, .ref q6, .ref q7, .int 0, .ref q8, .ref q9, .null, .null, .int 0, .int 0, .int 0, .int 0, .int 0, .int 0])), (q0, .inl (ca0, 256, .inl (fun _ => 0))), (q1, .inl (ca1, 32, .inl (fun _ => 0))), (q2, .inl (ca2, 2048, .inl (fun _ => 0))), (q3, .inl (ca3, 128, .inl (fun _ => 0))), (q4, .inl (ca4, 256, .inl (fun _ => 0))), (q5, .inl (ca5, 16, .inl (fun _ => 0))), (q6, .inl (ca6, 16, .inl (fun _ => 0))), (q7, .inl (ca7, 16, .inl (fun _ => 0))), (q8, .inl (ca8, 8, .inl (fun _ => 0))), (q9, .inl (ca9, 16, .inl (fun _ => 0))), (q10, .inl (ca10, 16, .inl (fun _ => 0)))] H := hP
  have hD : va_D A [(h0, .inr (6, [.int 0, .ref q0, .int 0, .ref q1, .int 0, .int 0, .ref q2, .ref q3, .ref q4, .int 0, .ref q5, .ref q6, .ref q7, .int 0, .ref q8, .ref q9, .null, .null, .int 0, .int 0, .int 0, .int 0, .int 0, .int 0])), (q0, .inl (ca0, 256, .inl (fun _ => 0))), (q1, .inl (ca1, 32, .inl (fun _ => 0))), (q2, .inl (ca2, 2048, .inl (fun _ => 0))), (q3, .inl (ca3, 128, .inl (fun _ => 0))), (q4, .inl (ca4, 256, .inl (fun _ => 0))), (q5, .inl (ca5, 16, .inl (fun _ => 0))), (q6, .inl (ca6, 16, .inl (fun _ => 0))), (q7, .inl (ca7, 16, .inl (fun _ => 0))), (q8, .inl (ca8, 8, .inl (fun _ => 0))), (q9, .inl (ca9, 16, .inl (fun _ => 0))), (q10, .inl (ca10, 16, .inl (fun _ => 0)))] := hD
  have hK : va_K (dC, dI) vwCl [(ca0, .int), (ca1, .int), (ca2, .boolean), (ca3, .boolean), (ca4, .int), (ca5, .int), (ca6, .int), (ca7, .int), (ca8, .int), (ca9, .int), (ca10, .int)] s := hK
  refine W.widen (k := 11) (n := 2808) (by decide) (by decide) ?_
  refine va_putF (D := (dC, dI)) (ci := 6) (v := .ref q10) (ty := .array .int) (C := "RoomMakerModel") (T := mo_F) (N := 24) (ref := "RoomMakerModel") hx hb hts mo_in mo_t mo_ok mo_n hown hK hP hD hS 0 rfl rfl 16 (by decide) (hts _ rw_572) (fun _ h9 => h9) rfl hin rfl (by decide +kernel) rfl rfl (Nat.le_of_ble_eq_true rfl) mo_init_d93 (fun H locs hP hD hS => ?_)
  have hP : va_P (dC, dI) vwCl [(h0, .inr (6, [.int 0, .ref q0, .int 0, .ref q1, .int 0, .int 0, .ref q2, .ref q3, .ref q4, .int 0, .ref q5, .ref q6, .ref q7, .int 0, .ref q8, .ref q9, .ref q10, .null, .int 0, .int 0, .int 0, .int 0, .int 0, .int 0])), (q0, .inl (ca0, 256, .inl (fun _ => 0))), (q1, .inl (ca1, 32, .inl (fun _ => 0))), (q2, .inl (ca2, 2048, .inl (fun _ => 0))), (q3, .inl (ca3, 128, .inl (fun _ => 0))), (q4, .inl (ca4, 256, .inl (fun _ => 0))), (q5, .inl (ca5, 16, .inl (fun _ => 0))), (q6, .inl (ca6, 16, .inl (fun _ => 0))), (q7, .inl (ca7, 16, .inl (fun _ => 0))), (q8, .inl (ca8, 8, .inl (fun _ => 0))), (q9, .inl (ca9, 16, .inl (fun _ => 0))), (q10, .inl (ca10, 16, .inl (fun _ => 0)))] H := hP
  have hD : va_D A [(h0, .inr (6, [.int 0, .ref q0, .int 0, .ref q1, .int 0, .int 0, .ref q2, .ref q3, .ref q4, .int 0, .ref q5, .ref q6, .ref q7, .int 0, .ref q8, .ref q9, .ref q10, .null, .int 0, .int 0, .int 0, .int 0, .int 0, .int 0])), (q0, .inl (ca0, 256, .inl (fun _ => 0))), (q1, .inl (ca1, 32, .inl (fun _ => 0))), (q2, .inl (ca2, 2048, .inl (fun _ => 0))), (q3, .inl (ca3, 128, .inl (fun _ => 0))), (q4, .inl (ca4, 256, .inl (fun _ => 0))), (q5, .inl (ca5, 16, .inl (fun _ => 0))), (q6, .inl (ca6, 16, .inl (fun _ => 0))), (q7, .inl (ca7, 16, .inl (fun _ => 0))), (q8, .inl (ca8, 8, .inl (fun _ => 0))), (q9, .inl (ca9, 16, .inl (fun _ => 0))), (q10, .inl (ca10, 16, .inl (fun _ => 0)))] := hD
  refine lv_aload_n hx hb mo_init_d96 rfl (lv_at hl 0 rfl) ?_
  refine lv_bipush (v := 16) hx hb mo_init_d97 (by decide) ?_
  refine va_newa (atype := .int) (N' := 16) (a0 := (16, .inl (fun _ => 0))) hx hb (hts _ rw_53) (ty := .int) rfl hK hP hD hS hA (fun _ => rfl) (by decide) (by decide) (by decide) (by decide) (by decide) mo_init_d99 (fun q11 ca11 H hK hP hD hS => ?_)
  have hP : va_P (dC, dI) vwCl [(h0, .inr (6, [.int 0, .ref q0, .int 0, .ref q1, .int 0, .int 0, .ref q2, .ref q3, .ref q4, .int 0, .ref q5, .ref q6, .ref q7, .int 0, .ref q8, .ref q9, .ref q10, .null, .int 0, .int 0, .int 0, .int 0, .int 0, .int 0])), (q0, .inl (ca0, 256, .inl (fun _ => 0))), (q1, .inl (ca1, 32, .inl (fun _ => 0))), (q2, .inl (ca2, 2048, .inl (fun _ => 0))), (q3, .inl (ca3, 128, .inl (fun _ => 0))), (q4, .inl (ca4, 256, .inl (fun _ => 0))), (q5, .inl (ca5, 16, .inl (fun _ => 0))), (q6, .inl (ca6, 16, .inl (fun _ => 0))), (q7, .inl (ca7, 16, .inl (fun _ => 0))), (q8, .inl (ca8, 8, .inl (fun _ => 0))), (q9, .inl (ca9, 16, .inl (fun _ => 0))), (q10, .inl (ca10, 16, .inl (fun _ => 0))), (q11, .inl (ca11, 16, .inl (fun _ => 0)))] H := hP
  have hD : va_D A [(h0, .inr (6, [.int 0, .ref q0, .int 0, .ref q1, .int 0, .int 0, .ref q2, .ref q3, .ref q4, .int 0, .ref q5, .ref q6, .ref q7, .int 0, .ref q8, .ref q9, .ref q10, .null, .int 0, .int 0, .int 0, .int 0, .int 0, .int 0])), (q0, .inl (ca0, 256, .inl (fun _ => 0))), (q1, .inl (ca1, 32, .inl (fun _ => 0))), (q2, .inl (ca2, 2048, .inl (fun _ => 0))), (q3, .inl (ca3, 128, .inl (fun _ => 0))), (q4, .inl (ca4, 256, .inl (fun _ => 0))), (q5, .inl (ca5, 16, .inl (fun _ => 0))), (q6, .inl (ca6, 16, .inl (fun _ => 0))), (q7, .inl (ca7, 16, .inl (fun _ => 0))), (q8, .inl (ca8, 8, .inl (fun _ => 0))), (q9, .inl (ca9, 16, .inl (fun _ => 0))), (q10, .inl (ca10, 16, .inl (fun _ => 0))), (q11, .inl (ca11, 16, .inl (fun _ => 0)))] := hD
  have hK : va_K (dC, dI) vwCl [(ca0, .int), (ca1, .int), (ca2, .boolean), (ca3, .boolean), (ca4, .int), (ca5, .int), (ca6, .int), (ca7, .int), (ca8, .int), (ca9, .int), (ca10, .int), (ca11, .int)] s := hK
  refine W.widen (k := 12) (n := 2824) (by decide) (by decide) ?_
  refine va_putF (D := (dC, dI)) (ci := 6) (v := .ref q11) (ty := .array .int) (C := "RoomMakerModel") (T := mo_F) (N := 24) (ref := "RoomMakerModel") hx hb hts mo_in mo_t mo_ok mo_n hown hK hP hD hS 0 rfl rfl 17 (by decide) (hts _ rw_573) (fun _ h9 => h9) rfl hin rfl (by decide +kernel) rfl rfl (Nat.le_of_ble_eq_true rfl) mo_init_d101 (fun H locs hP hD hS => ?_)
  have hP : va_P (dC, dI) vwCl [(h0, .inr (6, [.int 0, .ref q0, .int 0, .ref q1, .int 0, .int 0, .ref q2, .ref q3, .ref q4, .int 0, .ref q5, .ref q6, .ref q7, .int 0, .ref q8, .ref q9, .ref q10, .ref q11, .int 0, .int 0, .int 0, .int 0, .int 0, .int 0])), (q0, .inl (ca0, 256, .inl (fun _ => 0))), (q1, .inl (ca1, 32, .inl (fun _ => 0))), (q2, .inl (ca2, 2048, .inl (fun _ => 0))), (q3, .inl (ca3, 128, .inl (fun _ => 0))), (q4, .inl (ca4, 256, .inl (fun _ => 0))), (q5, .inl (ca5, 16, .inl (fun _ => 0))), (q6, .inl (ca6, 16, .inl (fun _ => 0))), (q7, .inl (ca7, 16, .inl (fun _ => 0))), (q8, .inl (ca8, 8, .inl (fun _ => 0))), (q9, .inl (ca9, 16, .inl (fun _ => 0))), (q10, .inl (ca10, 16, .inl (fun _ => 0))), (q11, .inl (ca11, 16, .inl (fun _ => 0)))] H := hP
  have hD : va_D A [(h0, .inr (6, [.int 0, .ref q0, .int 0, .ref q1, .int 0, .int 0, .ref q2, .ref q3, .ref q4, .int 0, .ref q5, .ref q6, .ref q7, .int 0, .ref q8, .ref q9, .ref q10, .ref q11, .int 0, .int 0, .int 0, .int 0, .int 0, .int 0])), (q0, .inl (ca0, 256, .inl (fun _ => 0))), (q1, .inl (ca1, 32, .inl (fun _ => 0))), (q2, .inl (ca2, 2048, .inl (fun _ => 0))), (q3, .inl (ca3, 128, .inl (fun _ => 0))), (q4, .inl (ca4, 256, .inl (fun _ => 0))), (q5, .inl (ca5, 16, .inl (fun _ => 0))), (q6, .inl (ca6, 16, .inl (fun _ => 0))), (q7, .inl (ca7, 16, .inl (fun _ => 0))), (q8, .inl (ca8, 8, .inl (fun _ => 0))), (q9, .inl (ca9, 16, .inl (fun _ => 0))), (q10, .inl (ca10, 16, .inl (fun _ => 0))), (q11, .inl (ca11, 16, .inl (fun _ => 0)))] := hD
  exact W.vret hx hb hr (fun t ht hW => ⟨⟨(), rfl, trivial, (fun n => match n with | 0 => q0 | 1 => q1 | 2 => q2 | 3 => q3 | 4 => q4 | 5 => q5 | 6 => q6 | 7 => q7 | 8 => q8 | 9 => q9 | 10 => q10 | _ => q11), (fun n => match n with | 0 => ca0 | 1 => ca1 | 2 => ca2 | 3 => ca3 | 4 => ca4 | 5 => ca5 | 6 => ca6 | 7 => ca7 | 8 => ca8 | 9 => ca9 | 10 => ca10 | _ => ca11), by rw [ht]; exact hP, va_K.moved hW.alike hK, hD⟩, hS.F ht⟩) hS.2.2 mo_init_d104
