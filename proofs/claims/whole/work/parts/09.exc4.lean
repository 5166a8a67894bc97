/-! ===== methods with a table of handlers: the law's own ===== -/
def rx_Mw (l : Launch) (y : MethodName) (bytes : ByteArray) (maxL : Nat) (rt : Option FieldType) (hh : List (Nat × Nat × Nat × Nat)) (rm : Room) (Z : rb_Z) (as : List Value) (S : rb_S) (K : Int32 → rb_S → Prop) : Prop :=
  ∀ sz : Nat, Met l y (Cond.codeWith y bytes maxL rt hh :: rb_ws) rm (rb_Pc Z as S sz) (va_Qi K (rb_B Z (va_A (rb_w Z S) sz)) (va_A (rb_w Z S) sz)) rm.cells rm.slots (va_A (rb_w Z S) sz)
theorem rx_startW {l : Launch} {y : MethodName} {bytes : ByteArray} {maxL : Nat} {rt : Option FieldType} {hh : List (Nat × Nat × Nat × Nat)} {rm : Room} {Z : rb_Z} {as : List Value} {S : rb_S} {K : Int32 → rb_S → Prop} (hy : plainName y.cls = true) (hn : (lg_sl as).length ≤ maxL)
    (h : ∀ (p : Program) (e : Env) (s : State) (m : MethodId) (args : Array Value) (below : List Frame) (meth : Method) (c : Code) (A : Nat → Prop), rb_X p s m args meth c A Z bytes maxL y.cls rt → c.exceptionTable.toList.map (fun h => (h.startPc, h.endPc, h.handlerPc, h.catchType)) = hh → rb_V p l e rm s m args below meth c A (MQ below (va_Qi K (rb_B Z A) A) args s rm.cells rm.slots A) Z maxL 0 (lv_args 0 as) [] S 0 0) : rx_Mw l y bytes maxL rt hh rm Z as S K := by
  intro sz
  refine va_MetW (cc := bytes) (maxL := maxL) (ret := rt) (hh := hh) hy rfl ?_
  intro p e s m args below meth c s₁ B hml hv
  obtain ⟨rfl, hsz, hP, hK, hD0⟩ := hv
  subst hsz
  have hts := atoms_spec (ws := Cond.codeWith y bytes maxL rt hh :: rb_ws) B.pre
  have hown : s.vm.findClass y.cls = some m.cls := findClass_of_methodNamed B.named
  obtain ⟨m9, meth9, c9, hn9, h1, h2, -, -, h5, -, -, -⟩ := Cond.codeWith_spec (hts _ List.mem_cons_self)
  cases Option.some.inj (B.named.symm.trans hn9)
  cases Option.some.inj (B.method.symm.trans h1)
  cases Option.some.inj ((Stand.of_body B).code.symm.trans h2)
  have hl := lv_entry as (n := maxL) hn
  rw [lg_entry_eq]
  exact h p e s m as.toArray below meth c (va_A (rb_w Z S) s.heap.size) ⟨⟨B.exec, B.bytes, hml, hown, fun w hw => hts w (List.mem_cons_of_mem _ hw)⟩, hK, fun q hq => Or.inr hq, B.returns, B.notSynchronized⟩ h5 s.heap [] _ hP (hD0.self (sz := s.heap.size)) va_S.rf hl
/-- the first row of a table takes it; the second does, the first does not -/
theorem rx_H1 {own : String} {c : Code} {pc n a b h t : Nat} {r : List (Nat × Nat × Nat × Nat)} (hT : c.exceptionTable.toList.map (fun h => (h.startPc, h.endPc, h.handlerPc, h.catchType)) = (a, b, h, t) :: r) (h1 : a ≤ pc) (h2 : pc < b) (h0 : t ≠ 0) (hl : Cond.classLink own t (rx_nm n) ∈ rb_ws) (hc : rx_nm n ∈ rx_cast) : rx_H own c pc n h := by
  obtain ⟨x, suf, e1, e2, -⟩ := List.map_eq_cons_iff.mp hT
  simp only [Prod.mk.injEq] at e2
  obtain ⟨rfl, rfl, rfl, rfl⟩ := e2
  exact ⟨[], x, suf, e1, (fun _ q => nomatch q), by simp [covers, h1, h2], h0, hl, hc, rfl⟩
theorem rx_H2 {own nm : String} {c : Code} {pc n a b h t a' b' h' t' : Nat} {r : List (Nat × Nat × Nat × Nat)} (hT : c.exceptionTable.toList.map (fun h => (h.startPc, h.endPc, h.handlerPc, h.catchType)) = (a', b', h', t') :: (a, b, h, t) :: r) (g1 : a' ≤ pc) (g2 : pc < b') (g0 : t' ≠ 0) (gl : Cond.classLink own t' nm ∈ rb_ws) (gn : (rx_nm n, nm) ∈ rx_not) (h1 : a ≤ pc) (h2 : pc < b) (h0 : t ≠ 0) (hl : Cond.classLink own t (rx_nm n) ∈ rb_ws) (hc : rx_nm n ∈ rx_cast) : rx_H own c pc n h := by
  obtain ⟨y, rest, e1, e2, e3⟩ := List.map_eq_cons_iff.mp hT
  obtain ⟨x, suf, f1, f2, -⟩ := List.map_eq_cons_iff.mp e3
  simp only [Prod.mk.injEq] at e2 f2
  obtain ⟨rfl, rfl, rfl, rfl⟩ := e2
  obtain ⟨rfl, rfl, rfl, rfl⟩ := f2
  subst f1
  exact ⟨[y], x, suf, e1, fun z hz => by
    rw [List.mem_singleton] at hz
    subst hz
    exact ⟨by simp [covers, g1, g2], g0, nm, gl, gn⟩, by simp [covers, h1, h2], h0, hl, hc, rfl⟩
section RXW
variable {p : Program} {l : Launch} {e : Env} {R : Room} {s : State} {m : MethodId} {args : Array Value} {below : List Frame} {meth : Method} {c : Code} {A : Nat → Prop} {Q : State → Prop} {Z : rb_Z} {nL pc : Nat} {L : List (Nat × Value)} {st : List Value} {S : rb_S} {kc ks : Nat} {cc : ByteArray} {own : String} {ret : Option FieldType} {K : Int32 → rb_S → Prop}
variable {y : MethodName} {bytes : ByteArray} {maxL n index : Nat} {rt : Option FieldType} {hh : List (Nat × Nat × Nat × Nat)} {rm : Room} {As rest st0 : List Value}
theorem rx_callSW (X : rb_X p s m args meth c A Z cc nL own ret) (hM : rx_Mw l y bytes maxL rt hh rm Z As S K) (hcd : Cond.codeWith y bytes maxL rt hh ∈ rb_ws) (hin : Cond.initialized y.cls ∈ rb_ws) (hy : y.cls ≠ "java/lang/invoke/MethodHandle" ∧ y.cls ≠ "java/lang/invoke/VarHandle") (hde : (parseMethodDescriptor y.desc).map (fun d => d.parameters.length) = some n)
    (hR : rm.frames + 1 ≤ R.frames ∧ 8 + (maxL + 11) + rm.locals ≤ R.locals) (hl : Cond.methodLink own index y ∈ rb_ws) (hi : Cond.static y ∈ rb_ws) (hn : As.length = n) (hst : st0 = As.reverse ++ rest) (hr : (rest.map fun v => v.category).sum ≤ 8) (d : decode cc pc = .ok (.invokestatic index, 3)) (hf : kc + rm.cells ≤ R.cells ∧ ks + rm.slots ≤ R.slots)
    (k : ∀ (r : Int32) (S' : rb_S), K r S' → rb_V p l e R s m args below meth c A Q Z nL (pc + 3) L (.int r :: rest) S' (kc + rm.cells) (ks + rm.slots)) : rb_V p l e R s m args below meth c A Q Z nL pc L st0 S kc ks := by
  subst hst
  intro H locs ls hP hD hS hl'
  have hF := rb_freeA X hD hS
  obtain ⟨hx, hb, hml, hown, hts⟩ := X.1
  have hrun : va_Run p l e R s m args below meth c H locs kc ks rm.cells rm.slots (F0 m pc ls (As.reverse ++ rest)) rest (va_Qi K (rb_B Z (va_A (rb_w Z S) H.size)) (va_A (rb_w Z S) H.size) As.toArray) (va_A (rb_w Z S) H.size) := by
    intro T hT Y
    have hK := va_backW (R := R) (p := p) (e := e) (below := below) (s := s) (sargs := args) (len := 3) (W := 8) (bytes := bytes) (maxL := maxL) (ret := rt) (hh := hh) (hM H.size) rb_blind rfl rfl hR.1 hR.2 (pay_in hts (rb_good hcd)) List.mem_cons_self (fun a' U hW => word_at hW (good_of_word (List.mem_filter.mp hin).2) (hts _ hin))
    obtain ⟨mk, methM, cM, hnamed, hmethM, -, -, -, -, -, -, hsigM⟩ := Cond.codeWith_spec (hts _ hcd)
    have hstatic : methM.isStatic = true := Cond.static_spec hnamed hmethM (hts _ hi)
    obtain ⟨kP, hkP, -⟩ := className_of_methodNamed hnamed
    have hinitP : kP.init = .initialized := Cond.initialized_spec (findClass_of_methodNamed hnamed) hkP (hts _ hin)
    obtain ⟨vm₁, X₁, hstep₁⟩ := Y.invokestatic hx hown (hts _ hl) hnamed hmethM hstatic hkP hinitP hy (g := F0 m pc ls (As.reverse ++ rest)) rfl (argsL := As) (rest := rest) (hn.trans (rb_desc hde _ hsigM)) rfl (by rw [hb]; exact d)
    obtain ⟨v, ⟨U', l2, c2, s2⟩, X', ⟨g', mk', t, L1, e1, e2, hq, h1, hL, h2, h3⟩, hsteps⟩ := hK m meth c ⟨T.setVm vm₁, locs, kc, ks⟩ { F0 m pc ls (As.reverse ++ rest) with stack := rest } (.invokestatic index) mk As.toArray X₁ rfl (hl'.1.trans hml.symm) (by rw [hb]; exact d) (lv_room hr) (X₁.named hnamed) ⟨hf.1, hf.2, rb_pre X hP hD hS (T.setVm vm₁) hT X₁.warmed⟩
    dsimp only [Pt.U, Pt.locs, Pt.cells, Pt.slots] at X' e1 e2 h1 h2 h3 hsteps
    subst h1; subst h2; subst h3
    exact ⟨v, (T.setVm vm₁).calling g' mk' As.toArray, t, U', L1, hT, X', hL, e1, e2, hq, fun target h => hstep₁ _ fun acts => by rw [doInvoke_state]; exact hsteps.trans h⟩
  exact va_calli hrun hS (fun q _ h => hF q h) hF (fun r u t H1 locs1 ht hvm hp hB hz hk hS1 => k r u hp H1 locs1 ls (by rw [← ht]; exact hB.1) (hB.2.weaken (fun _ q _ h => hF q.1 h)) hS1 hl')
/-- the law's cell for an answer: one long, that is an int's -/
theorem rb_lald (X : rb_X p s m args meth c A Z cc nL own ret) (d : decode cc pc = .ok (.laload, 1)) (k : rb_V p l e R s m args below meth c A Q Z nL (pc + 1) L (.long (S 36 0).toInt64 :: st) S kc ks) : rb_V p l e R s m args below meth c A Q Z nL pc L (.int 0 :: .ref (Z.1 36) :: st) S kc ks := fun H locs ls hP hD hS hl =>
  va_lald X.1.1 X.1.2.1 X.2.1.1 hP 36 29 rfl rfl (by unfold vp_in; decide) d (k H locs ls hP hD hS hl)
theorem rb_last (X : rb_X p s m args meth c A Z cc nL own ret) {x : Int32} (d : decode cc pc = .ok (.lastore, 1)) (k : ∀ S1 : rb_S, S1 = rb_u S 36 0 x → rb_V p l e R s m args below meth c A Q Z nL (pc + 1) L st S1 kc ks) : rb_V p l e R s m args below meth c A Q Z nL pc L (.long x.toInt64 :: .int 0 :: .ref (Z.1 36) :: st) S kc ks := fun H locs ls hP hD hS hl =>
  va_last X.1.1 X.1.2.1 X.2.1.1 hP hD hS 36 29 rfl rfl (by unfold vp_in; decide) d (fun H1 locs1 hP1 hD1 hS1 => by
    have e : (rb_w Z S).set 36 (Z.1 36, .inl (rb_ca Z 36, 1, .inr (.inl (vp_updL (fun j => (S 36 j).toInt64) (0 : Int32).toNatClampNeg x.toInt64)))) = rb_w Z (rb_u S 36 0 x) := by
      have hf : vp_updL (fun j => (S 36 j).toInt64) (0 : Int32).toNatClampNeg x.toInt64 = fun j => (rb_u S 36 0 x 36 j).toInt64 := by
        funext j
        show (if j = 0 then x.toInt64 else (S 36 j).toInt64) = (if j = 0 then x else S 36 j).toInt64
        by_cases hj : j = 0
        · rw [if_pos hj, if_pos hj]
        · rw [if_neg hj, if_neg hj]
      rw [hf]
      rfl
    exact k _ rfl H1 locs1 ls (e ▸ hP1) (e ▸ hD1) hS1 hl)
theorem rb_iretW {r : Int32} (X : rb_X p s m args meth c A Z cc nL own (some .int)) (d : decode cc pc = .ok (.ireturn, 1)) (h : K r S) : rb_V p l e R s m args below meth c A (MQ below (va_Qi K (rb_B Z A) A) args s kc ks A) Z nL pc L [.int r] S kc ks := rb_iret X d h
theorem rb_astoreE (X : rb_X p s m args meth c A Z cc nL own ret) {x : Nat} {j : Fin 4} (i : Nat) (d : decode cc pc = .ok (.astore_n j, 1)) (hj : (j : Nat) = i) (hn : i < nL) (k : rb_V p l e R s m args below meth c A Q Z nL (pc + 1) [] st S kc ks) : rb_V p l e R s m args below meth c A Q Z nL pc L (.ref x :: st) S kc ks := fun H locs ls hP hD hS hl =>
  lv_astore_n X.1.1 X.1.2.1 d hj hl hn rfl (fun ls' hl' => k H locs ls' hP hD hS (lv_sub hl' [] rfl))
theorem rb_astoreE2 (X : rb_X p s m args meth c A Z cc nL own ret) {x : Nat} (i : Nat) (d : decode cc pc = .ok (.astore i, 2)) (hn : i < nL) (k : rb_V p l e R s m args below meth c A Q Z nL (pc + 2) [] st S kc ks) : rb_V p l e R s m args below meth c A Q Z nL pc L (.ref x :: st) S kc ks := fun H locs ls hP hD hS hl =>
  lv_astore X.1.1 X.1.2.1 d hl hn rfl (fun ls' hl' => k H locs ls' hP hD hS (lv_sub hl' [] rfl))
end RXW
