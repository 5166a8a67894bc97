section RXB
variable {p : Program} {l : Launch} {e : Env} {R : Room} {s : State} {m : MethodId} {args : Array Value} {below : List Frame} {meth : Method} {c : Code} {Z : rb_Z} {S : rb_S} {K : Int32 → rb_S → Prop} {KX : Nat → rb_S → Prop}
variable {y : MethodName} {bytes : ByteArray} {maxL : Nat} {rt : Option FieldType} {rm : Room} {as : List Value}
/-- behind the invocation: the callee has answered, or its exception lies over the caller's frame -/
theorem rx_back {U : State} {locs : List Loc} {kc ks : Nat} (Y : Stand p l e R s m args below meth c U locs kc ks) {g : JFrame} (hg : g.method = m) (hsize : g.locals.size = c.maxLocals) {ig : Instr} {len : Nat} (hdg : decode c.code g.pc = .ok (ig, len)) (hW : 2 * g.monitorRoom + (g.stack.map fun v => v.category).sum ≤ 8)
    {mk : MethodId} (hn : U.methodNamed? y = some mk) (hM : rx_M l y bytes maxL rt rm Z as S K KX) (hws : ∀ w ∈ Cond.code y bytes maxL rt :: rb_ws, w.before as.toArray U = true) (hini : (Cond.initialized y.cls).before as.toArray U = true)
    (hfr : rm.frames + 1 ≤ R.frames) (hlo : 8 + (maxL + 11) + rm.locals ≤ R.locals) (hc : kc + rm.cells ≤ R.cells) (hs : ks + rm.slots ≤ R.slots) (hPc : rb_Pc Z as S U.heap.size as.toArray U) :
    ∃ (t : State) (L : List Loc), (∀ q ∈ L, va_A (rb_w Z S) U.heap.size q.base) ∧ va_F (va_A (rb_w Z S) U.heap.size) U t ∧ Stand p l e R s m args below meth c (({ U with heap := t.heap, slotsUsed := t.slotsUsed } : State).setVm t.vm) (locs ++ L) (kc + rm.cells) (ks + rm.slots) ∧
      ((∃ (r : Int32) (u : rb_S), K r u ∧ rb_B Z (va_A (rb_w Z S) U.heap.size) u t ∧ Steps p.tables e below (doInvoke e (U.setTop g) [] mk as.toArray).1 ((({ U with heap := t.heap, slotsUsed := t.slotsUsed } : State).setVm t.vm).setTop { g with pc := g.pc + len, stack := .int r :: g.stack })) ∨
       (∃ (n : Nat) (u : rb_S) (q : Addr) (ce : Cell), KX n u ∧ rb_B Z (va_A (rb_w Z S) U.heap.size) u t ∧ (t.heap[q]? = some ce ∧ ce.vm = .none ∧ U.vm.findClass (rx_nm n) = some ce.cls) ∧ Steps p.tables e below (doInvoke e (U.setTop g) [] mk as.toArray).1 (((({ U with heap := t.heap, slotsUsed := t.slotsUsed } : State).setVm t.vm).setTop g).pushFrame (.throwing q)))) := by
  have h2 : (Cond.code y bytes maxL rt).before as.toArray U = true := hws _ List.mem_cons_self
  obtain ⟨methY, cY, hmY, hcY, -, hlY, -, -, -, -⟩ := Cond.code_spec hn h2
  obtain ⟨kY, hkY, -⟩ := className_of_methodNamed hn
  have hinitY : kY.init = .initialized := Cond.initialized_spec (findClass_of_methodNamed hn) hkY hini
  have h : At U g.method c below := by rw [hg]; exact Y.here
  have happ : (headSpec (Cond.code y bytes maxL rt :: rb_ws) rm).appliesLoose y e.platform (U.calling g mk as.toArray) = true :=
    Spec.appliesLoose_calling (g := g) h hdg hn hkY hinitY
      (Y.room_calling (g := g) (R' := (headSpec (Cond.code y bytes maxL rt :: rb_ws) rm).room) hsize hmY hcY hfr (by rw [hlY]; show _ + (maxL + 11) + rm.locals ≤ R.locals; omega) hc hs) (atoms_intro hws)
  obtain ⟨mid, hmid⟩ := h.above
  have hfrs : (U.setTop g).frames = (.java g :: mid) ++ below := by rw [State.frames_setTop' g h.top, hmid]; rfl
  obtain ⟨o, t, hsteps, -, hend, hq⟩ := Steps.callFree (hM U.heap.size) p Y.admits Y.cas Y.clock (acts := []) hfrs happ (rb_blind _ _ _ _ hPc) trivial
  have hq' : rx_Q Z (va_A (rb_w Z S) U.heap.size) K KX rm.cells rm.slots as.toArray (U.calling g mk as.toArray) o t := hq
  rw [State.frames_setTop' g h.top] at hend
  obtain ⟨g₀, hg0⟩ := Option.isSome_iff_exists.mp h.top
  obtain ⟨r, hr⟩ := State.topJava?_eq_some.mp hg0
  have hr' : (({ U with heap := t.heap, slotsUsed := t.slotsUsed } : State).setVm t.vm).frames = .java g₀ :: r := hr
  have same : ∀ L : List Loc, (U.calling g mk as.toArray).sameButNew ({ t with vm := (U.calling g mk as.toArray).vm } : State) L rm.cells rm.slots →
      t = ({ (U.calling g mk as.toArray).setFrames t.frames with heap := t.heap, slotsUsed := t.slotsUsed } : State).setVm t.vm ∧ U.sameButNew ({ U with heap := t.heap, slotsUsed := t.slotsUsed } : State) L rm.cells rm.slots := by
    intro L hsm
    obtain ⟨e2, q2, q3, q4, q5, q6⟩ := hsm
    refine ⟨?_, ?_, q2, q3, q4, q5, q6⟩
    · have : t = ({ t with vm := (U.calling g mk as.toArray).vm } : State).setVm t.vm := rfl
      rw [e2] at this
      exact this
    · obtain ⟨th, ht, -⟩ := State.frames_cons hr
      show ({ U with heap := t.heap, slotsUsed := t.slotsUsed } : State) = { U.setFrames U.frames with heap := t.heap, slotsUsed := t.slotsUsed }
      rw [State.setFrames_self ht]
  subst hg
  have stand : ∀ L : List Loc, U.WarmedH t.vm → U.sameButNew ({ U with heap := t.heap, slotsUsed := t.slotsUsed } : State) L rm.cells rm.slots → Stand p l e R s g.method args below meth c (({ U with heap := t.heap, slotsUsed := t.slotsUsed } : State).setVm t.vm) (locs ++ L) (kc + rm.cells) (ks + rm.slots) := fun L hW' hsame =>
    ⟨Y.admits, Y.cas, Y.clock, Y.frames, Y.room, Y.hears, Y.method, Y.code, (Y.here.setHeapUsed t.heap t.slotsUsed).setVm hW'.alike, Y.tail, State.WarmedH.trans Y.warmed hW', Y.limits, Y.bytes, Y.same.trans (hsame.setVm s.vm)⟩
  rcases hq' with ⟨⟨⟨rr, u, rfl, hK, hB⟩, hF⟩, L, hfe, hL⟩ | ⟨n, u, q, ce, L, rfl, hK, hB, hF, hce, hW₂, hsm, hL⟩
  · obtain ⟨-, hW₂, hsm⟩ := hfe
    obtain ⟨e3, hsame⟩ := same L hsm
    obtain ⟨c₂, i₂, len₂, hc₂, hd₂, hf₂⟩ := hend
    have hW' : U.WarmedH t.vm := hW₂
    have hcc : c₂ = c := by
      have h1 : t.code? g.method = U.code? g.method := by
        rw [State.code?_eq, State.code?_eq, hW'.alike.method?]
      exact Option.some.inj (hc₂.symm.trans (h1.trans h.code))
    subst hcc
    have hlen : len₂ = len := by rw [hdg] at hd₂; cases hd₂; rfl
    subst hlen
    have hs₂ : t = (({ U with heap := t.heap, slotsUsed := t.slotsUsed } : State).setVm t.vm).setTop { g with pc := g.pc + len₂, stack := .int rr :: g.stack } := by
      refine e3.trans ?_
      rw [hf₂, State.calling_eq h.top, State.setFrames_setFrames, State.setTop_of_frames _ hr', hr]
      rfl
    refine ⟨t, L, hL, hF, stand L hW' hsame, Or.inl ⟨rr, u, hK, hB, ?_⟩⟩
    rw [← hs₂]
    exact hsteps
  · obtain ⟨e3, hsame⟩ := same L hsm
    have hf₂ : t.frames = .throwing q :: .java g :: U.frames.tail := hend
    have hW' : U.WarmedH t.vm := hW₂
    have hs₂ : t = ((({ U with heap := t.heap, slotsUsed := t.slotsUsed } : State).setVm t.vm).setTop g).pushFrame (.throwing q) := by
      refine e3.trans ?_
      rw [hf₂, State.calling_eq h.top, State.setFrames_setFrames, State.pushFrame, State.frames_setTop _ hr', State.setTop_of_frames _ hr', State.setFrames_setFrames, hr]
      rfl
    refine ⟨t, L, hL, hF, stand L hW' hsame, Or.inr ⟨n, u, q, ce, hK, hB, hce, ?_⟩⟩
    rw [← hs₂]
    exact hsteps
end RXB
section RXC
variable {p : Program} {l : Launch} {e : Env} {R : Room} {s : State} {m : MethodId} {args : Array Value} {below : List Frame} {meth : Method} {c : Code} {A : Nat → Prop} {Q : State → Prop} {Z : rb_Z} {nL pc : Nat} {L : List (Nat × Value)} {S : rb_S} {kc ks : Nat} {cc : ByteArray} {own : String} {ret : Option FieldType} {K : Int32 → rb_S → Prop} {KX : Nat → rb_S → Prop}
variable {y : MethodName} {bytes : ByteArray} {maxL n index q0 ci N : Nat} {rt : Option FieldType} {rm : Room} {As rest st0 fs : List Value} {T : u_T}
/-- the rows of a table that an exception of number n meets at pc, and where it comes out -/
def rx_H (own : String) (c : Code) (pc n h : Nat) : Prop := ∃ (pre : List ExceptionTableEntry) (x : ExceptionTableEntry) (suf : List ExceptionTableEntry), c.exceptionTable.toList = pre ++ x :: suf ∧ (∀ z ∈ pre, covers z pc = true ∧ z.catchType ≠ 0 ∧ ∃ nm : String, Cond.classLink own z.catchType nm ∈ rb_ws ∧ (rx_nm n, nm) ∈ rx_not) ∧ covers x pc = true ∧ x.catchType ≠ 0 ∧ Cond.classLink own x.catchType (rx_nm n) ∈ rb_ws ∧ rx_nm n ∈ rx_cast ∧ x.handlerPc = h
/-- a call inside a try: the answer, or a handler -/
theorem rx_callV (X : rb_X p s m args meth c A Z cc nL own ret) (hM : rx_M l y bytes maxL rt rm Z (.ref (Z.1 q0) :: As) S K KX) (cw : rb_cw y bytes maxL rt n) (hR : rm.frames + 1 ≤ R.frames ∧ 8 + (maxL + 11) + rm.locals ≤ R.locals) (hl : Cond.methodLink own index y ∈ rb_ws) (hi : Cond.instanceMethod y ∈ rb_ws) (hs : Cond.selects y.cls y y ∈ rb_ws)
    (he : (rb_w Z S)[q0]? = some (Z.1 q0, .inr (ci, fs))) (hc : vwCl[ci]? = some (y.cls, T, N)) (hn : As.length = n) (hst : st0 = As.reverse ++ .ref (Z.1 q0) :: rest) (hr : (rest.map fun v => v.category).sum ≤ 8) (d : decode cc pc = .ok (.invokevirtual index, 3)) (hf : kc + rm.cells ≤ R.cells ∧ ks + rm.slots ≤ R.slots)
    (k : ∀ (r : Int32) (S' : rb_S), K r S' → rb_V p l e R s m args below meth c A Q Z nL (pc + 3) L (.int r :: rest) S' (kc + rm.cells) (ks + rm.slots))
    (kx : ∀ (n : Nat) (S' : rb_S), KX n S' → ∃ h : Nat, rx_H own c pc n h ∧ ∀ q : Nat, rb_V p l e R s m args below meth c A Q Z nL h L [.ref q] S' (kc + rm.cells) (ks + rm.slots)) :
    rb_V p l e R s m args below meth c A Q Z nL pc L st0 S kc ks := by
  subst hst
  intro H locs ls hP hD hS hl' T0 hT Y
  obtain ⟨hx, hb, hml, hown, hts⟩ := X.1
  have hF := rb_freeA X hD hS
  obtain ⟨mk, methM, hnamed, hmethM, hstM, habM⟩ := Cond.instanceMethod_spec (hts _ hi)
  obtain ⟨methM', cM, hmethM', -, -, -, -, -, -, hsigM⟩ := Cond.code_spec hnamed (hts _ cw.1)
  cases hmethM.symm.trans hmethM'
  obtain ⟨c2, r2, m2, q1, q2, q3, q4, kP, hkP, hkPi⟩ := Cond.selects_spec (hts _ hs)
  obtain ⟨cellB, hcB, hoB, hclB⟩ := rb_recv X hP he hc
  cases Option.some.inj (hclB.symm.trans q1)
  cases (State.methodFound?_of_named hnamed cw.2.2.1).symm.trans q2
  cases hnamed.symm.trans q3
  have hselP : selectMethod e.platform s.vm cellB.cls mk = .method mk := by rw [Launch.admits_selectMethod Y.admits]; exact q4
  obtain ⟨vm₁, X₁, hstep₁⟩ := Y.invokevirtual hx hown (hts _ hl) hnamed hmethM hstM hkP hkPi cw.2.2.1 (a := Z.1 q0) (cell := cellB) (by rw [hT]; exact hcB)
    (fun z h => by rw [h] at hoB; cases hoB) hselP hmethM habM hkP hkPi (g := F0 m pc ls (As.reverse ++ .ref (Z.1 q0) :: rest)) rfl (argsL := As) (rest := rest) (hn.trans (rb_desc cw.2.2.2 _ hsigM)) rfl (by rw [hb]; exact d)
  have hUh : (T0.setVm vm₁).heap = H := hT
  have good : ∀ w ∈ rb_ws, w.before (Value.ref (Z.1 q0) :: As).toArray (T0.setVm vm₁) = true := fun w hw => word_at X₁.warmed (good_of_word (List.mem_filter.mp hw).2) (hts w hw)
  have hpre := rb_pre (as := .ref (Z.1 q0) :: As) X hP hD hS (T0.setVm vm₁) hUh X₁.warmed
  rw [← hUh] at hpre
  obtain ⟨t, L1, hL1, hFt, X2, hcase⟩ := rx_back X₁ (g := { F0 m pc ls (As.reverse ++ .ref (Z.1 q0) :: rest) with stack := rest }) rfl (hl'.1.trans hml.symm) (ig := .invokevirtual index) (len := 3) (by rw [hb]; exact d) (lv_room hr) (X₁.named hnamed) hM
    (fun w hw => by
      rcases List.mem_cons.mp hw with rfl | h1
      · exact good _ cw.1
      · exact good w h1) (good _ cw.2.1) hR.1 hR.2 hf.1 hf.2 hpre
  rw [hUh] at hL1 hFt hcase
  have hFt' : H.size ≤ t.heap.size ∧ ∀ q : Nat, q < H.size → ¬ va_A (rb_w Z S) H.size q → t.heap[q]? = H[q]? := ⟨by rw [← hUh]; exact hFt.1, fun q h1 h2 => by
    have := hFt.2 q (by rw [hUh]; exact h1) h2
    rw [hUh] at this
    exact this⟩
  have hS1 : va_S A s.heap t.heap (locs ++ L1) := ⟨Nat.le_trans hS.1 hFt'.1, fun q h1 h2 => by rw [hFt'.2 q (Nat.lt_of_lt_of_le h1 hS.1) (fun z => h2 (hF q z))]; exact hS.2.1 q h1 h2, fun q hq => by
    rcases List.mem_append.mp hq with h | h
    · exact hS.2.2 q h
    · exact hF _ (hL1 q h)⟩
  rcases hcase with ⟨r, u, hK, hB, hst⟩ | ⟨nx, u, q, ce, hK, hB, ⟨hce, hcv, hcl⟩, hst⟩
  · obtain ⟨t2, a1, b1⟩ := k r u hK t.heap (locs ++ L1) ls hB.1 (hB.2.weaken (fun _ q _ h => hF q.1 h)) hS1 hl' (({ T0.setVm vm₁ with heap := t.heap, slotsUsed := t.slotsUsed } : State).setVm t.vm) rfl X2
    exact ⟨t2, hstep₁ _ fun acts => by rw [doInvoke_state]; exact hst.trans a1, b1⟩
  · obtain ⟨h, ⟨pre, x, suf, hsplit, hpass, hx1, hx0, hlink, hcast, hh⟩, kk⟩ := kx nx u hK
    have hcl' : s.vm.findClass (rx_nm nx) = some ce.cls := by
      have h1 : (T0.setVm vm₁).vm.findClass (rx_nm nx) = some ce.cls := hcl
      rw [X₁.warmed.alike.findClass] at h1
      exact h1
    obtain ⟨x1, x2, x3, x4, x5, x6⟩ := X.2.1.2.2.2
    obtain ⟨vm2, X3, st3⟩ := rx_caught X2 (g := { F0 m pc ls (As.reverse ++ .ref (Z.1 q0) :: rest) with stack := rest }) rfl q (cell := ce) hce hcv hcl' hown pre x suf hsplit
      (fun z hz => by
        obtain ⟨g1, g2, nm, g3, g4⟩ := hpass z hz
        exact ⟨g1, g2, nm, hts _ g3, x2 _ g4⟩) hx1 hx0 (hts _ hlink) (x1 _ hcast)
    obtain ⟨t2, a1, b1⟩ := kk q t.heap (locs ++ L1) ls hB.1 (hB.2.weaken (fun _ q _ h => hF q.1 h)) hS1 hl' ((({ T0.setVm vm₁ with heap := t.heap, slotsUsed := t.slotsUsed } : State).setVm t.vm).setVm vm2) rfl X3
    rw [← hh] at a1
    exact ⟨t2, hstep₁ _ fun acts => by rw [doInvoke_state]; exact hst.trans (st3 _ a1), b1⟩
end RXC
