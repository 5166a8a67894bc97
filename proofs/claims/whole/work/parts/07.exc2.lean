/-! ===== contracts of methods that may throw ===== -/
/-- how such a method ends: it answers r, with K; or it throws the exception of number n, with KX -/
def rx_Q (Z : rb_Z) (A : Nat → Prop) (K : Int32 → rb_S → Prop) (KX : Nat → rb_S → Prop) (mc ms : Nat) : Array Value → State → Outcome → State → Prop := fun a st o t =>
  (va_Qi K (rb_B Z A) A a st o t ∧ ∃ L, FrameEnd st o t L mc ms ∧ ∀ q ∈ L, A q.base) ∨
  ∃ (n : Nat) (u : rb_S) (q : Addr) (ce : Cell) (L : List Loc), o = .threw q ∧ KX n u ∧ rb_B Z A u t ∧ va_F A st t ∧ (t.heap[q]? = some ce ∧ ce.vm = .none ∧ st.vm.findClass (rx_nm n) = some ce.cls) ∧ st.WarmedH t.vm ∧ st.sameButNew ({ t with vm := st.vm } : State) L mc ms ∧ ∀ z ∈ L, A z.base
def rx_MQ (below : List Frame) (Z : rb_Z) (A : Nat → Prop) (K : Int32 → rb_S → Prop) (KX : Nat → rb_S → Prop) (a : Array Value) (s : State) (mc ms : Nat) : State → Prop := fun t =>
  ∃ o, t.status = .running ∧ Ended t below o ∧ rx_Q Z A K KX mc ms a s o t
def rx_M (l : Launch) (y : MethodName) (bytes : ByteArray) (maxL : Nat) (rt : Option FieldType) (rm : Room) (Z : rb_Z) (as : List Value) (S : rb_S) (K : Int32 → rb_S → Prop) (KX : Nat → rb_S → Prop) : Prop :=
  ∀ sz : Nat, MetFree l y (headSpec (Cond.code y bytes maxL rt :: rb_ws) rm) (rb_Pc Z as S sz) (fun _ _ _ _ _ => True) (rx_Q Z (va_A (rb_w Z S) sz) K KX rm.cells rm.slots)
theorem rx_start {l : Launch} {y : MethodName} {bytes : ByteArray} {maxL : Nat} {rt : Option FieldType} {rm : Room} {Z : rb_Z} {as : List Value} {S : rb_S} {K : Int32 → rb_S → Prop} {KX : Nat → rb_S → Prop} (hy : plainName y.cls = true) (hn : (lg_sl as).length ≤ maxL)
    (h : ∀ (p : Program) (e : Env) (s : State) (m : MethodId) (args : Array Value) (below : List Frame) (meth : Method) (c : Code) (A : Nat → Prop), rb_X p s m args meth c A Z bytes maxL y.cls rt → c.exceptionTable.toList = [] → rb_V p l e rm s m args below meth c A (rx_MQ below Z A K KX args s rm.cells rm.slots) Z maxL 0 (lv_args 0 as) [] S 0 0) : rx_M l y bytes maxL rt rm Z as S K KX := by
  intro sz
  refine MetFree.of_bodyS (code := bytes) (maxLocals := maxL) (ret := rt) hy ?_ ?_
  · intro args s m h hn
    obtain ⟨meth, c, h1, h2, h3, h4, h5, h6, -, -⟩ := Cond.code_spec hn (atoms_spec (ws := Cond.code y bytes maxL rt :: rb_ws) h _ List.mem_cons_self)
    exact ⟨meth, c, h1, h2, h3, h4, h5, h6⟩
  · intro p e s m args below meth c s₁ B hml hv _
    obtain ⟨rfl, hsz, hP, hK, hD0⟩ := hv
    subst hsz
    have hh0 : s₁.heap = s.heap := by rw [B.state]; rfl
    have hts := atoms_spec (ws := Cond.code y bytes maxL rt :: rb_ws) B.pre
    have hown : s.vm.findClass y.cls = some m.cls := findClass_of_methodNamed B.named
    have hno : c.exceptionTable.toList = [] := by
      have := B.noHandlers (hts _ List.mem_cons_self)
      simpa using this
    have hl := lv_entry as (n := maxL) hn
    have k := h p e s m as.toArray below meth c (va_A (rb_w Z S) s.heap.size) ⟨⟨B.exec, B.bytes, hml, hown, fun w hw => hts w (List.mem_cons_of_mem _ hw)⟩, hK, fun q hq => Or.inr hq, B.returns, B.notSynchronized⟩ hno s.heap [] _ hP (hD0.self (sz := s.heap.size)) va_S.rf hl
    rw [← lg_entry_eq] at k
    obtain ⟨t, a1, o, b1, b2, b3⟩ := k s₁ hh0 (Stand.of_body B)
    exact ⟨t, o, a1, b1, b2, b3⟩
section RXV
variable {p : Program} {l : Launch} {e : Env} {R : Room} {s : State} {m : MethodId} {args : Array Value} {below : List Frame} {meth : Method} {c : Code} {A : Nat → Prop} {Z : rb_Z} {nL pc : Nat} {L : List (Nat × Value)} {st : List Value} {S : rb_S} {kc ks mc ms : Nat} {cc : ByteArray} {own : String} {ret : Option FieldType} {K : Int32 → rb_S → Prop} {KX : Nat → rb_S → Prop}
/-- an answer, of a method that may throw -/
theorem rx_of {Q Q' : State → Prop} (h : ∀ t, Q t → Q' t) (k : rb_V p l e R s m args below meth c A Q Z nL pc L st S kc ks) : rb_V p l e R s m args below meth c A Q' Z nL pc L st S kc ks := fun H locs ls hP hD hS hl T hT X => by
  obtain ⟨t, a1, b1⟩ := k H locs ls hP hD hS hl T hT X
  exact ⟨t, a1, h t b1⟩
theorem rx_ret (k : rb_V p l e R s m args below meth c A (MQ below (va_Qi K (rb_B Z A) A) args s mc ms A) Z nL pc L st S kc ks) : rb_V p l e R s m args below meth c A (rx_MQ below Z A K KX args s mc ms) Z nL pc L st S kc ks :=
  rx_of (fun t h => by
    obtain ⟨o, b1, b2, b3, b4⟩ := h
    exact ⟨o, b1, b2, Or.inl ⟨b3, b4⟩⟩) k
/-- the same frame seen from here: as if the method had been entered in this heap -/
theorem rx_rebase {T : State} {locs : List Loc} (X : Stand p l e R s m args below meth c T locs kc ks) (R1 : Room) (hf : R1.frames ≤ R.frames) (hl : R1.locals ≤ R.locals) (hc : kc + R1.cells ≤ R.cells) (hs : ks + R1.slots ≤ R.slots) : Stand p l e R1 ((T.setVm s.vm).setFrames (.invoking m args :: below)) m args below meth c T [] 0 0 := by
  have htop : (T.setVm s.vm).topJava?.isSome := X.here.top
  have hF : ((T.setVm s.vm).setFrames (.invoking m args :: below)).frames = .invoking m args :: below := State.frames_setFrames _ (State.cur_lt_of_top htop)
  obtain ⟨g₀, hg0⟩ := Option.isSome_iff_exists.mp htop
  obtain ⟨r, hr⟩ := State.topJava?_eq_some.mp hg0
  have hlim : e.platform.stackLimits (T.setVm s.vm).me = e.platform.stackLimits s.me := X.limits
  have hby : (T.setVm s.vm).me.stackBytes = s.me.stackBytes := X.bytes
  have hdrop : T.heap.toList.drop T.heap.size = [] := List.drop_eq_nil_of_le (Nat.le_of_eq Array.length_toList)
  refine ⟨X.admits, X.cas, X.clock, hF, ?_, X.hears, X.method, X.code, X.here, X.tail, X.warmed, by rw [State.stackLimits_setFrames]; rfl, by rw [State.stackBytes_setFrames]; rfl, ?_⟩
  · have h := X.room
    have hU : ((T.setVm s.vm).setFrames (.invoking m args :: below)).localsInUse = s.localsInUse := by
      rw [State.localsInUse_invoking hF (meth := meth) (c := c) X.method X.code, State.localsInUse_invoking X.frames X.method X.code]
    simp only [State.hasRoom, Bool.and_eq_true, decide_eq_true_eq] at h ⊢
    obtain ⟨⟨⟨⟨h1, h2, h3, h4, h5, h6⟩, h7⟩, h8⟩, h9⟩ := h
    rw [X.frames, List.length_cons] at h2 h3
    have q1 := X.heapSize
    have q2 := X.used
    simp only [hF, hU, List.length_cons, State.stackLimits_setFrames, State.stackBytes_setFrames, hlim, hby]
    refine ⟨⟨⟨⟨by omega, by omega, by omega, by omega, by omega, h6⟩, ?_⟩, ?_⟩, X.book⟩
    · show T.heap.size + R1.cells ≤ e.platform.maxCells
      omega
    · show T.slotsUsed + R1.slots ≤ e.platform.maxSlots
      omega
  · refine ⟨?_, Nat.le_refl _, Nat.le_refl _, ?_, ?_, fun a c9 h9 => ⟨c9, h9, rfl, rfl, fun _ _ => rfl⟩⟩
    · obtain ⟨t, ht, -⟩ := State.frames_cons hr
      show T.setVm s.vm = { ((T.setVm s.vm).setFrames (.invoking m args :: below)).setFrames (T.setVm s.vm).frames with heap := T.heap, slotsUsed := T.slotsUsed }
      rw [State.setFrames_setFrames, State.setFrames_self ht]
      rfl
    · show T.slotsUsed = T.slotsUsed + ((T.heap.toList.drop T.heap.size).map (·.slots.size)).sum
      rw [hdrop]
      rfl
    · show ((T.heap.toList.drop T.heap.size).map (·.slots.size)).sum ≤ 0
      rw [hdrop]
      exact Nat.le_refl _
/-- 'throw new E("text")': new; dup; ldc; invokespecial; athrow -/
theorem rx_throw {ik is ic : Nat} (n : Nat) (text : String) (hlt : l.stackTraces = false) (X : rb_X p s m args meth c A Z cc nL "RoomMaker" ret) (hno : c.exceptionTable.toList = [])
    (hcls : Bundle.fit (rx_nm n) = true) (hin : rx_nm n ∈ rx_cast) (hk : Cond.classLink "RoomMaker" ik (rx_nm n) ∈ rb_ws) (hini : Cond.initialized (rx_nm n) ∈ rb_ws) (htx : (is, text) ∈ rx_text)
    (hat : ∀ w ∈ (Bundle.ownAtoms "RoomMaker" ic (rx_nm n) ["java/lang/RuntimeException", "java/lang/Exception"]).filter goodWord, w ∈ rb_ws)
    (hrest : ∀ w ∈ (Bundle.ownAtoms "RoomMaker" ic (rx_nm n) ["java/lang/RuntimeException", "java/lang/Exception"]).filter (fun w => !goodWord w), w ∈ [Cond.castable (rx_nm n) (rx_nm n), .laysStatic "java/lang/Throwable" "UNASSIGNED_STACK" "[Ljava/lang/StackTraceElement;", .isRef (.static "java/lang/Throwable" "UNASSIGNED_STACK" "[Ljava/lang/StackTraceElement;"), .laysStatic "java/lang/Throwable" "SUPPRESSED_SENTINEL" "Ljava/util/List;", .isRef (.static "java/lang/Throwable" "SUPPRESSED_SENTINEL" "Ljava/util/List;"), .declares ⟨"java/lang/RuntimeException", "<init>", "(Ljava/lang/String;)V"⟩, .declares ⟨"java/lang/Exception", "<init>", "(Ljava/lang/String;)V"⟩, .declares ⟨"java/lang/Throwable", "<init>", "(Ljava/lang/String;)V"⟩])
    (d0 : decode cc pc = .ok (.new ik, 3)) (d3 : decode cc (pc + 3) = .ok (.dup, 1)) (d4 : decode cc (pc + 4) = .ok (.ldc is, 2)) (d6 : decode cc (pc + 6) = .ok (.invokespecial ic, 3)) (d9 : decode cc (pc + 9) = .ok (.athrow, 1))
    (hRf : 6 ≤ R.frames) (hRl : (st.map fun v => v.category).sum + 82 ≤ R.locals) (hRc : kc + 1 ≤ R.cells) (hRs : ks + 6 ≤ R.slots) (hmc : kc + 1 ≤ mc) (hms : ks + 6 ≤ ms) (h : KX n S) :
    rb_V p l e R s m args below meth c A (rx_MQ below Z A K KX args s mc ms) Z nL pc L st S kc ks := by
  intro H locs ls hP hD hS hl T hT Y
  obtain ⟨hx, hb, hml, hown, hts⟩ := X.1
  have hlocks := X.2.2.2.2
  obtain ⟨x1, x2, x3, x4, x5, x6⟩ := X.2.1.2.2.2
  have htr : e.platform.stackTraces = false := (show e.platform.stackTraces = l.stackTraces by rw [Y.admits.platform]).trans hlt
  have Y1 := rx_rebase Y { frames := R.frames, locals := R.locals, cells := 1, slots := 6 } (Nat.le_refl _) (Nat.le_refl _) hRc hRs
  obtain ⟨s', hA⟩ : ∃ z, z = (T.setVm s.vm).setFrames (.invoking m args :: below) := ⟨_, rfl⟩
  rw [← hA] at Y1
  have hvm : s'.vm = s.vm := by rw [hA]; rfl
  have hhp : s'.heap = H := by rw [hA]; exact hT
  have hW0 : s.WarmedH s'.vm := by rw [hvm]; exact State.WarmedH.refl s
  have good : ∀ w ∈ rb_ws, w.before args s' = true := fun w hw => word_at hW0 (good_of_word (List.mem_filter.mp hw).2) (hts w hw)
  have stat : ∀ (n d : String), rx_st n d A s s.heap → (Cond.laysStatic "java/lang/Throwable" n d).before args s' = true ∧ (Cond.isRef (.static "java/lang/Throwable" n d)).before args s' = true := by
    intro n d hst
    obtain ⟨a, cell, h1, h2, h3⟩ := hst.step (U1 := s') (B := A) (H1 := H) hW0 hS.2.1 (fun _ q => q)
    exact h3 s' rfl (by rw [hhp]; exact h1)
  have hall : ∀ w ∈ Bundle.ownAtoms "RoomMaker" ic (rx_nm n) ["java/lang/RuntimeException", "java/lang/Exception"], w.before args s' = true := by
    intro w hw
    by_cases hg : goodWord w = true
    · exact good w (hat w (List.mem_filter.mpr ⟨hw, hg⟩))
    · have hm := hrest w (List.mem_filter.mpr ⟨hw, by simpa using hg⟩)
      simp only [List.mem_cons, List.not_mem_nil, or_false] at hm
      rcases hm with rfl | rfl | rfl | rfl | rfl | rfl | rfl | rfl
      · exact va_Nw.use rfl (va_Nw.warmC hW0 (x1 _ hin))
      · exact (stat _ _ x4).1
      · exact (stat _ _ x4).2
      · exact (stat _ _ x5).1
      · exact (stat _ _ x5).2
      · exact va_Nw.use rfl (va_Nw.warmD hW0 (x6 _ (by decide)))
      · exact va_Nw.use rfl (va_Nw.warmD hW0 (x6 _ (by decide)))
      · exact va_Nw.use rfl (va_Nw.warmD hW0 (x6 _ (by decide)))
  have hown' : s'.vm.findClass "RoomMaker" = some m.cls := by rw [hvm]; exact hown
  have hins : (Cond.instantiable (rx_nm n) 6).before args s' = true := hall _ (by simp [Bundle.ownAtoms])
  obtain ⟨vm₁, cX, kX, hfX, hkX, -, -, X₁, st1⟩ := Y1.newCold hx (own := "RoomMaker") (C := rx_nm n) (index := ik) (n := 6) hown' (good _ hk) hins (good _ hini) (g := F0 m pc ls st) rfl (by rw [hb]; exact d0) (Nat.le_refl _) (Nat.le_refl _)
  generalize hT1 : (T.setVm vm₁).pushCell { cls := cX, slots := kX.instanceTypes.map defaultValue, vm := .none } = T1 at X₁ st1
  have hcat : (Value.ref T.heap.size).category = 1 := rfl
  have hcellA : T1.heap[T.heap.size]? = some (freshCell cX kX) := by rw [← hT1]; exact State.heap_pushCell_size _ _
  have d3' : decode c.code (pc + 3) = .ok (.dup, 1) := by rw [hb]; exact d3
  have d4' : decode c.code (pc + 4) = .ok (.ldc is, 2) := by rw [hb]; exact d4
  obtain ⟨sa, hstr0⟩ := x3 _ htx
  have hstr := vk_R.warm hW0 hstr0
  obtain ⟨U, hsteps, hrun, hend, hW, hsame, ce, hce, hO⟩ := X₁.ctorThrowS hx htr (own := "RoomMaker") (cls := rx_nm n) (names := ["java/lang/RuntimeException", "java/lang/Exception"]) (ic := ic) hown' hcls (by decide) hall (fun x hx => nomatch hx) hfX hkX hcellA (by rw [hhp, hT]; exact Nat.le_refl _) (msg := .ref sa) rfl
    (g := { method := m, pc := pc + 6, locals := ls, stack := .ref sa :: .ref T.heap.size :: .ref T.heap.size :: st, locked := none }) rfl (hl.1.trans hml.symm) rfl rfl (rest := st) rfl
    (by rw [hb]; exact d6) (by rw [hb]; exact d9) (by rw [hno]; exact fun _ q => nomatch q) (by show 2 + 3 < R.frames; omega) (by simp only [List.map_cons, List.sum_cons, hcat]; show 2 * 0 + (1 + _) + (13 * (2 + 1) + 42) ≤ R.locals; omega) hlocks
  have hWs : s.WarmedH U.vm := State.WarmedH.trans hW0 hW
  have hcl : s.vm.findClass (rx_nm n) = some ce.cls := by
    have h9 := hO.cls
    rw [hvm] at h9
    exact h9
  obtain ⟨e1, q2, q3, q4, q5, q6⟩ := id hsame
  have hsz : H.size ≤ U.heap.size := by rw [← hhp]; exact q2
  have hkept : ∀ q : Nat, q < H.size → U.heap[q]? = H[q]? := by
    intro q hq
    rw [← hhp] at hq ⊢
    obtain ⟨c', hc1, hc2, hc3, hc4⟩ := q6 q _ (Array.getElem?_eq_getElem hq)
    have hc1' : U.heap[q]? = some c' := hc1
    rw [hc1', Array.getElem?_eq_getElem hq, hc2]
    congr 1
    have : c'.slots = s'.heap[q].slots := Array.ext_getElem? fun i => hc4 i (fun z => nomatch z)
    rw [this]
  have hPU : va_P (rb_D Z) vwCl (rb_w Z S) U.heap := hP.kept (fun k q hk => hkept q.1 ((hP k q hk).lt))
  have hfin : s.sameButNew ({ U with vm := s.vm } : State) locs mc ms := by
    subst hA
    rw [State.setFrames_setFrames] at e1
    have h2 : (T.setVm s.vm).sameButNew ({ U with vm := s.vm } : State) [] (0 + 1) (0 + 6) := ⟨e1, q2, q3, q4, q5, q6⟩
    have h3 := Y.same.trans h2
    rw [List.append_nil] at h3
    exact h3.mono hmc hms
  refine ⟨U, ?_, .threw T.heap.size, hrun, hend, Or.inr ⟨n, S, T.heap.size, ce, locs, rfl, h, ⟨hPU, hD⟩, ⟨Nat.le_trans hS.1 hsz, fun q h1 h2 => by rw [hkept q (Nat.lt_of_lt_of_le h1 hS.1)]; exact hS.2.1 q h1 h2⟩, ⟨hce, hO.vm, hcl⟩, hWs, hfin, hS.2.2⟩⟩
  refine st1 _ ?_
  show Steps p.tables e below (T1.setTop { method := m, pc := pc + 3, locals := ls, stack := .ref T.heap.size :: st, locked := none }) _
  jvm_step X₁.here [X₁.here.top, hx, d3', Value.category]
  exact X₁.ldcString hx (own := "RoomMaker") (text := text) (index := is) (a := sa) hown' hstr.1 hstr.2
    (g := { method := m, pc := pc + 4, locals := ls, stack := .ref T.heap.size :: .ref T.heap.size :: st, locked := none }) rfl d4' _ hsteps
end RXV
