-- ===== end of PART A; then your names; then what follows =====
/-! THE CLAIM OUT OF ONE WALK OF THE LAW'S BODY. Your part is whole_start (and what it stands on); all else here is the same for every law, but numbers. -/
def R_law : String := "RoomMakerLaw"
def lw_P (b : Addr) (xs : List Int32) (args : Array Value) (s : State) : Prop := args = #[.ref b] ∧ s.IntsAt b xs ∧ xs.length ≤ 2560 ∧ (Jvm.Cond.and given_1 narrow_1).before args s = true
def lw_Q (_ : Array Value) (s : State) (o : Outcome) (t : State) : Prop := o = .returned (some (.int 1)) ∧ Framed s o t [] 1072 11935
def lw_Z (below : List Frame) (a : Array Value) (s : State) : State → Prop := fun t => ∃ o, t.status = .running ∧ Ended t below o ∧ lw_Q a s o t
/-- the law's own end, with 1 on the stack, nothing written that was there before, its room as the claim has it -/
theorem lw_ret {p : Program} {l : Launch} {e : Env} {s : State} {m : MethodId} {below : List Frame} {meth : Method} {c : Code} {b : Nat} (hx : p.tables.exec = Jvm.exec) (hb : c.code = code) (hr : meth.sig.returnType = ret) (hlocks : meth.locks = false) {pc : Nat} {H : Heap} {ls : Array Slot} (hdg : decode code pc = .ok (.ireturn, 1)) : W p l e room_1 s m #[Value.ref b] below meth c H [] 1072 11935 (lw_Z below #[Value.ref b] s) (F0 m pc ls [.int 1]) := by
  intro T hT X
  obtain ⟨fs, hret, hrun, hended, hW, hframe⟩ := X.leave (v := some (.int 1)) (hlocks := hlocks) (fun h => by rw [hr] at h; cases h)
  have hmeth' : T.vm.method? m = some meth := X.method'
  refine ⟨T.setFrames fs, ?_, .returned (some (.int 1)), hrun, hended, rfl, ⟨_, rfl⟩, hW, hframe⟩
  jvm_step X.here [X.here.top, hx, hb, hdg, hmeth', hr, ret, narrow_b1]
  (try refine ⟨rfl, ?_⟩); (try refine ⟨rfl, ?_⟩)
  first | (intro acts; rw [hret _ acts rfl rfl rfl]) | rw [hret _ _ rfl rfl rfl]
  exact Steps.refl _
/-- what holds at the law's entry: the machine, the code, the tables' words (any of lw_tbl by 'hts w (by decide +kernel)'), the script of L ints xs at the cell b, what the Statement gives of the start (any of its parts by flat_of_before) -/
def lw_At (p : Program) (s : State) (m : MethodId) (meth : Method) (c : Code) (b L : Nat) (xs : Nat → Int32) : Prop :=
  p.tables.exec = Jvm.exec ∧ c.code = code ∧ meth.sig.returnType = ret ∧ c.maxLocals = 7 ∧ s.vm.findClass R_law = some m.cls ∧ (∀ w ∈ lw_tbl, w.before #[Value.ref b] s = true) ∧ va_X b L xs s s.heap ∧ b < s.heap.size ∧ meth.locks = false ∧ (Jvm.Cond.and given_1 narrow_1).before #[Value.ref b] s = true
/-- what the law's body knows of its script, and of what it may write -/
def la_C (s : State) (args : Array Value) (A : Nat → Prop) (b Ls : Nat) (xs : Nat → Int32) : Prop := args = #[Value.ref b] ∧ (∀ q, A q → s.heap.size ≤ q) ∧ va_X b Ls xs s s.heap ∧ b < s.heap.size
section LA
variable {p : Program} {l : Launch} {e : Env} {R : Room} {s : State} {m : MethodId} {args : Array Value} {below : List Frame} {meth : Method} {c : Code} {A : Nat → Prop} {Q : State → Prop} {Z : rb_Z} {nL pc : Nat} {L : List (Nat × Value)} {st : List Value} {S : rb_S} {kc ks : Nat} {cc : ByteArray} {own : String} {rt : Option FieldType} {b Ls : Nat} {xs : Nat → Int32}
theorem la_sld (X : rb_X p s m args meth c A Z cc nL own rt) (HX : la_C s args A b Ls xs) {i : Int32} (d : decode cc pc = .ok (.iaload, 1)) (hin : vp_in i Ls) (k : rb_V p l e R s m args below meth c A Q Z nL (pc + 1) L (.int (xs i.toNatClampNeg) :: st) S kc ks) : rb_V p l e R s m args below meth c A Q Z nL pc L (.int i :: .ref b :: st) S kc ks := fun H locs ls hP hD hS hl =>
  va_sld X.1.1 X.1.2.1 HX.2.2.1 HX.2.2.2 (fun z => absurd HX.2.2.2 (Nat.not_lt.mpr (HX.2.1 b z))) hS hin d (k H locs ls hP hD hS hl)
theorem la_slen (X : rb_X p s m args meth c A Z cc nL own rt) (HX : la_C s args A b Ls xs) (d : decode cc pc = .ok (.arraylength, 1)) (k : rb_V p l e R s m args below meth c A Q Z nL (pc + 1) L (.int (Int32.ofNat Ls) :: st) S kc ks) : rb_V p l e R s m args below meth c A Q Z nL pc L (.ref b :: st) S kc ks := fun H locs ls hP hD hS hl =>
  va_slen X.1.1 X.1.2.1 HX.2.2.1 HX.2.2.2 (fun z => absurd HX.2.2.2 (Nat.not_lt.mpr (HX.2.1 b z))) hS d (k H locs ls hP hD hS hl)
theorem la_end (X : rb_X p s m args meth c A Z code nL own ret) (HX : la_C s args A b Ls xs) (d : decode code pc = .ok (.ireturn, 1)) (hc : kc ≤ 1072) (hs : ks ≤ 11935) : rb_V p l e room_1 s m args below meth c A (lw_Z below args s) Z nL pc L [.int 1] S kc ks := fun H locs ls hP hD hS hl => by
  obtain ⟨rfl, h2, -, -⟩ := HX
  exact va_forget (fun q hq => h2 _ (hS.2.2 q hq)) (W.widen hc hs (lw_ret X.1.1 X.1.2.1 X.2.2.2.1 X.2.2.2.2 d))
end LA
