/-! ===== what an exception wants: that its class can be cast to itself and not to the others; its text; two statics of Throwable ===== -/
abbrev rx_IA : String := "java/lang/IllegalArgumentException"
abbrev rx_IS : String := "java/lang/IllegalStateException"
abbrev rx_IO : String := "java/lang/IndexOutOfBoundsException"
/-- the exceptions by number -/
def rx_nm (n : Nat) : String := match n with
  | 1 => rx_IA
  | 2 => rx_IS
  | _ => rx_IO
def rx_cast : List String := [rx_IA, rx_IS, rx_IO]
def rx_decl : List String := ["java/lang/RuntimeException", "java/lang/Exception", "java/lang/Throwable"]
def rx_not : List (String × String) := [(rx_IS, rx_IA), (rx_IA, rx_IS), (rx_IO, rx_IS)]
def rx_text : List (Nat × String) := [(50, "no such instruction"), (73, "no such number of registers"), (81, "an instruction goes to where nothing is"), (108, "no such value"), (121, "no such point"), (136, "nothing is left to run"), (138, "no such number of instructions"), (144, "nothing is built"), (146, "no such value or cell")]
/-- a static of Throwable's: its cell lies outside A, and wherever that cell stays the two words on it hold -/
def rx_st (n d : String) (A : Nat → Prop) (U : State) (H : Heap) : Prop := ∃ (a : Nat) (cell : Cell), H[a]? = some cell ∧ ¬ A a ∧ ∀ V : State, V.vm = U.vm → V.heap[a]? = some cell → (Cond.laysStatic "java/lang/Throwable" n d).before #[] V = true ∧ (Cond.isRef (.static "java/lang/Throwable" n d)).before #[] V = true
theorem rx_st_of {args : Array Value} {s : State} {n d : String} {A : Nat → Prop} (h1 : (Cond.laysStatic "java/lang/Throwable" n d).before args s = true) (h2 : (Cond.isRef (.static "java/lang/Throwable" n d)).before args s = true) (hA : ∀ a : Nat, a < s.heap.size → ¬ A a) : rx_st n d A s s.heap := by
  obtain ⟨c, k, i, f, a, cell, hc, hf, hst, ha, hcell, hs, hcls, hlt, hty⟩ := Cond.laysStatic_spec h1
  refine ⟨a, cell, hcell, hA a (Array.getElem?_eq_some_iff.mp hcell).1, fun V hvm hV => ?_⟩
  have hc' : V.vm.findClass "java/lang/Throwable" = some c := by rw [hvm]; exact hc
  have hf' : V.fieldFound? "java/lang/Throwable" n d = some (c, k, i, f) := by
    unfold State.fieldFound? at hf ⊢
    rw [hvm]
    exact hf
  refine ⟨by simp [Cond.before, Cond.holds, Cond.value, hc', hf', ha, hV, hst, hs, hcls, hlt, hty], ?_⟩
  cases hv : (Term.static "java/lang/Throwable" n d).eval args s none [] s with
  | none => simp [Cond.before, Cond.holds, Cond.value, hv] at h2
  | some v =>
    obtain ⟨-, a', cell', ha', hcell', -, hslot⟩ := Term.static_spec hf hv
    cases Option.some.inj (ha.symm.trans ha')
    cases Option.some.inj (hcell.symm.trans hcell')
    have hv' : (Term.static "java/lang/Throwable" n d).eval #[] V none [] V = some v := by simp [Term.eval, State.fieldNamed?, hf', hst, ha, hV, hs, hslot]
    simp only [Cond.before, Cond.holds, Cond.value, hv] at h2
    simp only [Cond.before, Cond.holds, Cond.value, hv']
    exact h2
theorem rx_st.step {n d : String} {A B : Nat → Prop} {U U1 : State} {H H1 : Heap} (h : rx_st n d A U H) (hW : U.WarmedH U1.vm) (hq : ∀ a : Nat, a < H.size → ¬ A a → H1[a]? = H[a]?) (hAB : ∀ q, B q → A q) : rx_st n d B U1 H1 := by
  obtain ⟨a, cell, h1, h2, h3⟩ := h
  refine ⟨a, cell, by rw [hq a (Array.getElem?_eq_some_iff.mp h1).1 h2]; exact h1, fun z => h2 (hAB a z), fun V hvm hV => ?_⟩
  obtain ⟨w1, w2⟩ := h3 (V.setVm U.vm) rfl hV
  have hW' : (V.setVm U.vm).WarmedH U1.vm := hW
  have e : (V.setVm U.vm).setVm U1.vm = V := by rw [← hvm]; rfl
  have q1 := Cond.holds_shifted (args := #[]) (o := none) (State.Shifted.of_warmed hW') (Cond.laysStatic "java/lang/Throwable" n d) [] rfl w1
  have q2 := Cond.holds_shifted (args := #[]) (o := none) (State.Shifted.of_warmed hW') (Cond.isRef (.static "java/lang/Throwable" n d)) [] rfl w2
  rw [e] at q1 q2
  exact ⟨q1, q2⟩
def rx_E (A : Nat → Prop) (U : State) (H : Heap) : Prop := (∀ C ∈ rx_cast, va_Nw (.castable C C) U) ∧ (∀ q ∈ rx_not, va_Nc q.1 q.2 U) ∧ (∀ q ∈ rx_text, ∃ sa : Nat, vk_R "RoomMaker" q.1 q.2 sa U) ∧ rx_st "UNASSIGNED_STACK" "[Ljava/lang/StackTraceElement;" A U H ∧ rx_st "SUPPRESSED_SENTINEL" "Ljava/util/List;" A U H ∧ ∀ C ∈ rx_decl, va_Nw (.declares ⟨C, "<init>", "(Ljava/lang/String;)V"⟩) U
theorem rx_Nc_moved {C T : String} {u U : State} (hvm : u.vm.Alike U.vm) (h : va_Nc C T u) : va_Nc C T U := by
  obtain ⟨c, t, h1, h2, h3⟩ := h
  exact ⟨c, t, by rw [hvm.findClass]; exact h1, by rw [hvm.findClass]; exact h2, by rw [hvm.assignable]; exact h3⟩
theorem rx_E.step {A B : Nat → Prop} {U U1 : State} {H H1 : Heap} (h : rx_E A U H) (hW : U.WarmedH U1.vm) (hq : ∀ a : Nat, a < H.size → ¬ A a → H1[a]? = H[a]?) (hAB : ∀ q, B q → A q) : rx_E B U1 H1 :=
  ⟨fun C hC => va_Nw.warmC hW (h.1 C hC), fun q hq' => rx_Nc_moved hW.alike (h.2.1 q hq'), fun q hq' => (h.2.2.1 q hq').elim fun sa hs => ⟨sa, vk_R.warm hW hs⟩, h.2.2.2.1.step hW hq hAB, h.2.2.2.2.1.step hW hq hAB, fun C hC => va_Nw.warmD hW (h.2.2.2.2.2 C hC)⟩
