/-! ===== which value gets which place: numbers alone ===== -/
section AL
variable {f l pl : Nat → Int32} {r n v sk : Nat}
def al_fr (tk : Nat → Bool) : Nat → Nat
  | 0 => 0
  | m + 1 => if al_fr tk m < m then al_fr tk m else if tk m = true then m + 1 else m
theorem al_fr_le (tk : Nat → Bool) : ∀ m : Nat, al_fr tk m ≤ m
  | 0 => Nat.le_refl 0
  | m + 1 => by
    have := al_fr_le tk m
    show (if al_fr tk m < m then al_fr tk m else if tk m = true then m + 1 else m) ≤ m + 1
    by_cases c : al_fr tk m < m
    · rw [if_pos c]; omega
    · rw [if_neg c]
      by_cases d : tk m = true
      · rw [if_pos d]; omega
      · rw [if_neg d]; omega
theorem al_fr_tk (tk : Nat → Bool) : ∀ m i : Nat, i < al_fr tk m → tk i = true
  | 0, i, h => absurd h (by simp [al_fr])
  | m + 1, i, h => by
    have e : al_fr tk (m + 1) = if al_fr tk m < m then al_fr tk m else if tk m = true then m + 1 else m := rfl
    by_cases c : al_fr tk m < m
    · rw [e, if_pos c] at h
      exact al_fr_tk tk m i h
    · rw [e, if_neg c] at h
      have e2 : al_fr tk m = m := by have := al_fr_le tk m; omega
      by_cases d : tk m = true
      · rw [if_pos d] at h
        by_cases g : i = m
        · rw [g]; exact d
        · exact al_fr_tk tk m i (by omega)
      · rw [if_neg d] at h
        exact al_fr_tk tk m i (by omega)
theorem al_fr_no (tk : Nat → Bool) : ∀ m : Nat, al_fr tk m < m → tk (al_fr tk m) = false
  | 0, h => absurd h (by omega)
  | m + 1, h => by
    have e : al_fr tk (m + 1) = if al_fr tk m < m then al_fr tk m else if tk m = true then m + 1 else m := rfl
    by_cases c : al_fr tk m < m
    · rw [e, if_pos c]
      exact al_fr_no tk m c
    · rw [e, if_neg c] at h ⊢
      by_cases d : tk m = true
      · rw [if_pos d] at h
        exact absurd h (by omega)
      · rw [if_neg d]
        exact Bool.eq_false_iff.mpr d
/-- the least free one is the only one like it -/
theorem al_fr_eq (tk : Nat → Bool) {m k : Nat} (h1 : k ≤ m) (h2 : ∀ i : Nat, i < k → tk i = true) (h3 : k < m → tk k = false) : al_fr tk m = k := by
  have a := al_fr_le tk m
  rcases Nat.lt_trichotomy (al_fr tk m) k with c | c | c
  · have := al_fr_no tk m (by omega)
    rw [h2 _ c] at this
    exact absurd this (by decide)
  · exact c
  · have := al_fr_tk tk m k c
    rw [h3 (by omega)] at this
    exact absurd this (by decide)
/-- u outlasts w -/
abbrev al_ol (l : Nat → Int32) (u w : Nat) : Prop := (l w).toInt < (l u).toInt ∨ ((l u).toInt = (l w).toInt ∧ w < u)
def al_lt (l : Nat → Int32) (c : Nat → Bool) (v : Nat) : Nat → Nat
  | 0 => v
  | m + 1 => if c m = true ∧ al_ol l m (al_lt l c v m) then m else al_lt l c v m
/-- the last of v and those of the set -/
def al_M (l : Nat → Int32) (P : Nat → Prop) (w : Nat) : Prop := P w ∧ ∀ u : Nat, P u → ¬ al_ol l u w
theorem al_Mu {P : Nat → Prop} {w w' : Nat} (h : al_M l P w) (h' : al_M l P w') : w = w' := by
  have a := h.2 w' h'.1
  have b := h'.2 w h.1
  unfold al_ol at a b
  omega
theorem al_Mstep {P P' : Nat → Prop} {w m : Nat} (h : al_M l P w) (hP : ∀ u : Nat, P' u ↔ P u ∨ u = m) : al_M l P' (if al_ol l m w then m else w) := by
  by_cases c : al_ol l m w
  · rw [if_pos c]
    refine ⟨(hP m).mpr (Or.inr rfl), fun u hu => ?_⟩
    rcases (hP u).mp hu with q | q
    · have a := h.2 u q
      unfold al_ol at a c ⊢
      omega
    · rw [q]
      unfold al_ol
      omega
  · rw [if_neg c]
    refine ⟨(hP w).mpr (Or.inl h.1), fun u hu => ?_⟩
    rcases (hP u).mp hu with q | q
    · exact h.2 u q
    · rw [q]; exact c
theorem al_ltM (l : Nat → Int32) (c : Nat → Bool) (v : Nat) : ∀ m : Nat, al_M l (fun u => u = v ∨ (u < m ∧ c u = true)) (al_lt l c v m)
  | 0 => ⟨Or.inl rfl, fun u hu => by
      rcases hu with q | q
      · show ¬ al_ol l u v
        rw [q]
        unfold al_ol
        omega
      · exact absurd q.1 (by omega)⟩
  | m + 1 => by
    have ih := al_ltM l c v m
    show al_M l _ (if c m = true ∧ al_ol l m (al_lt l c v m) then m else al_lt l c v m)
    by_cases d : c m = true
    · have := al_Mstep (P' := fun u => u = v ∨ (u < m + 1 ∧ c u = true)) (m := m) ih (fun u => ?_)
      · by_cases e : al_ol l m (al_lt l c v m)
        · rw [if_pos e] at this
          rw [if_pos ⟨d, e⟩]
          exact this
        · rw [if_neg e] at this
          rw [if_neg (fun w => e w.2)]
          exact this
      · constructor
        · rintro (q | ⟨q1, q2⟩)
          · exact Or.inl (Or.inl q)
          · by_cases g : u = m
            · exact Or.inr g
            · exact Or.inl (Or.inr ⟨by omega, q2⟩)
        · rintro ((q | ⟨q1, q2⟩) | q)
          · exact Or.inl q
          · exact Or.inr ⟨by omega, q2⟩
          · rw [q]; exact Or.inr ⟨by omega, d⟩
    · rw [if_neg (fun w => d w.1)]
      refine ⟨ih.1.imp (fun w => w) (fun w => ⟨by omega, w.2⟩), fun u hu => ih.2 u ?_⟩
      rcases hu with q | ⟨q1, q2⟩
      · exact Or.inl q
      · refine Or.inr ⟨?_, q2⟩
        by_cases g : u = m
        · rw [g] at q2
          exact absurd q2 d
        · omega
/-- the registers taken, and the values that hold one -/
def al_tk (pl l : Nat → Int32) (pt : Int32) (i : Nat) : Bool := lm_any 16 (fun u => decide (pl u = nI i ∧ ¬ l u < pt))
def al_ho (pl l : Nat → Int32) (pt : Int32) (u : Nat) : Bool := decide (¬ pl u < 0 ∧ ¬ 16 ≤ pl u ∧ ¬ l u < pt)
def al_k (f l : Nat → Int32) (r v : Nat) (pl : Nat → Int32) : Nat := al_fr (al_tk pl l (f v)) r
def al_w (f l : Nat → Int32) (v : Nat) (pl : Nat → Int32) : Nat := al_lt l (al_ho pl l (f v)) v 16
def al_pl (f l : Nat → Int32) (r v : Nat) (A : (Nat → Int32) × Nat) : Nat → Int32 := if al_k f l r v A.1 < r then upd A.1 v (nI (al_k f l r v A.1)) else upd (upd A.1 v (if al_w f l v A.1 = v then -1 else A.1 (al_w f l v A.1))) (al_w f l v A.1) (nI (16 + A.2))
def al_sk (f l : Nat → Int32) (r v : Nat) (A : (Nat → Int32) × Nat) : Nat := if al_k f l r v A.1 < r then A.2 else A.2 + 1
def al_it (f l : Nat → Int32) (r : Nat) : Nat → (Nat → Int32) × Nat
  | 0 => (fun _ => -1, 0)
  | q + 1 => if f (q % 16) = nI (q / 16) then (al_pl f l r (q % 16) (al_it f l r q), al_sk f l r (q % 16) (al_it f l r q)) else al_it f l r q
/-- a place that one has: none, a register, or on the stack -/
def al_ok (r : Nat) (x : Int32) : Prop := x = -1 ∨ (∃ k : Nat, k < r ∧ x = nI k) ∨ ∃ k : Nat, k < 16 ∧ x = nI (16 + k)
def al_on (pl : Nat → Int32) (u : Nat) : Bool := decide (16 ≤ pl u)
def al_wf (f : Nat → Int32) (r q : Nat) (A : (Nat → Int32) × Nat) : Prop := (∀ u : Nat, u < 16 → al_ok r (A.1 u)) ∧ (∀ u : Nat, u < 16 → (¬ A.1 u = -1 ↔ ∃ a : Nat, a < 128 ∧ f u = nI a ∧ 16 * a + u < q)) ∧ A.2 = pr_cnt (al_on A.1) 16
theorem al_w16 (hv : v < 16) : al_w f l v pl < 16 := by
  have := (al_ltM l (al_ho pl l (f v)) v 16).1
  rcases this with q | q
  · unfold al_w
    omega
  · exact q.1
theorem pr_cnti {P P' : Nat → Bool} {q0 m : Nat} (h1 : P q0 = false) (h2 : P' q0 = true) (h : ∀ q : Nat, q ≠ q0 → P' q = P q) (hq : q0 < m) : pr_cnt P' m = pr_cnt P m + 1 := (pr_cntu h2 h1 (fun q e => (h q e).symm) m hq).symm
theorem al_r16 (hr : r ≤ 8) {x : Int32} (h : ∃ k : Nat, k < r ∧ x = nI k) : ¬ 16 ≤ x ∧ ¬ x = -1 ∧ ¬ x < 0 := by
  obtain ⟨k, hk, rfl⟩ := h
  rw [show (16 : Int32) = nI 16 from rfl, nI_leI (by omega) (by omega), show (0 : Int32) = nI 0 from rfl, nI_ltI (by omega) (by omega)]
  refine ⟨by omega, fun w => ?_, by omega⟩
  have : (nI k).toInt = k := nI_toInt (by omega)
  rw [w] at this
  have h1 : (-1 : Int32).toInt = -1 := rfl
  omega
theorem al_s16 {k : Nat} (hk : k < 16) : (16 : Int32) ≤ nI (16 + k) ∧ ¬ nI (16 + k) = (-1 : Int32) ∧ ¬ nI (16 + k) < 16 := by
  rw [show (16 : Int32) = nI 16 from rfl, nI_leI (by omega) (by omega), nI_ltI (by omega) (by omega)]
  refine ⟨by omega, fun w => ?_, by omega⟩
  have : (nI (16 + k)).toInt = (16 + k : Nat) := nI_toInt (by omega)
  rw [w] at this
  have h1 : (-1 : Int32).toInt = -1 := rfl
  omega
/-- a value settles -/
theorem al_wf1 (hr : r ≤ 8) {a q : Nat} {A : (Nat → Int32) × Nat} (hv : v < 16) (ha : a < 128) (hf : f v = nI a) (hq : q = 16 * a + v) (hff : ∀ u : Nat, u < 16 → f u = -1 ∨ ∃ b : Nat, b < 128 ∧ f u = nI b) (h : al_wf f r q A) : al_wf f r (q + 1) (al_pl f l r v A, al_sk f l r v A) ∧ A.1 v = -1 ∧ (¬ al_k f l r v A.1 < r → A.2 < 16 ∧ (al_w f l v A.1 = v ∨ ∃ k : Nat, k < r ∧ A.1 (al_w f l v A.1) = nI k)) := by
  obtain ⟨h1, h2, h3⟩ := h
  have pv : A.1 v = -1 := by
    by_cases c : A.1 v = -1
    · exact c
    · obtain ⟨b, hb, e1, e2⟩ := (h2 v hv).mp c
      rw [hf, nI_eq (by omega) (by omega)] at e1
      omega
  have onv : al_on A.1 v = false := by
    unfold al_on
    rw [pv]
    decide
  -- who is placed after this one
  have pr : ∀ u : Nat, u < 16 → ((∃ b : Nat, b < 128 ∧ f u = nI b ∧ 16 * b + u < q + 1) ↔ (∃ b : Nat, b < 128 ∧ f u = nI b ∧ 16 * b + u < q) ∨ u = v) := by
    intro u hu
    constructor
    · rintro ⟨b, hb, e1, e2⟩
      by_cases c : u = v
      · exact Or.inr c
      · exact Or.inl ⟨b, hb, e1, by omega⟩
    · rintro (⟨b, hb, e1, e2⟩ | e)
      · exact ⟨b, hb, e1, by omega⟩
      · rw [e]
        exact ⟨a, ha, hf, by omega⟩
  by_cases c : al_k f l r v A.1 < r
  · refine ⟨⟨fun u hu => ?_, fun u hu => ?_, ?_⟩, pv, fun w => absurd c w⟩
    · show al_ok r (al_pl f l r v A u)
      unfold al_pl
      rw [if_pos c]
      by_cases d : u = v
      · rw [d, up_s]
        exact Or.inr (Or.inl ⟨_, c, rfl⟩)
      · rw [up_n d]
        exact h1 u hu
    · show ¬ al_pl f l r v A u = -1 ↔ _
      rw [pr u hu]
      unfold al_pl
      rw [if_pos c]
      by_cases d : u = v
      · rw [d, up_s]
        exact ⟨fun _ => Or.inr rfl, fun _ => (al_r16 hr ⟨_, c, rfl⟩).2.1⟩
      · rw [up_n d, h2 u hu]
        exact ⟨Or.inl, fun w => w.resolve_right d⟩
    · show al_sk f l r v A = pr_cnt (al_on (al_pl f l r v A)) 16
      unfold al_sk al_pl
      rw [if_pos c, if_pos c, h3]
      refine pr_cntc 16 (fun u hu => ?_)
      unfold al_on
      by_cases d : u = v
      · rw [d, up_s, pv, decide_eq_decide]
        exact ⟨fun w => absurd w (by decide), fun w => absurd w (al_r16 hr ⟨_, c, rfl⟩).1⟩
      · rw [up_n d]
  · have hw := al_w16 (f := f) (l := l) (pl := A.1) hv
    have hs : A.2 < 16 := by
      rw [h3]
      have := pr_cnti (P := al_on A.1) (P' := fun u => if u = v then true else al_on A.1 u) (q0 := v) (m := 16) onv (by simp) (fun q e => by simp [e]) hv
      have := pr_le (fun u => if u = v then true else al_on A.1 u) 16
      omega
    have hwv : al_w f l v A.1 = v ∨ ∃ k : Nat, k < r ∧ A.1 (al_w f l v A.1) = nI k := by
      rcases (al_ltM l (al_ho A.1 l (f v)) v 16).1 with w | w
      · exact Or.inl w
      · right
        have hh := of_decide_eq_true w.2
        rcases h1 _ hw with e | e | ⟨k, hk, e⟩
        · have := hh.1
          rw [show al_lt l (al_ho A.1 l (f v)) v 16 = al_w f l v A.1 from rfl, e] at this
          exact absurd (by decide) this
        · exact e
        · have := hh.2.1
          rw [show al_lt l (al_ho A.1 l (f v)) v 16 = al_w f l v A.1 from rfl, e] at this
          exact absurd (al_s16 hk).1 this
    have e : al_pl f l r v A = upd (upd A.1 v (if al_w f l v A.1 = v then -1 else A.1 (al_w f l v A.1))) (al_w f l v A.1) (nI (16 + A.2)) := by
      unfold al_pl
      rw [if_neg c]
    have es : al_sk f l r v A = A.2 + 1 := by
      unfold al_sk
      rw [if_neg c]
    refine ⟨⟨fun u hu => ?_, fun u hu => ?_, ?_⟩, pv, fun _ => ⟨hs, hwv⟩⟩
    · show al_ok r (al_pl f l r v A u)
      rw [e]
      by_cases d : u = al_w f l v A.1
      · rw [d, up_s]
        exact Or.inr (Or.inr ⟨A.2, hs, rfl⟩)
      · rw [up_n d]
        by_cases g : u = v
        · rw [g, up_s]
          rcases hwv with w | w
          · exact absurd (g.trans w.symm) d
          · rw [if_neg (fun w => d (g.trans w.symm))]
            exact Or.inr (Or.inl w)
        · rw [up_n g]
          exact h1 u hu
    · show ¬ al_pl f l r v A u = -1 ↔ _
      rw [pr u hu, e]
      by_cases d : u = al_w f l v A.1
      · rw [d, up_s]
        refine ⟨fun _ => ?_, fun _ => (al_s16 hs).2.1⟩
        rcases hwv with w | w
        · exact Or.inr w
        · refine Or.inl ((h2 _ hw).mp ?_)
          exact (al_r16 hr w).2.1
      · rw [up_n d]
        by_cases g : u = v
        · rw [g, up_s]
          refine ⟨fun _ => Or.inr rfl, fun _ => ?_⟩
          rw [if_neg (fun w => d (g.trans w.symm))]
          rcases hwv with w | w
          · exact absurd (g.trans w.symm) d
          · exact (al_r16 hr w).2.1
        · rw [up_n g, h2 u hu]
          exact ⟨Or.inl, fun w => w.resolve_right g⟩
    · show al_sk f l r v A = pr_cnt (al_on (al_pl f l r v A)) 16
      rw [es, e]
      refine (congrArg (fun x => x + 1) h3).trans (pr_cnti (q0 := al_w f l v A.1) ?_ ?_ (fun u d => ?_) hw).symm
      · rcases hwv with w | w
        · rw [w]; exact onv
        · exact decide_eq_false (al_r16 hr w).1
      · unfold al_on
        rw [up_s]
        exact decide_eq_true (al_s16 hs).1
      · unfold al_on
        rw [up_n d]
        by_cases g : u = v
        · rw [g, up_s, if_neg (fun w => d (g.trans w.symm)), pv, decide_eq_decide]
          rcases hwv with w | w
          · exact absurd (g.trans w.symm) d
          · exact ⟨fun q => absurd q (al_r16 hr w).1, fun q => absurd q (by decide)⟩
        · rw [up_n g]
theorem al_wfi (hr : r ≤ 8) (hff : ∀ u : Nat, u < 16 → f u = -1 ∨ ∃ b : Nat, b < 128 ∧ f u = nI b) : ∀ q : Nat, q ≤ 16 * 128 → al_wf f r q (al_it f l r q)
  | 0, _ => ⟨fun _ _ => Or.inl rfl, fun u hu => ⟨fun w => absurd rfl w, fun ⟨a, _, _, w⟩ => absurd w (by omega)⟩, rfl⟩
  | q + 1, hq => by
    have ih := al_wfi hr hff q (by omega)
    by_cases c : f (q % 16) = nI (q / 16)
    · show al_wf f r (q + 1) (if f (q % 16) = nI (q / 16) then _ else _)
      rw [if_pos c]
      exact (al_wf1 hr (by omega) (by omega) c (by omega) hff ih).1
    · show al_wf f r (q + 1) (if f (q % 16) = nI (q / 16) then _ else _)
      rw [if_neg c]
      refine ⟨ih.1, fun u hu => ?_, ih.2.2⟩
      rw [ih.2.1 u hu]
      constructor
      · rintro ⟨a, ha, e1, e2⟩
        exact ⟨a, ha, e1, by omega⟩
      · rintro ⟨a, ha, e1, e2⟩
        refine ⟨a, ha, e1, ?_⟩
        by_cases d : 16 * a + u = q
        · rw [← d, show (16 * a + u) % 16 = u by omega, show (16 * a + u) / 16 = a by omega] at c
          exact absurd e1 c
        · omega
/-- nothing happens where no span begins -/
theorem al_skip {q : Nat} : ∀ m : Nat, (∀ u a : Nat, u < 16 → f u = nI a → a < 128 → q ≤ 16 * a + u → q + m ≤ 16 * a + u) → q + m ≤ 16 * 128 → al_it f l r (q + m) = al_it f l r q
  | 0, _, _ => rfl
  | m + 1, h, hq => by
    show (if f ((q + m) % 16) = nI ((q + m) / 16) then _ else al_it f l r (q + m)) = _
    rw [if_neg]
    · exact al_skip m (fun u a hu e ha hh => by have := h u a hu e ha hh; omega) (by omega)
    · intro e
      have := h ((q + m) % 16) ((q + m) / 16) (by omega) e (by omega) (by omega)
      omega
end AL
