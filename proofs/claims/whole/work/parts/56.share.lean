/-! ===== which value gets which place: the class ===== -/
section SH
variable {S Q : rb_S} {K : Int32 → rb_S → Prop} {K0 : rb_S → Prop} {f l pl : Nat → Int32} {r n v p : Nat}
/-- who holds which register -/
def ch (l pl : Nat → Int32) (r p : Nat) (h : Nat → Int32) : Prop := (∀ i : Nat, i < r → h i = -1 ∨ ∃ u : Nat, u < 16 ∧ h i = nI u ∧ pl u = nI i) ∧ ∀ i u : Nat, i < r → u < 16 → pl u = nI i → h i = nI u ∨ l u < nI p
theorem nI_m1 {k : Nat} (hk : k < 2 ^ 31) : ¬ nI k = (-1 : Int32) := by
  intro w
  have : (nI k).toInt = k := nI_toInt hk
  rw [w] at this
  have h1 : (-1 : Int32).toInt = -1 := rfl
  omega
theorem sh_rel2 (hr : r ≤ 8) (hp : p < 128) (e5 : S 0 5 = nI r) (hl : ∀ u : Nat, u < 16 → S 13 u = l u) (hK : ∀ S' : rb_S, (∀ g : Nat, g ≠ 15 → S' g = S g) → ch l pl r p (S' 15) → (∀ i u : Nat, i < r → u < 16 → S' 15 i = nI u → ¬ l u < nI p) → K0 S') : ∀ (m i : Nat) (T : rb_S), i + m = r → (∀ g : Nat, g ≠ 15 → T g = S g) → ch l pl r p (T 15) → (∀ i' u : Nat, i' < i → u < 16 → T 15 i' = nI u → ¬ l u < nI p) → ro_release_p_2 K0 (m + 1) (nI p) (nI i) T := by
  intro m
  induction m with
  | zero =>
    intro i T hi hT hc hL
    have : i = r := by omega
    subst this
    refine ⟨fun _ => hK T hT hc hL, fun q => absurd ?_ q⟩
    rw [hT 0 (by decide), e5, nI_leI (by omega) (by omega)]
    exact Nat.le_refl _
  | succ m ih =>
    intro i T hi hT hc hL
    have hin : vp_in (nI i) 8 := vp_in_nI (by omega) (by decide)
    have go : ∀ U : rb_S, (∀ g : Nat, g ≠ 15 → U g = S g) → ch l pl r p (U 15) → (∀ i' u : Nat, i' < i + 1 → u < 16 → U 15 i' = nI u → ¬ l u < nI p) → ro_release_p_42 K0 (fun a0 a1 T => ro_release_p_2 K0 (m + 1) a0 a1 T) (nI p) (nI i) U := by
      intro U h1 h2 h3 v42 q42
      rw [← nI_succ] at q42
      subst q42
      exact ih (i + 1) U (by omega) h1 h2 h3
    refine ⟨fun q => ?_, fun _ => ?_⟩
    · rw [hT 0 (by decide), e5, nI_leI (by omega) (by omega)] at q
      omega
    · rw [nI_clamp (by omega)]
      refine ⟨hin, fun e => go T hT hc (fun i' u hi' hu w => ?_), fun e => ?_⟩
      · by_cases c : i' = i
        · rw [c, e] at w
          exact absurd w.symm (nI_m1 (by omega))
        · exact hL i' u (by omega) hu w
      · rcases hc.1 i (by omega) with w | ⟨u, hu, w1, w2⟩
        · exact absurd w e
        · rw [w1, nI_clamp (by omega), hT 13 (by decide), hl u hu]
          refine ⟨hin, vp_in_nI hu (by decide), fun c => go T hT hc (fun i' u' hi' hu' w => ?_), fun c => ⟨hin, fun S41 q41 => go S41 (fun g hg => ?_) ⟨fun i' hi' => ?_, fun i' u' hi' hu' w => ?_⟩ (fun i' u' hi' hu' w => ?_)⟩⟩
          · by_cases d : i' = i
            · rw [d, w1, nI_eq (by omega) (by omega)] at w
              rw [← w]
              rw [Int32.le_iff_toInt_le] at c
              rw [Int32.lt_iff_toInt_lt]
              omega
            · exact hL i' u' (by omega) hu' w
          · rw [q41, ru_g hg, hT g hg]
          · by_cases d : i' = i
            · left
              rw [q41, d, ru_s]
            · rw [q41, ru_j d]
              exact hc.1 i' hi'
          · by_cases d : i' = i
            · right
              rcases hc.2 i' u' hi' hu' w with y | y
              · rw [d, w1, nI_eq (by omega) (by omega)] at y
                rw [← y]
                rw [Int32.le_iff_toInt_le] at c
                rw [Int32.lt_iff_toInt_lt]
                omega
              · exact y
            · rw [q41, ru_j d]
              exact hc.2 i' u' hi' hu' w
          · by_cases d : i' = i
            · rw [q41, d, ru_s] at w
              exact absurd w.symm (nI_m1 (by omega))
            · rw [q41, ru_j d] at w
              exact hL i' u' (by omega) hu' w
theorem sh_lf2 (hr : r ≤ 8) (e5 : S 0 5 = nI r) (h1 : ∀ k : Nat, k < r → S 15 k = -1 → (∀ i : Nat, i < k → ¬ S 15 i = -1) → K (nI k) S) (h0 : (∀ i : Nat, i < r → ¬ S 15 i = -1) → K (-1) S) : ∀ m i : Nat, i + m = r → (∀ i' : Nat, i' < i → ¬ S 15 i' = -1) → ro_leastFree_p_2 K (m + 1) (nI i) S := by
  intro m
  induction m with
  | zero =>
    intro i hi h
    have : i = r := by omega
    subst this
    refine ⟨fun _ => h0 h, fun q => absurd ?_ q⟩
    rw [e5, nI_leI (by omega) (by omega)]
    exact Nat.le_refl _
  | succ m ih =>
    intro i hi h
    refine ⟨fun q => ?_, fun _ => ?_⟩
    · rw [e5, nI_leI (by omega) (by omega)] at q
      omega
    · rw [nI_clamp (by omega)]
      refine ⟨vp_in_nI (by omega) (by decide), fun e v22 q22 => ?_, fun e => h1 i (by omega) e h⟩
      rw [← nI_succ] at q22
      subst q22
      refine ih (i + 1) (by omega) (fun i' hi' => ?_)
      by_cases c : i' = i
      · rw [c]; exact e
      · exact h i' (by omega)
theorem sh_out {u w : Nat} (hu : u < 16) (hw : w < 16) (h1 : al_ol (S 13) u w → K 1 S) (h0 : ¬ al_ol (S 13) u w → K 0 S) : sp_outlasts_p_0 K (nI u) (nI w) S := by
  unfold sp_outlasts_p_0 al_ol at *
  rw [nI_clamp (by omega), nI_clamp (by omega)]
  have iu : vp_in (nI u) 16 := vp_in_nI hu (by decide)
  have iw : vp_in (nI w) 16 := vp_in_nI hw (by decide)
  refine ⟨iu, iw, fun c => ⟨pv_n1, h1 (Or.inl ?_)⟩, fun c => ⟨iu, iw, fun d => ⟨pv_n0, h0 ?_⟩, fun d => ⟨fun e => ⟨pv_n0, h0 ?_⟩, fun e => ⟨pv_n1, h1 ?_⟩⟩⟩⟩
  · exact Int32.lt_iff_toInt_lt.mp c
  · rintro (q | q)
    · exact c (Int32.lt_iff_toInt_lt.mpr q)
    · exact d (Int32.toInt_inj.mp q.1)
  · rw [nI_leI (by omega) (by omega)] at e
    rintro (q | q)
    · exact c (Int32.lt_iff_toInt_lt.mpr q)
    · omega
  · rw [nI_leI (by omega) (by omega)] at e
    exact Or.inr ⟨by rw [d], by omega⟩
theorem al_Mc {P P' : Nat → Prop} {l l' : Nat → Int32} {w : Nat} (h : al_M l P w) (hP : ∀ u : Nat, P' u ↔ P u) (h16 : ∀ u : Nat, P u → l' u = l u) : al_M l' P' w := by
  refine ⟨(hP w).mpr h.1, fun u hu => ?_⟩
  have := h.2 u ((hP u).mp hu)
  unfold al_ol at this ⊢
  rw [h16 u ((hP u).mp hu), h16 w h.1]
  exact this
theorem sh_lo5 (hr : r ≤ 8) (hv : v < 16) (e5 : S 0 5 = nI r) (hh : ∀ i : Nat, i < r → ∃ u : Nat, u < 16 ∧ S 15 i = nI u) (hK : ∀ w : Nat, w < 16 → al_M (S 13) (fun u => u = v ∨ ∃ i : Nat, i < r ∧ S 15 i = nI u ∧ u < 16) w → K (nI w) S) : ∀ m i w : Nat, i + m = r → w < 16 → al_M (S 13) (fun u => u = v ∨ ∃ i' : Nat, i' < i ∧ S 15 i' = nI u ∧ u < 16) w → ro_longestOf_p_5 K (m + 1) (nI v) (nI w) (nI i) S := by
  intro m
  induction m with
  | zero =>
    intro i w hi hw h
    have : i = r := by omega
    subst this
    refine ⟨fun _ => hK w hw h, fun q => absurd ?_ q⟩
    rw [e5, nI_leI (by omega) (by omega)]
    exact Nat.le_refl _
  | succ m ih =>
    intro i w hi hw h
    obtain ⟨u, hu, eu⟩ := hh i (by omega)
    have st := al_Mstep (P' := fun u => u = v ∨ ∃ i' : Nat, i' < i + 1 ∧ S 15 i' = nI u ∧ u < 16) (m := u) h (fun u' => by
      constructor
      · rintro (q | ⟨i', hi', q⟩)
        · exact Or.inl (Or.inl q)
        · by_cases c : i' = i
          · right
            rw [c, eu] at q
            have := q.1
            rw [nI_eq (by omega) (by omega)] at this
            exact this.symm
          · exact Or.inl (Or.inr ⟨i', by omega, q⟩)
      · rintro ((q | ⟨i', hi', q⟩) | q)
        · exact Or.inl q
        · exact Or.inr ⟨i', by omega, q⟩
        · rw [q]
          exact Or.inr ⟨i, by omega, eu, hu⟩)
    refine ⟨fun q => ?_, fun _ => ?_⟩
    · rw [e5, nI_leI (by omega) (by omega)] at q
      omega
    · rw [nI_clamp (by omega), eu]
      refine ⟨vp_in_nI (by omega) (by decide), sh_out hu hw (fun c => ⟨fun q => absurd q (by decide), fun _ => ⟨vp_in_nI (by omega) (by decide), fun v36 q36 v37 q37 => ?_⟩⟩) (fun c => ⟨fun _ v37 q37 => ?_, fun q => absurd rfl q⟩)⟩
      · rw [← nI_succ] at q37
        rw [eu] at q36
        subst q37 q36
        rw [if_pos c] at st
        exact ih (i + 1) u (by omega) hu st
      · rw [← nI_succ] at q37
        subst q37
        rw [if_neg c] at st
        exact ih (i + 1) w (by omega) hw st
/-- the class, so far -/
def cs (Q : rb_S) (f l : Nat → Int32) (r q : Nat) (S : rb_S) : Prop := (∀ g : Nat, g ≠ 0 → g ≠ 14 → g ≠ 15 → S g = Q g) ∧ (∀ j : Nat, j ≠ 6 → S 0 j = Q 0 j) ∧ (∀ u : Nat, u < 16 → S 14 u = (al_it f l r q).1 u) ∧ S 0 6 = nI (al_it f l r q).2 ∧ ch l (al_it f l r q).1 r (q / 16) (S 15)
theorem ch_up {p' : Nat} {h : Nat → Int32} (hp : p ≤ p') (hp' : p' < 2 ^ 30) (hc : ch l pl r p h) : ch l pl r p' h := by
  refine ⟨hc.1, fun i u hi hu w => ?_⟩
  rcases hc.2 i u hi hu w with y | y
  · exact Or.inl y
  · right
    rw [Int32.lt_iff_toInt_lt, nI_toInt (by omega)] at y ⊢
    omega
theorem sh_settle (hr : r ≤ 8) (hv : v < 16) (hp : p < 128) (e5 : Q 0 5 = nI r) (hl : ∀ u : Nat, u < 16 → Q 13 u = l u) (hf : f v = nI p) (hff : ∀ u : Nat, u < 16 → f u = -1 ∨ ∃ b : Nat, b < 128 ∧ f u = nI b) (h : cs Q f l r (16 * p + v) S) (hK : ∀ S' : rb_S, cs Q f l r (16 * p + v + 1) S' → K0 S') : ro_release_p_0 (fun S60 => ro_settle_p_0 K0 (nI v) S60) (nI p) S := by
  obtain ⟨f1, f2, h14, h6, hc⟩ := h
  have wf := al_wfi (f := f) (l := l) hr hff (16 * p + v) (by omega)
  obtain ⟨wf1, pv, wk⟩ := al_wf1 (l := l) hr hv hp hf rfl hff wf
  rw [show (16 * p + v) / 16 = p by omega] at hc
  have eit : al_it f l r (16 * p + v + 1) = (al_pl f l r v (al_it f l r (16 * p + v)), al_sk f l r v (al_it f l r (16 * p + v))) := by
    show (if f ((16 * p + v) % 16) = nI ((16 * p + v) / 16) then _ else _) = _
    rw [show (16 * p + v) % 16 = v by omega, show (16 * p + v) / 16 = p by omega, if_pos hf]
  refine ⟨r + 1, sh_rel2 hr hp ((f2 5 (by decide)).trans e5) (fun u hu => by rw [f1 13 (by decide) (by decide) (by decide), hl u hu]) (fun T hT hc' hL => ?_) r 0 S (by omega) (fun _ _ => rfl) hc (fun i' u hi' => absurd hi' (by omega))⟩
  generalize hA : al_it f l r (16 * p + v) = A at *
  have g5 : T 0 5 = nI r := by rw [hT 0 (by decide), f2 5 (by decide), e5]
  have g13 : ∀ u : Nat, u < 16 → T 13 u = l u := fun u hu => by rw [hT 13 (by decide), f1 13 (by decide) (by decide) (by decide), hl u hu]
  -- taken and held are one
  have tk : ∀ i : Nat, i < r → (al_tk A.1 l (f v) i = true ↔ ¬ T 15 i = -1) := by
    intro i hi
    unfold al_tk
    rw [lm_any_iff]
    constructor
    · rintro ⟨u, hu, w⟩
      have w := of_decide_eq_true w
      rw [hf] at w
      rcases hc'.2 i u hi hu w.1 with y | y
      · rw [y]; exact nI_m1 (by omega)
      · exact absurd y w.2
    · intro w
      rcases hc'.1 i hi with y | ⟨u, hu, y1, y2⟩
      · exact absurd y w
      · refine ⟨u, hu, decide_eq_true ⟨y2, ?_⟩⟩
        rw [hf]
        exact hL i u hi hu y1
  have fin : ∀ U : rb_S, (∀ g : Nat, g ≠ 0 → g ≠ 14 → g ≠ 15 → U g = T g) → (∀ j : Nat, j ≠ 6 → U 0 j = T 0 j) → (∀ u : Nat, u < 16 → U 14 u = al_pl f l r v A u) → U 0 6 = nI (al_sk f l r v A) → ch l (al_pl f l r v A) r p (U 15) → K0 U := by
    intro U u1 u2 u3 u4 u5
    refine hK U ⟨fun g g0 g1 g2 => ?_, fun j hj => ?_, fun u hu => ?_, ?_, ?_⟩
    · rw [u1 g g0 g1 g2, hT g g2, f1 g g0 g1 g2]
    · rw [u2 j hj, hT 0 (by decide), f2 j hj]
    · rw [eit]; exact u3 u hu
    · rw [eit]; exact u4
    · rw [eit]
      exact ch_up (by omega) (by omega) u5
  refine ⟨r + 1, sh_lf2 hr g5 (fun k hk e1 e2 => ⟨fun _ => ?_, fun q => absurd q (nI_m1 (by omega))⟩) (fun e => ⟨fun q => absurd rfl q, fun _ => ?_⟩) r 0 (by omega) (fun i' hi' => absurd hi' (by omega))⟩
  · -- a free register
    have ek : al_k f l r v A.1 = k := al_fr_eq _ (by omega) (fun i hi => (tk i (by omega)).mpr (e2 i hi)) (fun _ => by
      rw [← Bool.not_eq_true, tk k hk]
      exact fun w => w e1)
    refine ⟨fun q => absurd q (nI_m1 (by omega)), fun _ => ⟨vp_in_nI hv (by decide), fun S61 q61 => ⟨vp_in_nI (by omega) (by decide), fun S68 q68 => ?_⟩⟩⟩
    rw [nI_clamp (by omega)] at q61 q68
    have epl : al_pl f l r v A = upd A.1 v (nI k) := by
      unfold al_pl
      rw [ek, if_pos hk]
    have w14 : S68 14 = upd (T 14) v (nI k) := by subst q68 q61; rfl
    have w15 : S68 15 = upd (T 15) k (nI v) := by subst q68 q61; rfl
    refine fin S68 (fun g g0 g1 g2 => by rw [q68, ru_g g2, q61, ru_g g1]) (fun j hj => by rw [q68, ru_g (by decide), q61, ru_g (by decide)]) (fun u hu => ?_) ?_ ?_
    · rw [w14, epl]
      by_cases c : u = v
      · rw [c, up_s, up_s]
      · rw [up_n c, up_n c, hT 14 (by decide), h14 u hu]
    · rw [q68, ru_g (by decide), q61, ru_g (by decide), hT 0 (by decide), h6]
      unfold al_sk
      rw [ek, if_pos hk]
    · rw [w15, epl]
      refine ⟨fun i hi => ?_, fun i u hi hu w => ?_⟩
      · by_cases c : i = k
        · right
          refine ⟨v, hv, by rw [c, up_s], by rw [c, up_s]⟩
        · rw [up_n c]
          rcases hc'.1 i hi with y | ⟨u, hu, y1, y2⟩
          · exact Or.inl y
          · refine Or.inr ⟨u, hu, y1, ?_⟩
            by_cases d : u = v
            · rw [d, pv] at y2
              exact absurd y2.symm (nI_m1 (by omega))
            · rw [up_n d, y2]
      · by_cases d : u = v
        · left
          rw [d, up_s, nI_eq (by omega) (by omega)] at w
          rw [← w, up_s, d]
        · rw [up_n d] at w
          rcases hc'.2 i u hi hu w with y | y
          · by_cases c : i = k
            · rw [c, e1] at y
              exact absurd y.symm (nI_m1 (by omega))
            · left
              rw [up_n c]
              exact y
          · exact Or.inr y
  · -- none is free
    have nk : ¬ al_k f l r v A.1 < r := by
      intro w
      have := al_fr_no _ _ w
      have h2 := (tk _ w).mpr (e _ w)
      unfold al_k at h2
      rw [this] at h2
      exact absurd h2 (by decide)
    obtain ⟨hs, hwv⟩ := wk nk
    have hold : ∀ i : Nat, i < r → ∃ u : Nat, u < 16 ∧ T 15 i = nI u := by
      intro i hi
      rcases hc'.1 i hi with y | ⟨u, hu, y1, y2⟩
      · exact absurd y (e i hi)
      · exact ⟨u, hu, y1⟩
    have m0 : al_M (T 13) (fun u => u = v ∨ ∃ i' : Nat, i' < 0 ∧ T 15 i' = nI u ∧ u < 16) v := by
      refine ⟨Or.inl rfl, fun u hu => ?_⟩
      rcases hu with q | ⟨i', hi', _⟩
      · rw [q]
        unfold al_ol
        omega
      · exact absurd hi' (by omega)
    refine ⟨r + 1, sh_lo5 hr hv g5 hold (fun w hw hM => ?_) r 0 v (by omega) hv m0⟩
    have ew : w = al_w f l v A.1 := by
      have M1 : al_M l (fun u => u = v ∨ (u < 16 ∧ al_ho A.1 l (f v) u = true)) w := by
        refine al_Mc hM (fun u => ?_) (fun u hu => ?_)
        · constructor
          · rintro (q | ⟨q1, q2⟩)
            · exact Or.inl q
            · right
              have q2 := of_decide_eq_true q2
              rw [hf] at q2
              rcases wf.1 u q1 with y | ⟨k, hk, y⟩ | ⟨k, hk, y⟩
              · rw [y] at q2
                exact absurd (by decide) q2.1
              · rcases hc'.2 k u hk q1 y with z | z
                · exact ⟨k, hk, z, q1⟩
                · exact absurd z q2.2.2
              · rw [y] at q2
                exact absurd (al_s16 hk).1 q2.2.1
          · rintro (q | ⟨i, hi, q1, q2⟩)
            · exact Or.inl q
            · right
              refine ⟨q2, decide_eq_true ?_⟩
              rcases hc'.1 i hi with y | ⟨u', hu', y1, y2⟩
              · exact absurd y (e i hi)
              · rw [q1, nI_eq (by omega) (by omega)] at y1
                subst y1
                have := al_r16 hr ⟨i, hi, y2⟩
                rw [hf]
                exact ⟨this.2.2, this.1, hL i u hi q2 q1⟩
        · rcases hu with q | ⟨i, hi, q1, q2⟩
          · rw [q, g13 v hv]
          · exact (g13 u q2).symm
      exact al_Mu M1 (al_ltM l (al_ho A.1 l (f v)) v 16)
    have epl : al_pl f l r v A = upd (upd A.1 v (if w = v then -1 else A.1 w)) w (nI (16 + A.2)) := by
      unfold al_pl
      rw [if_neg nk, ← ew]
    have esk : al_sk f l r v A = A.2 + 1 := by
      unfold al_sk
      rw [if_neg nk]
    rw [← ew] at hwv
    refine ⟨vp_in_nI hw (by decide), fun v25 q25 => ⟨vp_in_nI hw (by decide), fun S39 q39 S47 q47 => ?_⟩⟩
    rw [nI_clamp (by omega), hT 14 (by decide), h14 w hw] at q25
    have t6 : T 0 6 = nI A.2 := by rw [hT 0 (by decide), h6]
    rw [nI_clamp (by omega), t6, show (16 : Int32) = nI 16 from rfl, nI_add] at q39
    have t39 : S39 0 6 = nI A.2 := by rw [q39, ru_g (by decide), t6]
    rw [t39, ← nI_succ] at q47
    have w14 : S47 14 = upd (T 14) w (nI (16 + A.2)) := by subst q47 q39; rfl
    have w15 : S47 15 = T 15 := by subst q47 q39; rfl
    refine ⟨fun q => ?_, fun q => ⟨vp_in_nI hv (by decide), fun S61 q61 => ?_⟩⟩
    · -- it goes to the stack itself
      have hwe : w = v := by
        rcases hwv with y | ⟨k, hk, y⟩
        · exact y
        · rw [q25, y] at q
          exact absurd q (nI_m1 (by omega))
      refine fin S47 (fun g g0 g1 g2 => by rw [q47, ru_g g0, q39, ru_g g1]) (fun j hj => by rw [q47, ru_j hj, q39, ru_g (by decide)]) (fun u hu => ?_) ?_ ?_
      · rw [w14, epl]
        by_cases c : u = w
        · rw [c, up_s, up_s]
        · rw [up_n c, up_n c, up_n (fun d => c (d.trans hwe.symm)), hT 14 (by decide), h14 u hu]
      · rw [q47, ru_s, esk]
      · rw [w15, epl]
        have same : ∀ u i : Nat, i < r → (upd (upd A.1 v (if w = v then -1 else A.1 w)) w (nI (16 + A.2)) u = nI i ↔ A.1 u = nI i) := by
          intro u i hi
          by_cases c : u = w
          · rw [c, up_s, hwe, pv, nI_eq (by omega) (by omega)]
            exact ⟨fun y => absurd y (by omega), fun y => absurd y.symm (nI_m1 (by omega))⟩
          · rw [up_n c, up_n (fun d => c (d.trans hwe.symm))]
        refine ⟨fun i hi => ?_, fun i u hi hu y => hc'.2 i u hi hu ((same u i hi).mp y)⟩
        rcases hc'.1 i hi with y | ⟨u, hu, y1, y2⟩
        · exact Or.inl y
        · exact Or.inr ⟨u, hu, y1, (same u i hi).mpr y2⟩
    · -- it takes the register of the one that goes
      have hne : ¬ w = v := by
        intro y
        rw [q25, y, pv] at q
        exact q rfl
      obtain ⟨k, hk, ek⟩ : ∃ k : Nat, k < r ∧ A.1 w = nI k := hwv.resolve_left hne
      rw [ek] at q25
      subst q25
      refine ⟨vp_in_nI (by omega) (by decide), fun S68 q68 => ?_⟩
      rw [nI_clamp (by omega)] at q61 q68
      have x14 : S68 14 = upd (upd (T 14) w (nI (16 + A.2))) v (nI k) := by rw [q68, ru_g (by decide), q61]; show upd (S47 14) v (nI k) = _; rw [w14]
      have x15 : S68 15 = upd (T 15) k (nI v) := by rw [q68]; show upd (S61 15) k (nI v) = _; rw [q61, ru_g (by decide), w15]
      have hkw : T 15 k = nI w := by
        rcases hc'.2 k w hk hw ek with y | y
        · exact y
        · exfalso
          obtain ⟨u, hu, z⟩ := hold k hk
          have : al_ho A.1 l (f v) w = true ∨ w = v := by
            rcases (al_ltM l (al_ho A.1 l (f v)) v 16).1 with y' | y'
            · exact Or.inr (ew.trans y')
            · left
              rw [ew]
              exact y'.2
          rcases this with y' | y'
          · have := (of_decide_eq_true y').2.2
            rw [hf] at this
            exact this y
          · exact hne y'
      refine fin S68 (fun g g0 g1 g2 => by rw [q68, ru_g g2, q61, ru_g g1, q47, ru_g g0, q39, ru_g g1]) (fun j hj => by rw [q68, ru_g (by decide), q61, ru_g (by decide), q47, ru_j hj, q39, ru_g (by decide)]) (fun u hu => ?_) ?_ ?_
      · rw [x14, epl]
        by_cases c : u = v
        · rw [c, up_s, up_n (fun d => hne d.symm), up_s, if_neg hne, ek]
        · rw [up_n c]
          by_cases d : u = w
          · rw [d, up_s, up_s]
          · rw [up_n d, up_n d, up_n c, hT 14 (by decide), h14 u hu]
      · rw [q68, ru_g (by decide), q61, ru_g (by decide), q47, ru_s, esk]
      · rw [x15, epl]
        refine ⟨fun i hi => ?_, fun i u hi hu y => ?_⟩
        · by_cases c : i = k
          · right
            refine ⟨v, hv, by rw [c, up_s], ?_⟩
            rw [up_n (fun d => hne d.symm), up_s, if_neg hne, ek, c]
          · rw [up_n c]
            rcases hc'.1 i hi with y | ⟨u, hu, y1, y2⟩
            · exact Or.inl y
            · refine Or.inr ⟨u, hu, y1, ?_⟩
              have u1 : u ≠ v := by
                intro d
                rw [d, pv] at y2
                exact absurd y2.symm (nI_m1 (by omega))
              have u2 : u ≠ w := by
                intro d
                rw [d, ek, nI_eq (by omega) (by omega)] at y2
                exact c y2.symm
              rw [up_n u2, up_n u1, y2]
        · by_cases d : u = w
          · rw [d, up_s, nI_eq (by omega) (by omega)] at y
            exact absurd y (by omega)
          · rw [up_n d] at y
            by_cases d2 : u = v
            · left
              rw [d2, up_s, if_neg hne, ek, nI_eq (by omega) (by omega)] at y
              rw [← y, up_s, d2]
            · rw [up_n d2] at y
              rcases hc'.2 i u hi hu y with z | z
              · by_cases c : i = k
                · rw [c, hkw, nI_eq (by omega) (by omega)] at z
                  exact absurd z.symm d
                · left
                  rw [up_n c]
                  exact z
              · exact Or.inr z
end SH
