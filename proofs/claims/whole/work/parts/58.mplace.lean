/-! ===== which value gets which place: the reference ===== -/
section MP
variable {S Q : rb_S} {K : Int32 → rb_S → Prop} {K0 : rb_S → Prop} {f l pl : Nat → Int32} {r n v p : Nat} {pt : Int32}
theorem lm_any1 (g : Nat → Bool) (u : Nat) : lm_any (u + 1) g = (lm_any u g || g u) := rfl
theorem mt_5 {i : Nat} {g : Nat → Bool} (hg : ∀ u : Nat, u < 16 → (g u = true ↔ S 31 u = nI i ∧ ¬ S 30 u < pt)) (h : K (if lm_any 16 g = true then 1 else 0) S) : ∀ (m u : Nat) (fl : Int32), u + m = 16 → fl = (if lm_any u g = true then 1 else 0) → mo_isTaken_p_5 K (m + 1) (nI i) pt fl (nI u) S := by
  intro m
  induction m with
  | zero =>
    intro u fl hu e
    have : u = 16 := by omega
    subst this
    rw [e]
    refine ⟨fun _ => ⟨pv_nar01 ?_, h⟩, fun q => absurd (by decide) q⟩
    by_cases c : lm_any 16 g = true
    · rw [if_pos c]; exact Or.inr rfl
    · rw [if_neg c]; exact Or.inl rfl
  | succ m ih =>
    intro u fl hu e
    have yes : lm_any (u + 1) g = true → mo_isTaken_p_38 K (fun a0 a1 a2 a3 T => mo_isTaken_p_5 K (m + 1) a0 a1 a2 a3 T) (nI i) pt fl (nI u) S := by
      intro c v44 q44
      rw [← nI_succ] at q44
      subst q44
      exact ih (u + 1) 1 (by omega) (by rw [if_pos c])
    have no : ¬ lm_any (u + 1) g = true → mo_isTaken_p_42 K (fun a0 a1 a2 a3 T => mo_isTaken_p_5 K (m + 1) a0 a1 a2 a3 T) (nI i) pt fl (nI u) S := by
      intro c v44 q44
      rw [← nI_succ] at q44
      subst q44
      exact ih (u + 1) 0 (by omega) (by rw [if_neg c])
    refine ⟨fun q => ?_, fun _ => ⟨fun c => yes ?_, fun c => ?_⟩⟩
    · rw [show (16 : Int32) = nI 16 from rfl, nI_leI (by omega) (by omega)] at q
      omega
    · by_cases d : lm_any u g = true
      · rw [lm_any1, d, Bool.true_or]
      · rw [if_neg d] at e
        exact absurd e c
    · have d : lm_any u g = false := by
        by_cases d : lm_any u g = true
        · rw [if_pos d, c] at e
          exact absurd e (by decide)
        · exact Bool.eq_false_iff.mpr d
      have hin : vp_in (nI u) 16 := vp_in_nI (by omega) (by decide)
      have e1 : lm_any (u + 1) g = true ↔ S 31 u = nI i ∧ ¬ S 30 u < pt := by rw [lm_any1, d, Bool.false_or, hg u (by omega)]
      rw [nI_clamp (by omega)]
      exact ⟨hin, fun w => no (fun y => w (e1.mp y).1), fun w => ⟨hin, fun w2 => no (fun y => (e1.mp y).2 w2), fun w2 => yes (e1.mpr ⟨w, w2⟩)⟩⟩
theorem ml_5 {c : Nat → Bool} (hv : v < 16) (hl : ∀ u : Nat, u < 16 → S 30 u = l u) (hc : ∀ u : Nat, u < 16 → (c u = true ↔ ¬ S 31 u < 0 ∧ ¬ 16 ≤ S 31 u ∧ ¬ S 30 u < pt)) (h : K (nI (al_lt l c v 16)) S) : ∀ m u : Nat, u + m = 16 → mo_latest_p_5 K (m + 1) (nI v) pt (nI (al_lt l c v u)) (nI u) S := by
  intro m
  induction m with
  | zero =>
    intro u hu
    have : u = 16 := by omega
    subst this
    exact ⟨fun _ => h, fun q => absurd (by decide) q⟩
  | succ m ih =>
    intro u hu
    have hw : al_lt l c v u < 16 := by
      rcases (al_ltM l c v u).1 with q | q
      · omega
      · omega
    have e1 : al_lt l c v (u + 1) = if c u = true ∧ al_ol l u (al_lt l c v u) then u else al_lt l c v u := rfl
    have hin : vp_in (nI u) 16 := vp_in_nI (by omega) (by decide)
    have hinw : vp_in (nI (al_lt l c v u)) 16 := vp_in_nI hw (by decide)
    have keep : ∀ x5 : Int32, ¬ (c u = true ∧ al_ol l u (al_lt l c v u)) → mo_latest_p_98 K (fun a0 a1 a2 a3 T => mo_latest_p_5 K (m + 1) a0 a1 a2 a3 T) (nI v) pt (nI (al_lt l c v u)) (nI u) x5 S := by
      intro x5 d v98 q98
      rw [← nI_succ] at q98
      subst q98
      have := ih (u + 1) (by omega)
      rw [e1, if_neg d] at this
      exact this
    have take : ∀ x5 : Int32, (c u = true ∧ al_ol l u (al_lt l c v u)) → mo_latest_p_95 K (fun a0 a1 a2 a3 T => mo_latest_p_5 K (m + 1) a0 a1 a2 a3 T) (nI v) pt (nI (al_lt l c v u)) (nI u) x5 S := by
      intro x5 d v98 q98
      rw [← nI_succ] at q98
      subst q98
      have := ih (u + 1) (by omega)
      rw [e1, if_pos d] at this
      exact this
    have no : ¬ c u = true → mo_latest_p_49 K (fun a0 a1 a2 a3 T => mo_latest_p_5 K (m + 1) a0 a1 a2 a3 T) (nI v) pt (nI (al_lt l c v u)) (nI u) S := fun d => ⟨fun _ => keep _ (fun w => d w.1), fun q => absurd rfl q⟩
    have yes : c u = true → mo_latest_p_50 K (fun a0 a1 a2 a3 T => mo_latest_p_5 K (m + 1) a0 a1 a2 a3 T) (nI v) pt (nI (al_lt l c v u)) (nI u) 1 S := by
      intro d
      unfold mo_latest_p_50
      rw [nI_clamp (by omega), nI_clamp (by omega), hl u (by omega), hl _ hw]
      refine ⟨fun q => absurd q (by decide), fun _ => ⟨hin, hinw, fun w => take _ ⟨d, Or.inl (Int32.lt_iff_toInt_lt.mp w)⟩, fun w => ⟨hin, hinw, fun w2 => keep _ ?_, fun w2 => ⟨fun w3 => keep _ ?_, fun w3 => take _ ⟨d, Or.inr ⟨by rw [w2], ?_⟩⟩⟩⟩⟩⟩
      · rintro ⟨_, y | y⟩
        · exact w (Int32.lt_iff_toInt_lt.mpr y)
        · exact w2 (Int32.toInt_inj.mp y.1)
      · rw [nI_leI (by omega) (by omega)] at w3
        rintro ⟨_, y | y⟩
        · exact w (Int32.lt_iff_toInt_lt.mpr y)
        · omega
      · rw [nI_leI (by omega) (by omega)] at w3
        omega
    refine ⟨fun q => ?_, fun _ => ?_⟩
    · rw [show (16 : Int32) = nI 16 from rfl, nI_leI (by omega) (by omega)] at q
      omega
    · rw [nI_clamp (by omega)]
      exact ⟨hin, fun w => no (fun d => ((hc u (by omega)).mp d).1 w), fun w => ⟨hin, fun w2 => no (fun d => ((hc u (by omega)).mp d).2.1 w2), fun w2 => ⟨hin, fun w3 => no (fun d => ((hc u (by omega)).mp d).2.2 w3), fun w3 => yes ((hc u (by omega)).mpr ⟨w, w2, w3⟩)⟩⟩⟩
/-- the reference, so far -/
def mp (Q : rb_S) (f l : Nat → Int32) (r q : Nat) (S : rb_S) : Prop := (∀ g : Nat, g ≠ 1 → g ≠ 31 → S g = Q g) ∧ (∀ j : Nat, j ≠ 5 → S 1 j = Q 1 j) ∧ (∀ u : Nat, u < 16 → S 31 u = (al_it f l r q).1 u) ∧ S 1 5 = nI (al_it f l r q).2
theorem mp_settle (hr : r ≤ 8) (hv : v < 16) (hp : p < 128) (hfq : ∀ u : Nat, u < 16 → Q 29 u = f u) (hl : ∀ u : Nat, u < 16 → Q 30 u = l u) (hf : f v = nI p) (hff : ∀ u : Nat, u < 16 → f u = -1 ∨ ∃ b : Nat, b < 128 ∧ f u = nI b) (h : mp Q f l r (16 * p + v) S) (hK : ∀ S' : rb_S, mp Q f l r (16 * p + v + 1) S' → K0 S') : mo_settle_p_0 K0 (nI v) (nI r) S := by
  obtain ⟨f1, f2, h31, h5⟩ := h
  have wf := al_wfi (f := f) (l := l) hr hff (16 * p + v) (by omega)
  obtain ⟨wf1, pv, wk⟩ := al_wf1 (l := l) hr hv hp hf rfl hff wf
  have eit : al_it f l r (16 * p + v + 1) = (al_pl f l r v (al_it f l r (16 * p + v)), al_sk f l r v (al_it f l r (16 * p + v))) := by
    show (if f ((16 * p + v) % 16) = nI ((16 * p + v) / 16) then _ else _) = _
    rw [show (16 * p + v) % 16 = v by omega, show (16 * p + v) / 16 = p by omega, if_pos hf]
  generalize hA : al_it f l r (16 * p + v) = A at *
  have g29 : S 29 v = f v := by rw [f1 29 (by decide) (by decide), hfq v hv]
  have g30 : ∀ u : Nat, u < 16 → S 30 u = l u := fun u hu => by rw [f1 30 (by decide) (by decide), hl u hu]
  have hinv : vp_in (nI v) 16 := vp_in_nI hv (by decide)
  have fin : ∀ U : rb_S, (∀ g : Nat, g ≠ 1 → g ≠ 31 → U g = S g) → (∀ j : Nat, j ≠ 5 → U 1 j = S 1 j) → (∀ u : Nat, u < 16 → U 31 u = al_pl f l r v A u) → U 1 5 = nI (al_sk f l r v A) → K0 U := by
    intro U u1 u2 u3 u4
    refine hK U ⟨fun g g0 g1 => ?_, fun j hj => ?_, fun u hu => ?_, ?_⟩
    · rw [u1 g g0 g1, f1 g g0 g1]
    · rw [u2 j hj, f2 j hj]
    · rw [eit]; exact u3 u hu
    · rw [eit]; exact u4
  have hkr := al_fr_le (al_tk A.1 l (f v)) r
  have k27 : mo_settle_p_27 K0 (nI v) (nI r) (nI (al_k f l r v A.1)) S := by
    unfold mo_settle_p_27
    have hkr' : al_k f l r v A.1 ≤ r := hkr
    rw [nI_leI (by omega) (by omega), nI_clamp (by omega), g29]
    refine ⟨fun c => ⟨hinv, 17, ?_⟩, fun c => ⟨hinv, fun S38 q38 => ?_⟩⟩
    · obtain ⟨hs, hwv⟩ := wk (by omega)
      have hw16 := al_w16 (f := f) (l := l) (pl := A.1) hv
      have epl : al_pl f l r v A = upd (upd A.1 v (if al_w f l v A.1 = v then -1 else A.1 (al_w f l v A.1))) (al_w f l v A.1) (nI (16 + A.2)) := by
        unfold al_pl
        rw [if_neg (by omega)]
      have esk : al_sk f l r v A = A.2 + 1 := by
        unfold al_sk
        rw [if_neg (by omega)]
      have k75 : ∀ y0 : Int32, y0 = (if al_w f l v A.1 = v then -1 else A.1 (al_w f l v A.1)) → mo_settle_p_75 K0 (nI v) (nI r) (nI (al_k f l r v A.1)) (nI (al_w f l v A.1)) y0 (nI v) S := by
        intro y0 hy
        unfold mo_settle_p_75
        rw [nI_clamp (by omega), nI_clamp (by omega)]
        refine ⟨hinv, fun S75 q75 => ⟨vp_in_nI hw16 (by decide), fun S89 q89 S97 q97 => ?_⟩⟩
        have t5 : S75 1 5 = nI A.2 := by rw [q75, ru_g (by decide), h5]
        rw [t5, show (16 : Int32) = nI 16 from rfl, nI_add] at q89
        have t89 : S89 1 5 = nI A.2 := by rw [q89, ru_g (by decide), t5]
        rw [t89, ← nI_succ] at q97
        have w31 : S97 31 = upd (upd (S 31) v y0) (al_w f l v A.1) (nI (16 + A.2)) := by subst q97 q89 q75; rfl
        refine fin S97 (fun g g0 g1 => by rw [q97, ru_g g0, q89, ru_g g1, q75, ru_g g1]) (fun j hj => by rw [q97, ru_j hj, q89, ru_g (by decide), q75, ru_g (by decide)]) (fun u hu => ?_) ?_
        · rw [w31, epl]
          by_cases d : u = al_w f l v A.1
          · rw [d, up_s, up_s]
          · rw [up_n d, up_n d]
            by_cases e : u = v
            · rw [e, up_s, up_s, hy]
            · rw [up_n e, up_n e, h31 u hu]
        · rw [q97, ru_s, esk]
      refine ml_5 (l := l) (c := al_ho A.1 l (f v)) hv g30 (fun u hu => ?_) ?_ 16 0 (by omega)
      · unfold al_ho
        rw [decide_eq_true_iff, h31 u hu, g30 u hu]
      · show (¬ nI (al_w f l v A.1) = nI v → _) ∧ (nI (al_w f l v A.1) = nI v → _)
        rw [nI_eq (by omega) (by omega)]
        refine ⟨fun d => ⟨vp_in_nI hw16 (by decide), k75 _ ?_⟩, fun d => k75 _ ?_⟩
        · rw [if_neg d]
          show S 31 (nI (al_w f l v A.1)).toNatClampNeg = _
          rw [nI_clamp (by omega), h31 _ hw16]
        · rw [if_pos d]
    · have epl : al_pl f l r v A = upd A.1 v (nI (al_k f l r v A.1)) := by
        unfold al_pl
        rw [if_pos (by omega)]
      have esk : al_sk f l r v A = A.2 := by
        unfold al_sk
        rw [if_pos (by omega)]
      refine fin S38 (fun g g0 g1 => by rw [q38, ru_g g1]) (fun j hj => by rw [q38, ru_g (by decide)]) (fun u hu => ?_) ?_
      · rw [epl, q38]
        by_cases d : u = v
        · rw [d, ru_s, up_s]
        · rw [ru_j d, up_n d, h31 u hu]
      · rw [q38, ru_g (by decide), h5, esk]
  have loop : ∀ m i : Nat, i + m = al_k f l r v A.1 → mo_settle_p_2 K0 (m + 1) (nI v) (nI r) (nI i) S := by
    have hkr' : al_k f l r v A.1 ≤ r := hkr
    intro m
    induction m with
    | zero =>
      intro i hi
      have : i = al_k f l r v A.1 := by omega
      rw [this]
      refine ⟨fun _ => k27, fun c => ⟨hinv, 17, ?_⟩⟩
      rw [nI_leI (by omega) (by omega)] at c
      rw [nI_clamp (by omega), g29]
      refine mt_5 (g := fun u => decide (A.1 u = nI (al_k f l r v A.1) ∧ ¬ l u < f v)) (fun u hu => ?_) ?_ 16 0 0 (by omega) rfl
      · rw [decide_eq_true_iff, h31 u hu, g30 u hu]
      · have := al_fr_no (al_tk A.1 l (f v)) r (show al_k f l r v A.1 < r by omega)
        have e0 : lm_any 16 (fun u => decide (A.1 u = nI (al_k f l r v A.1) ∧ ¬ l u < f v)) = false := this
        rw [e0]
        exact ⟨fun _ => k27, fun w => absurd rfl w⟩
    | succ m ih =>
      intro i hi
      refine ⟨fun c => ?_, fun c => ⟨hinv, 17, ?_⟩⟩
      · rw [nI_leI (by omega) (by omega)] at c
        omega
      · rw [nI_clamp (by omega), g29]
        refine mt_5 (g := fun u => decide (A.1 u = nI i ∧ ¬ l u < f v)) (fun u hu => ?_) ?_ 16 0 0 (by omega) rfl
        · rw [decide_eq_true_iff, h31 u hu, g30 u hu]
        · have := al_fr_tk (al_tk A.1 l (f v)) r i (show i < al_k f l r v A.1 by omega)
          have e0 : lm_any 16 (fun u => decide (A.1 u = nI i ∧ ¬ l u < f v)) = true := this
          rw [e0]
          refine ⟨fun w => absurd w (by decide), fun _ v21 q21 => ?_⟩
          rw [← nI_succ] at q21
          subst q21
          exact ih (i + 1) (by omega)
  exact ⟨al_k f l r v A.1 + 1, loop _ 0 (by omega)⟩
end MP
