/-! ===== which value gets which place: the class, whole ===== -/
section SW
variable {S Q : rb_S} {K : Int32 → rb_S → Prop} {K0 : rb_S → Prop} {f l pl : Nat → Int32} {r n v p : Nat}
theorem cs_no (hv : v < 16) (hp : p < 128) (hf : ¬ f v = nI p) (h : cs Q f l r (16 * p + v) S) : cs Q f l r (16 * p + v + 1) S := by
  have eit : al_it f l r (16 * p + v + 1) = al_it f l r (16 * p + v) := by
    show (if f ((16 * p + v) % 16) = nI ((16 * p + v) / 16) then _ else _) = _
    rw [show (16 * p + v) % 16 = v by omega, show (16 * p + v) / 16 = p by omega, if_neg hf]
  unfold cs at h ⊢
  rw [eit]
  exact ⟨h.1, h.2.1, h.2.2.1, h.2.2.2.1, ch_up (by omega) (by omega) h.2.2.2.2⟩
theorem sh_39 {B : Int32 → Int32 → rb_S → Prop} {x2 : Int32} (hr : r ≤ 8) (hp : p < 128) (e5 : Q 0 5 = nI r) (hfq : ∀ u : Nat, u < 16 → Q 12 u = f u) (hl : ∀ u : Nat, u < 16 → Q 13 u = l u) (hff : ∀ u : Nat, u < 16 → f u = -1 ∨ ∃ b : Nat, b < 128 ∧ f u = nI b) (hB : ∀ S' : rb_S, cs Q f l r (16 * (p + 1)) S' → B x2 (nI (p + 1)) S') : ∀ (m v : Nat) (S : rb_S), v + m = 16 → cs Q f l r (16 * p + v) S → ro_share_p_39 K0 B (m + 1) x2 (nI p) (nI v) S := by
  intro m
  induction m with
  | zero =>
    intro v S hv h
    have : v = 16 := by omega
    subst this
    refine ⟨fun _ v76 q76 => ?_, fun q => absurd (by decide) q⟩
    rw [← nI_succ] at q76
    subst q76
    refine hB S ?_
    rw [show 16 * (p + 1) = 16 * p + 16 by omega]
    exact h
  | succ m ih =>
    intro v S hv h
    have e12 : S 12 v = f v := by rw [h.1 12 (by decide) (by decide) (by decide), hfq v (by omega)]
    have go : ∀ U : rb_S, cs Q f l r (16 * p + v + 1) U → ro_share_p_70 K0 B (fun a0 a1 a2 T => ro_share_p_39 K0 B (m + 1) a0 a1 a2 T) x2 (nI p) (nI v) U := by
      intro U hU v70 q70
      rw [← nI_succ] at q70
      subst q70
      exact ih (v + 1) U (by omega) hU
    refine ⟨fun q => ?_, fun _ => ?_⟩
    · rw [show (16 : Int32) = nI 16 from rfl, nI_leI (by omega) (by omega)] at q
      omega
    · rw [nI_clamp (by omega), e12]
      exact ⟨vp_in_nI (by omega) (by decide), fun c => go S (cs_no (by omega) hp c h), fun c => sh_settle hr (by omega) hp e5 hl c hff h go⟩
theorem sh_28 {x2 : Int32} (hn : n ≤ 64) (hr : r ≤ 8) (e4 : Q 0 4 = nI (2 * n)) (e5 : Q 0 5 = nI r) (hfq : ∀ u : Nat, u < 16 → Q 12 u = f u) (hl : ∀ u : Nat, u < 16 → Q 13 u = l u) (hff : ∀ u : Nat, u < 16 → f u = -1 ∨ ∃ b : Nat, b < 128 ∧ f u = nI b) (hK : ∀ S' : rb_S, cs Q f l r (16 * (2 * n)) S' → K0 S') : ∀ (m p : Nat) (S : rb_S), p + m = 2 * n → cs Q f l r (16 * p) S → ro_share_p_28 K0 (m + 1) x2 (nI p) S := by
  intro m
  induction m with
  | zero =>
    intro p S hp h
    have : p = 2 * n := by omega
    subst this
    refine ⟨fun _ => hK S h, fun q => absurd ?_ q⟩
    rw [h.2.1 4 (by decide), e4, nI_leI (by omega) (by omega)]
    exact Nat.le_refl _
  | succ m ih =>
    intro p S hp h
    refine ⟨fun q => ?_, fun _ => ⟨17, sh_39 hr (by omega) e5 hfq hl hff (fun T hT => ih (p + 1) T (by omega) hT) 16 0 S (by omega) h⟩⟩
    rw [h.2.1 4 (by decide), e4, nI_leI (by omega) (by omega)] at q
    omega
theorem sh_share (hn : n ≤ 64) (hr : r ≤ 8) (e4 : S 0 4 = nI (2 * n)) (hfq : ∀ u : Nat, u < 16 → S 12 u = f u) (hl : ∀ u : Nat, u < 16 → S 13 u = l u) (hff : ∀ u : Nat, u < 16 → f u = -1 ∨ ∃ b : Nat, b < 128 ∧ f u = nI b) (hK : ∀ S' : rb_S, (∀ g : Nat, g ≠ 0 → g ≠ 14 → g ≠ 15 → S' g = S g) → (∀ j : Nat, j ≠ 5 → j ≠ 6 → S' 0 j = S 0 j) → (∀ u : Nat, u < 16 → S' 14 u = (al_it f l r (16 * (2 * n))).1 u) → S' 0 6 = nI (al_it f l r (16 * (2 * n))).2 → K0 S') : ro_share_p_0 K0 (nI r) S := by
  intro S2 q2 S7 q7
  have g7 : ∀ g : Nat, g ≠ 0 → S7 g = S g := by
    intro g hg
    rw [q7, ru_g hg, q2, ru_g hg]
  have j7 : ∀ j : Nat, j ≠ 5 → j ≠ 6 → S7 0 j = S 0 j := by
    intro j h1 h2
    rw [q7, ru_j h2, q2, ru_j h1]
  have e5 : S7 0 5 = nI r := by subst q7 q2; rfl
  have e6 : S7 0 6 = 0 := by subst q7; rfl
  refine pf_fill (by decide) (fun S15 f15 z15 => pf_fill (by decide) (fun S23 f23 z23 => ⟨2 * n + 1, sh_28 (Q := S7) (f := f) (l := l) hn hr (by rw [j7 4 (by decide) (by decide)]; exact e4) e5 (fun u hu => by rw [g7 12 (by decide)]; exact hfq u hu) (fun u hu => by rw [g7 13 (by decide)]; exact hl u hu) hff (fun T hT => ?_) (2 * n) 0 S23 (by omega) ⟨fun g g0 g1 g2 => ?_, fun j hj => ?_, fun u hu => ?_, ?_, fun i hi => ?_, fun i u hi hu w => ?_⟩⟩))
  · refine hK T (fun g g0 g1 g2 => ?_) (fun j h1 h2 => ?_) hT.2.2.1 hT.2.2.2.1
    · rw [hT.1 g g0 g1 g2, g7 g g0]
    · rw [hT.2.1 j h2, j7 j h1 h2]
  · rw [f23 g g2, f15 g g1]
  · rw [f23 0 (by decide), f15 0 (by decide)]
  · rw [f23 14 (by decide), z15 u hu]
    rfl
  · rw [f23 0 (by decide), f15 0 (by decide), e6]
    rfl
  · exact Or.inl (z23 i (by omega))
  · exact absurd w.symm (nI_m1 (by omega))
end SW
