/-! ===== reading and setting a place ===== -/
section GT
variable {S A Q : rb_S} {x y z t v p : Int32} {K : Int32 → rb_S → Prop} {K0 : rb_S → Prop}
theorem rC_content {q : Nat} (hq : q < 32) (h : K (S 20 q) S) : ma_contentOf_p_0 K (nI q) S := by
  refine ⟨fun e => ?_, fun _ => ⟨fun e => ?_, fun _ => ⟨vp_in_nI hq (by decide), ?_⟩⟩⟩
  · rw [show (0 : Int32) = nI 0 from rfl, nI_ltI (by omega) (by omega)] at e
    omega
  · rw [show (32 : Int32) = nI 32 from rfl, nI_leI (by omega) (by omega)] at e
    omega
  · rw [nI_clamp (by omega)]
    exact h
theorem iv_plr (h : iv_pl p) : ∃ q : Nat, p = nI q ∧ q < 32 ∧ (q < 8 ∧ ¬ 16 ≤ p ∧ p < 16 ∨ 16 ≤ q ∧ 16 ≤ p ∧ ¬ p < 16) := by
  obtain ⟨q, rfl, h⟩ := h
  refine ⟨q, rfl, by omega, ?_⟩
  rw [show (16 : Int32) = nI 16 from rfl, nI_leI (by omega) (by omega), nI_ltI (by omega) (by omega)]
  omega
theorem rC_fetch (h : rC Q A S) (hp : iv_pl p) (hK : ∀ S' : rb_S, rC Q (am_ld p A) S' → K (A 1 p.toNatClampNeg) S') : ma_fetch_p_0 K p S := by
  obtain ⟨q, rfl, hq, hc⟩ := iv_plr hp
  have e20 := h.2.2.2.1 q hq
  unfold am_ld at hK
  rw [nI_clamp (by omega), ← e20] at hK
  rcases hc with ⟨_, h1, h2⟩ | ⟨_, h1, h2⟩
  · rw [if_neg h1] at hK
    exact ⟨fun _ => rC_content hq (hK S h), fun e => absurd h2 e⟩
  · rw [if_pos h1] at hK
    refine ⟨fun e => absurd e h2, fun _ S13 q13 => rC_content hq ?_⟩
    subst q13
    refine hK _ ?_
    rw [h.2.2.1.2.1]
    exact rC_u10 h _
theorem rC_assign (h : rC Q A S) (hp : iv_pl p) (hK : ∀ S' : rb_S, rC Q (am_put p v A) S' → K0 S') : ma_assign_p_0 K0 p v S := by
  obtain ⟨q, rfl, hq, hc⟩ := iv_plr hp
  unfold am_put at hK
  rw [nI_clamp (by omega)] at hK
  have st : ∀ (S1 A1 : rb_S), rC Q A1 S1 → (∀ S' : rb_S, rC Q (rb_u A1 1 q v) S' → K0 S') → ma_assign_p_16 K0 (nI q) v S1 := by
    intro S1 A1 h1 hk
    refine ⟨fun e => ?_, fun _ => ⟨fun e => ?_, fun _ => ⟨vp_in_nI hq (by decide), fun S32 q32 => ?_⟩⟩⟩
    · rw [show (0 : Int32) = nI 0 from rfl, nI_ltI (by omega) (by omega)] at e
      omega
    · rw [show (32 : Int32) = nI 32 from rfl, nI_leI (by omega) (by omega)] at e
      omega
    · rw [nI_clamp (by omega)] at q32
      subst q32
      exact hk _ (rC_c h1 q v)
  rcases hc with ⟨_, h1, h2⟩ | ⟨_, h1, h2⟩
  · rw [if_neg h1] at hK
    exact ⟨fun _ => st S A h hK, fun e => absurd h2 e⟩
  · rw [if_pos h1] at hK
    refine ⟨fun e => absurd e h2, fun _ S13 q13 => st S13 _ ?_ hK⟩
    subst q13
    rw [h.2.2.1.2.2.1]
    exact rC_u11 h _
theorem rM_get {i : Nat} (h : rM Q A i S) (hx : ¬ x < 0 ∧ ¬ 16 ≤ x) (hQ : Q 31 x.toNatClampNeg = p) (hp : iv_pl p) (hK : ∀ S' : rb_S, rM Q (am_ld p A) i S' → K (A 1 p.toNatClampNeg) S') : mo_get_p_0 K x S := by
  obtain ⟨q, rfl, hq, hc⟩ := iv_plr hp
  have e31 : S 31 x.toNatClampNeg = nI q := by rw [h.1 31 (by decide) (by decide) (by decide) (by decide) (by decide) (by decide), hQ]
  unfold am_ld at hK
  rw [nI_clamp (by omega)] at hK
  refine ⟨pv_in16 hx.1 hx.2, fun v6 q6 => ?_⟩
  rw [e31] at q6
  subst q6
  rcases hc with ⟨h8, h1, h2⟩ | ⟨h16, h1, h2⟩
  · rw [if_neg h1, ← h.2.2.2.1 q h8] at hK
    refine ⟨fun e => absurd e h1, fun _ => ⟨vp_in_nI h8 (by decide), ?_⟩⟩
    rw [nI_clamp (by omega)]
    exact hK S h
  · have e33 := h.2.2.2.2.1 (q - 16) (by omega)
    rw [show 16 + (q - 16) = q by omega] at e33
    rw [if_pos h1, ← e33] at hK
    refine ⟨fun _ S27 q27 => ?_, fun e => absurd h1 e⟩
    rw [show (nI q - 16 : Int32) = nI (q - 16) by rw [show (16 : Int32) = nI 16 from rfl, pk_sub h16], nI_clamp (by omega)]
    refine ⟨vp_in_nI (by omega) (by decide), ?_⟩
    subst q27
    refine hK _ ?_
    rw [h.2.2.1.2.2.1]
    exact rM_u8 h _
theorem rM_bring {i : Nat} (h : rM Q A i S) (hx : ¬ x < 0 ∧ ¬ 16 ≤ x) (hQ : Q 31 x.toNatClampNeg = p) (hp : iv_pl p) (hK : ∀ S' : rb_S, rM Q (am_put p v A) i S' → K0 S') : mo_bring_p_0 K0 x v S := by
  obtain ⟨q, rfl, hq, hc⟩ := iv_plr hp
  have e31 : S 31 x.toNatClampNeg = nI q := by rw [h.1 31 (by decide) (by decide) (by decide) (by decide) (by decide) (by decide), hQ]
  unfold am_put at hK
  rw [nI_clamp (by omega)] at hK
  refine ⟨pv_in16 hx.1 hx.2, fun v6 q6 => ?_⟩
  rw [e31] at q6
  subst q6
  rcases hc with ⟨h8, h1, h2⟩ | ⟨h16, h1, h2⟩
  · rw [if_neg h1] at hK
    refine ⟨fun e => absurd e h1, fun _ => ⟨vp_in_nI h8 (by decide), fun S19 q19 => ?_⟩⟩
    rw [nI_clamp (by omega)] at q19
    subst q19
    exact hK _ (rM_r h h8 v)
  · rw [if_pos h1] at hK
    refine ⟨fun _ S28 q28 => ?_, fun e => absurd h1 e⟩
    rw [show (nI q - 16 : Int32) = nI (q - 16) by rw [show (16 : Int32) = nI 16 from rfl, pk_sub h16], nI_clamp (by omega)]
    refine ⟨vp_in_nI (by omega) (by decide), fun S40 q40 => ?_⟩
    subst q40 q28
    refine hK _ ?_
    rw [h.2.2.1.2.2.2.1]
    have := rM_t (rM_u9 h (A 0 3 + 1)) (q := q - 16) v
    rw [show 16 + (q - 16) = q by omega] at this
    exact this
end GT
