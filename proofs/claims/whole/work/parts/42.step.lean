/-! ===== a step ===== -/
section ST
variable {S A Q : rb_S} {x y z t v px py pz : Int32} {K0 : rb_S → Prop} {a i n : Nat}
def am_n (A : rb_S) : rb_S := rb_u A 0 0 (A 0 0 + 1)
def am_op (t l r : Int32) : Int32 := if t = 1 then l + r else if t = 2 then l - r else l * r
def am_ar (t px py pz : Int32) (A : rb_S) : rb_S := am_put px (am_op t (A 1 py.toNatClampNeg) (am_ld py A 1 pz.toNatClampNeg)) (am_ld pz (am_ld py A))
def am_cp (px py : Int32) (A : rb_S) : rb_S := if px = py ∧ ¬ 16 ≤ px then rb_u A 0 4 (A 0 4 + 1) else am_put px (A 1 py.toNatClampNeg) (am_ld py A)
def am_lo (px py : Int32) (A : rb_S) : rb_S := am_put px (am_ld py A 2 (A 1 py.toNatClampNeg &&& 15).toNatClampNeg) (am_ld py A)
def am_st (px py : Int32) (A : rb_S) : rb_S := rb_u (am_ld py (am_ld px A)) 2 (A 1 px.toNatClampNeg &&& 15).toNatClampNeg (am_ld px A 1 py.toNatClampNeg)
def am_wr (px : Int32) (A : rb_S) : rb_S := rb_u (rb_u (am_ld px A) 3 (am_ld px A 0 5 &&& 15).toNatClampNeg (A 1 px.toNatClampNeg)) 0 5 (am_ld px A 0 5 + 1)
def am_ju (t px py z : Int32) (A : rb_S) : rb_S := if (t = 10 ∧ A 1 px.toNatClampNeg < am_ld px A 1 py.toNatClampNeg) ∨ (t = 11 ∧ A 1 px.toNatClampNeg = am_ld px A 1 py.toNatClampNeg) then rb_u (am_ld py (am_ld px A)) 0 0 z else am_ld py (am_ld px A)
def am_do (t x y z px py pz : Int32) (A : rb_S) : rb_S := if t = 0 then am_put px y A else if t = 1 ∨ t = 2 ∨ t = 3 then am_ar t px py pz A else if t = 4 then am_cp px py A else if t = 5 then am_put px (am_inv A) (am_in A) else if t = 6 then am_lo px py A else if t = 7 then am_st px py A else if t = 8 then am_wr px A else if t = 9 then rb_u A 0 0 x else am_ju t px py z A
def am_step (Q A : rb_S) : rb_S := am_do (Q 6 (A 0 0).toNatClampNeg) (Q 7 (A 0 0).toNatClampNeg) (Q 8 (A 0 0).toNatClampNeg) (Q 9 (A 0 0).toNatClampNeg) (Q 14 (Q 7 (A 0 0).toNatClampNeg).toNatClampNeg) (Q 14 (Q 8 (A 0 0).toNatClampNeg).toNatClampNeg) (Q 14 (Q 9 (A 0 0).toNatClampNeg).toNatClampNeg) (am_n A)
theorem pv_in15 (x : Int32) : vp_in (x &&& 15) 16 := by
  obtain ⟨j, hj, e⟩ := pk_andE x (m := 15) 4 (by decide)
  rw [e]
  exact vp_in_nI (by omega) (by decide)
theorem pv_lt15 (x : Int32) : (x &&& 15).toNatClampNeg < 16 := by
  obtain ⟨j, hj, e⟩ := pk_andE x (m := 15) 4 (by decide)
  rw [e, nI_clamp (by omega)]
  omega

theorem rC_s0 (h : rC Q A S) (ha : a < 64) (ea : A 0 0 = nI a) (es : Q 16 a = 0) (ex : Q 17 a = px) (hx : iv_pl px) (ey : Q 18 a = y) (hK : ∀ S' : rb_S, rC Q (am_put px y (am_n A)) S' → K0 S') : ma_step_p_0 K0 S := by
  have g16 : S 16 = Q 16 := h.1 16 (by decide) (by decide) (by decide) (by decide)
  have g17 : S 17 = Q 17 := h.1 17 (by decide) (by decide) (by decide) (by decide)
  have g18 : S 18 = Q 18 := h.1 18 (by decide) (by decide) (by decide) (by decide)
  have g19 : S 19 = Q 19 := h.1 19 (by decide) (by decide) (by decide) (by decide)
  have h1 : rC Q (am_n A) (rb_u S 0 8 (nI a + 1)) := by
    have := rC_u8 h (A 0 0 + 1)
    rw [ea] at this
    unfold am_n
    rw [ea]
    exact this
  have hin : vp_in (nI a) 64 := vp_in_nI ha (by decide)
  intro v4 q4
  rw [h.2.2.1.1, ea] at q4
  subst q4
  rw [nI_clamp (by omega)]
  refine ⟨hin, fun v11 q11 => ⟨hin, fun v18 q18 S24 q24 => ⟨hin, ?_⟩⟩⟩
  rw [← q24] at h1
  have hs : S24 16 a = 0 := by rw [q24, ru_g (by decide), g16, es]
  have hz : S24 19 a = Q 19 a := by rw [q24, ru_g (by decide), g19]
  rw [g17] at q11
  rw [g18] at q18
  rw [ex] at q11
  subst q11
  rw [ey] at q18
  subst q18
  exact ⟨fun _ => rC_assign h1 hx (fun S9 r => hK S9 r), fun e => absurd (hs.symm.trans e) (by decide), fun e => absurd (hs.symm.trans e) (by decide), fun e => absurd (hs.symm.trans e) (by decide), fun e => absurd (hs.symm.trans e) (by decide), fun e => absurd (hs.symm.trans e) (by decide), fun e => absurd (hs.symm.trans e) (by decide), fun e => absurd (hs.symm.trans e) (by decide), fun e => absurd (hs.symm.trans e) (by decide), fun e => absurd (hs.symm.trans e) (by decide), fun e => absurd (hs.symm.trans e) (by decide), fun e => absurd (hs.symm.trans e) (by decide), fun e => absurd (hs.symm.trans e) (by decide), fun e => absurd (hs ▸ e) (by decide)⟩

theorem rC_s1 (h : rC Q A S) (ha : a < 64) (ea : A 0 0 = nI a) (es : Q 16 a = 1) (ex : Q 17 a = px) (hx : iv_pl px) (ey : Q 18 a = py) (hy : iv_pl py) (ez : Q 19 a = pz) (hz0 : iv_pl pz) (hK : ∀ S' : rb_S, rC Q (am_ar 1 px py pz (am_n A)) S' → K0 S') : ma_step_p_0 K0 S := by
  have g16 : S 16 = Q 16 := h.1 16 (by decide) (by decide) (by decide) (by decide)
  have g17 : S 17 = Q 17 := h.1 17 (by decide) (by decide) (by decide) (by decide)
  have g18 : S 18 = Q 18 := h.1 18 (by decide) (by decide) (by decide) (by decide)
  have g19 : S 19 = Q 19 := h.1 19 (by decide) (by decide) (by decide) (by decide)
  have h1 : rC Q (am_n A) (rb_u S 0 8 (nI a + 1)) := by
    have := rC_u8 h (A 0 0 + 1)
    rw [ea] at this
    unfold am_n
    rw [ea]
    exact this
  have hin : vp_in (nI a) 64 := vp_in_nI ha (by decide)
  intro v4 q4
  rw [h.2.2.1.1, ea] at q4
  subst q4
  rw [nI_clamp (by omega)]
  refine ⟨hin, fun v11 q11 => ⟨hin, fun v18 q18 S24 q24 => ⟨hin, ?_⟩⟩⟩
  rw [← q24] at h1
  have hs : S24 16 a = 1 := by rw [q24, ru_g (by decide), g16, es]
  have hz : S24 19 a = Q 19 a := by rw [q24, ru_g (by decide), g19]
  rw [g17] at q11
  rw [g18] at q18
  rw [ex] at q11
  subst q11
  rw [ey] at q18
  subst q18
  exact ⟨fun e => absurd (hs.symm.trans e) (by decide), fun _ => ⟨hin, hin, rC_fetch h1 hy (fun S2 r1 => rC_fetch r1 (show iv_pl (S24 19 a) by rw [hz, ez]; exact hz0) (fun S10 r2 => by
      rw [hz, ez] at r2 ⊢
      exact ⟨fun _ => rC_assign r2 hx (fun S9 r => hK S9 r), fun e => absurd (hs.symm.trans e) (by decide), fun e => absurd hs e.1⟩))⟩, fun e => absurd (hs.symm.trans e) (by decide), fun e => absurd (hs.symm.trans e) (by decide), fun e => absurd (hs.symm.trans e) (by decide), fun e => absurd (hs.symm.trans e) (by decide), fun e => absurd (hs.symm.trans e) (by decide), fun e => absurd (hs.symm.trans e) (by decide), fun e => absurd (hs.symm.trans e) (by decide), fun e => absurd (hs.symm.trans e) (by decide), fun e => absurd (hs.symm.trans e) (by decide), fun e => absurd (hs.symm.trans e) (by decide), fun e => absurd (hs.symm.trans e) (by decide), fun e => absurd (hs ▸ e) (by decide)⟩

theorem rC_s2 (h : rC Q A S) (ha : a < 64) (ea : A 0 0 = nI a) (es : Q 16 a = 2) (ex : Q 17 a = px) (hx : iv_pl px) (ey : Q 18 a = py) (hy : iv_pl py) (ez : Q 19 a = pz) (hz0 : iv_pl pz) (hK : ∀ S' : rb_S, rC Q (am_ar 2 px py pz (am_n A)) S' → K0 S') : ma_step_p_0 K0 S := by
  have g16 : S 16 = Q 16 := h.1 16 (by decide) (by decide) (by decide) (by decide)
  have g17 : S 17 = Q 17 := h.1 17 (by decide) (by decide) (by decide) (by decide)
  have g18 : S 18 = Q 18 := h.1 18 (by decide) (by decide) (by decide) (by decide)
  have g19 : S 19 = Q 19 := h.1 19 (by decide) (by decide) (by decide) (by decide)
  have h1 : rC Q (am_n A) (rb_u S 0 8 (nI a + 1)) := by
    have := rC_u8 h (A 0 0 + 1)
    rw [ea] at this
    unfold am_n
    rw [ea]
    exact this
  have hin : vp_in (nI a) 64 := vp_in_nI ha (by decide)
  intro v4 q4
  rw [h.2.2.1.1, ea] at q4
  subst q4
  rw [nI_clamp (by omega)]
  refine ⟨hin, fun v11 q11 => ⟨hin, fun v18 q18 S24 q24 => ⟨hin, ?_⟩⟩⟩
  rw [← q24] at h1
  have hs : S24 16 a = 2 := by rw [q24, ru_g (by decide), g16, es]
  have hz : S24 19 a = Q 19 a := by rw [q24, ru_g (by decide), g19]
  rw [g17] at q11
  rw [g18] at q18
  rw [ex] at q11
  subst q11
  rw [ey] at q18
  subst q18
  exact ⟨fun e => absurd (hs.symm.trans e) (by decide), fun e => absurd (hs.symm.trans e) (by decide), fun _ => ⟨hin, hin, rC_fetch h1 hy (fun S2 r1 => rC_fetch r1 (show iv_pl (S24 19 a) by rw [hz, ez]; exact hz0) (fun S10 r2 => by
      rw [hz, ez] at r2 ⊢
      exact ⟨fun e => absurd (hs.symm.trans e) (by decide), fun _ => rC_assign r2 hx (fun S9 r => hK S9 r), fun e => absurd hs e.2⟩))⟩, fun e => absurd (hs.symm.trans e) (by decide), fun e => absurd (hs.symm.trans e) (by decide), fun e => absurd (hs.symm.trans e) (by decide), fun e => absurd (hs.symm.trans e) (by decide), fun e => absurd (hs.symm.trans e) (by decide), fun e => absurd (hs.symm.trans e) (by decide), fun e => absurd (hs.symm.trans e) (by decide), fun e => absurd (hs.symm.trans e) (by decide), fun e => absurd (hs.symm.trans e) (by decide), fun e => absurd (hs.symm.trans e) (by decide), fun e => absurd (hs ▸ e) (by decide)⟩

theorem rC_s3 (h : rC Q A S) (ha : a < 64) (ea : A 0 0 = nI a) (es : Q 16 a = 3) (ex : Q 17 a = px) (hx : iv_pl px) (ey : Q 18 a = py) (hy : iv_pl py) (ez : Q 19 a = pz) (hz0 : iv_pl pz) (hK : ∀ S' : rb_S, rC Q (am_ar 3 px py pz (am_n A)) S' → K0 S') : ma_step_p_0 K0 S := by
  have g16 : S 16 = Q 16 := h.1 16 (by decide) (by decide) (by decide) (by decide)
  have g17 : S 17 = Q 17 := h.1 17 (by decide) (by decide) (by decide) (by decide)
  have g18 : S 18 = Q 18 := h.1 18 (by decide) (by decide) (by decide) (by decide)
  have g19 : S 19 = Q 19 := h.1 19 (by decide) (by decide) (by decide) (by decide)
  have h1 : rC Q (am_n A) (rb_u S 0 8 (nI a + 1)) := by
    have := rC_u8 h (A 0 0 + 1)
    rw [ea] at this
    unfold am_n
    rw [ea]
    exact this
  have hin : vp_in (nI a) 64 := vp_in_nI ha (by decide)
  intro v4 q4
  rw [h.2.2.1.1, ea] at q4
  subst q4
  rw [nI_clamp (by omega)]
  refine ⟨hin, fun v11 q11 => ⟨hin, fun v18 q18 S24 q24 => ⟨hin, ?_⟩⟩⟩
  rw [← q24] at h1
  have hs : S24 16 a = 3 := by rw [q24, ru_g (by decide), g16, es]
  have hz : S24 19 a = Q 19 a := by rw [q24, ru_g (by decide), g19]
  rw [g17] at q11
  rw [g18] at q18
  rw [ex] at q11
  subst q11
  rw [ey] at q18
  subst q18
  exact ⟨fun e => absurd (hs.symm.trans e) (by decide), fun e => absurd (hs.symm.trans e) (by decide), fun e => absurd (hs.symm.trans e) (by decide), fun _ => ⟨hin, hin, rC_fetch h1 hy (fun S2 r1 => rC_fetch r1 (show iv_pl (S24 19 a) by rw [hz, ez]; exact hz0) (fun S10 r2 => by
      rw [hz, ez] at r2 ⊢
      exact ⟨fun e => absurd (hs.symm.trans e) (by decide), fun e => absurd (hs.symm.trans e) (by decide), fun _ => rC_assign r2 hx (fun S9 r => hK S9 r)⟩))⟩, fun e => absurd (hs.symm.trans e) (by decide), fun e => absurd (hs.symm.trans e) (by decide), fun e => absurd (hs.symm.trans e) (by decide), fun e => absurd (hs.symm.trans e) (by decide), fun e => absurd (hs.symm.trans e) (by decide), fun e => absurd (hs.symm.trans e) (by decide), fun e => absurd (hs.symm.trans e) (by decide), fun e => absurd (hs.symm.trans e) (by decide), fun e => absurd (hs.symm.trans e) (by decide), fun e => absurd (hs ▸ e) (by decide)⟩

theorem rC_s4 (h : rC Q A S) (ha : a < 64) (ea : A 0 0 = nI a) (es : Q 16 a = 4) (ex : Q 17 a = px) (hx : iv_pl px) (ey : Q 18 a = py) (hy : iv_pl py) (hK : ∀ S' : rb_S, rC Q (am_put px (am_n A 1 py.toNatClampNeg) (am_ld py (am_n A))) S' → K0 S') : ma_step_p_0 K0 S := by
  have g16 : S 16 = Q 16 := h.1 16 (by decide) (by decide) (by decide) (by decide)
  have g17 : S 17 = Q 17 := h.1 17 (by decide) (by decide) (by decide) (by decide)
  have g18 : S 18 = Q 18 := h.1 18 (by decide) (by decide) (by decide) (by decide)
  have g19 : S 19 = Q 19 := h.1 19 (by decide) (by decide) (by decide) (by decide)
  have h1 : rC Q (am_n A) (rb_u S 0 8 (nI a + 1)) := by
    have := rC_u8 h (A 0 0 + 1)
    rw [ea] at this
    unfold am_n
    rw [ea]
    exact this
  have hin : vp_in (nI a) 64 := vp_in_nI ha (by decide)
  intro v4 q4
  rw [h.2.2.1.1, ea] at q4
  subst q4
  rw [nI_clamp (by omega)]
  refine ⟨hin, fun v11 q11 => ⟨hin, fun v18 q18 S24 q24 => ⟨hin, ?_⟩⟩⟩
  rw [← q24] at h1
  have hs : S24 16 a = 4 := by rw [q24, ru_g (by decide), g16, es]
  have hz : S24 19 a = Q 19 a := by rw [q24, ru_g (by decide), g19]
  rw [g17] at q11
  rw [g18] at q18
  rw [ex] at q11
  subst q11
  rw [ey] at q18
  subst q18
  exact ⟨fun e => absurd (hs.symm.trans e) (by decide), fun e => absurd (hs.symm.trans e) (by decide), fun e => absurd (hs.symm.trans e) (by decide), fun e => absurd (hs.symm.trans e) (by decide), fun _ => rC_fetch h1 hy (fun S2 r1 => rC_assign r1 hx (fun S9 r => hK S9 r)), fun e => absurd (hs.symm.trans e) (by decide), fun e => absurd (hs.symm.trans e) (by decide), fun e => absurd (hs.symm.trans e) (by decide), fun e => absurd (hs.symm.trans e) (by decide), fun e => absurd (hs.symm.trans e) (by decide), fun e => absurd (hs.symm.trans e) (by decide), fun e => absurd (hs.symm.trans e) (by decide), fun e => absurd (hs.symm.trans e) (by decide), fun e => absurd (hs ▸ e) (by decide)⟩

theorem rC_s5 (h : rC Q A S) (ha : a < 64) (ea : A 0 0 = nI a) (es : Q 16 a = 5) (ex : Q 17 a = px) (hx : iv_pl px) (hK : ∀ S' : rb_S, rC Q (am_put px (am_inv (am_n A)) (am_in (am_n A))) S' → K0 S') : ma_step_p_0 K0 S := by
  have g16 : S 16 = Q 16 := h.1 16 (by decide) (by decide) (by decide) (by decide)
  have g17 : S 17 = Q 17 := h.1 17 (by decide) (by decide) (by decide) (by decide)
  have g18 : S 18 = Q 18 := h.1 18 (by decide) (by decide) (by decide) (by decide)
  have g19 : S 19 = Q 19 := h.1 19 (by decide) (by decide) (by decide) (by decide)
  have h1 : rC Q (am_n A) (rb_u S 0 8 (nI a + 1)) := by
    have := rC_u8 h (A 0 0 + 1)
    rw [ea] at this
    unfold am_n
    rw [ea]
    exact this
  have hin : vp_in (nI a) 64 := vp_in_nI ha (by decide)
  intro v4 q4
  rw [h.2.2.1.1, ea] at q4
  subst q4
  rw [nI_clamp (by omega)]
  refine ⟨hin, fun v11 q11 => ⟨hin, fun v18 q18 S24 q24 => ⟨hin, ?_⟩⟩⟩
  rw [← q24] at h1
  have hs : S24 16 a = 5 := by rw [q24, ru_g (by decide), g16, es]
  have hz : S24 19 a = Q 19 a := by rw [q24, ru_g (by decide), g19]
  rw [g17] at q11
  rw [g18] at q18
  rw [ex] at q11
  subst q11
  exact ⟨fun e => absurd (hs.symm.trans e) (by decide), fun e => absurd (hs.symm.trans e) (by decide), fun e => absurd (hs.symm.trans e) (by decide), fun e => absurd (hs.symm.trans e) (by decide), fun e => absurd (hs.symm.trans e) (by decide), fun _ => rC_next h1 (fun S2 r1 => rC_assign r1 hx (fun S9 r => hK S9 r)), fun e => absurd (hs.symm.trans e) (by decide), fun e => absurd (hs.symm.trans e) (by decide), fun e => absurd (hs.symm.trans e) (by decide), fun e => absurd (hs.symm.trans e) (by decide), fun e => absurd (hs.symm.trans e) (by decide), fun e => absurd (hs.symm.trans e) (by decide), fun e => absurd (hs.symm.trans e) (by decide), fun e => absurd (hs ▸ e) (by decide)⟩

theorem rC_s6 (h : rC Q A S) (ha : a < 64) (ea : A 0 0 = nI a) (es : Q 16 a = 6) (ex : Q 17 a = px) (hx : iv_pl px) (ey : Q 18 a = py) (hy : iv_pl py) (hK : ∀ S' : rb_S, rC Q (am_lo px py (am_n A)) S' → K0 S') : ma_step_p_0 K0 S := by
  have g16 : S 16 = Q 16 := h.1 16 (by decide) (by decide) (by decide) (by decide)
  have g17 : S 17 = Q 17 := h.1 17 (by decide) (by decide) (by decide) (by decide)
  have g18 : S 18 = Q 18 := h.1 18 (by decide) (by decide) (by decide) (by decide)
  have g19 : S 19 = Q 19 := h.1 19 (by decide) (by decide) (by decide) (by decide)
  have h1 : rC Q (am_n A) (rb_u S 0 8 (nI a + 1)) := by
    have := rC_u8 h (A 0 0 + 1)
    rw [ea] at this
    unfold am_n
    rw [ea]
    exact this
  have hin : vp_in (nI a) 64 := vp_in_nI ha (by decide)
  intro v4 q4
  rw [h.2.2.1.1, ea] at q4
  subst q4
  rw [nI_clamp (by omega)]
  refine ⟨hin, fun v11 q11 => ⟨hin, fun v18 q18 S24 q24 => ⟨hin, ?_⟩⟩⟩
  rw [← q24] at h1
  have hs : S24 16 a = 6 := by rw [q24, ru_g (by decide), g16, es]
  have hz : S24 19 a = Q 19 a := by rw [q24, ru_g (by decide), g19]
  rw [g17] at q11
  rw [g18] at q18
  rw [ex] at q11
  subst q11
  rw [ey] at q18
  subst q18
  exact ⟨fun e => absurd (hs.symm.trans e) (by decide), fun e => absurd (hs.symm.trans e) (by decide), fun e => absurd (hs.symm.trans e) (by decide), fun e => absurd (hs.symm.trans e) (by decide), fun e => absurd (hs.symm.trans e) (by decide), fun e => absurd (hs.symm.trans e) (by decide), fun _ => rC_fetch h1 hy (fun S2 r1 => ⟨pv_in15 _, by
    rw [r1.2.2.2.2.1 _ (pv_lt15 _)]
    exact rC_assign r1 hx (fun S9 r => hK S9 r)⟩), fun e => absurd (hs.symm.trans e) (by decide), fun e => absurd (hs.symm.trans e) (by decide), fun e => absurd (hs.symm.trans e) (by decide), fun e => absurd (hs.symm.trans e) (by decide), fun e => absurd (hs.symm.trans e) (by decide), fun e => absurd (hs.symm.trans e) (by decide), fun e => absurd (hs ▸ e) (by decide)⟩

theorem rC_s7 (h : rC Q A S) (ha : a < 64) (ea : A 0 0 = nI a) (es : Q 16 a = 7) (ex : Q 17 a = px) (hx : iv_pl px) (ey : Q 18 a = py) (hy : iv_pl py) (hK : ∀ S' : rb_S, rC Q (am_st px py (am_n A)) S' → K0 S') : ma_step_p_0 K0 S := by
  have g16 : S 16 = Q 16 := h.1 16 (by decide) (by decide) (by decide) (by decide)
  have g17 : S 17 = Q 17 := h.1 17 (by decide) (by decide) (by decide) (by decide)
  have g18 : S 18 = Q 18 := h.1 18 (by decide) (by decide) (by decide) (by decide)
  have g19 : S 19 = Q 19 := h.1 19 (by decide) (by decide) (by decide) (by decide)
  have h1 : rC Q (am_n A) (rb_u S 0 8 (nI a + 1)) := by
    have := rC_u8 h (A 0 0 + 1)
    rw [ea] at this
    unfold am_n
    rw [ea]
    exact this
  have hin : vp_in (nI a) 64 := vp_in_nI ha (by decide)
  intro v4 q4
  rw [h.2.2.1.1, ea] at q4
  subst q4
  rw [nI_clamp (by omega)]
  refine ⟨hin, fun v11 q11 => ⟨hin, fun v18 q18 S24 q24 => ⟨hin, ?_⟩⟩⟩
  rw [← q24] at h1
  have hs : S24 16 a = 7 := by rw [q24, ru_g (by decide), g16, es]
  have hz : S24 19 a = Q 19 a := by rw [q24, ru_g (by decide), g19]
  rw [g17] at q11
  rw [g18] at q18
  rw [ex] at q11
  subst q11
  rw [ey] at q18
  subst q18
  exact ⟨fun e => absurd (hs.symm.trans e) (by decide), fun e => absurd (hs.symm.trans e) (by decide), fun e => absurd (hs.symm.trans e) (by decide), fun e => absurd (hs.symm.trans e) (by decide), fun e => absurd (hs.symm.trans e) (by decide), fun e => absurd (hs.symm.trans e) (by decide), fun e => absurd (hs.symm.trans e) (by decide), fun _ => rC_fetch h1 hx (fun S2 r1 => rC_fetch r1 hy (fun S3 r2 => ⟨pv_in15 _, fun S4 q4 => by
    subst q4
    exact hK _ (rC_m r2 _ _)⟩)), fun e => absurd (hs.symm.trans e) (by decide), fun e => absurd (hs.symm.trans e) (by decide), fun e => absurd (hs.symm.trans e) (by decide), fun e => absurd (hs.symm.trans e) (by decide), fun e => absurd (hs.symm.trans e) (by decide), fun e => absurd (hs ▸ e) (by decide)⟩

theorem rC_s8 (h : rC Q A S) (ha : a < 64) (ea : A 0 0 = nI a) (es : Q 16 a = 8) (ex : Q 17 a = px) (hx : iv_pl px) (hK : ∀ S' : rb_S, rC Q (am_wr px (am_n A)) S' → K0 S') : ma_step_p_0 K0 S := by
  have g16 : S 16 = Q 16 := h.1 16 (by decide) (by decide) (by decide) (by decide)
  have g17 : S 17 = Q 17 := h.1 17 (by decide) (by decide) (by decide) (by decide)
  have g18 : S 18 = Q 18 := h.1 18 (by decide) (by decide) (by decide) (by decide)
  have g19 : S 19 = Q 19 := h.1 19 (by decide) (by decide) (by decide) (by decide)
  have h1 : rC Q (am_n A) (rb_u S 0 8 (nI a + 1)) := by
    have := rC_u8 h (A 0 0 + 1)
    rw [ea] at this
    unfold am_n
    rw [ea]
    exact this
  have hin : vp_in (nI a) 64 := vp_in_nI ha (by decide)
  intro v4 q4
  rw [h.2.2.1.1, ea] at q4
  subst q4
  rw [nI_clamp (by omega)]
  refine ⟨hin, fun v11 q11 => ⟨hin, fun v18 q18 S24 q24 => ⟨hin, ?_⟩⟩⟩
  rw [← q24] at h1
  have hs : S24 16 a = 8 := by rw [q24, ru_g (by decide), g16, es]
  have hz : S24 19 a = Q 19 a := by rw [q24, ru_g (by decide), g19]
  rw [g17] at q11
  rw [g18] at q18
  rw [ex] at q11
  subst q11
  exact ⟨fun e => absurd (hs.symm.trans e) (by decide), fun e => absurd (hs.symm.trans e) (by decide), fun e => absurd (hs.symm.trans e) (by decide), fun e => absurd (hs.symm.trans e) (by decide), fun e => absurd (hs.symm.trans e) (by decide), fun e => absurd (hs.symm.trans e) (by decide), fun e => absurd (hs.symm.trans e) (by decide), fun e => absurd (hs.symm.trans e) (by decide), fun _ => rC_fetch h1 hx (fun S2 r1 => by
    have e13 := r1.2.2.1.2.2.2.2
    refine ⟨pv_in15 _, fun S12 q12 S20 q20 => ?_⟩
    have e12 : S12 0 13 = S2 0 13 := by subst q12; rfl
    rw [e12, e13] at q20
    rw [e13] at q12
    subst q20 q12
    exact hK _ (rC_u13 (rC_o r1 _ _) _)), fun e => absurd (hs.symm.trans e) (by decide), fun e => absurd (hs.symm.trans e) (by decide), fun e => absurd (hs.symm.trans e) (by decide), fun e => absurd (hs.symm.trans e) (by decide), fun e => absurd (hs ▸ e) (by decide)⟩

theorem rC_s9 (h : rC Q A S) (ha : a < 64) (ea : A 0 0 = nI a) (es : Q 16 a = 9) (ex : Q 17 a = x) (hK : ∀ S' : rb_S, rC Q (rb_u (am_n A) 0 0 x) S' → K0 S') : ma_step_p_0 K0 S := by
  have g16 : S 16 = Q 16 := h.1 16 (by decide) (by decide) (by decide) (by decide)
  have g17 : S 17 = Q 17 := h.1 17 (by decide) (by decide) (by decide) (by decide)
  have g18 : S 18 = Q 18 := h.1 18 (by decide) (by decide) (by decide) (by decide)
  have g19 : S 19 = Q 19 := h.1 19 (by decide) (by decide) (by decide) (by decide)
  have h1 : rC Q (am_n A) (rb_u S 0 8 (nI a + 1)) := by
    have := rC_u8 h (A 0 0 + 1)
    rw [ea] at this
    unfold am_n
    rw [ea]
    exact this
  have hin : vp_in (nI a) 64 := vp_in_nI ha (by decide)
  intro v4 q4
  rw [h.2.2.1.1, ea] at q4
  subst q4
  rw [nI_clamp (by omega)]
  refine ⟨hin, fun v11 q11 => ⟨hin, fun v18 q18 S24 q24 => ⟨hin, ?_⟩⟩⟩
  rw [← q24] at h1
  have hs : S24 16 a = 9 := by rw [q24, ru_g (by decide), g16, es]
  have hz : S24 19 a = Q 19 a := by rw [q24, ru_g (by decide), g19]
  rw [g17] at q11
  rw [g18] at q18
  rw [ex] at q11
  subst q11
  exact ⟨fun e => absurd (hs.symm.trans e) (by decide), fun e => absurd (hs.symm.trans e) (by decide), fun e => absurd (hs.symm.trans e) (by decide), fun e => absurd (hs.symm.trans e) (by decide), fun e => absurd (hs.symm.trans e) (by decide), fun e => absurd (hs.symm.trans e) (by decide), fun e => absurd (hs.symm.trans e) (by decide), fun e => absurd (hs.symm.trans e) (by decide), fun e => absurd (hs.symm.trans e) (by decide), fun _ => ⟨hin, hin, fun e => absurd hs e, fun _ S8 q8 => by
    subst q8
    exact hK _ (rC_u8 h1 _)⟩, fun e => absurd (hs.symm.trans e) (by decide), fun e => absurd (hs.symm.trans e) (by decide), fun e => absurd (hs.symm.trans e) (by decide), fun e => absurd (hs ▸ e) (by decide)⟩

theorem rC_s10 (h : rC Q A S) (ha : a < 64) (ea : A 0 0 = nI a) (es : Q 16 a = 10) (ex : Q 17 a = px) (hx : iv_pl px) (ey : Q 18 a = py) (hy : iv_pl py) (ez : Q 19 a = z) (hK : ∀ S' : rb_S, rC Q (am_ju 10 px py z (am_n A)) S' → K0 S') : ma_step_p_0 K0 S := by
  have g16 : S 16 = Q 16 := h.1 16 (by decide) (by decide) (by decide) (by decide)
  have g17 : S 17 = Q 17 := h.1 17 (by decide) (by decide) (by decide) (by decide)
  have g18 : S 18 = Q 18 := h.1 18 (by decide) (by decide) (by decide) (by decide)
  have g19 : S 19 = Q 19 := h.1 19 (by decide) (by decide) (by decide) (by decide)
  have h1 : rC Q (am_n A) (rb_u S 0 8 (nI a + 1)) := by
    have := rC_u8 h (A 0 0 + 1)
    rw [ea] at this
    unfold am_n
    rw [ea]
    exact this
  have hin : vp_in (nI a) 64 := vp_in_nI ha (by decide)
  intro v4 q4
  rw [h.2.2.1.1, ea] at q4
  subst q4
  rw [nI_clamp (by omega)]
  refine ⟨hin, fun v11 q11 => ⟨hin, fun v18 q18 S24 q24 => ⟨hin, ?_⟩⟩⟩
  rw [← q24] at h1
  have hs : S24 16 a = 10 := by rw [q24, ru_g (by decide), g16, es]
  have hz : S24 19 a = Q 19 a := by rw [q24, ru_g (by decide), g19]
  rw [g17] at q11
  rw [g18] at q18
  rw [ex] at q11
  subst q11
  rw [ey] at q18
  subst q18
  exact ⟨fun e => absurd (hs.symm.trans e) (by decide), fun e => absurd (hs.symm.trans e) (by decide), fun e => absurd (hs.symm.trans e) (by decide), fun e => absurd (hs.symm.trans e) (by decide), fun e => absurd (hs.symm.trans e) (by decide), fun e => absurd (hs.symm.trans e) (by decide), fun e => absurd (hs.symm.trans e) (by decide), fun e => absurd (hs.symm.trans e) (by decide), fun e => absurd (hs.symm.trans e) (by decide), fun e => absurd (hs.symm.trans e) (by decide), fun _ => ⟨hin, hin, fun _ => rC_fetch h1 hx (fun S2 r1 => rC_fetch r1 hy (fun S3 r2 => ⟨fun e => absurd hs e, fun _ => ⟨fun e S5 q5 => hK S5 (by
    rw [hz, ez] at q5
    subst q5
    unfold am_ju
    rw [if_pos (Or.inl ⟨rfl, e⟩)]
    exact rC_u8 r2 _), fun e => ⟨fun _ => hK S3 (by
    unfold am_ju
    rw [if_neg (fun w => w.elim (fun w => e w.2) (fun w => absurd w.1 (by decide)))]
    exact r2), fun e => absurd (hs.symm.trans e) (by decide)⟩⟩⟩)), fun e => absurd (hs.symm.trans e) (by decide)⟩, fun e => absurd (hs.symm.trans e) (by decide), fun e => absurd (hs.symm.trans e) (by decide), fun e => absurd (hs ▸ e) (by decide)⟩

theorem rC_s11 (h : rC Q A S) (ha : a < 64) (ea : A 0 0 = nI a) (es : Q 16 a = 11) (ex : Q 17 a = px) (hx : iv_pl px) (ey : Q 18 a = py) (hy : iv_pl py) (ez : Q 19 a = z) (hK : ∀ S' : rb_S, rC Q (am_ju 11 px py z (am_n A)) S' → K0 S') : ma_step_p_0 K0 S := by
  have g16 : S 16 = Q 16 := h.1 16 (by decide) (by decide) (by decide) (by decide)
  have g17 : S 17 = Q 17 := h.1 17 (by decide) (by decide) (by decide) (by decide)
  have g18 : S 18 = Q 18 := h.1 18 (by decide) (by decide) (by decide) (by decide)
  have g19 : S 19 = Q 19 := h.1 19 (by decide) (by decide) (by decide) (by decide)
  have h1 : rC Q (am_n A) (rb_u S 0 8 (nI a + 1)) := by
    have := rC_u8 h (A 0 0 + 1)
    rw [ea] at this
    unfold am_n
    rw [ea]
    exact this
  have hin : vp_in (nI a) 64 := vp_in_nI ha (by decide)
  intro v4 q4
  rw [h.2.2.1.1, ea] at q4
  subst q4
  rw [nI_clamp (by omega)]
  refine ⟨hin, fun v11 q11 => ⟨hin, fun v18 q18 S24 q24 => ⟨hin, ?_⟩⟩⟩
  rw [← q24] at h1
  have hs : S24 16 a = 11 := by rw [q24, ru_g (by decide), g16, es]
  have hz : S24 19 a = Q 19 a := by rw [q24, ru_g (by decide), g19]
  rw [g17] at q11
  rw [g18] at q18
  rw [ex] at q11
  subst q11
  rw [ey] at q18
  subst q18
  exact ⟨fun e => absurd (hs.symm.trans e) (by decide), fun e => absurd (hs.symm.trans e) (by decide), fun e => absurd (hs.symm.trans e) (by decide), fun e => absurd (hs.symm.trans e) (by decide), fun e => absurd (hs.symm.trans e) (by decide), fun e => absurd (hs.symm.trans e) (by decide), fun e => absurd (hs.symm.trans e) (by decide), fun e => absurd (hs.symm.trans e) (by decide), fun e => absurd (hs.symm.trans e) (by decide), fun e => absurd (hs.symm.trans e) (by decide), fun e => absurd (hs.symm.trans e) (by decide), fun _ => ⟨hin, hin, fun _ => rC_fetch h1 hx (fun S2 r1 => rC_fetch r1 hy (fun S3 r2 => ⟨fun _ => ⟨fun e => absurd hs e, fun _ => ⟨fun e => hK S3 (by
    unfold am_ju
    rw [if_neg (fun w => w.elim (fun w => absurd w.1 (by decide)) (fun w => e w.2))]
    exact r2), fun e S5 q5 => hK S5 (by
    rw [hz, ez] at q5
    subst q5
    unfold am_ju
    rw [if_pos (Or.inr ⟨rfl, e⟩)]
    exact rC_u8 r2 _)⟩⟩, fun e => absurd (hs.symm.trans e) (by decide)⟩)), fun e => absurd (hs.symm.trans e) (by decide)⟩, fun e => absurd (hs.symm.trans e) (by decide), fun e => absurd (hs ▸ e) (by decide)⟩

theorem rC_s12 (h : rC Q A S) (ha : a < 64) (ea : A 0 0 = nI a) (es : Q 16 a = 12)  (hK : ∀ S' : rb_S, rC Q (rb_u (am_n A) 0 4 (am_n A 0 4 + 1)) S' → K0 S') : ma_step_p_0 K0 S := by
  have g16 : S 16 = Q 16 := h.1 16 (by decide) (by decide) (by decide) (by decide)
  have g17 : S 17 = Q 17 := h.1 17 (by decide) (by decide) (by decide) (by decide)
  have g18 : S 18 = Q 18 := h.1 18 (by decide) (by decide) (by decide) (by decide)
  have g19 : S 19 = Q 19 := h.1 19 (by decide) (by decide) (by decide) (by decide)
  have h1 : rC Q (am_n A) (rb_u S 0 8 (nI a + 1)) := by
    have := rC_u8 h (A 0 0 + 1)
    rw [ea] at this
    unfold am_n
    rw [ea]
    exact this
  have hin : vp_in (nI a) 64 := vp_in_nI ha (by decide)
  intro v4 q4
  rw [h.2.2.1.1, ea] at q4
  subst q4
  rw [nI_clamp (by omega)]
  refine ⟨hin, fun v11 q11 => ⟨hin, fun v18 q18 S24 q24 => ⟨hin, ?_⟩⟩⟩
  rw [← q24] at h1
  have hs : S24 16 a = 12 := by rw [q24, ru_g (by decide), g16, es]
  have hz : S24 19 a = Q 19 a := by rw [q24, ru_g (by decide), g19]
  rw [g17] at q11
  rw [g18] at q18
  skip
  exact ⟨fun e => absurd (hs.symm.trans e) (by decide), fun e => absurd (hs.symm.trans e) (by decide), fun e => absurd (hs.symm.trans e) (by decide), fun e => absurd (hs.symm.trans e) (by decide), fun e => absurd (hs.symm.trans e) (by decide), fun e => absurd (hs.symm.trans e) (by decide), fun e => absurd (hs.symm.trans e) (by decide), fun e => absurd (hs.symm.trans e) (by decide), fun e => absurd (hs.symm.trans e) (by decide), fun e => absurd (hs.symm.trans e) (by decide), fun e => absurd (hs.symm.trans e) (by decide), fun e => absurd (hs.symm.trans e) (by decide), fun _ => fun S9 q9 => by
    rw [h1.2.2.1.2.2.2.1] at q9
    subst q9
    exact hK _ (rC_u12 h1 _), fun e => absurd (hs ▸ e) (by decide)⟩

end ST
