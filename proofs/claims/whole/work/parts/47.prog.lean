/-! ===== what an instruction reads, sets, and where it goes ===== -/
section PG
variable {S A Q : rb_S} {x y z t : Int32} {K : Int32 → rb_S → Prop} {K0 : rb_S → Prop} {i n : Nat}
def zb (x : Int32) (v : Nat) : Bool := x.toBitVec.getLsbD v
theorem zb_or (x y : Int32) (v : Nat) : zb (x ||| y) v = (zb x v || zb y v) := by
  unfold zb
  rw [Int32.toBitVec_or, BitVec.getLsbD_or]
theorem zb_and (x y : Int32) (v : Nat) : zb (x &&& y) v = (zb x v && zb y v) := by
  unfold zb
  rw [Int32.toBitVec_and, BitVec.getLsbD_and]
theorem zb_0 (v : Nat) : zb 0 v = false := BitVec.getLsbD_zero
theorem zb_not (x : Int32) {v : Nat} (hv : v < 16) : zb (x ^^^ (-1)) v = !zb x v := by
  have h : ∀ k, k < 16 → zb (-1) k = true := by decide +kernel
  have h1 := h v hv
  unfold zb at h1 ⊢
  rw [Int32.toBitVec_xor, BitVec.getLsbD_xor, h1, Bool.xor_true]
theorem zb_one {u v : Nat} (hu : u < 16) (hv : v < 16) : zb (1 <<< (nI u &&& 31)) v = decide (v = u) := by
  have h : ∀ a b : Fin 16, zb (1 <<< (nI a.val &&& 31)) b.val = decide (b.val = a.val) := by decide +kernel
  exact h ⟨u, hu⟩ ⟨v, hv⟩
theorem zb_iv {v : Nat} (hv : v < 16) (x : Int32) : iv_bit x v = if zb x v then 1 else 0 := by
  have hs : ∀ a : Fin 16, ((nI a.val &&& 31).toBitVec.smod 32).toNat = a.val := by decide +kernel
  have h1 : zb (x >>> (nI v &&& 31)) 0 = zb x v := by
    unfold zb
    rw [Int32.toBitVec_shiftRight]
    rw [BitVec.sshiftRight_eq', BitVec.getLsbD_sshiftRight]
    have : ((nI v &&& 31).toBitVec.smod 32).toNat = v := hs ⟨v, hv⟩
    rw [this, Nat.add_zero, if_pos (by omega)]
    rfl
  have h2 : ∀ k, zb (iv_bit x v) k = (decide (k = 0) && zb x v) := by
    intro k
    unfold iv_bit
    rw [zb_and]
    by_cases hk : k = 0
    · subst hk
      rw [h1]
      have : zb 1 0 = true := by decide
      rw [this]
      simp
    · have : zb 1 k = false := by
        unfold zb
        by_cases h32 : k < 32
        · have : ∀ a : Fin 32, a.val ≠ 0 → (1 : Int32).toBitVec.getLsbD a.val = false := by decide +kernel
          exact this ⟨k, h32⟩ hk
        · exact BitVec.getLsbD_of_ge _ _ (by omega)
      rw [this]
      simp [hk]
  rcases iv_bit01 x v with e | e
  · have := h2 0
    rw [e, zb_0] at this
    simp at this
    rw [e, this]
    rfl
  · have := h2 0
    rw [e] at this
    have h10 : zb 1 0 = true := by decide
    rw [h10] at this
    simp at this
    rw [e, this]
    rfl
def pt_tg (S : rb_S) (i : Nat) : Int32 := if rb_rx (S 6 i).toNatClampNeg = 4 then S 7 i else if rb_rz (S 6 i).toNatClampNeg = 4 then S 9 i else -1
def pt_rd (S : rb_S) (v i : Nat) : Bool := decide (rb_rx (S 6 i).toNatClampNeg = 3 ∧ S 7 i = nI v) || decide (rb_ry (S 6 i).toNatClampNeg = 3 ∧ S 8 i = nI v) || decide (rb_rz (S 6 i).toNatClampNeg = 3 ∧ S 9 i = nI v)
def pt_st (S : rb_S) (v i : Nat) : Bool := decide (rb_rx (S 6 i).toNatClampNeg = 2 ∧ S 7 i = nI v)
def pt_sc (S : rb_S) (i j : Nat) : Bool := decide ((¬ S 6 i = 9 ∧ j = i + 1) ∨ pt_tg S i = nI j)
theorem pt_target (hi : i < 64) (ht : vp_in (S 6 i) 12) (h : K (pt_tg S i) S) : pg_targetOf_p_0 K (nI i) S := by
  have hin : vp_in (nI i) 64 := vp_in_nI hi (by decide)
  unfold pg_targetOf_p_0
  rw [nI_clamp (by omega)]
  unfold pt_tg at h
  refine ⟨hin, ht, fun q => ⟨hin, ht, fun q2 => ?_, fun q2 => ⟨hin, ?_⟩⟩, fun q => ⟨hin, ?_⟩⟩
  · rw [if_neg q, if_neg q2] at h
    exact h
  · rw [if_neg q, if_pos q2] at h
    exact h
  · rw [if_pos q] at h
    exact h
theorem pt_bitIf {f : Int32} {r x : Int32} (hf : r = t ∧ f = 1 ∨ ¬ r = t ∧ f = 0) (hx : r = t → ¬ x < 0 ∧ ¬ 16 ≤ x) (h : ∀ b : Int32, (∀ v : Nat, v < 16 → zb b v = decide (r = t ∧ x = nI v)) → K b S) : pg_bitIf_p_0 K f x S := by
  rcases hf with ⟨hr, rfl⟩ | ⟨hr, rfl⟩
  · refine ⟨fun e => absurd e (by decide), fun _ => h _ (fun v hv => ?_)⟩
    obtain ⟨u, hu, e⟩ := pv_nat (N := 16) (by decide) (hx hr).1 (hx hr).2
    rw [e, zb_one hu hv]
    rw [decide_eq_decide, nI_eq (by omega) (by omega)]
    exact ⟨fun q => ⟨hr, q.symm⟩, fun q => q.2.symm⟩
  · refine ⟨fun _ => h _ (fun v hv => ?_), fun e => absurd rfl e⟩
    rw [zb_0]
    exact (decide_eq_false (fun q => hr q.1)).symm
theorem pv_fitv {r x : Int32} (hr : r = 2 ∨ r = 3) (h : pv_fit r x) : ¬ x < 0 ∧ ¬ 16 ≤ x := by
  rcases hr with rfl | rfl
  · exact (pv_f2 x).mp h
  · exact (pv_f3 x).mp h
theorem pt_read (hi : i < 64) (ok : pv_ok (S 6 i) (S 7 i) (S 8 i) (S 9 i)) (h : ∀ b : Int32, (∀ v : Nat, v < 16 → zb b v = pt_rd S v i) → K b S) : pg_readBy_p_0 K (nI i) S := by
  have hin : vp_in (nI i) 64 := vp_in_nI hi (by decide)
  have ht := pv_in12 ok.1 ok.2.1
  obtain ⟨-, -, o1, o2, o3⟩ := ok
  have fin : ∀ (f1 f2 f3 : Int32), (rb_rx (S 6 i).toNatClampNeg = 3 ∧ f1 = 1 ∨ ¬ rb_rx (S 6 i).toNatClampNeg = 3 ∧ f1 = 0) → pg_readBy_p_21 K (nI i) (S 6 i) f1 S := by
    intro f1 _ _ h1
    unfold pg_readBy_p_21
    rw [nI_clamp (by omega)]
    refine ⟨hin, pt_bitIf h1 (fun q => pv_fitv (Or.inr q) o1) (fun b1 e1 => ⟨ht, ?_⟩)⟩
    have g44 : ∀ f2 : Int32, (rb_ry (S 6 i).toNatClampNeg = 3 ∧ f2 = 1 ∨ ¬ rb_ry (S 6 i).toNatClampNeg = 3 ∧ f2 = 0) → pg_readBy_p_44 K (nI i) (S 6 i) f2 b1 S := by
      intro f2 h2
      unfold pg_readBy_p_44
      rw [nI_clamp (by omega)]
      refine ⟨hin, pt_bitIf h2 (fun q => pv_fitv (Or.inr q) o2) (fun b2 e2 => ⟨ht, ?_⟩)⟩
      have g68 : ∀ f3 : Int32, (rb_rz (S 6 i).toNatClampNeg = 3 ∧ f3 = 1 ∨ ¬ rb_rz (S 6 i).toNatClampNeg = 3 ∧ f3 = 0) → pg_readBy_p_68 K (nI i) (S 6 i) f3 (b1 ||| b2) S := by
        intro f3 h3
        unfold pg_readBy_p_68
        rw [nI_clamp (by omega)]
        refine ⟨hin, pt_bitIf h3 (fun q => pv_fitv (Or.inr q) o3) (fun b3 e3 => h _ (fun v hv => ?_))⟩
        rw [zb_or, zb_or, e1 v hv, e2 v hv, e3 v hv]
        rfl
      exact ⟨fun q => g68 0 (Or.inr ⟨q, rfl⟩), fun q => g68 1 (Or.inl ⟨q, rfl⟩)⟩
    exact ⟨fun q => g44 0 (Or.inr ⟨q, rfl⟩), fun q => g44 1 (Or.inl ⟨q, rfl⟩)⟩
  refine ⟨hin, fun v6 q6 => ?_⟩
  rw [nI_clamp (by omega)] at q6
  subst q6
  exact ⟨ht, fun q => fin 0 0 0 (Or.inr ⟨q, rfl⟩), fun q => fin 1 0 0 (Or.inl ⟨q, rfl⟩)⟩
theorem pt_set (hi : i < 64) (ok : pv_ok (S 6 i) (S 7 i) (S 8 i) (S 9 i)) (h : ∀ b : Int32, (∀ v : Nat, v < 16 → zb b v = pt_st S v i) → K b S) : pg_setBy_p_0 K (nI i) S := by
  have hin : vp_in (nI i) 64 := vp_in_nI hi (by decide)
  have ht := pv_in12 ok.1 ok.2.1
  have fin : ∀ f : Int32, (rb_rx (S 6 i).toNatClampNeg = 2 ∧ f = 1 ∨ ¬ rb_rx (S 6 i).toNatClampNeg = 2 ∧ f = 0) → pg_setBy_p_19 K (nI i) f S := by
    intro f hf
    unfold pg_setBy_p_19
    rw [nI_clamp (by omega)]
    exact ⟨hin, pt_bitIf hf (fun q => pv_fitv (Or.inl q) ok.2.2.1) (fun b e => h b e)⟩
  unfold pg_setBy_p_0
  rw [nI_clamp (by omega)]
  exact ⟨hin, ht, fun q => fin 0 (Or.inr ⟨q, rfl⟩), fun q => fin 1 (Or.inl ⟨q, rfl⟩)⟩
end PG
