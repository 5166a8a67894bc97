/-! ===== build ===== -/
theorem pp_build {G : Int32 → Int32 → rb_S → Prop} {S : rb_S} {c : Nat} {x : Int32} (h : iv S c) (hG : ∀ (k b : Int32) (S2 : rb_S), S2 1 0 = k → (k = 0 → S2 36 0 = b) → iv S2 (c + 1) → G k b S2) : la_build_p_0 (fun k S1 => mo_build_p_0 (fun b S2 => G k b S2) x S1) x S := sorry
