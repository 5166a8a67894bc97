theorem la_pure (L : Nat) (xs : Nat → Int32) (hL : L ≤ 2560) : ∃ n : Nat, la_law_p_23 L xs n 0 37 3677 (fun _ _ => 0) := sorry
