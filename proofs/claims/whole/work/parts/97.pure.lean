theorem pure_law (L : Nat) (xs : Nat → Int32) (hL : L ≤ 256) : ∃ h, ab_E (some (L, xs)) 14 78 2133 mL_law (0, [(0, .ref ab_scr)], [], []) (some (.int 1), h) := sorry
