theorem law_pure (L : Nat) (xs : Nat → Int32) (hL : L ≤ 2048) : fL_law_b23 L xs 513 iB iM (fun _ => 0) 0 = some 1 := sorry
