theorem law_ok : ∀ (scr : Nat → Int32) (N : Nat), N ≤ 2560 → ∃ n, wp_L_law_L18 scr N (fun _ _ => True) n zM0 0 := sorry
