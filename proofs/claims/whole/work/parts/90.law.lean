theorem law_ok (L : Nat) (xs : Nat → Int32) (hL : L ≤ 3072) : sm_R (L, xs) sm_NM 0 (sm_entry 4 [.ref 99]) [] [] (fun v w => v = some (.int 1) ∧ w.length ≤ 600000 ∧ sm_sl w ≤ 7302250) := by
  sorry
