theorem ops_ok : OpsOK Inv := ⟨op_mint, op_emit, op_deploy, op_pay, op_call, op_submit, op_discard, op_balance, op_global, op_local, op_least, op_report, op_logged, op_count⟩
theorem law_ok (L : Nat) (xs : Nat → Int32) (hL : L ≤ 3072) : sm_R (L, xs) sm_NM 0 (sm_entry 4 [.ref 99]) [] [] (fun v w => v = some (.int 1) ∧ w.length ≤ 600000 ∧ sm_sl w ≤ 7302250) := by
  have h := law_loop (Inv := Inv) (xs := xs) hL (fun n w h => h.sh) ops_ok (fun n w h => h.step) (L + 1) 0 iwZ (by omega) (by omega) inv_init
  exact law_init h
