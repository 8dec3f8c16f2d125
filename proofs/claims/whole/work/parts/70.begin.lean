/-! THE START: what the Statement gives is what the small machine asks -/
def sm_flat1 : List Cond := flatC (Jvm.Cond.and given_1 narrow_1)
abbrev sm_opT (i : Nat) : Term := .static (sm_gN i).1 (sm_gN i).2.1 (sm_gN i).2.2
set_option maxRecDepth 100000 in
theorem sb_ex : ∀ i, i < 31 → Cond.exactly (sm_opT i) "GroupLedger$Op" ∈ sm_flat1 := by decide +kernel
set_option maxRecDepth 100000 in
theorem sb_el : ∀ i, i < 31 → Cond.eq (.elem (sm_opT 98) (.int (Int32.ofNat i))) (sm_opT i) ∈ sm_flat1 := by decide +kernel
set_option maxRecDepth 100000 in
theorem sb_sw : ∀ i, i < 31 → Cond.eq (.elem (sm_opT 97) (.int (Int32.ofNat i))) (.int (sm_swm i)) ∈ sm_flat1 := by decide +kernel
set_option maxRecDepth 100000 in
theorem sb_f0 : ∀ i, i < 31 → Cond.eq (.field (sm_opT i) "GroupLedger$Op" "cost" "I") (.int ((sm_enL 8 0).getD i 0)) ∈ sm_flat1 := by decide +kernel
set_option maxRecDepth 100000 in
theorem sb_f1 : ∀ i, i < 31 → Cond.eq (.field (sm_opT i) "GroupLedger$Op" "highestOperand" "I") (.int ((sm_enL 8 1).getD i 0)) ∈ sm_flat1 := by decide +kernel
set_option maxRecDepth 100000 in
theorem sb_f2 : ∀ i, i < 31 → Cond.eq (.field (sm_opT i) "GroupLedger$Op" "takesUnderTop" "I") (.int ((sm_enL 8 2).getD i 0)) ∈ sm_flat1 := by decide +kernel
set_option maxRecDepth 100000 in
theorem sb_f3 : ∀ i, i < 31 → Cond.eq (.field (sm_opT i) "GroupLedger$Op" "takesTop" "I") (.int ((sm_enL 8 3).getD i 0)) ∈ sm_flat1 := by decide +kernel
set_option maxRecDepth 100000 in
theorem sb_f4 : ∀ i, i < 31 → Cond.eq (.field (sm_opT i) "java/lang/Enum" "ordinal" "I") (.int (Int32.ofNat i)) ∈ sm_flat1 := by decide +kernel
theorem sb_f4b : ∀ i, i < 31 → (sm_enL 9 0).getD i 0 = Int32.ofNat i := by decide +kernel
set_option maxRecDepth 100000 in
theorem sb_ar : Cond.arrayOf (sm_opT 98) (.object "GroupLedger$Op") ∈ sm_flat1 ∧ Cond.eq (.length (sm_opT 98)) (.int 31) ∈ sm_flat1 ∧ Cond.arrayOf (sm_opT 97) .int ∈ sm_flat1 ∧ Cond.eq (.length (sm_opT 97)) (.int 31) ∈ sm_flat1 := by decide +kernel
set_option maxRecDepth 100000 in
theorem sb_ls : ∀ i, i < 31 → Cond.laysStatic (sm_gN i).1 (sm_gN i).2.1 (sm_gN i).2.2 ∈ lw_tbl := by decide +kernel
set_option maxRecDepth 100000 in
theorem sb_ls2 : Cond.laysStatic (sm_gN 98).1 (sm_gN 98).2.1 (sm_gN 98).2.2 ∈ lw_tbl ∧ Cond.laysStatic (sm_gN 97).1 (sm_gN 97).2.1 (sm_gN 97).2.2 ∈ lw_tbl ∧ Cond.initialized "GroupLedger$Op" ∈ lw_tbl ∧ Cond.initialized "GroupLedger" ∈ lw_tbl ∧ Cond.initialized "GroupLedger$1" ∈ lw_tbl := by decide +kernel
set_option maxRecDepth 100000 in
theorem sb_ne : sm_nest.all (fun w => decide (w ∈ lw_tbl) && w.onTables) = true := by decide +kernel
set_option maxRecDepth 100000 in
theorem sb_ao : Cond.arrayOver (.array .int) ∈ lw_tbl ∧ Cond.arrayOver (.object "GroupLedger$Program") ∈ lw_tbl ∧ Cond.arrayOver (.object "GroupLedger$Transaction") ∈ lw_tbl ∧ Cond.arrayClass .int ∈ lw_tbl ∧ Cond.arrayClass .long ∈ lw_tbl := by decide +kernel
set_option maxRecDepth 100000 in
theorem sb_g2 : ∀ o, o < sm_NO → ∀ e ∈ sm_gL o, e.2.1 < 31 ∨ e.2.1 = 97 ∨ e.2.1 = 98 := by decide +kernel
theorem sb_gT {o idx a : Nat} (h : sm_gT o idx = some a) : a < 31 ∨ a = 97 ∨ a = 98 := by
  unfold sm_gT at h
  cases hl : (sm_gL o).lookup idx with
  | none => rw [hl] at h; cases h
  | some q =>
    rw [hl] at h
    obtain ⟨k2, p, ne⟩ := q
    cases h
    exact sb_g2 o (sm_hi (f := sm_gL) (fun _ => rfl) hl) _ (sm_lookup hl)
theorem sb_gc : ∀ i, i < 31 → (sm_gN i).1 = "GroupLedger$Op" := by decide +kernel
