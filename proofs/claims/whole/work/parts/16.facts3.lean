/-! FACTS OF THE METHODS -/
set_option maxRecDepth 100000 in
theorem st_me1 : ∀ k, k < sm_NM → (plainName (sm_name k).cls && decide ((sm_name k).cls = sm_cn (sm_own k)) && (decide ((sm_name k).cls ≠ "java/lang/invoke/MethodHandle") && decide ((sm_name k).cls ≠ "java/lang/invoke/VarHandle")) && (!(sm_ini k) || decide ((sm_name k).name = "<init>"))) = true := by decide +kernel
set_option maxRecDepth 100000 in
theorem st_me3 : ∀ o, o < 12 → o = 10 ∨ (decide (Cond.initialized (sm_cn o) ∈ lw_tbl) && goodWord (Cond.initialized (sm_cn o))) = true := by decide +kernel
set_option maxRecDepth 100000 in
theorem st_me4 : ∀ k, k < sm_NM → sm_own k < 12 ∧ sm_own k ≠ 10 := by decide +kernel
theorem st_meth {k : Nat} (hk : k < sm_NM) : plainName (sm_name k).cls = true ∧ Cond.code (sm_name k) (sm_code k) (sm_maxL k) (sm_ret k) ∈ sm_tbl ∧ Cond.initialized (sm_name k).cls ∈ sm_tbl ∧ ((sm_name k).cls ≠ "java/lang/invoke/MethodHandle" ∧ (sm_name k).cls ≠ "java/lang/invoke/VarHandle") ∧ (sm_name k).cls = sm_cn (sm_own k) ∧ (sm_ini k = true → (sm_name k).name = "<init>") := by
  have h1 := st_me1 k hk
  rw [Bool.and_eq_true, Bool.and_eq_true, Bool.and_eq_true, Bool.and_eq_true] at h1
  have h5 := of_decide_eq_true h1.1.1.2
  refine ⟨h1.1.1.1, st_me2 k hk, ?_, ⟨of_decide_eq_true h1.1.2.1, of_decide_eq_true h1.1.2.2⟩, h5, fun h => ?_⟩
  · rw [h5]
    have h4 := st_me4 k hk
    exact sm_mem_tbl ((st_me3 _ h4.1).resolve_left h4.2)
  · have h6 := h1.2
    rw [h] at h6
    exact of_decide_eq_true h6
def sm_pn (k n : Nat) : Bool := decide ((parseMethodDescriptor (sm_name k).desc).map (fun d => d.parameters.length) = some n)
def sm_lchk (o : Nat) (e : Nat × Nat × Nat × Bool) : Bool := sm_chk (Cond.methodLink (sm_cn o) e.1 (sm_name e.2.1)) (Cond.methodLinkNest (sm_cn o) e.1 (sm_name e.2.1) "GroupLedger") e.2.2.1 e.2.2.2
set_option maxRecDepth 100000 in
theorem st_s_all : ∀ o, o < sm_NO → ∀ e ∈ sm_sL o, (decide (e.2.1 < sm_NM) && (decide (Cond.static (sm_name e.2.1) ∈ lw_tbl) && goodWord (Cond.static (sm_name e.2.1))) && sm_pn e.2.1 (sm_par e.2.1) && sm_lchk o e) = true := by decide +kernel
theorem st_sT {o idx k : Nat} (h : sm_sT o idx = some k) : k < sm_NM ∧ Cond.static (sm_name k) ∈ sm_tbl ∧ (parseMethodDescriptor (sm_name k).desc).map (fun d => d.parameters.length) = some (sm_par k) ∧ (Cond.methodLink (sm_cn o) idx (sm_name k) ∈ sm_tbl ∨ ∃ host, Cond.methodLinkNest (sm_cn o) idx (sm_name k) host ∈ sm_nest) := by
  unfold sm_sT at h
  cases hl : (sm_sL o).lookup idx with
  | none => rw [hl] at h; cases h
  | some q =>
    rw [hl] at h
    obtain ⟨k2, p, ne⟩ := q
    cases h
    have h1 := st_s_all o (sm_hi (f := sm_sL) (fun _ => rfl) hl) _ (sm_lookup hl)
    rw [Bool.and_eq_true, Bool.and_eq_true, Bool.and_eq_true] at h1
    refine ⟨of_decide_eq_true h1.1.1.1, sm_mem_tbl h1.1.1.2, of_decide_eq_true h1.1.2, ?_⟩
    rcases sm_chk_in h1.2 with h2 | h2
    · exact Or.inl h2
    · exact Or.inr ⟨_, h2⟩
set_option maxRecDepth 100000 in
theorem st_i_all : ∀ o, o < sm_NO → ∀ e ∈ sm_iL o, (decide (e.2.1 < sm_NM) && decide ((sm_name e.2.1).name = "<init>") && sm_wchk (Cond.instanceMethod (sm_name e.2.1)) (sm_ipos e.2.1) && sm_pn e.2.1 (sm_par e.2.1 - 1) && decide (sm_ret e.2.1 = none) && sm_lchk o e) = true := by decide +kernel
theorem st_iT {o idx k : Nat} (h : sm_iT o idx = some k) : k < sm_NM ∧ (sm_name k).name = "<init>" ∧ Cond.instanceMethod (sm_name k) ∈ sm_tbl ∧ (parseMethodDescriptor (sm_name k).desc).map (fun d => d.parameters.length) = some (sm_par k - 1) ∧ sm_ret k = none ∧ (Cond.methodLink (sm_cn o) idx (sm_name k) ∈ sm_tbl ∨ ∃ host, Cond.methodLinkNest (sm_cn o) idx (sm_name k) host ∈ sm_nest) := by
  unfold sm_iT at h
  cases hl : (sm_iL o).lookup idx with
  | none => rw [hl] at h; cases h
  | some q =>
    rw [hl] at h
    obtain ⟨k2, p, ne⟩ := q
    cases h
    have h1 := st_i_all o (sm_hi (f := sm_iL) (fun _ => rfl) hl) _ (sm_lookup hl)
    rw [Bool.and_eq_true, Bool.and_eq_true, Bool.and_eq_true, Bool.and_eq_true, Bool.and_eq_true] at h1
    refine ⟨of_decide_eq_true h1.1.1.1.1.1, of_decide_eq_true h1.1.1.1.1.2, sm_wchk_in h1.1.1.1.2, of_decide_eq_true h1.1.1.2, of_decide_eq_true h1.1.2, ?_⟩
    rcases sm_chk_in h1.2 with h2 | h2
    · exact Or.inl h2
    · exact Or.inr ⟨_, h2⟩
abbrev sm_xO : MethodName := ⟨"GroupLedger$Op", "ordinal", "()I"⟩
def sm_isO (k : Nat) : Bool := decide (sm_name k = ⟨"java/lang/Enum", "ordinal", "()I"⟩)
def sm_vchk (o : Nat) (e : Nat × Nat × Nat × Bool) : Bool := decide (e.2.1 < sm_NM) && sm_wchk (Cond.instanceMethod (sm_name e.2.1)) (sm_ipos e.2.1) && sm_pn e.2.1 (sm_par e.2.1 - 1) && (sm_enM e.2.1 || decide (sm_own e.2.1 < sm_NC)) &&
  (if sm_isO e.2.1 then sm_enM e.2.1 && sm_wchk (Cond.methodLink (sm_cn o) e.1 sm_xO) e.2.2.1 && decide (sm_name e.2.1 = ⟨sm_cn (sm_own e.2.1), sm_xO.name, sm_xO.desc⟩)
   else sm_wchk (Cond.selects (sm_cn (sm_own e.2.1)) (sm_name e.2.1) (sm_name e.2.1)) (sm_spos e.2.1) && (!(sm_enM e.2.1) || decide (sm_cn (sm_own e.2.1) = sm_EN)) && sm_lchk o e)
set_option maxRecDepth 100000 in
theorem st_v_all : ∀ o, o < sm_NO → ∀ e ∈ sm_vL o, sm_vchk o e = true := by decide +kernel
set_option maxRecDepth 100000 in
theorem st_or1 : Cond.sameMethod "GroupLedger$Op" "java/lang/Enum" "ordinal" "()I" ∈ sm_tbl := sm_mem_tbl (by decide +kernel)
set_option maxRecDepth 100000 in
theorem st_or2 : Cond.selects sm_EN sm_xO ⟨"java/lang/Enum", "ordinal", "()I"⟩ ∈ sm_tbl := sm_mem_tbl (by decide +kernel)
theorem st_vT {o idx k : Nat} (h : sm_vT o idx = some k) : k < sm_NM ∧ Cond.instanceMethod (sm_name k) ∈ sm_tbl ∧ (parseMethodDescriptor (sm_name k).desc).map (fun d => d.parameters.length) = some (sm_par k - 1) ∧ (sm_enM k = false → sm_own k < sm_NC) ∧
    ((Cond.selects (sm_cn (sm_own k)) (sm_name k) (sm_name k) ∈ sm_tbl ∧ (Cond.methodLink (sm_cn o) idx (sm_name k) ∈ sm_tbl ∨ ∃ host, Cond.methodLinkNest (sm_cn o) idx (sm_name k) host ∈ sm_nest) ∧ (sm_enM k = true → sm_cn (sm_own k) = sm_EN)) ∨
     (∃ x : MethodName, sm_enM k = true ∧ Cond.methodLink (sm_cn o) idx x ∈ sm_tbl ∧ Cond.sameMethod x.cls (sm_cn (sm_own k)) x.name x.desc ∈ sm_tbl ∧ Cond.selects sm_EN x (sm_name k) ∈ sm_tbl ∧ sm_name k = ⟨sm_cn (sm_own k), x.name, x.desc⟩ ∧ (parseMethodDescriptor x.desc).map (fun d => d.parameters.length) = some (sm_par k - 1))) := by
  unfold sm_vT at h
  cases hl : (sm_vL o).lookup idx with
  | none => rw [hl] at h; cases h
  | some q =>
    rw [hl] at h
    obtain ⟨k2, p, ne⟩ := q
    cases h
    have h1 := st_v_all o (sm_hi (f := sm_vL) (fun _ => rfl) hl) _ (sm_lookup hl)
    unfold sm_vchk at h1
    dsimp only at h1 ⊢
    rw [Bool.and_eq_true, Bool.and_eq_true, Bool.and_eq_true, Bool.and_eq_true] at h1
    obtain ⟨⟨⟨⟨a1, a2⟩, a3⟩, a4⟩, a5⟩ := h1
    refine ⟨of_decide_eq_true a1, sm_wchk_in a2, of_decide_eq_true a3, fun hf => ?_, ?_⟩
    · rw [hf] at a4
      exact of_decide_eq_true a4
    · split at a5
      next hO =>
        have hn : sm_name k2 = ⟨"java/lang/Enum", "ordinal", "()I"⟩ := of_decide_eq_true hO
        rw [Bool.and_eq_true, Bool.and_eq_true] at a5
        have hn2 := of_decide_eq_true a5.2
        have hc : sm_cn (sm_own k2) = "java/lang/Enum" := by
          have := hn2.symm.trans hn
          injection this
        refine Or.inr ⟨sm_xO, a5.1.1, sm_wchk_in a5.1.2, ?_, ?_, hn2, ?_⟩
        · rw [hc]
          exact st_or1
        · rw [hn]
          exact st_or2
        · have h3 := of_decide_eq_true a3
          rw [hn] at h3
          exact h3
      next =>
        rw [Bool.and_eq_true, Bool.and_eq_true] at a5
        refine Or.inl ⟨sm_wchk_in a5.1.1, ?_, fun ht => ?_⟩
        · rcases sm_chk_in a5.2 with h2 | h2
          · exact Or.inl h2
          · exact Or.inr ⟨_, h2⟩
        · have h6 := a5.1.2
          rw [ht] at h6
          exact of_decide_eq_true h6
set_option maxRecDepth 100000 in
theorem st_cp_all : ∀ o, o < sm_NO → ∀ e ∈ sm_cpL o, sm_wchk (Cond.methodLink (sm_cn o) e.1 arraycopyName) e.2 = true := by decide +kernel
set_option maxRecDepth 100000 in
theorem st_cp2 : Cond.native arraycopyName ∈ sm_tbl ∧ Cond.static arraycopyName ∈ sm_tbl ∧ Cond.initialized "java/lang/System" ∈ sm_tbl := ⟨sm_mem_tbl (by decide +kernel), sm_mem_tbl (by decide +kernel), sm_mem_tbl (by decide +kernel)⟩
theorem st_cp {o idx : Nat} (h : sm_cpT o idx = true) : Cond.methodLink (sm_cn o) idx arraycopyName ∈ sm_tbl ∧ Cond.native arraycopyName ∈ sm_tbl ∧ Cond.static arraycopyName ∈ sm_tbl ∧ Cond.initialized "java/lang/System" ∈ sm_tbl := by
  unfold sm_cpT at h
  cases hl : (sm_cpL o).lookup idx with
  | none => rw [hl] at h; cases h
  | some p => exact ⟨sm_wchk_in (st_cp_all o (sm_hi (f := sm_cpL) (fun _ => rfl) hl) _ (sm_lookup hl)), st_cp2⟩
set_option maxRecDepth 100000 in
theorem st_ob_all : ∀ o, o < sm_NO → ∀ e ∈ sm_obL o, sm_wchk (Cond.methodLink (sm_cn o) e.1 Lib.objectInit) e.2 = true := by decide +kernel
set_option maxRecDepth 100000 in
theorem st_ob2 : Cond.instanceMethod Lib.objectInit ∈ sm_tbl ∧ Cond.code Lib.objectInit ⟨#[0xb1]⟩ 1 none ∈ sm_tbl := ⟨sm_mem_tbl (by decide +kernel), sm_mem_tbl (by decide +kernel)⟩
theorem st_ob {o idx : Nat} (h : sm_obT o idx = true) : Cond.methodLink (sm_cn o) idx Lib.objectInit ∈ sm_tbl ∧ Cond.instanceMethod Lib.objectInit ∈ sm_tbl ∧ Cond.code Lib.objectInit ⟨#[0xb1]⟩ 1 none ∈ sm_tbl := by
  unfold sm_obT at h
  cases hl : (sm_obL o).lookup idx with
  | none => rw [hl] at h; cases h
  | some p => exact ⟨sm_wchk_in (st_ob_all o (sm_hi (f := sm_obL) (fun _ => rfl) hl) _ (sm_lookup hl)), st_ob2⟩
def sm_gchk (o : Nat) (e : Nat × Nat × Nat × Bool) : Bool := decide (e.2.1 < 100) && sm_chk (Cond.fieldLink (sm_cn o) e.1 (sm_gN e.2.1).1 (sm_gN e.2.1).2.1 (sm_gN e.2.1).2.2) (Cond.fieldLinkNest (sm_cn o) e.1 (sm_gN e.2.1).1 (sm_gN e.2.1).2.1 (sm_gN e.2.1).2.2 "GroupLedger") e.2.2.1 e.2.2.2
set_option maxRecDepth 100000 in
theorem st_g_all : ∀ o, o < sm_NO → ∀ e ∈ sm_gL o, sm_gchk o e = true := by decide +kernel
theorem st_gT2 {o idx a : Nat} (h : sm_gT o idx = some a) : a < 100 ∧ (Cond.fieldLink (sm_cn o) idx (sm_gN a).1 (sm_gN a).2.1 (sm_gN a).2.2 ∈ sm_tbl ∨ ∃ host, Cond.fieldLinkNest (sm_cn o) idx (sm_gN a).1 (sm_gN a).2.1 (sm_gN a).2.2 host ∈ sm_nest) := by
  unfold sm_gT at h
  cases hl : (sm_gL o).lookup idx with
  | none => rw [hl] at h; cases h
  | some q =>
    rw [hl] at h
    obtain ⟨k2, p, ne⟩ := q
    cases h
    have h1 := st_g_all o (sm_hi (f := sm_gL) (fun _ => rfl) hl) _ (sm_lookup hl)
    unfold sm_gchk at h1
    rw [Bool.and_eq_true] at h1
    refine ⟨of_decide_eq_true h1.1, ?_⟩
    rcases sm_chk_in h1.2 with h2 | h2
    · exact Or.inl h2
    · exact Or.inr ⟨_, h2⟩
theorem st_gT {o idx a : Nat} (h : sm_gT o idx = some a) : a < 100 := (st_gT2 h).1
