/-! FACTS OF THE TABLES -/
theorem sm_lookup {α : Type} : ∀ {l : List (Nat × α)} {i : Nat} {v : α}, l.lookup i = some v → (i, v) ∈ l
  | [], i, v, h => by cases h
  | (j, u) :: l, i, v, h => by
    rw [List.lookup_cons] at h
    split at h
    next e =>
      cases h
      rw [eq_of_beq e]
      exact List.mem_cons_self
    next => exact List.mem_cons_of_mem _ (sm_lookup h)
theorem sm_in_tbl {p : Nat} {w : Cond} (h : lw_tbl[p]? = some w) (hg : goodWord w = true) : w ∈ sm_tbl := List.mem_filter.mpr ⟨List.mem_of_getElem? h, hg⟩
theorem st_good (w : Cond) (h : w ∈ sm_tbl) : (w.onTables && w.keeps) = true ∨ ∃ ty, w = .arrayClass ty := good_of_word (List.mem_filter.mp h).2
theorem st_ncl : sm_cls.length = sm_NC := rfl
set_option maxRecDepth 100000 in
theorem st_cls_all : ∀ ci, ci < sm_NC → sm_cls[ci]? = some (sm_cn ci, sm_T ci, sm_nf ci)
  | 0, _ => rfl
  | 1, _ => rfl
  | 2, _ => rfl
  | 3, _ => rfl
  | 4, _ => rfl
  | 5, _ => rfl
  | 6, _ => rfl
  | 7, _ => rfl
  | n + 8, h => absurd h (by show ¬ n + 8 < 8; omega)
theorem st_cls {ci : Nat} (h : ci < sm_NC) : sm_cls[ci]? = some (sm_cn ci, sm_T ci, sm_nf ci) := st_cls_all ci h
set_option maxRecDepth 100000 in
theorem st_ty_all : ∀ ci, ci < sm_NC → ∀ k, k < sm_nf ci → parseFieldDescriptor (sm_T ci k).2.2.1 = some (sm_fty ci k) := by decide +kernel
theorem st_ty {ci : Nat} (h : ci < sm_NC) : ∀ k, k < sm_nf ci → parseFieldDescriptor (sm_T ci k).2.2.1 = some (sm_fty ci k) := st_ty_all ci h
set_option maxRecDepth 100000 in
theorem st_nm_all : ∀ ci, ci < sm_NC → ∀ a, a < sm_nf ci → ∀ b, b < sm_nf ci → a ≠ b → (sm_T ci a).2.1 ≠ (sm_T ci b).2.1 := by decide +kernel
theorem st_nm {ci : Nat} (h : ci < sm_NC) : ∀ a, a < sm_nf ci → ∀ b, b < sm_nf ci → a ≠ b → (sm_T ci a).2.1 ≠ (sm_T ci b).2.1 := st_nm_all ci h
set_option maxRecDepth 100000 in
theorem st_def_all : ∀ ci, ci < sm_NC → ∀ j, j < sm_nf ci → (sm_def ci)[j]? = some (defaultValue (sm_fty ci j)) := by decide +kernel
theorem st_def {ci : Nat} (h : ci < sm_NC) (j : Nat) (hj : j < sm_nf ci) : (sm_def ci)[j]? = some (defaultValue (sm_fty ci j)) := st_def_all ci h j hj
set_option maxRecDepth 100000 in
theorem st_lay_all : ∀ ci, ci < sm_NC → (u_ws (sm_cn ci) (sm_T ci) (sm_nf ci)).all (fun w => decide (w ∈ lw_tbl) && goodWord w) = true := by decide +kernel
theorem st_lay {ci : Nat} (h : ci < sm_NC) : ∀ w ∈ u_ws (sm_cn ci) (sm_T ci) (sm_nf ci), w ∈ sm_tbl := fun w hw => by
  have h1 := List.all_eq_true.mp (st_lay_all ci h) w hw
  rw [Bool.and_eq_true] at h1
  exact List.mem_filter.mpr ⟨of_decide_eq_true h1.1, h1.2⟩
