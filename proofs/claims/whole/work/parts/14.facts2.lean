/-! a link's word: its place in lw_tbl, or in sm_nest -/
def sm_chk (w wn : Cond) (p : Nat) (ne : Bool) : Bool := if ne then decide (sm_nest[p]? = some wn) else decide (lw_tbl[p]? = some w) && goodWord w
theorem sm_chk_in {w wn : Cond} {p : Nat} {ne : Bool} (h : sm_chk w wn p ne = true) : w ∈ sm_tbl ∨ wn ∈ sm_nest := by
  unfold sm_chk at h
  cases ne with
  | true => exact Or.inr (List.mem_of_getElem? (of_decide_eq_true h))
  | false =>
    have h1 : (decide (lw_tbl[p]? = some w) && goodWord w) = true := h
    rw [Bool.and_eq_true] at h1
    exact Or.inl (sm_in_tbl (of_decide_eq_true h1.1) h1.2)
theorem sm_hi {α : Type} {f : Nat → List (Nat × α)} (h : ∀ o, f (o + 13) = []) {o i : Nat} {v : α} (hl : (f o).lookup i = some v) : o < sm_NO := by
  rcases Nat.lt_or_ge o 13 with q | q
  · exact q
  · rw [show o = (o - 13) + 13 by omega, h] at hl
    cases hl
-- fields
def sm_fchk (o : Nat) (e : Nat × Nat × Nat × Nat × Bool) : Bool :=
  sm_chk (Cond.fieldLink (sm_cn o) e.1 (sm_T e.2.1 e.2.2.1).1 (sm_T e.2.1 e.2.2.1).2.1 (sm_T e.2.1 e.2.2.1).2.2.1) (Cond.fieldLinkNest (sm_cn o) e.1 (sm_T e.2.1 e.2.2.1).1 (sm_T e.2.1 e.2.2.1).2.1 (sm_T e.2.1 e.2.2.1).2.2.1 "GroupLedger") e.2.2.2.1 e.2.2.2.2
    && (decide (sm_NC ≤ e.2.1) || (decide (e.2.2.1 < sm_nf e.2.1) && (decide ((sm_T e.2.1 e.2.2.1).1 = sm_cn e.2.1) && (!(e.2.2.2.2 && (decide (o = e.2.1)))))))
set_option maxRecDepth 100000 in
theorem st_fld_all : ∀ o, o < sm_NO → ∀ e ∈ sm_fL o, sm_fchk o e = true := by decide +kernel
theorem sm_fT_in {o idx ci j : Nat} (h : sm_fT o idx = some (ci, j)) : ∃ p ne, sm_fchk o (idx, ci, j, p, ne) = true := by
  unfold sm_fT at h
  cases hl : (sm_fL o).lookup idx with
  | none => rw [hl] at h; cases h
  | some q =>
    rw [hl] at h
    obtain ⟨c2, j2, p, ne⟩ := q
    cases h
    exact ⟨p, ne, st_fld_all o (sm_hi (f := sm_fL) (fun _ => rfl) hl) _ (sm_lookup hl)⟩
theorem st_fld {o idx ci j : Nat} (h : sm_fT o idx = some (ci, j)) : (ci < sm_NC → j < sm_nf ci ∧ sm_fin ci j = (sm_T ci j).2.2.2 ∧ (sm_fin ci j = true → (sm_T ci j).1 = sm_cn ci)) ∧ (Cond.fieldLink (sm_cn o) idx (sm_T ci j).1 (sm_T ci j).2.1 (sm_T ci j).2.2.1 ∈ sm_tbl ∨ ∃ host, Cond.fieldLinkNest (sm_cn o) idx (sm_T ci j).1 (sm_T ci j).2.1 (sm_T ci j).2.2.1 host ∈ sm_nest) := by
  obtain ⟨p, ne, hc⟩ := sm_fT_in h
  unfold sm_fchk at hc
  dsimp only at hc
  rw [Bool.and_eq_true] at hc
  refine ⟨fun hlt => ?_, ?_⟩
  · have h2 := hc.2
    rw [Bool.or_eq_true] at h2
    rcases h2 with h2 | h2
    · exact absurd hlt (Nat.not_lt.mpr (of_decide_eq_true h2))
    · rw [Bool.and_eq_true, Bool.and_eq_true] at h2
      exact ⟨of_decide_eq_true h2.1, rfl, fun _ => of_decide_eq_true h2.2.1⟩
  · rcases sm_chk_in hc.1 with h1 | h1
    · exact Or.inl h1
    · exact Or.inr ⟨_, h1⟩
/-- a class's own field is no nest mate's -/
theorem st_own {o idx j : Nat} (ho : o < sm_NC) (h : sm_fT o idx = some (o, j)) : Cond.fieldLink (sm_cn o) idx (sm_T o j).1 (sm_T o j).2.1 (sm_T o j).2.2.1 ∈ sm_tbl := by
  obtain ⟨p, ne, hc⟩ := sm_fT_in h
  unfold sm_fchk at hc
  dsimp only at hc
  rw [Bool.and_eq_true] at hc
  have h2 := hc.2
  rw [Bool.or_eq_true] at h2
  rcases h2 with h2 | h2
  · exact absurd ho (Nat.not_lt.mpr (of_decide_eq_true h2))
  · rw [Bool.and_eq_true, Bool.and_eq_true] at h2
    have h3 := h2.2.2
    cases ne with
    | true => simp at h3
    | false =>
      have h1 := hc.1
      unfold sm_chk at h1
      have h4 : (decide (lw_tbl[p]? = some (Cond.fieldLink (sm_cn o) idx (sm_T o j).1 (sm_T o j).2.1 (sm_T o j).2.2.1)) && goodWord (Cond.fieldLink (sm_cn o) idx (sm_T o j).1 (sm_T o j).2.1 (sm_T o j).2.2.1)) = true := h1
      rw [Bool.and_eq_true] at h4
      exact sm_in_tbl (of_decide_eq_true h4.1) h4.2
-- constants, new, arrays
def sm_wchk (w : Cond) (p : Nat) : Bool := decide (lw_tbl[p]? = some w) && goodWord w
theorem sm_wchk_in {w : Cond} {p : Nat} (h : sm_wchk w p = true) : w ∈ sm_tbl := by
  unfold sm_wchk at h
  rw [Bool.and_eq_true] at h
  exact sm_in_tbl (of_decide_eq_true h.1) h.2
set_option maxRecDepth 100000 in
theorem st_kI_all : ∀ o, o < sm_NO → ∀ e ∈ sm_kIL o, sm_wchk (Cond.constant (sm_cn o) e.1 e.2.1) e.2.2 = true := by decide +kernel
theorem st_kI {o idx : Nat} {v : Int32} (h : sm_kI o idx = some v) : Cond.constant (sm_cn o) idx v ∈ sm_tbl := by
  unfold sm_kI at h
  cases hl : (sm_kIL o).lookup idx with
  | none => rw [hl] at h; cases h
  | some q =>
    rw [hl] at h
    obtain ⟨c2, p⟩ := q
    cases h
    exact sm_wchk_in (st_kI_all o (sm_hi (f := sm_kIL) (fun _ => rfl) hl) _ (sm_lookup hl))
set_option maxRecDepth 100000 in
theorem st_kL_all : ∀ o, o < sm_NO → ∀ e ∈ sm_kLL o, sm_wchk (Cond.constantLong (sm_cn o) e.1 e.2.1) e.2.2 = true := by decide +kernel
theorem st_kL {o idx : Nat} {v : Int64} (h : sm_kL o idx = some v) : Cond.constantLong (sm_cn o) idx v ∈ sm_tbl := by
  unfold sm_kL at h
  cases hl : (sm_kLL o).lookup idx with
  | none => rw [hl] at h; cases h
  | some q =>
    rw [hl] at h
    obtain ⟨c2, p⟩ := q
    cases h
    exact sm_wchk_in (st_kL_all o (sm_hi (f := sm_kLL) (fun _ => rfl) hl) _ (sm_lookup hl))
set_option maxRecDepth 100000 in
theorem st_new_all : ∀ o, o < sm_NO → ∀ e ∈ sm_nL o, (decide (e.2.1 < sm_NC) && sm_wchk (Cond.classLink (sm_cn o) e.1 (sm_cn e.2.1)) e.2.2) = true := by decide +kernel
set_option maxRecDepth 100000 in
theorem st_mk_all : ∀ ci, ci < sm_NC → (decide (Cond.instantiable (sm_cn ci) (sm_nf ci) ∈ lw_tbl) && goodWord (Cond.instantiable (sm_cn ci) (sm_nf ci)) && (decide (Cond.initialized (sm_cn ci) ∈ lw_tbl) && goodWord (Cond.initialized (sm_cn ci)))) = true := by decide +kernel
theorem st_new {o idx ci : Nat} (h : sm_nT o idx = some ci) : ci < sm_NC ∧ Cond.classLink (sm_cn o) idx (sm_cn ci) ∈ sm_tbl ∧ Cond.instantiable (sm_cn ci) (sm_nf ci) ∈ sm_tbl ∧ Cond.initialized (sm_cn ci) ∈ sm_tbl := by
  unfold sm_nT at h
  cases hl : (sm_nL o).lookup idx with
  | none => rw [hl] at h; cases h
  | some q =>
    rw [hl] at h
    obtain ⟨c2, p⟩ := q
    cases h
    have h1 := st_new_all o (sm_hi (f := sm_nL) (fun _ => rfl) hl) _ (sm_lookup hl)
    rw [Bool.and_eq_true] at h1
    have hlt := of_decide_eq_true h1.1
    have h2 := st_mk_all _ hlt
    rw [Bool.and_eq_true, Bool.and_eq_true, Bool.and_eq_true] at h2
    exact ⟨hlt, sm_wchk_in h1.2, List.mem_filter.mpr ⟨of_decide_eq_true h2.1.1, h2.1.2⟩, List.mem_filter.mpr ⟨of_decide_eq_true h2.2.1, h2.2.2⟩⟩
set_option maxRecDepth 100000 in
theorem st_aT_all : ∀ o, o < sm_NO → ∀ e ∈ sm_aL o, (decide (e.2.1 = 3) && sm_wchk (Cond.classLink (sm_cn o) e.1 "GroupLedger$Program") e.2.2 || decide (e.2.1 = 4) && sm_wchk (Cond.classLink (sm_cn o) e.1 "GroupLedger$Transaction") e.2.2) = true := by decide +kernel
theorem st_aT {o idx t : Nat} (h : sm_aT o idx = some t) : t < sm_NA ∧ ∃ C, sm_aty t = .object C ∧ Cond.classLink (sm_cn o) idx C ∈ sm_tbl ∧ C ∈ sm_aoC := by
  unfold sm_aT at h
  cases hl : (sm_aL o).lookup idx with
  | none => rw [hl] at h; cases h
  | some q =>
    rw [hl] at h
    obtain ⟨c2, p⟩ := q
    cases h
    have h1 := st_aT_all o (sm_hi (f := sm_aL) (fun _ => rfl) hl) _ (sm_lookup hl)
    rw [Bool.or_eq_true, Bool.and_eq_true, Bool.and_eq_true] at h1
    rcases h1 with h1 | h1
    · have e : c2 = 3 := of_decide_eq_true h1.1
      subst e
      exact ⟨show 3 < 5 by decide, _, rfl, sm_wchk_in h1.2, by decide⟩
    · have e : c2 = 4 := of_decide_eq_true h1.1
      subst e
      exact ⟨show 4 < 5 by decide, _, rfl, sm_wchk_in h1.2, by decide⟩
set_option maxRecDepth 100000 in
theorem st_mT_all : ∀ o, o < sm_NO → ∀ e ∈ sm_mL o, sm_wchk (Cond.classLink (sm_cn o) e.1 "[[I") e.2 = true := by decide +kernel
theorem st_mT {o idx : Nat} (h : sm_mT o idx = true) : Cond.classLink (sm_cn o) idx ("[" ++ (FieldType.array .int).toString) ∈ sm_tbl := by
  unfold sm_mT at h
  cases hl : (sm_mL o).lookup idx with
  | none => rw [hl] at h; cases h
  | some p => exact sm_wchk_in (st_mT_all o (sm_hi (f := sm_mL) (fun _ => rfl) hl) _ (sm_lookup hl))
theorem sm_mem_tbl {w : Cond} (h : (decide (w ∈ lw_tbl) && goodWord w) = true) : w ∈ sm_tbl := by
  rw [Bool.and_eq_true] at h
  exact List.mem_filter.mpr ⟨of_decide_eq_true h.1, h.2⟩
set_option maxRecDepth 100000 in
theorem st_ac0 : Cond.arrayClass .int ∈ sm_tbl := sm_mem_tbl (by decide +kernel)
set_option maxRecDepth 100000 in
theorem st_ac1 : Cond.arrayClass .long ∈ sm_tbl := sm_mem_tbl (by decide +kernel)
theorem st_ref_all : ∀ t, t < 6 → 2 ≤ t → (sm_aty t).isReference = true := by decide
theorem st_ref {t : Nat} (h : 2 ≤ t) (h2 : t < 6) : (sm_aty t).isReference = true := st_ref_all t h2 h
theorem st_enN {a : Nat} (h : a < sm_enN) : a < 100 := Nat.lt_trans h (by decide)
theorem st_enN0 {ci j a : Nat} (h : ci < sm_NC) : sm_enF ci j a = none := by
  unfold sm_enF
  have e : sm_enL ci j = [] := by
    match ci, h with
    | 0, _ => rfl
    | 1, _ => rfl
    | 2, _ => rfl
    | 3, _ => rfl
    | 4, _ => rfl
    | 5, _ => rfl
    | 6, _ => rfl
    | 7, _ => rfl
    | n + 8, h => exact absurd h (by show ¬ n + 8 < 8; omega)
  rw [e]
  rfl
