/-! THE SMALL MACHINE'S CELLS IN THE REAL HEAP: cell k of the small machine lies at B + k -/
def sm_ad (B : Nat) (sa : Nat → Nat) (i : Nat) : Nat := if i < 100 then sa i else B + (i - 100)
def sm_mp (B : Nat) (sa : Nat → Nat) (v : Value) : Value := match v with
  | .ref i => .ref (sm_ad B sa i)
  | .int x => .int x
  | .long x => .long x
  | .float x => .float x
  | .double x => .double x
  | .null => .null
  | .retAddr x => .retAddr x
def sm_cf (B : Nat) (sa : Nat → Nat) (f : (Nat → Int32) ⊕ (Nat → Int64) ⊕ (Nat → UInt32) ⊕ (Nat → UInt64) ⊕ (Nat → Option Nat)) : (Nat → Int32) ⊕ (Nat → Int64) ⊕ (Nat → UInt32) ⊕ (Nat → UInt64) ⊕ (Nat → Option Nat) := match f with
  | .inl f => .inl f
  | .inr (.inl f) => .inr (.inl f)
  | .inr (.inr (.inl f)) => .inr (.inr (.inl f))
  | .inr (.inr (.inr (.inl f))) => .inr (.inr (.inr (.inl f)))
  | .inr (.inr (.inr (.inr f))) => .inr (.inr (.inr (.inr (fun j => (f j).map (sm_ad B sa)))))
def sm_ce (B : Nat) (sa : Nat → Nat) (dA : Nat → ClassId) (c : sm_C) : va_E := match c with
  | .inl (t, n, f) => .inl (dA t, n, sm_cf B sa f)
  | .inr (ci, fs) => .inr (ci, fs.map (sm_mp B sa))
def sm_ws (B : Nat) (sa : Nat → Nat) (dA : Nat → ClassId) (w : sm_W) : va_W := w.mapIdx fun k c => (B + k, sm_ce B sa dA c)
def sm_csz (c : sm_C) : Nat := match c with
  | .inl (_, n, _) => n
  | .inr (ci, _) => sm_nf ci
def sm_sl (w : sm_W) : Nat := (w.map sm_csz).sum
theorem sm_mp_cat {B : Nat} {sa : Nat → Nat} (v : Value) : (sm_mp B sa v).category = v.category := by cases v <;> rfl
theorem sm_ws_get {B : Nat} {sa : Nat → Nat} {dA : Nat → ClassId} {w : sm_W} {k : Nat} {c : sm_C} (h : w[k]? = some c) : (sm_ws B sa dA w)[k]? = some (B + k, sm_ce B sa dA c) := by
  unfold sm_ws
  rw [List.getElem?_mapIdx, h]
  rfl
theorem sm_ws_len {B : Nat} {sa : Nat → Nat} {dA : Nat → ClassId} {w : sm_W} : (sm_ws B sa dA w).length = w.length := by
  unfold sm_ws
  exact List.length_mapIdx
theorem sm_ws_set {B : Nat} {sa : Nat → Nat} {dA : Nat → ClassId} (w : sm_W) (k : Nat) (c : sm_C) : (sm_ws B sa dA w).set k (B + k, sm_ce B sa dA c) = sm_ws B sa dA (w.set k c) := by
  apply List.ext_getElem?
  intro i
  by_cases h : i = k
  · subst h
    by_cases hl : i < w.length
    · rw [List.getElem?_set_self (by rw [sm_ws_len]; exact hl), sm_ws_get (c := c) (List.getElem?_set_self hl)]
    · rw [List.getElem?_eq_none (by rw [List.length_set, sm_ws_len]; omega), List.getElem?_eq_none (by rw [sm_ws_len, List.length_set]; omega)]
  · rw [List.getElem?_set_ne (Ne.symm h)]
    unfold sm_ws
    rw [List.getElem?_mapIdx, List.getElem?_mapIdx, List.getElem?_set_ne (Ne.symm h)]
theorem sm_ws_app {B : Nat} {sa : Nat → Nat} {dA : Nat → ClassId} (w : sm_W) (c : sm_C) : sm_ws B sa dA (w ++ [c]) = sm_ws B sa dA w ++ [(B + w.length, sm_ce B sa dA c)] := by
  unfold sm_ws
  rw [List.mapIdx_append]
  simp
theorem sm_ws_in {B : Nat} {sa : Nat → Nat} {dA : Nat → ClassId} {w : sm_W} {k : Nat} {q : Nat × va_E} (h : (sm_ws B sa dA w)[k]? = some q) : k < w.length ∧ q.1 = B + k := by
  have hl := (List.getElem?_eq_some_iff.mp h).1
  rw [sm_ws_len] at hl
  refine ⟨hl, ?_⟩
  have h2 := sm_ws_get (B := B) (sa := sa) (dA := dA) (List.getElem?_eq_getElem hl)
  rw [h] at h2
  rw [Option.some.inj h2]
theorem sm_ws_D {B : Nat} {sa : Nat → Nat} {dA : Nat → ClassId} (w : sm_W) : va_D (fun q => B ≤ q) (sm_ws B sa dA w) := by
  refine ⟨fun i j x y hi hj hxy => ?_, fun k q hk => ?_⟩
  · have h1 := (sm_ws_in hi).2
    have h2 := (sm_ws_in hj).2
    omega
  · have h1 := (sm_ws_in hk).2
    show B ≤ q.1
    omega
theorem sm_sl_app (w : sm_W) (c : sm_C) : sm_sl (w ++ [c]) = sm_sl w + sm_csz c := by
  unfold sm_sl
  simp
theorem sm_sl_set {w : sm_W} {k : Nat} {c c0 : sm_C} (h : w[k]? = some c0) (hz : sm_csz c = sm_csz c0) : sm_sl (w.set k c) = sm_sl w := by
  unfold sm_sl
  congr 1
  apply List.ext_getElem?
  intro i
  rw [List.getElem?_map, List.getElem?_map]
  by_cases hi : i = k
  · subst hi
    rw [List.getElem?_set_self (List.getElem?_eq_some_iff.mp h).1, h]
    simp [hz]
  · rw [List.getElem?_set_ne (Ne.symm hi)]
/-- the local variables -/
def sm_L (B : Nat) (sa : Nat → Nat) (lsA : Array Slot) (nL : Nat) (ls : List Value) : Prop := lsA.size = nL ∧ lv_wf lsA ∧ ∀ (i : Nat) (v : Value), ls[i]? = some v → v ≠ sm_J → lsA[i]? = some (.val (sm_mp B sa v))
def sm_lv (B : Nat) (sa : Nat → Nat) (ls : List Value) : List (Nat × Value) := (ls.zipIdx.filter (fun q => decide (q.1 ≠ sm_J))).map (fun q => (q.2, sm_mp B sa q.1))
theorem sm_lv_mem {B : Nat} {sa : Nat → Nat} {ls : List Value} {q : Nat × Value} : q ∈ sm_lv B sa ls ↔ ∃ v, ls[q.1]? = some v ∧ v ≠ sm_J ∧ q.2 = sm_mp B sa v := by
  unfold sm_lv
  rw [List.mem_map]
  constructor
  · rintro ⟨⟨v, i⟩, h1, rfl⟩
    rw [List.mem_filter] at h1
    obtain ⟨h2, h3⟩ := h1
    rw [List.mem_zipIdx_iff_getElem?] at h2
    exact ⟨v, h2, by simpa using h3, rfl⟩
  · rintro ⟨v, h1, h2, h3⟩
    refine ⟨(v, q.1), ?_, by rw [← h3]⟩
    rw [List.mem_filter, List.mem_zipIdx_iff_getElem?]
    exact ⟨h1, by simpa using h2⟩
theorem sm_L.has {B : Nat} {sa : Nat → Nat} {lsA : Array Slot} {nL : Nat} {ls : List Value} (h : sm_L B sa lsA nL ls) : lv_has lsA nL (sm_lv B sa ls) := by
  refine ⟨h.1, h.2.1, fun q hq => ?_⟩
  obtain ⟨v, h1, h2, h3⟩ := sm_lv_mem.mp hq
  rw [h.2.2 q.1 v h1 h2, h3]
theorem sm_cl_get {ls : List Value} {i j : Nat} {v : Value} (h : (sm_cl ls i)[j]? = some v) (hv : v ≠ sm_J) : ls[j]? = some v ∧ ¬ (j + 1 = i ∧ v.category = 2) := by
  unfold sm_cl at h
  cases i with
  | zero => exact ⟨h, fun q => absurd q.1 (by omega)⟩
  | succ k =>
    dsimp only at h
    cases hk : ls[k]? with
    | none =>
      rw [hk] at h
      refine ⟨h, fun q => ?_⟩
      have e : j = k := by omega
      subst e
      rw [hk] at h
      cases h
    | some u =>
      rw [hk] at h
      dsimp only at h
      by_cases hc : u.category = 2
      · rw [if_pos hc] at h
        by_cases e : j = k
        · subst e
          rw [List.getElem?_set_self (List.getElem?_eq_some_iff.mp hk).1] at h
          exact absurd (Option.some.inj h).symm hv
        · rw [List.getElem?_set_ne (Ne.symm e)] at h
          exact ⟨h, fun q => e (by omega)⟩
      · rw [if_neg hc] at h
        refine ⟨h, fun q => ?_⟩
        have e : j = k := by omega
        subst e
        rw [hk] at h
        cases h
        exact hc q.2
theorem sm_L.put1 {B : Nat} {sa : Nat → Nat} {lsA lsA' : Array Slot} {nL : Nat} {ls : List Value} {i : Nat} {v : Value} (hl : sm_L B sa lsA nL ls) (h : lv_has lsA' nL ((i, sm_mp B sa v) :: (sm_lv B sa ls).filter (fun q => !(q.1 == i) && !(q.1 + 1 == i && q.2.category == 2)))) : sm_L B sa lsA' nL (sm_put1 ls i v) := by
  refine ⟨h.1, h.2.1, fun j u hj hu => ?_⟩
  unfold sm_put1 at hj
  by_cases e : j = i
  · subst e
    by_cases hlt : j < (sm_cl ls j).length
    · rw [List.getElem?_set_self hlt] at hj
      cases hj
      exact h.2.2 _ List.mem_cons_self
    · rw [List.getElem?_eq_none (by rw [List.length_set]; omega)] at hj
      cases hj
  · rw [List.getElem?_set_ne (Ne.symm e)] at hj
    obtain ⟨h1, h2⟩ := sm_cl_get hj hu
    have hm : (j, sm_mp B sa u) ∈ sm_lv B sa ls := sm_lv_mem.mpr ⟨u, h1, hu, rfl⟩
    refine h.2.2 (j, sm_mp B sa u) (List.mem_cons_of_mem _ (List.mem_filter.mpr ⟨hm, ?_⟩))
    simp only [sm_mp_cat, Bool.and_eq_true, Bool.not_eq_true', beq_eq_false_iff_ne, ne_eq, Bool.and_eq_false_iff]
    refine ⟨e, ?_⟩
    by_cases q1 : j + 1 = i
    · right
      exact fun q => h2 ⟨q1, q⟩
    · left
      exact q1
theorem sm_L.put2 {B : Nat} {sa : Nat → Nat} {lsA lsA' : Array Slot} {nL : Nat} {ls : List Value} {i : Nat} {v : Value} (hl : sm_L B sa lsA nL ls) (h : lv_has lsA' nL ((i, sm_mp B sa v) :: (sm_lv B sa ls).filter (fun q => !(q.1 == i) && (!(q.1 == i + 1) && !(q.1 + 1 == i && q.2.category == 2))))) : sm_L B sa lsA' nL (sm_put2 ls i v) := by
  refine ⟨h.1, h.2.1, fun j u hj hu => ?_⟩
  unfold sm_put2 at hj
  by_cases e : j = i
  · subst e
    by_cases hlt : j < ((sm_cl ls j).set (j + 1) sm_J).length
    · rw [List.getElem?_set_self hlt] at hj
      cases hj
      exact h.2.2 _ List.mem_cons_self
    · rw [List.getElem?_eq_none (by rw [List.length_set]; omega)] at hj
      cases hj
  · rw [List.getElem?_set_ne (Ne.symm e)] at hj
    by_cases e2 : j = i + 1
    · subst e2
      by_cases hlt : i + 1 < (sm_cl ls i).length
      · rw [List.getElem?_set_self hlt] at hj
        exact absurd (Option.some.inj hj).symm hu
      · rw [List.getElem?_eq_none (by rw [List.length_set]; omega)] at hj
        cases hj
    · rw [List.getElem?_set_ne (Ne.symm e2)] at hj
      obtain ⟨h1, h2⟩ := sm_cl_get hj hu
      have hm : (j, sm_mp B sa u) ∈ sm_lv B sa ls := sm_lv_mem.mpr ⟨u, h1, hu, rfl⟩
      refine h.2.2 (j, sm_mp B sa u) (List.mem_cons_of_mem _ (List.mem_filter.mpr ⟨hm, ?_⟩))
      simp only [sm_mp_cat, Bool.and_eq_true, Bool.not_eq_true', beq_eq_false_iff_ne, ne_eq, Bool.and_eq_false_iff]
      refine ⟨e, e2, ?_⟩
      by_cases q1 : j + 1 = i
      · right
        exact fun q => h2 ⟨q1, q⟩
      · left
        exact q1
/-- a method's first local variables -/
theorem sm_args_get {B : Nat} {sa : Nat → Nat} : ∀ (vs : List Value) (k j : Nat) (v : Value), (sm_flat vs)[j]? = some v → v ≠ sm_J → (k + j, sm_mp B sa v) ∈ lv_args k (vs.map (sm_mp B sa))
  | [], k, j, v, h, _ => by simp [sm_flat] at h
  | u :: vs, k, j, v, h, hv => by
    have e : sm_flat (u :: vs) = (if u.category = 2 then [u, sm_J] else [u]) ++ sm_flat vs := by simp [sm_flat]
    rw [e] at h
    simp only [List.map_cons, lv_args, sm_mp_cat]
    by_cases hc : u.category = 2
    · rw [if_pos hc] at h ⊢
      match j, h with
      | 0, h => cases h; exact List.mem_cons_self
      | 1, h => cases h; exact absurd rfl hv
      | j + 2, h =>
        have := sm_args_get (B := B) (sa := sa) vs (k + 2) j v h hv
        rw [show k + (j + 2) = k + 2 + j by omega]
        exact List.mem_cons_of_mem _ this
    · rw [if_neg hc] at h ⊢
      match j, h with
      | 0, h => cases h; exact List.mem_cons_self
      | j + 1, h =>
        have := sm_args_get (B := B) (sa := sa) vs (k + 1) j v h hv
        rw [show k + (j + 1) = k + 1 + j by omega]
        exact List.mem_cons_of_mem _ this
theorem sm_L.entry {B : Nat} {sa : Nat → Nat} {lsA : Array Slot} {nL : Nat} {vs : List Value} (h : lv_has lsA nL (lv_args 0 (vs.map (sm_mp B sa)))) : sm_L B sa lsA nL (sm_entry nL vs) := by
  refine ⟨h.1, h.2.1, fun j u hj hu => ?_⟩
  unfold sm_entry at hj
  by_cases hl : j < (sm_flat vs).length
  · rw [List.getElem?_append_left hl] at hj
    have := h.2.2 _ (sm_args_get vs 0 j u hj hu)
    rw [Nat.zero_add] at this
    exact this
  · rw [List.getElem?_append_right (by omega)] at hj
    have := List.mem_of_getElem? hj
    rw [List.mem_replicate] at this
    exact absurd this.2 hu
