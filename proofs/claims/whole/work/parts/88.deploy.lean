/-! DEPLOY (gen/deploy.py) -/
def md_J (p i : Nat) (w0 w : sm_W) : Prop := Sh w ∧ (∀ k, k < i → wi w 62 (p * 32 + k) = wi w0 62 (128 + k) ∧ wi w 63 (p * 32 + k) = wi w0 63 (128 + k)) ∧ (∀ k, k < p * 32 ∨ p * 32 + i ≤ k → wi w 62 k = wi w0 62 k ∧ wi w 63 k = wi w0 63 k) ∧ (∀ j, j ≠ 62 → j ≠ 63 → w[j]? = w0[j]?)
theorem md_loop {X : sm_X} {Q : Option Value → sm_W → Prop} {w0 : sm_W} {p : Nat} (hp : p < 4) (hQ : ∀ w', md_J p 32 w0 w' → sm_R X 65 77 [.ref 159, .int (nI p), .int 32] [] w' Q) : ∀ (m i : Nat) (w : sm_W), i + m = 32 → md_J p i w0 w → sm_R X 65 23 [.ref 159, .int (nI p), .int (nI i)] [] w Q := by
  intro m
  induction m with
  | zero =>
    intro i w hi hJ
    have hi : i = 32 := by omega
    subst hi
    have z : (32 : Int32) ≤ nI 32 := by decide
    simp (decide := true) only [r65_23, r65_24, r65_26, z, sm_wp_some, sm_wp_none, sm_at, sm_get, sm_fld, sm_pfl, sm_cN, sm_ai, sm_al, sm_si, sm_slg, sm_aa, List.getElem?_cons_zero, List.getElem?_cons_succ, List.set_cons_zero, List.set_cons_succ, List.length_cons, List.length_nil, Option.toList_some, Option.toList_none, List.cons_append, List.nil_append, if_true, if_false, true_and, and_true, Option.some.injEq, gs_o, gs_s, List.length_set, pk_us, Nat.reduceLT, Nat.reduceLeDiff, Nat.reduceSub, Nat.reduceEqDiff, Nat.reduceAdd, Int32.reduceLT, Int32.reduceLE, Int32.reduceAdd, Int32.reduceSub, Int32.reduceToNatClampNeg, reduceIte, reduceCtorEq, Nat.lt_irrefl]
    exact hQ w hJ
  | succ m ih =>
    intro i w hi hJ
    obtain ⟨hS, j1, j2, j3⟩ := hJ
    have z1 : ¬ (32 : Int32) ≤ nI i := nI_ge (b := 32) (by omega) (by decide)
    have z2 : nI p * 32 = nI (p * 32) := pk_mul p 32
    have z3 : nI (p * 32) + nI i = nI (p * 32 + i) := nI_add _ _
    have z4 : (128 : Int32) + nI i = nI (128 + i) := nI_add 128 i
    have z5 : sm_in (nI (p * 32 + i)) 160 = true := sm_in_nI (by omega) (by decide)
    have z6 : sm_in (nI (128 + i)) 160 = true := sm_in_nI (by omega) (by decide)
    have z7 : (nI (p * 32 + i)).toNatClampNeg = p * 32 + i := nI_clamp (by omega)
    have z8 : (nI (128 + i)).toNatClampNeg = 128 + i := nI_clamp (by omega)
    have z9 : nI i + 1 = nI (i + 1) := nI_1 i
    rw [r65_23]
    simp (decide := true) only [r65_24, r65_26, r65_29, r65_30, r65_33, r65_34, r65_36, r65_37, r65_38, r65_39, r65_40, r65_43, r65_46, r65_47, r65_48, r65_49, r65_50, r65_51, r65_54, r65_55, r65_57, r65_58, r65_59, r65_60, r65_61, r65_64, r65_67, r65_68, r65_69, r65_70, r65_71, r65_74, sh59 hS, sh62 hS, sh63 hS, z1, z2, z3, z4, z5, z6, z7, z8, z9, sm_wp_some, sm_wp_none, sm_at, sm_get, sm_fld, sm_pfl, sm_cN, sm_ai, sm_al, sm_si, sm_slg, sm_aa, List.getElem?_cons_zero, List.getElem?_cons_succ, List.set_cons_zero, List.set_cons_succ, List.length_cons, List.length_nil, Option.toList_some, Option.toList_none, List.cons_append, List.nil_append, if_true, if_false, true_and, and_true, Option.some.injEq, gs_o, gs_s, List.length_set, hS.1, pk_us, Nat.reduceLT, Nat.reduceLeDiff, Nat.reduceSub, Nat.reduceEqDiff, Nat.reduceAdd, Int32.reduceLT, Int32.reduceLE, Int32.reduceAdd, Int32.reduceSub, Int32.reduceToNatClampNeg, reduceIte, reduceCtorEq, Nat.lt_irrefl]
    have n2 := j2 (128 + i) (Or.inr (by omega))
    refine ih (i + 1) _ (by omega) ⟨hS.p62.p63, fun k hk => ?_, fun k hk => ?_, fun j h1 h2 => ?_⟩
    · rw [wi_o (by decide), wi62_s hS.1, wi63_s (by rw [List.length_set, hS.1])]
      by_cases c : k = i
      · subst c
        rw [pk_us, pk_us]
        exact n2
      · rw [pk_un (by omega), pk_un (by omega)]
        exact j1 k (by omega)
    · rw [wi_o (by decide), wi62_s hS.1, wi63_s (by rw [List.length_set, hS.1]), pk_un (by omega), pk_un (by omega)]
      exact j2 k (by omega)
    · rw [gs_o (by omega), gs_o (by omega)]
      exact j3 j h1 h2
theorem Sh.pGl {w : sm_W} {f : Nat → Int32} (hS : Sh w) {p : Nat} (hp : p < 4) : Sh (w.set (4 + p) (.inl (0, 4, .inl f))) := by
  match p, hp with
  | 0, _ => exact hS.p4
  | 1, _ => exact hS.p5
  | 2, _ => exact hS.p6
  | 3, _ => exact hS.p7
def mg_J (p i : Nat) (w0 w : sm_W) : Prop := Sh w ∧ (∀ k, k < i → wl w 60 (6 + p * 4 + k) = 0) ∧ (∀ k, k < 6 + p * 4 ∨ 6 + p * 4 + i ≤ k → wl w 60 k = wl w0 60 k) ∧ (∀ j, j ≠ 60 → w[j]? = w0[j]?)
theorem mg_loop {X : sm_X} {Q : Option Value → sm_W → Prop} {w0 : sm_W} {p : Nat} (hp : p < 4) (hQ : ∀ w', mg_J p 4 w0 w' → sm_R X 65 104 [.ref 159, .int (nI p), .int 4] [] w' Q) : ∀ (m i : Nat) (w : sm_W), i + m = 4 → mg_J p i w0 w → sm_R X 65 79 [.ref 159, .int (nI p), .int (nI i)] [] w Q := by
  intro m
  induction m with
  | zero =>
    intro i w hi hJ
    have hi : i = 4 := by omega
    subst hi
    have z : (4 : Int32) ≤ nI 4 := by decide
    simp (decide := true) only [r65_79, r65_80, r65_81, z, sm_wp_some, sm_wp_none, sm_at, sm_get, sm_fld, sm_pfl, sm_cN, sm_ai, sm_al, sm_si, sm_slg, sm_aa, List.getElem?_cons_zero, List.getElem?_cons_succ, List.set_cons_zero, List.set_cons_succ, List.length_cons, List.length_nil, Option.toList_some, Option.toList_none, List.cons_append, List.nil_append, if_true, if_false, true_and, and_true, Option.some.injEq, gs_o, gs_s, List.length_set, pk_us, Nat.reduceLT, Nat.reduceLeDiff, Nat.reduceSub, Nat.reduceEqDiff, Nat.reduceAdd, Int32.reduceLT, Int32.reduceLE, Int32.reduceAdd, Int32.reduceSub, Int32.reduceToNatClampNeg, reduceIte, reduceCtorEq, Nat.lt_irrefl]
    exact hQ w hJ
  | succ m ih =>
    intro i w hi hJ
    obtain ⟨hS, j1, j2, j3⟩ := hJ
    have z1 : ¬ (4 : Int32) ≤ nI i := nI_ge (b := 4) (by omega) (by decide)
    have z2 : nI p * 4 = nI (p * 4) := pk_mul p 4
    have z3 : (6 : Int32) + nI (p * 4) = nI (6 + p * 4) := nI_add 6 _
    have z4 : nI (6 + p * 4) + nI i = nI (6 + p * 4 + i) := nI_add _ _
    have z5 : sm_in (nI (6 + p * 4 + i)) 94 = true := sm_in_nI (by omega) (by decide)
    have z7 : (nI (6 + p * 4 + i)).toNatClampNeg = 6 + p * 4 + i := nI_clamp (by omega)
    have z9 : nI i + 1 = nI (i + 1) := nI_1 i
    rw [r65_79]
    simp (decide := true) only [r65_80, r65_81, r65_84, r65_85, r65_88, r65_90, r65_91, r65_92, r65_93, r65_94, r65_95, r65_96, r65_97, r65_98, r65_101, sh59 hS, sh60 hS, z1, z2, z3, z4, z5, z7, z9, sm_wp_some, sm_wp_none, sm_at, sm_get, sm_fld, sm_pfl, sm_cN, sm_ai, sm_al, sm_si, sm_slg, sm_aa, List.getElem?_cons_zero, List.getElem?_cons_succ, List.set_cons_zero, List.set_cons_succ, List.length_cons, List.length_nil, Option.toList_some, Option.toList_none, List.cons_append, List.nil_append, if_true, if_false, true_and, and_true, Option.some.injEq, gs_o, gs_s, List.length_set, hS.1, pk_us, Nat.reduceLT, Nat.reduceLeDiff, Nat.reduceSub, Nat.reduceEqDiff, Nat.reduceAdd, Int32.reduceLT, Int32.reduceLE, Int32.reduceAdd, Int32.reduceSub, Int32.reduceToNatClampNeg, reduceIte, reduceCtorEq, Nat.lt_irrefl]
    refine ih (i + 1) _ (by omega) ⟨hS.p60, fun k hk => ?_, fun k hk => ?_, fun j h1 => ?_⟩
    · rw [wl60_s hS.1]
      by_cases c : k = i
      · subst c
        rw [pk_uLs]
      · rw [pk_uLn (by omega)]
        exact j1 k (by omega)
    · rw [wl60_s hS.1, pk_uLn (by omega)]
      exact j2 k (by omega)
    · rw [gs_o (by omega)]
      exact j3 j h1
def cg_J (p i : Nat) (w0 w : sm_W) : Prop := Sh w ∧ (∀ k, k < i → wi w (4 + p) k = 0) ∧ (∀ j, j ≠ 4 + p → w[j]? = w0[j]?)
theorem cg_loop {X : sm_X} {Q : Option Value → sm_W → Prop} {w0 : sm_W} {p : Nat} (hp : p < 4) (hQ : ∀ w', cg_J p 4 w0 w' → Q none w') : ∀ (m i : Nat) (w : sm_W), i + m = 4 → cg_J p i w0 w → sm_R X 15 2 [.ref 101, .int (nI p), .int (nI i)] [] w Q := by
  intro m
  induction m with
  | zero =>
    intro i w hi hJ
    have hi : i = 4 := by omega
    subst hi
    have z : (4 : Int32) ≤ nI 4 := by decide
    simp (decide := true) only [r15_2, r15_3, r15_4, r15_22, z, sm_wp_some, sm_wp_none, sm_at, sm_get, sm_fld, sm_pfl, sm_cN, sm_ai, sm_al, sm_si, sm_slg, sm_aa, List.getElem?_cons_zero, List.getElem?_cons_succ, List.set_cons_zero, List.set_cons_succ, List.length_cons, List.length_nil, Option.toList_some, Option.toList_none, List.cons_append, List.nil_append, if_true, if_false, true_and, and_true, Option.some.injEq, gs_o, gs_s, List.length_set, pk_us, Nat.reduceLT, Nat.reduceLeDiff, Nat.reduceSub, Nat.reduceEqDiff, Nat.reduceAdd, Int32.reduceLT, Int32.reduceLE, Int32.reduceAdd, Int32.reduceSub, Int32.reduceToNatClampNeg, reduceIte, reduceCtorEq, Nat.lt_irrefl]
    exact hQ w hJ
  | succ m ih =>
    intro i w hi hJ
    obtain ⟨hS, j1, j3⟩ := hJ
    have z1 : ¬ (4 : Int32) ≤ nI i := nI_ge (b := 4) (by omega) (by decide)
    have z2 : sm_in (nI p) 4 = true := sm_in_nI (by omega) (by decide)
    have z3 : (nI p).toNatClampNeg = p := nI_clamp (by omega)
    have z4 : sm_in (nI i) 4 = true := sm_in_nI (by omega) (by decide)
    have z5 : (nI i).toNatClampNeg = i := nI_clamp (by omega)
    have z6 : ¬ 104 + p < 100 := by omega
    have z7 : 104 + p - 100 = 4 + p := by omega
    have z8 : 100 ≤ 104 + p := by omega
    have z9 : nI i + 1 = nI (i + 1) := nI_1 i
    rw [r15_2]
    simp (decide := true) only [r15_0, r15_1, r15_3, r15_4, r15_7, r15_8, r15_11, r15_12, r15_13, r15_14, r15_15, r15_16, r15_19, r15_22, sh1 hS, sh3 hS, shGl hS hp, zr3_p hp, z1, z2, z3, z4, z5, z6, z7, z8, z9, sm_wp_some, sm_wp_none, sm_at, sm_get, sm_fld, sm_pfl, sm_cN, sm_ai, sm_al, sm_si, sm_slg, sm_aa, List.getElem?_cons_zero, List.getElem?_cons_succ, List.set_cons_zero, List.set_cons_succ, List.length_cons, List.length_nil, Option.toList_some, Option.toList_none, List.cons_append, List.nil_append, if_true, if_false, true_and, and_true, Option.some.injEq, gs_o, gs_s, List.length_set, hS.1, pk_us, Nat.reduceLT, Nat.reduceLeDiff, Nat.reduceSub, Nat.reduceEqDiff, Nat.reduceAdd, Int32.reduceLT, Int32.reduceLE, Int32.reduceAdd, Int32.reduceSub, Int32.reduceToNatClampNeg, reduceIte, reduceCtorEq, Nat.lt_irrefl]
    refine ih (i + 1) _ (by omega) ⟨hS.pGl hp, fun k hk => ?_, fun j h1 => ?_⟩
    · rw [wi_s (by rw [hS.1]; omega)]
      by_cases c : k = i
      · subst c
        rw [pk_us]
      · rw [pk_un (by omega)]
        exact j1 k (by omega)
    · rw [gs_o (by omega)]
      exact j3 j h1
