/-! submit of the reference: its loops (gen/mm8.py) -/
theorem set_self {w : sm_W} {k : Nat} {c : sm_C} (h : w[k]? = some c) : w.set k c = w := by
  apply List.ext_getElem?
  intro i
  by_cases e : k = i
  · subst e
    rw [h]
    have hl : k < w.length := by
      by_cases q : k < w.length
      · exact q
      · rw [List.getElem?_eq_none (by omega)] at h
        cases h
    exact gs_s hl
  · exact gs_o e
theorem sv_it {X : sm_X} {w : sm_W} {Q : Option Value → sm_W → Prop} {i : Nat} {f : Int32} (hS : Sh w) (hi : i < 94) : sm_R X 70 13 [.ref 159, .int f, .int (nI i), sm_J] [] w Q ↔ sm_R X 70 13 [.ref 159, .int f, .int (nI (i + 1)), sm_J] [] (w.set 61 (.inl (1, 94, .inr (.inl (vp_updL (wl w 61) i (wl w 60 i)))))) Q := by
  have y1 : ¬ 94 ≤ nI i := nI_ge (b := 94) hi (by decide)
  have y2 : sm_in (nI i) 94 = true := sm_in_nI hi (by decide)
  have y3 : (nI i).toNatClampNeg = i := nI_clamp (by omega)
  have y4 : nI i + 1 = nI (i + 1) := nI_1 i
  rw [r70_13]
  simp (decide := true) only [r70_14, r70_16, r70_19, r70_20, r70_23, r70_24, r70_25, r70_28, r70_29, r70_30, r70_31, r70_34, y1, y2, y3, y4, sh59 hS, sh60 hS, sh61 hS, sm_wp_some, sm_wp_none, sm_at, sm_get, sm_fld, sm_pfl, sm_cN, sm_ai, sm_al, sm_si, sm_slg, sm_aa, List.getElem?_cons_zero, List.getElem?_cons_succ, List.set_cons_zero, List.set_cons_succ, List.length_cons, List.length_nil, Option.toList_some, Option.toList_none, List.cons_append, List.nil_append, if_true, if_false, true_and, and_true, Option.some.injEq, gs_o, gs_s, List.length_set, hS.1, pk_us, Nat.reduceLT, Nat.reduceLeDiff, Nat.reduceSub, Nat.reduceEqDiff, Nat.reduceAdd, Int32.reduceLT, Int32.reduceLE, Int32.reduceAdd, Int32.reduceSub, Int32.reduceToNatClampNeg, ↓reduceIte, reduceCtorEq, Nat.lt_irrefl]
theorem sv_lp {X : sm_X} {Q : Option Value → sm_W → Prop} {f : Int32} : ∀ (m : Nat) {i : Nat} {w : sm_W}, i + m = 94 → Sh w → (∀ k, k < i → wl w 61 k = wl w 60 k) → (∀ w', Sh w' → (∀ k, k < 94 → wl w' 61 k = wl w 60 k) → (∀ j, j ≠ 61 → w'[j]? = w[j]?) → sm_R X 70 37 [.ref 159, .int f, .int (nI 94), sm_J] [] w' Q) → sm_R X 70 13 [.ref 159, .int f, .int (nI i), sm_J] [] w Q := by
  intro m
  induction m with
  | zero =>
    intro i w hi hS hk hQ
    have e : i = 94 := by omega
    subst e
    have n4 : nI 94 = 94 := rfl
    rw [r70_13]
    simp (decide := true) only [r70_14, r70_16, n4, sm_wp_some, sm_wp_none, sm_at, sm_get, sm_fld, sm_pfl, sm_cN, sm_ai, sm_al, sm_si, sm_slg, sm_aa, List.getElem?_cons_zero, List.getElem?_cons_succ, List.set_cons_zero, List.set_cons_succ, List.length_cons, List.length_nil, Option.toList_some, Option.toList_none, List.cons_append, List.nil_append, if_true, if_false, true_and, and_true, Option.some.injEq, gs_o, gs_s, List.length_set, hS.1, pk_us, Nat.reduceLT, Nat.reduceLeDiff, Nat.reduceSub, Nat.reduceEqDiff, Nat.reduceAdd, Int32.reduceLT, Int32.reduceLE, Int32.reduceAdd, Int32.reduceSub, Int32.reduceToNatClampNeg, ↓reduceIte, reduceCtorEq, Nat.lt_irrefl]
    exact hQ w hS hk (fun _ _ => rfl)
  | succ m ih =>
    intro i w hi hS hk hQ
    rw [sv_it hS (by omega)]
    have e6 : wl (w.set 61 (.inl (1, 94, .inr (.inl (vp_updL (wl w 61) i (wl w 60 i)))))) 60 = wl w 60 := wl_o (by decide)
    refine ih (by omega) hS.p61 (fun k hk2 => ?_) (fun w' h1 h2 h3 => hQ w' h1 (fun k hk => (h2 k hk).trans (by rw [e6])) (fun j hj => (h3 j hj).trans (gs_o (by omega))))
    rw [wl61_s hS.1, e6]
    by_cases e : k = i
    · subst e
      exact pk_uLs
    · rw [pk_uLn e]
      exact hk k (by omega)
theorem rs_it {X : sm_X} {w : sm_W} {Q : Option Value → sm_W → Prop} {i : Nat} {f : Int32} (hS : Sh w) (hi : i < 94) : sm_R X 70 155 [.ref 159, .int f, .int (nI i), sm_J] [] w Q ↔ sm_R X 70 155 [.ref 159, .int f, .int (nI (i + 1)), sm_J] [] (w.set 60 (.inl (1, 94, .inr (.inl (vp_updL (wl w 60) i (wl w 61 i)))))) Q := by
  have y1 : ¬ 94 ≤ nI i := nI_ge (b := 94) hi (by decide)
  have y2 : sm_in (nI i) 94 = true := sm_in_nI hi (by decide)
  have y3 : (nI i).toNatClampNeg = i := nI_clamp (by omega)
  have y4 : nI i + 1 = nI (i + 1) := nI_1 i
  rw [r70_155]
  simp (decide := true) only [r70_156, r70_158, r70_161, r70_162, r70_165, r70_166, r70_167, r70_170, r70_171, r70_172, r70_173, r70_176, y1, y2, y3, y4, sh59 hS, sh60 hS, sh61 hS, sm_wp_some, sm_wp_none, sm_at, sm_get, sm_fld, sm_pfl, sm_cN, sm_ai, sm_al, sm_si, sm_slg, sm_aa, List.getElem?_cons_zero, List.getElem?_cons_succ, List.set_cons_zero, List.set_cons_succ, List.length_cons, List.length_nil, Option.toList_some, Option.toList_none, List.cons_append, List.nil_append, if_true, if_false, true_and, and_true, Option.some.injEq, gs_o, gs_s, List.length_set, hS.1, pk_us, Nat.reduceLT, Nat.reduceLeDiff, Nat.reduceSub, Nat.reduceEqDiff, Nat.reduceAdd, Int32.reduceLT, Int32.reduceLE, Int32.reduceAdd, Int32.reduceSub, Int32.reduceToNatClampNeg, ↓reduceIte, reduceCtorEq, Nat.lt_irrefl]
theorem rs_lp {X : sm_X} {Q : Option Value → sm_W → Prop} {f : Int32} : ∀ (m : Nat) {i : Nat} {w : sm_W}, i + m = 94 → Sh w → (∀ k, k < i → wl w 60 k = wl w 61 k) → (∀ w', Sh w' → (∀ k, k < 94 → wl w' 60 k = wl w 61 k) → (∀ j, j ≠ 60 → w'[j]? = w[j]?) → sm_R X 70 179 [.ref 159, .int f, .int (nI 94), sm_J] [] w' Q) → sm_R X 70 155 [.ref 159, .int f, .int (nI i), sm_J] [] w Q := by
  intro m
  induction m with
  | zero =>
    intro i w hi hS hk hQ
    have e : i = 94 := by omega
    subst e
    have n4 : nI 94 = 94 := rfl
    rw [r70_155]
    simp (decide := true) only [r70_156, r70_158, n4, sm_wp_some, sm_wp_none, sm_at, sm_get, sm_fld, sm_pfl, sm_cN, sm_ai, sm_al, sm_si, sm_slg, sm_aa, List.getElem?_cons_zero, List.getElem?_cons_succ, List.set_cons_zero, List.set_cons_succ, List.length_cons, List.length_nil, Option.toList_some, Option.toList_none, List.cons_append, List.nil_append, if_true, if_false, true_and, and_true, Option.some.injEq, gs_o, gs_s, List.length_set, hS.1, pk_us, Nat.reduceLT, Nat.reduceLeDiff, Nat.reduceSub, Nat.reduceEqDiff, Nat.reduceAdd, Int32.reduceLT, Int32.reduceLE, Int32.reduceAdd, Int32.reduceSub, Int32.reduceToNatClampNeg, ↓reduceIte, reduceCtorEq, Nat.lt_irrefl]
    exact hQ w hS hk (fun _ _ => rfl)
  | succ m ih =>
    intro i w hi hS hk hQ
    rw [rs_it hS (by omega)]
    have e6 : wl (w.set 60 (.inl (1, 94, .inr (.inl (vp_updL (wl w 60) i (wl w 61 i)))))) 61 = wl w 61 := wl_o (by decide)
    refine ih (by omega) hS.p60 (fun k hk2 => ?_) (fun w' h1 h2 h3 => hQ w' h1 (fun k hk => (h2 k hk).trans (by rw [e6])) (fun j hj => (h3 j hj).trans (gs_o (by omega))))
    rw [wl60_s hS.1, e6]
    by_cases e : k = i
    · subst e
      exact pk_uLs
    · rw [pk_uLn e]
      exact hk k (by omega)
theorem bu_it {X : sm_X} {w : sm_W} {Q : Option Value → sm_W → Prop} {S : sm_S} {i : Nat} {f : Int32} (hS : Sh w) (hG : GrM w S) (bG : BdG S) (hi : i < S 10 1) (hv : wn w 59 19 = nI (20 * s_calls S i)) : sm_R X 70 44 [.ref 159, .int f, .int (nI i), sm_J] [] w Q ↔ sm_R X 70 44 [.ref 159, .int f, .int (nI (i + 1)), sm_J] [] (w.set 59 (.inr (7, [.ref 160, .ref 161, .ref 162, .ref 163, .ref 164, .int (wn w 59 5), .ref 165, .ref 166, .ref 167, .ref 168, .ref 169, .ref 170, .int (wn w 59 12), .int (wn w 59 13), .int (wn w 59 14), .int (wn w 59 15), .int (wn w 59 16), .int (wn w 59 17), .int (wn w 59 18), .int (nI (20 * s_calls S (i + 1))), .int (wn w 59 20), .ref 171, .ref 172, .ref 173, .int (wn w 59 24), .int (wn w 59 25)]))) Q := by
  have h4 := bG.1
  have g5 : wn w 59 5 = nI (S 10 1) := hG.1
  have y1 : ¬ nI (S 10 1) ≤ nI i := nI_ge hi (by omega)
  have y2 : sm_in (nI i) 4 = true := sm_in_nI (by omega) (by decide)
  have y3 : (nI i).toNatClampNeg = i := nI_clamp (by omega)
  have y4 : nI i + 1 = nI (i + 1) := nI_1 i
  have g65 := (hG.2 i hi).1
  have bt := (bG.2 i hi).1
  rw [r70_44]
  by_cases k : S 4 i = 3
  · rw [if_pos k] at g65
    have e : s_calls S (i + 1) = s_calls S i := by
      show s_calls S i + (if S 4 i = 3 then 0 else 1) = _
      rw [if_pos k, Nat.add_zero]
    have e2 : w.set 59 (.inr (7, [.ref 160, .ref 161, .ref 162, .ref 163, .ref 164, .int (wn w 59 5), .ref 165, .ref 166, .ref 167, .ref 168, .ref 169, .ref 170, .int (wn w 59 12), .int (wn w 59 13), .int (wn w 59 14), .int (wn w 59 15), .int (wn w 59 16), .int (wn w 59 17), .int (wn w 59 18), .int (nI (20 * s_calls S i)), .int (wn w 59 20), .ref 171, .ref 172, .ref 173, .int (wn w 59 24), .int (wn w 59 25)])) = w := by
      rw [← hv]
      exact set_self (sh59 hS)
    rw [e, e2]
    simp (decide := true) only [r70_45, r70_46, r70_49, r70_52, r70_53, r70_56, r70_57, r70_58, r70_61, r70_62, r70_63, r70_66, r70_68, r70_69, r70_72, r70_75, g5, g65, y1, y2, y3, y4, sh59 hS, sh65 hS, sm_wp_some, sm_wp_none, sm_at, sm_get, sm_fld, sm_pfl, sm_cN, sm_ai, sm_al, sm_si, sm_slg, sm_aa, List.getElem?_cons_zero, List.getElem?_cons_succ, List.set_cons_zero, List.set_cons_succ, List.length_cons, List.length_nil, Option.toList_some, Option.toList_none, List.cons_append, List.nil_append, if_true, if_false, true_and, and_true, Option.some.injEq, gs_o, gs_s, List.length_set, hS.1, pk_us, Nat.reduceLT, Nat.reduceLeDiff, Nat.reduceSub, Nat.reduceEqDiff, Nat.reduceAdd, Int32.reduceLT, Int32.reduceLE, Int32.reduceAdd, Int32.reduceSub, Int32.reduceToNatClampNeg, ↓reduceIte, reduceCtorEq, Nat.lt_irrefl]
  · rw [if_neg k] at g65
    have e : 20 * s_calls S (i + 1) = 20 * s_calls S i + 20 := by
      show 20 * (s_calls S i + (if S 4 i = 3 then 0 else 1)) = _
      rw [if_neg k]
      omega
    have y5 : ¬ nI (S 4 i) < 0 := nI_pos (by omega)
    have y6 : nI (20 * s_calls S i) + 20 = nI (20 * s_calls S i + 20) := nI_add _ 20
    rw [e]
    have y1' : ¬ wn w 59 5 ≤ nI i := by rw [g5]; exact y1
    simp (decide := true) only [r70_45, r70_46, r70_49, r70_52, r70_53, r70_56, r70_57, r70_58, g65, y1', y2, y3, y5, sh59 hS, sh65 hS, sm_wp_some, sm_wp_none, sm_at, sm_get, sm_fld, sm_pfl, sm_cN, sm_ai, sm_al, sm_si, sm_slg, sm_aa, List.getElem?_cons_zero, List.getElem?_cons_succ, List.set_cons_zero, List.set_cons_succ, List.length_cons, List.length_nil, Option.toList_some, Option.toList_none, List.cons_append, List.nil_append, if_true, if_false, true_and, and_true, Option.some.injEq, gs_o, gs_s, List.length_set, hS.1, pk_us, Nat.reduceLT, Nat.reduceLeDiff, Nat.reduceSub, Nat.reduceEqDiff, Nat.reduceAdd, Int32.reduceLT, Int32.reduceLE, Int32.reduceAdd, Int32.reduceSub, Int32.reduceToNatClampNeg, ↓reduceIte, reduceCtorEq, Nat.lt_irrefl]
    simp (decide := true) only [r70_61, r70_62, r70_63, r70_66, r70_68, r70_69, r70_72, r70_75, hv, y4, y6, sh59 hS, sh65 hS, sm_wp_some, sm_wp_none, sm_at, sm_get, sm_fld, sm_pfl, sm_cN, sm_ai, sm_al, sm_si, sm_slg, sm_aa, List.getElem?_cons_zero, List.getElem?_cons_succ, List.set_cons_zero, List.set_cons_succ, List.length_cons, List.length_nil, Option.toList_some, Option.toList_none, List.cons_append, List.nil_append, if_true, if_false, true_and, and_true, Option.some.injEq, gs_o, gs_s, List.length_set, hS.1, pk_us, Nat.reduceLT, Nat.reduceLeDiff, Nat.reduceSub, Nat.reduceEqDiff, Nat.reduceAdd, Int32.reduceLT, Int32.reduceLE, Int32.reduceAdd, Int32.reduceSub, Int32.reduceToNatClampNeg, ↓reduceIte, reduceCtorEq, Nat.lt_irrefl]
theorem bu_lp {X : sm_X} {Q : Option Value → sm_W → Prop} {S : sm_S} {f : Int32} (bG : BdG S) : ∀ (m : Nat) {i : Nat} {w : sm_W}, i + m = S 10 1 → Sh w → GrM w S → wn w 59 19 = nI (20 * s_calls S i) → (∀ w', Sh w' → w'[59]? = (w.set 59 (.inr (7, [.ref 160, .ref 161, .ref 162, .ref 163, .ref 164, .int (wn w 59 5), .ref 165, .ref 166, .ref 167, .ref 168, .ref 169, .ref 170, .int (wn w 59 12), .int (wn w 59 13), .int (wn w 59 14), .int (wn w 59 15), .int (wn w 59 16), .int (wn w 59 17), .int (wn w 59 18), .int (nI (20 * s_calls S (S 10 1))), .int (wn w 59 20), .ref 171, .ref 172, .ref 173, .int (wn w 59 24), .int (wn w 59 25)])))[59]? → (∀ j, j ≠ 59 → w'[j]? = w[j]?) → sm_R X 70 78 [.ref 159, .int f, .int (nI (S 10 1)), sm_J] [] w' Q) → sm_R X 70 44 [.ref 159, .int f, .int (nI i), sm_J] [] w Q := by
  intro m
  induction m with
  | zero =>
    intro i w hi hS hG hv hQ
    have e : i = S 10 1 := by omega
    subst e
    have h4 := bG.1
    have g5 : wn w 59 5 = nI (S 10 1) := hG.1
    have y1 : nI (S 10 1) ≤ nI (S 10 1) := nI_le (Nat.le_refl _) (by omega)
    rw [r70_44]
    simp (decide := true) only [r70_45, r70_46, r70_49, g5, y1, sh59 hS, sm_wp_some, sm_wp_none, sm_at, sm_get, sm_fld, sm_pfl, sm_cN, sm_ai, sm_al, sm_si, sm_slg, sm_aa, List.getElem?_cons_zero, List.getElem?_cons_succ, List.set_cons_zero, List.set_cons_succ, List.length_cons, List.length_nil, Option.toList_some, Option.toList_none, List.cons_append, List.nil_append, if_true, if_false, true_and, and_true, Option.some.injEq, gs_o, gs_s, List.length_set, hS.1, pk_us, Nat.reduceLT, Nat.reduceLeDiff, Nat.reduceSub, Nat.reduceEqDiff, Nat.reduceAdd, Int32.reduceLT, Int32.reduceLE, Int32.reduceAdd, Int32.reduceSub, Int32.reduceToNatClampNeg, ↓reduceIte, reduceCtorEq, Nat.lt_irrefl]
    refine hQ w hS ?_ (fun _ _ => rfl)
    rw [gs_s (by rw [hS.1]; decide), ← hv]
    exact sh59 hS
  | succ m ih =>
    intro i w hi hS hG hv hQ
    rw [bu_it hS hG bG (by omega) hv]
    have hS1 : Sh (w.set 59 (.inr (7, [.ref 160, .ref 161, .ref 162, .ref 163, .ref 164, .int (wn w 59 5), .ref 165, .ref 166, .ref 167, .ref 168, .ref 169, .ref 170, .int (wn w 59 12), .int (wn w 59 13), .int (wn w 59 14), .int (wn w 59 15), .int (wn w 59 16), .int (wn w 59 17), .int (wn w 59 18), .int (nI (20 * s_calls S (i + 1))), .int (wn w 59 20), .ref 171, .ref 172, .ref 173, .int (wn w 59 24), .int (wn w 59 25)]))) := hS.p59
    have G1 : GrM (w.set 59 (.inr (7, [.ref 160, .ref 161, .ref 162, .ref 163, .ref 164, .int (wn w 59 5), .ref 165, .ref 166, .ref 167, .ref 168, .ref 169, .ref 170, .int (wn w 59 12), .int (wn w 59 13), .int (wn w 59 14), .int (wn w 59 15), .int (wn w 59 16), .int (wn w 59 17), .int (wn w 59 18), .int (nI (20 * s_calls S (i + 1))), .int (wn w 59 20), .ref 171, .ref 172, .ref 173, .int (wn w 59 24), .int (wn w 59 25)]))) S := hG.n (wi_o (by decide)) (wi_o (by decide)) (wi_o (by decide)) (wi_o (by decide)) (wi_o (by decide)) (wn59_5 hS.1)
    refine ih (by omega) hS1 G1 (wn59_19 hS.1) (fun w' h1 h2 h3 => hQ w' h1 ?_ (fun j hj => (h3 j hj).trans (gs_o (by omega))))
    rw [h2, gs_s (by rw [hS1.1]; decide), gs_s (by rw [hS.1]; decide), wn59_5 hS.1, wn59_12 hS.1, wn59_13 hS.1, wn59_14 hS.1, wn59_15 hS.1, wn59_16 hS.1, wn59_17 hS.1, wn59_18 hS.1, wn59_20 hS.1, wn59_24 hS.1, wn59_25 hS.1]
/-! submit of the reference: the logs, and the group (gen/mm9.py) -/
theorem sh_it {X : sm_X} {w : sm_W} {Q : Option Value → sm_W → Prop} {k : Nat} {f x2 : Int32} (hS : Sh w) (hk : k < 7) : sm_R X 70 204 [.ref 159, .int f, .int x2, .int (nI (k + 1))] [] w Q ↔ sm_R X 70 204 [.ref 159, .int f, .int x2, .int (nI k)] [] (w.set 71 (.inl (1, 8, .inr (.inl (vp_updL (wl w 71) (k + 1) (wl w 71 k)))))) Q := by
  have y0 : ¬ nI (k + 1) ≤ 0 := nI_ge (a := 0) (by omega) (by omega)
  have y1 : nI (k + 1) - 1 = nI k := nI_pred k
  have y2 : sm_in (nI k) 8 = true := sm_in_nI (by omega) (by decide)
  have y3 : (nI k).toNatClampNeg = k := nI_clamp (by omega)
  have y4 : sm_in (nI (k + 1)) 8 = true := sm_in_nI (by omega) (by decide)
  have y5 : (nI (k + 1)).toNatClampNeg = k + 1 := nI_clamp (by omega)
  have y6 : nI (k + 1) + -1 = nI k := by rw [← y1, Int32.sub_eq_add_neg]
  rw [r70_204]
  simp (decide := true) only [r70_205, r70_208, r70_209, r70_212, r70_213, r70_214, r70_217, r70_218, r70_219, r70_220, r70_221, r70_222, r70_225, y0, y1, y2, y3, y4, y5, y6, sh59 hS, sh71 hS, sm_wp_some, sm_wp_none, sm_at, sm_get, sm_fld, sm_pfl, sm_cN, sm_ai, sm_al, sm_si, sm_slg, sm_aa, List.getElem?_cons_zero, List.getElem?_cons_succ, List.set_cons_zero, List.set_cons_succ, List.length_cons, List.length_nil, Option.toList_some, Option.toList_none, List.cons_append, List.nil_append, if_true, if_false, true_and, and_true, Option.some.injEq, gs_o, gs_s, List.length_set, hS.1, pk_us, Nat.reduceLT, Nat.reduceLeDiff, Nat.reduceSub, Nat.reduceEqDiff, Nat.reduceAdd, Int32.reduceLT, Int32.reduceLE, Int32.reduceAdd, Int32.reduceSub, Int32.reduceToNatClampNeg, ↓reduceIte, reduceCtorEq, Nat.lt_irrefl]
theorem sh_lp {X : sm_X} {Q : Option Value → sm_W → Prop} {f x2 : Int32} : ∀ (m : Nat) {w : sm_W}, m ≤ 7 → Sh w → (∀ w', Sh w' → (∀ j, 1 ≤ j → j ≤ m → wl w' 71 j = wl w 71 (j - 1)) → (∀ j, j = 0 ∨ m < j → wl w' 71 j = wl w 71 j) → (∀ j, j ≠ 71 → w'[j]? = w[j]?) → sm_R X 70 228 [.ref 159, .int f, .int x2, .int 0] [] w' Q) → sm_R X 70 204 [.ref 159, .int f, .int x2, .int (nI m)] [] w Q := by
  intro m
  induction m with
  | zero =>
    intro w hm hS hQ
    have n0 : nI 0 = 0 := rfl
    rw [n0, r70_204]
    simp (decide := true) only [r70_205, if_true]
    exact hQ w hS (fun j h1 h2 => by omega) (fun _ _ => rfl) (fun _ _ => rfl)
  | succ m ih =>
    intro w hm hS hQ
    rw [sh_it hS (by omega)]
    have e1 : wl (w.set 71 (.inl (1, 8, .inr (.inl (vp_updL (wl w 71) (m + 1) (wl w 71 m)))))) 71 = vp_updL (wl w 71) (m + 1) (wl w 71 m) := wl71_s hS.1
    refine ih (by omega) hS.p71 (fun w' h1 h2 h3 h4 => hQ w' h1 (fun j j1 j2 => ?_) (fun j hj => ?_) (fun j hj => (h4 j hj).trans (gs_o (by omega))))
    · by_cases e : j = m + 1
      · subst e
        rw [h3 (m + 1) (by omega), e1, pk_uLs]
        rfl
      · rw [h2 j j1 (by omega), e1, pk_uLn (by omega)]
    · rw [h3 j (by omega), e1, pk_uLn (by omega)]
theorem lo_lp {X : sm_X} {Q : Option Value → sm_W → Prop} {S : sm_S} {T D : Nat} {f : Int32} (hD : D ≤ 80) (hT : T ≤ 300000) : ∀ (m : Nat) {i : Nat} {w : sm_W} {z : Value}, i + m = D → Sh w → wn w 59 20 = nI D → (∀ k, k < 8 → k < T + i → wl w 71 k = lN (S 1 (T + i - 1 - k))) → wn w 59 18 = nI (T + i) → (∀ j, j < D → wl w 72 j = lN (S 1 (T + j))) → (∀ w' z, Sh w' → (∀ k, k < 8 → k < T + D → wl w' 71 k = lN (S 1 (T + D - 1 - k))) → w'[59]? = (w.set 59 (.inr (7, [.ref 160, .ref 161, .ref 162, .ref 163, .ref 164, .int (wn w 59 5), .ref 165, .ref 166, .ref 167, .ref 168, .ref 169, .ref 170, .int (wn w 59 12), .int (wn w 59 13), .int (wn w 59 14), .int (wn w 59 15), .int (wn w 59 16), .int (wn w 59 17), .int (nI (T + D)), .int (wn w 59 19), .int (wn w 59 20), .ref 171, .ref 172, .ref 173, .int (wn w 59 24), .int (wn w 59 25)])))[59]? → (∀ j, j ≠ 59 → j ≠ 71 → w'[j]? = w[j]?) → sm_R X 70 256 [.ref 159, .int f, .int (nI D), z] [] w' Q) → sm_R X 70 193 [.ref 159, .int f, .int (nI i), z] [] w Q := by
  intro m
  induction m with
  | zero =>
    intro i w z hi hS h20 hbk h18 hfr hQ
    have e : i = D := by omega
    subst e
    have y1 : nI i ≤ nI i := nI_le (Nat.le_refl _) (by omega)
    rw [r70_193]
    simp (decide := true) only [r70_194, r70_195, r70_198, h20, y1, sh59 hS, sm_wp_some, sm_wp_none, sm_at, sm_get, sm_fld, sm_pfl, sm_cN, sm_ai, sm_al, sm_si, sm_slg, sm_aa, List.getElem?_cons_zero, List.getElem?_cons_succ, List.set_cons_zero, List.set_cons_succ, List.length_cons, List.length_nil, Option.toList_some, Option.toList_none, List.cons_append, List.nil_append, if_true, if_false, true_and, and_true, Option.some.injEq, gs_o, gs_s, List.length_set, hS.1, pk_us, Nat.reduceLT, Nat.reduceLeDiff, Nat.reduceSub, Nat.reduceEqDiff, Nat.reduceAdd, Int32.reduceLT, Int32.reduceLE, Int32.reduceAdd, Int32.reduceSub, Int32.reduceToNatClampNeg, ↓reduceIte, reduceCtorEq, Nat.lt_irrefl]
    refine hQ w z hS hbk ?_ (fun _ _ _ => rfl)
    rw [gs_s (by rw [hS.1]; decide), ← h18]
    exact sh59 hS
  | succ m ih =>
    intro i w z hi hS h20 hbk h18 hfr hQ
    have y1 : ¬ nI D ≤ nI i := nI_ge (by omega) (by omega)
    rw [r70_193]
    simp (decide := true) only [r70_194, r70_195, r70_198, r70_201, r70_203, h20, y1, sh59 hS, sm_wp_some, sm_wp_none, sm_at, sm_get, sm_fld, sm_pfl, sm_cN, sm_ai, sm_al, sm_si, sm_slg, sm_aa, List.getElem?_cons_zero, List.getElem?_cons_succ, List.set_cons_zero, List.set_cons_succ, List.length_cons, List.length_nil, Option.toList_some, Option.toList_none, List.cons_append, List.nil_append, if_true, if_false, true_and, and_true, Option.some.injEq, gs_o, gs_s, List.length_set, hS.1, pk_us, Nat.reduceLT, Nat.reduceLeDiff, Nat.reduceSub, Nat.reduceEqDiff, Nat.reduceAdd, Int32.reduceLT, Int32.reduceLE, Int32.reduceAdd, Int32.reduceSub, Int32.reduceToNatClampNeg, ↓reduceIte, reduceCtorEq, Nat.lt_irrefl]
    refine sh_lp 7 (Nat.le_refl 7) hS (fun w1 s1 s2 s3 s4 => ?_)
    have c59 := s4 59 (by decide)
    have t18 : wn w1 59 18 = nI (T + i) := by rw [wn_c c59]; exact h18
    have y2 : sm_in (nI i) 100 = true := sm_in_nI (by omega) (by decide)
    have y3 : (nI i).toNatClampNeg = i := nI_clamp (by omega)
    have y4 : nI i + 1 = nI (i + 1) := nI_1 i
    have y5 : nI (T + i) + 1 = nI (T + i + 1) := nI_1 _
    have e72 : wl w1 72 i = lN (S 1 (T + i)) := by rw [wl_c (s4 72 (by decide))]; exact hfr i (by omega)
    simp (decide := true) only [r70_228, r70_229, r70_232, r70_233, r70_234, r70_237, r70_238, r70_239, r70_240, r70_241, r70_242, r70_245, r70_246, r70_247, r70_250, r70_253, t18, y2, y3, y4, y5, sh59 s1, sh71 s1, sh72 s1, sm_wp_some, sm_wp_none, sm_at, sm_get, sm_fld, sm_pfl, sm_cN, sm_ai, sm_al, sm_si, sm_slg, sm_aa, List.getElem?_cons_zero, List.getElem?_cons_succ, List.set_cons_zero, List.set_cons_succ, List.length_cons, List.length_nil, Option.toList_some, Option.toList_none, List.cons_append, List.nil_append, if_true, if_false, true_and, and_true, Option.some.injEq, gs_o, gs_s, List.length_set, pk_us, Nat.reduceLT, Nat.reduceLeDiff, Nat.reduceSub, Nat.reduceEqDiff, Nat.reduceAdd, Int32.reduceLT, Int32.reduceLE, Int32.reduceAdd, Int32.reduceSub, Int32.reduceToNatClampNeg, ↓reduceIte, reduceCtorEq, Nat.lt_irrefl, s1.1]
    have q1 : Sh (w1.set 71 (.inl (1, 8, .inr (.inl (vp_updL (wl w1 71) (0) (wl w1 72 i)))))) := s1.p71
    have q2 : Sh ((w1.set 71 (.inl (1, 8, .inr (.inl (vp_updL (wl w1 71) (0) (wl w1 72 i)))))).set 59 (.inr (7, [.ref 160, .ref 161, .ref 162, .ref 163, .ref 164, .int (wn w1 59 5), .ref 165, .ref 166, .ref 167, .ref 168, .ref 169, .ref 170, .int (wn w1 59 12), .int (wn w1 59 13), .int (wn w1 59 14), .int (wn w1 59 15), .int (wn w1 59 16), .int (wn w1 59 17), .int (nI (T + i + 1)), .int (wn w1 59 19), .int (wn w1 59 20), .ref 171, .ref 172, .ref 173, .int (wn w1 59 24), .int (wn w1 59 25)]))) := q1.p59
    have e20 : wn ((w1.set 71 (.inl (1, 8, .inr (.inl (vp_updL (wl w1 71) (0) (wl w1 72 i)))))).set 59 (.inr (7, [.ref 160, .ref 161, .ref 162, .ref 163, .ref 164, .int (wn w1 59 5), .ref 165, .ref 166, .ref 167, .ref 168, .ref 169, .ref 170, .int (wn w1 59 12), .int (wn w1 59 13), .int (wn w1 59 14), .int (wn w1 59 15), .int (wn w1 59 16), .int (wn w1 59 17), .int (nI (T + i + 1)), .int (wn w1 59 19), .int (wn w1 59 20), .ref 171, .ref 172, .ref 173, .int (wn w1 59 24), .int (wn w1 59 25)]))) 59 20 = nI D := by rw [wn59_20 q1.1, wn_c c59]; exact h20
    have e18 : wn ((w1.set 71 (.inl (1, 8, .inr (.inl (vp_updL (wl w1 71) (0) (wl w1 72 i)))))).set 59 (.inr (7, [.ref 160, .ref 161, .ref 162, .ref 163, .ref 164, .int (wn w1 59 5), .ref 165, .ref 166, .ref 167, .ref 168, .ref 169, .ref 170, .int (wn w1 59 12), .int (wn w1 59 13), .int (wn w1 59 14), .int (wn w1 59 15), .int (wn w1 59 16), .int (wn w1 59 17), .int (nI (T + i + 1)), .int (wn w1 59 19), .int (wn w1 59 20), .ref 171, .ref 172, .ref 173, .int (wn w1 59 24), .int (wn w1 59 25)]))) 59 18 = nI (T + (i + 1)) := by rw [wn59_18 q1.1]; rfl
    have ebk : ∀ k, k < 8 → k < T + (i + 1) → wl ((w1.set 71 (.inl (1, 8, .inr (.inl (vp_updL (wl w1 71) (0) (wl w1 72 i)))))).set 59 (.inr (7, [.ref 160, .ref 161, .ref 162, .ref 163, .ref 164, .int (wn w1 59 5), .ref 165, .ref 166, .ref 167, .ref 168, .ref 169, .ref 170, .int (wn w1 59 12), .int (wn w1 59 13), .int (wn w1 59 14), .int (wn w1 59 15), .int (wn w1 59 16), .int (wn w1 59 17), .int (nI (T + i + 1)), .int (wn w1 59 19), .int (wn w1 59 20), .ref 171, .ref 172, .ref 173, .int (wn w1 59 24), .int (wn w1 59 25)]))) 71 k = lN (S 1 (T + (i + 1) - 1 - k)) := by
      intro k hk hk2
      rw [wl_o (by decide), wl71_s s1.1]
      by_cases e : k = 0
      · subst e
        rw [pk_uLs, e72]
        rfl
      · rw [pk_uLn e, s2 k (by omega) (by omega), hbk (k - 1) (by omega) (by omega), show T + i - 1 - (k - 1) = T + (i + 1) - 1 - k by omega]
    have efr : ∀ j, j < D → wl ((w1.set 71 (.inl (1, 8, .inr (.inl (vp_updL (wl w1 71) (0) (wl w1 72 i)))))).set 59 (.inr (7, [.ref 160, .ref 161, .ref 162, .ref 163, .ref 164, .int (wn w1 59 5), .ref 165, .ref 166, .ref 167, .ref 168, .ref 169, .ref 170, .int (wn w1 59 12), .int (wn w1 59 13), .int (wn w1 59 14), .int (wn w1 59 15), .int (wn w1 59 16), .int (wn w1 59 17), .int (nI (T + i + 1)), .int (wn w1 59 19), .int (wn w1 59 20), .ref 171, .ref 172, .ref 173, .int (wn w1 59 24), .int (wn w1 59 25)]))) 72 j = lN (S 1 (T + j)) := by
      intro j hj
      rw [wl_o (by decide), wl_o (by decide), wl_c (s4 72 (by decide))]
      exact hfr j hj
    refine ih (by omega) q2 e20 ebk e18 efr (fun w' z h1 h2 h3 h4 => hQ w' z h1 h2 ?_ (fun j j1 j2 => ((h4 j j1 j2).trans ((gs_o (by omega)).trans (gs_o (by omega)))).trans (s4 j j2)))
    rw [h3, gs_s (by rw [q2.1]; decide), gs_s (by rw [hS.1]; decide), wn59_5 q1.1, wn59_12 q1.1, wn59_13 q1.1, wn59_14 q1.1, wn59_15 q1.1, wn59_16 q1.1, wn59_17 q1.1, wn59_19 q1.1, wn59_20 q1.1, wn59_24 q1.1, wn59_25 q1.1]
    simp only [wn_c c59]
def AgM (T : Nat) (w w' : sm_W) (r : Nat × Nat × sm_S) : Prop := (∀ k, k < 59 ∨ k = 61 ∨ k = 71 → w'[k]? = w[k]?) ∧ wn w' 59 16 = wn w 59 16 ∧ wn w' 59 17 = wn w 59 17 ∧ wn w' 59 18 = wn w 59 18 ∧ wn w' 59 12 = nI r.2.1 ∧ (r.1 = 0 → BtM T w' r.2.2 ∧ wn w' 59 13 = -3) ∧ (r.1 ≠ 0 → RfM w' r.2.2 ∧ wn w' 59 13 = nI (r.2.2 10 5))
theorem gl_M {X : sm_X} {Q : Option Value → sm_W → Prop} {T : Nat} : ∀ (m : Nat) {i : Nat} {S : sm_S} {w : sm_W}, i + m = S 10 1 → BtM T w S → TxB T S → wn w 59 12 = -3 → (m = 0 → wn w 59 13 = -3) → (∀ w' z, AgM T w w' (s_grp m i S) → sm_R X 70 134 [.ref 159, .int (nI (s_grp m i S).1), .int z, sm_J] [] w' Q) → sm_R X 70 101 [.ref 159, .int 0, .int (nI i), sm_J] [] w Q := by
  intro m
  induction m with
  | zero =>
    intro i S w hi hT hB h12 h13 hQ
    have hS := hT.1
    have h4 : S 10 1 ≤ 4 := hB.2.2.1.1
    have g1 : wn w 59 5 = nI (S 10 1) := hT.2.2.2.1.1
    have y1 : nI (S 10 1) ≤ nI i := nI_le (by omega) (by omega)
    simp (decide := true) only [r70_101, r70_102, r70_103, r70_106, g1, y1, sh59 hS, sm_wp_some, sm_wp_none, sm_at, sm_get, sm_fld, sm_pfl, sm_cN, sm_ai, sm_al, sm_si, sm_slg, sm_aa, List.getElem?_cons_zero, List.getElem?_cons_succ, List.set_cons_zero, List.set_cons_succ, List.length_cons, List.length_nil, Option.toList_some, Option.toList_none, List.cons_append, List.nil_append, if_true, if_false, true_and, and_true, Option.some.injEq, gs_o, gs_s, List.length_set, hS.1, pk_us, Nat.reduceLT, Nat.reduceLeDiff, Nat.reduceSub, Nat.reduceEqDiff, Nat.reduceAdd, Int32.reduceLT, Int32.reduceLE, Int32.reduceAdd, Int32.reduceSub, Int32.reduceToNatClampNeg, ↓reduceIte, reduceCtorEq, Nat.lt_irrefl]
    exact hQ w _ ⟨fun _ _ => rfl, rfl, rfl, rfl, by rw [h12]; rfl, fun _ => ⟨hT, h13 rfl⟩, fun h => absurd rfl h⟩
  | succ m ih =>
    intro i S w hi hT hB h12 h13 hQ
    have hS := hT.1
    have h4 : S 10 1 ≤ 4 := hB.2.2.1.1
    have g1 : wn w 59 5 = nI (S 10 1) := hT.2.2.2.1.1
    have y1 : ¬ nI (S 10 1) ≤ nI i := nI_ge (by omega) (by omega)
    rw [r70_101]
    simp (decide := true) only [r70_102, r70_103, r70_106, r70_109, r70_110, r70_113, r70_114, r70_115, g1, y1, sh59 hS, sm_wp_some, sm_wp_none, sm_at, sm_get, sm_fld, sm_pfl, sm_cN, sm_ai, sm_al, sm_si, sm_slg, sm_aa, List.getElem?_cons_zero, List.getElem?_cons_succ, List.set_cons_zero, List.set_cons_succ, List.length_cons, List.length_nil, Option.toList_some, Option.toList_none, List.cons_append, List.nil_append, if_true, if_false, true_and, and_true, Option.some.injEq, gs_o, gs_s, List.length_set, hS.1, pk_us, Nat.reduceLT, Nat.reduceLeDiff, Nat.reduceSub, Nat.reduceEqDiff, Nat.reduceAdd, Int32.reduceLT, Int32.reduceLE, Int32.reduceAdd, Int32.reduceSub, Int32.reduceToNatClampNeg, ↓reduceIte, reduceCtorEq, Nat.lt_irrefl]
    obtain ⟨a, b, c, d⟩ := s_tx_B hB (t := i) (by omega)
    refine tx_M hT hB (by omega) (fun w' hA => ?_)
    obtain ⟨a1, a2, a3⟩ := hA
    rw [s_grp_1] at hQ
    have i1 : nI i + 1 = nI (i + 1) := nI_1 i
    obtain ⟨f1, f12, f16, f17, f18⟩ := a1
    by_cases e : (s_tx S i).1 = 0
    · rw [if_neg (fun h => h e)] at hQ
      have n0 : nI (s_tx S i).1 = 0 := by rw [e]; rfl
      obtain ⟨T2, t13⟩ := a2 e
      simp (decide := true) only [r70_118, r70_119, r70_120, r70_128, r70_131, n0, i1, sm_wp_some, sm_wp_none, sm_at, sm_get, sm_fld, sm_pfl, sm_cN, sm_ai, sm_al, sm_si, sm_slg, sm_aa, List.getElem?_cons_zero, List.getElem?_cons_succ, List.set_cons_zero, List.set_cons_succ, List.length_cons, List.length_nil, Option.toList_some, Option.toList_none, List.cons_append, List.nil_append, if_true, if_false, true_and, and_true, Option.some.injEq, gs_o, gs_s, List.length_set, pk_us, Nat.reduceLT, Nat.reduceLeDiff, Nat.reduceSub, Nat.reduceEqDiff, Nat.reduceAdd, Int32.reduceLT, Int32.reduceLE, Int32.reduceAdd, Int32.reduceSub, Int32.reduceToNatClampNeg, ↓reduceIte, reduceCtorEq, Nat.lt_irrefl]
      refine ih (by rw [a.2.1 1 (by decide) (by decide)]; omega) T2 (d e) (f12.trans h12) (fun _ => t13) (fun w'' z hA => hQ w'' z ?_)
      obtain ⟨b1, b2, b3, b4, b5, b6, b7⟩ := hA
      exact ⟨fun k hk => (b1 k hk).trans (f1 k hk), b2.trans f16, b3.trans f17, b4.trans f18, b5, b6, b7⟩
    · rw [if_pos e] at hQ
      obtain ⟨q, q7⟩ := a3 e
      have hS' := q.1
      have n0 : ¬ nI (s_tx S i).1 ≤ 0 := nI_ge (a := 0) (by omega) (by omega)
      have n1 : ¬ nI (s_tx S i).1 = 0 := fun h => e ((nI_z (by omega)).mp h)
      have g1' : wn w' 59 5 = nI (S 10 1) := by
        rw [q.2.2.1.1, a.2.1 1 (by decide) (by decide)]
      have key : ∀ z, sm_R X 70 134 [.ref 159, .int (nI (s_tx S i).1), .int z, sm_J] [] (w'.set 59 (.inr (7, [.ref 160, .ref 161, .ref 162, .ref 163, .ref 164, .int (wn w' 59 5), .ref 165, .ref 166, .ref 167, .ref 168, .ref 169, .ref 170, .int (nI i), .int (wn w' 59 13), .int (wn w' 59 14), .int (wn w' 59 15), .int (wn w' 59 16), .int (wn w' 59 17), .int (wn w' 59 18), .int (wn w' 59 19), .int (wn w' 59 20), .ref 171, .ref 172, .ref 173, .int (wn w' 59 24), .int (wn w' 59 25)]))) Q := by
        intro z
        obtain ⟨q1, q2, q3, q4, q5, q6⟩ := q
        refine hQ _ z ⟨fun k hk => (gs_o (by omega)).trans (f1 k hk), ?_, ?_, ?_, ?_, fun h => absurd h e, fun _ => ⟨⟨q1.p59, q2.o (by decide) (by decide) (by decide), q3.n (wi_o (by decide)) (wi_o (by decide)) (wi_o (by decide)) (wi_o (by decide)) (wi_o (by decide)) (wn59_5 q1.1), q4.o (by decide), ?_, ?_⟩, ?_⟩⟩
        · rw [wn59_16 q1.1]; exact f16
        · rw [wn59_17 q1.1]; exact f17
        · rw [wn59_18 q1.1]; exact f18
        · rw [wn59_12 q1.1]
        · rw [wn59_14 q1.1]; exact q5
        · rw [wn59_15 q1.1]; exact q6
        · rw [wn59_13 q1.1]; exact q7
      have g2 : ∀ x, (wn w' 59 5 ≤ x) = (nI (S 10 1) ≤ x) := fun x => by rw [g1']
      by_cases y2 : nI (S 10 1) ≤ nI (i + 1)
      · simp (decide := true) only [r70_101, r70_102, r70_103, r70_106, r70_109, r70_110, r70_118, r70_119, r70_120, r70_123, r70_124, r70_125, r70_128, r70_131, n0, n1, i1, g2, y2, sh59 hS', sm_wp_some, sm_wp_none, sm_at, sm_get, sm_fld, sm_pfl, sm_cN, sm_ai, sm_al, sm_si, sm_slg, sm_aa, List.getElem?_cons_zero, List.getElem?_cons_succ, List.set_cons_zero, List.set_cons_succ, List.length_cons, List.length_nil, Option.toList_some, Option.toList_none, List.cons_append, List.nil_append, if_true, if_false, true_and, and_true, Option.some.injEq, gs_o, gs_s, List.length_set, pk_us, Nat.reduceLT, Nat.reduceLeDiff, Nat.reduceSub, Nat.reduceEqDiff, Nat.reduceAdd, Int32.reduceLT, Int32.reduceLE, Int32.reduceAdd, Int32.reduceSub, Int32.reduceToNatClampNeg, ↓reduceIte, reduceCtorEq, Nat.lt_irrefl, hS'.1]
        exact key _
      · simp (decide := true) only [r70_101, r70_102, r70_103, r70_106, r70_109, r70_110, r70_118, r70_119, r70_120, r70_123, r70_124, r70_125, r70_128, r70_131, n0, n1, i1, g2, y2, sh59 hS', sm_wp_some, sm_wp_none, sm_at, sm_get, sm_fld, sm_pfl, sm_cN, sm_ai, sm_al, sm_si, sm_slg, sm_aa, List.getElem?_cons_zero, List.getElem?_cons_succ, List.set_cons_zero, List.set_cons_succ, List.length_cons, List.length_nil, Option.toList_some, Option.toList_none, List.cons_append, List.nil_append, if_true, if_false, true_and, and_true, Option.some.injEq, gs_o, gs_s, List.length_set, pk_us, Nat.reduceLT, Nat.reduceLeDiff, Nat.reduceSub, Nat.reduceEqDiff, Nat.reduceAdd, Int32.reduceLT, Int32.reduceLE, Int32.reduceAdd, Int32.reduceSub, Int32.reduceToNatClampNeg, ↓reduceIte, reduceCtorEq, Nat.lt_irrefl, hS'.1]
        exact key _
/-! submit of the reference, and the operation (gen/mm10.py) -/
theorem sub_M {X : sm_X} {w : sm_W} {Q : Option Value → sm_W → Prop} {S : sm_S} {n : Nat} (hS : Sh w) (hP : PicM w S) (hB : Bd n S) (hn : n < 512) (h0 : S 10 1 ≠ 0) (hQ : ∀ w', Sh w' → PicM w' (s_fin S (s_grp (S 10 1) 0 (s_start S))) → (∀ k, k < 59 → w'[k]? = w[k]?) → Q (some (.int (nI (s_grp (S 10 1) 0 (s_start S)).1))) w') : sm_R X 70 0 [.ref 159, sm_J, sm_J, sm_J] [] w Q := by
  have bG := hB.2.2.1
  have h4 : S 10 1 ≤ 4 := bG.1
  obtain ⟨⟨hN, hbk, h18⟩, hPr, hGr, hSc, r12, r13, r16, r17, r14, r15⟩ := hP
  have g1 : wn w 59 5 = nI (S 10 1) := hGr.1
  have y0 : ¬ nI (S 10 1) = 0 := fun h => h0 ((nI_z (by omega)).mp h)
  have hc := s_calls_le (S := S) (S 10 1)
  have bR := hB.2.2.2.2
  have hTl : S 10 0 ≤ 300000 := by have := bR.1; omega
  simp (decide := true) only [r70_0, r70_1, r70_4, r70_9, r70_10, r70_11, r70_12, g1, y0, sh59 hS, sm_wp_some, sm_wp_none, sm_at, sm_get, sm_fld, sm_pfl, sm_cN, sm_ai, sm_al, sm_si, sm_slg, sm_aa, List.getElem?_cons_zero, List.getElem?_cons_succ, List.set_cons_zero, List.set_cons_succ, List.length_cons, List.length_nil, Option.toList_some, Option.toList_none, List.cons_append, List.nil_append, if_true, if_false, true_and, and_true, Option.some.injEq, gs_o, gs_s, List.length_set, hS.1, pk_us, Nat.reduceLT, Nat.reduceLeDiff, Nat.reduceSub, Nat.reduceEqDiff, Nat.reduceAdd, Int32.reduceLT, Int32.reduceLE, Int32.reduceAdd, Int32.reduceSub, Int32.reduceToNatClampNeg, ↓reduceIte, reduceCtorEq, Nat.lt_irrefl]
  refine sv_lp (i := 0) 94 rfl hS (fun k hk => absurd hk (Nat.not_lt_zero _)) (fun w1 s1 cp f1 => ?_)
  have c1 := f1 59 (by decide)
  simp (decide := true) only [r70_37, r70_38, r70_39, r70_42, r70_43, sh59 s1, sm_wp_some, sm_wp_none, sm_at, sm_get, sm_fld, sm_pfl, sm_cN, sm_ai, sm_al, sm_si, sm_slg, sm_aa, List.getElem?_cons_zero, List.getElem?_cons_succ, List.set_cons_zero, List.set_cons_succ, List.length_cons, List.length_nil, Option.toList_some, Option.toList_none, List.cons_append, List.nil_append, if_true, if_false, true_and, and_true, Option.some.injEq, gs_o, gs_s, List.length_set, pk_us, Nat.reduceLT, Nat.reduceLeDiff, Nat.reduceSub, Nat.reduceEqDiff, Nat.reduceAdd, Int32.reduceLT, Int32.reduceLE, Int32.reduceAdd, Int32.reduceSub, Int32.reduceToNatClampNeg, ↓reduceIte, reduceCtorEq, Nat.lt_irrefl, s1.1]
  have hS2 : Sh (w1.set 59 (.inr (7, [.ref 160, .ref 161, .ref 162, .ref 163, .ref 164, .int (wn w1 59 5), .ref 165, .ref 166, .ref 167, .ref 168, .ref 169, .ref 170, .int (wn w1 59 12), .int (wn w1 59 13), .int (wn w1 59 14), .int (wn w1 59 15), .int (wn w1 59 16), .int (wn w1 59 17), .int (wn w1 59 18), .int 0, .int (wn w1 59 20), .ref 171, .ref 172, .ref 173, .int (wn w1 59 24), .int (wn w1 59 25)]))) := s1.p59
  have G1 : GrM w1 S := hGr.n (wi_c (f1 65 (by decide))) (wi_c (f1 66 (by decide))) (wi_c (f1 67 (by decide))) (wi_c (f1 68 (by decide))) (wi_c (f1 69 (by decide))) (wn_c c1)
  have G2 : GrM (w1.set 59 (.inr (7, [.ref 160, .ref 161, .ref 162, .ref 163, .ref 164, .int (wn w1 59 5), .ref 165, .ref 166, .ref 167, .ref 168, .ref 169, .ref 170, .int (wn w1 59 12), .int (wn w1 59 13), .int (wn w1 59 14), .int (wn w1 59 15), .int (wn w1 59 16), .int (wn w1 59 17), .int (wn w1 59 18), .int 0, .int (wn w1 59 20), .ref 171, .ref 172, .ref 173, .int (wn w1 59 24), .int (wn w1 59 25)]))) S := G1.n (wi_o (by decide)) (wi_o (by decide)) (wi_o (by decide)) (wi_o (by decide)) (wi_o (by decide)) (wn59_5 s1.1)
  refine bu_lp bG (i := 0) (S 10 1) (Nat.zero_add _) hS2 G2 (wn59_19 s1.1) (fun w3 s3 c3 f3 => ?_)
  have c3' := c3.trans (gs_s (by rw [hS2.1]; decide))
  have e3 : ∀ j, j = 5 ∨ j = 12 ∨ j = 13 ∨ j = 16 ∨ j = 17 ∨ j = 18 → wn w3 59 j = wn w 59 j := by
    intro j hj
    rw [← wn_c (j := j) c1]
    rcases hj with e | e | e | e | e | e <;> subst e
    · rw [wn_c c3, wn59_5 hS2.1, wn59_5 s1.1]
    · rw [wn_c c3, wn59_12 hS2.1, wn59_12 s1.1]
    · rw [wn_c c3, wn59_13 hS2.1, wn59_13 s1.1]
    · rw [wn_c c3, wn59_16 hS2.1, wn59_16 s1.1]
    · rw [wn_c c3, wn59_17 hS2.1, wn59_17 s1.1]
    · rw [wn_c c3, wn59_18 hS2.1, wn59_18 s1.1]
  have e19 : wn w3 59 19 = nI (20 * s_calls S (S 10 1)) := by rw [wn_c c3, wn59_19 hS2.1]
  have f3' : ∀ j, j ≠ 59 → j ≠ 61 → w3[j]? = w[j]? := fun j h1 h2 => (f3 j h1).trans ((gs_o (by omega)).trans (f1 j h2))
  have cp3 : ∀ k, k < 94 → wl w3 61 k = lN (S 0 k) := fun k hk => by
    rw [wl_c (f3 61 (by decide)), wl_o (by decide), cp k hk]
    exact hN k hk
  simp (decide := true) only [r70_78, r70_79, r70_80, r70_83, r70_84, r70_85, r70_88, r70_89, r70_90, r70_93, r70_94, r70_96, r70_99, r70_100, sh59 s3, List.set_set, sm_wp_some, sm_wp_none, sm_at, sm_get, sm_fld, sm_pfl, sm_cN, sm_ai, sm_al, sm_si, sm_slg, sm_aa, List.getElem?_cons_zero, List.getElem?_cons_succ, List.set_cons_zero, List.set_cons_succ, List.length_cons, List.length_nil, Option.toList_some, Option.toList_none, List.cons_append, List.nil_append, if_true, if_false, true_and, and_true, Option.some.injEq, gs_o, gs_s, List.length_set, pk_us, Nat.reduceLT, Nat.reduceLeDiff, Nat.reduceSub, Nat.reduceEqDiff, Nat.reduceAdd, Int32.reduceLT, Int32.reduceLE, Int32.reduceAdd, Int32.reduceSub, Int32.reduceToNatClampNeg, ↓reduceIte, reduceCtorEq, Nat.lt_irrefl, s3.1]
  have T4 : BtM (S 10 0) (w3.set 59 (.inr (7, [.ref 160, .ref 161, .ref 162, .ref 163, .ref 164, .int (wn w3 59 5), .ref 165, .ref 166, .ref 167, .ref 168, .ref 169, .ref 170, .int (-3), .int (wn w3 59 13), .int 0, .int 0, .int (wn w3 59 16), .int (wn w3 59 17), .int (wn w3 59 18), .int (wn w3 59 19), .int 0, .ref 171, .ref 172, .ref 173, .int (wn w3 59 24), .int (wn w3 59 25)]))) (s_start S) := by
    refine ⟨s3.p59, fun i hi => ?_, ?_, ?_, fun i hi => ?_, fun i hi => ?_, ?_, ?_, ?_, ?_⟩
    · rw [wl_o (by decide), wl_c (f3' 60 (by decide) (by decide))]; exact hN i hi
    · exact PrM.n (w := w) (S := s_start S) hPr ((wi_o (by decide)).trans (wi_c (f3' 62 (by decide) (by decide)))) ((wi_o (by decide)).trans (wi_c (f3' 63 (by decide) (by decide)))) ((wi_o (by decide)).trans (wi_c (f3' 64 (by decide) (by decide))))
    · exact GrM.n (w := w) (S := s_start S) hGr ((wi_o (by decide)).trans (wi_c (f3' 65 (by decide) (by decide)))) ((wi_o (by decide)).trans (wi_c (f3' 66 (by decide) (by decide)))) ((wi_o (by decide)).trans (wi_c (f3' 67 (by decide) (by decide)))) ((wi_o (by decide)).trans (wi_c (f3' 68 (by decide) (by decide)))) ((wi_o (by decide)).trans (wi_c (f3' 69 (by decide) (by decide)))) ((wn59_5 s3.1).trans (e3 5 (by decide)))
    · rw [wl_o (by decide), wl_c (f3' 70 (by decide) (by decide))]; exact hSc i hi
    · have hi : S 10 0 + i < S 10 0 := hi
      omega
    · rw [wn59_19 s3.1]; exact e19
    · rw [wn59_14 s3.1]; rfl
    · rw [wn59_15 s3.1]; rfl
    · rw [wn59_20 s3.1]
      show (0 : Int32) = nI (S 10 0 - S 10 0)
      rw [Nat.sub_self]
      rfl
  have e12 : wn (w3.set 59 (.inr (7, [.ref 160, .ref 161, .ref 162, .ref 163, .ref 164, .int (wn w3 59 5), .ref 165, .ref 166, .ref 167, .ref 168, .ref 169, .ref 170, .int (-3), .int (wn w3 59 13), .int 0, .int 0, .int (wn w3 59 16), .int (wn w3 59 17), .int (wn w3 59 18), .int (wn w3 59 19), .int 0, .ref 171, .ref 172, .ref 173, .int (wn w3 59 24), .int (wn w3 59 25)]))) 59 12 = -3 := wn59_12 s3.1
  have e16 : wn (w3.set 59 (.inr (7, [.ref 160, .ref 161, .ref 162, .ref 163, .ref 164, .int (wn w3 59 5), .ref 165, .ref 166, .ref 167, .ref 168, .ref 169, .ref 170, .int (-3), .int (wn w3 59 13), .int 0, .int 0, .int (wn w3 59 16), .int (wn w3 59 17), .int (wn w3 59 18), .int (wn w3 59 19), .int 0, .ref 171, .ref 172, .ref 173, .int (wn w3 59 24), .int (wn w3 59 25)]))) 59 16 = nI (S 10 2) := by rw [wn59_16 s3.1, e3 16 (by decide)]; exact r16
  have e17 : wn (w3.set 59 (.inr (7, [.ref 160, .ref 161, .ref 162, .ref 163, .ref 164, .int (wn w3 59 5), .ref 165, .ref 166, .ref 167, .ref 168, .ref 169, .ref 170, .int (-3), .int (wn w3 59 13), .int 0, .int 0, .int (wn w3 59 16), .int (wn w3 59 17), .int (wn w3 59 18), .int (wn w3 59 19), .int 0, .ref 171, .ref 172, .ref 173, .int (wn w3 59 24), .int (wn w3 59 25)]))) 59 17 = nI (S 10 3) := by rw [wn59_17 s3.1, e3 17 (by decide)]; exact r17
  have e18 : wn (w3.set 59 (.inr (7, [.ref 160, .ref 161, .ref 162, .ref 163, .ref 164, .int (wn w3 59 5), .ref 165, .ref 166, .ref 167, .ref 168, .ref 169, .ref 170, .int (-3), .int (wn w3 59 13), .int 0, .int 0, .int (wn w3 59 16), .int (wn w3 59 17), .int (wn w3 59 18), .int (wn w3 59 19), .int 0, .ref 171, .ref 172, .ref 173, .int (wn w3 59 24), .int (wn w3 59 25)]))) 59 18 = nI (S 10 0) := by rw [wn59_18 s3.1, e3 18 (by decide)]; exact h18
  have cp4 : ∀ k, k < 94 → wl (w3.set 59 (.inr (7, [.ref 160, .ref 161, .ref 162, .ref 163, .ref 164, .int (wn w3 59 5), .ref 165, .ref 166, .ref 167, .ref 168, .ref 169, .ref 170, .int (-3), .int (wn w3 59 13), .int 0, .int 0, .int (wn w3 59 16), .int (wn w3 59 17), .int (wn w3 59 18), .int (wn w3 59 19), .int 0, .ref 171, .ref 172, .ref 173, .int (wn w3 59 24), .int (wn w3 59 25)]))) 61 k = lN (S 0 k) := fun k hk => by rw [wl_o (by decide)]; exact cp3 k hk
  have f4 : ∀ j, j < 59 ∨ j = 71 → (w3.set 59 (.inr (7, [.ref 160, .ref 161, .ref 162, .ref 163, .ref 164, .int (wn w3 59 5), .ref 165, .ref 166, .ref 167, .ref 168, .ref 169, .ref 170, .int (-3), .int (wn w3 59 13), .int 0, .int 0, .int (wn w3 59 16), .int (wn w3 59 17), .int (wn w3 59 18), .int (wn w3 59 19), .int 0, .ref 171, .ref 172, .ref 173, .int (wn w3 59 24), .int (wn w3 59 25)])))[j]? = w[j]? := fun j hj => (gs_o (by omega)).trans (f3' j (by omega) (by omega))
  generalize (w3.set 59 (.inr (7, [.ref 160, .ref 161, .ref 162, .ref 163, .ref 164, .int (wn w3 59 5), .ref 165, .ref 166, .ref 167, .ref 168, .ref 169, .ref 170, .int (-3), .int (wn w3 59 13), .int 0, .int 0, .int (wn w3 59 16), .int (wn w3 59 17), .int (wn w3 59 18), .int (wn w3 59 19), .int 0, .ref 171, .ref 172, .ref 173, .int (wn w3 59 24), .int (wn w3 59 25)]))) = w4 at T4 e12 e16 e17 e18 cp4 f4
  have hB2 := TxB.start hB hn
  show sm_R X 70 101 [.ref 159, .int 0, .int (nI 0), sm_J] [] w4 Q
  refine gl_M (T := S 10 0) (S := s_start S) (i := 0) (S 10 1) (Nat.zero_add _) T4 hB2 e12 (fun h => absurd h h0) (fun w5 z hA => ?_)
  obtain ⟨b1, b2, b3, b4, b5, b6, b7⟩ := hA
  obtain ⟨a, b, c, d⟩ := grp_B (T := S 10 0) (S 10 1) (i := 0) (S := s_start S) (Nat.zero_add _) hB2
  generalize s_grp (S 10 1) 0 (s_start S) = r at *
  have r1 : ∀ j, j < S 10 0 → r.2.2 1 j = S 1 j := a.2.2.2
  by_cases e : r.1 = 0
  · have n0 : nI r.1 = 0 := by rw [e]; rfl
    obtain ⟨T5, t13⟩ := b6 e
    have hS5 := T5.1
    have bt := d e
    have bL : r.2.2 10 0 ≤ S 10 0 + r.2.2 14 4 := bt.2.2.2.2.2.2.2.2.1
    have bM : S 10 0 ≤ r.2.2 10 0 := bt.2.2.2.2.2.2.2.1
    have b80 : r.2.2 14 4 ≤ 80 := Nat.le_trans bt.2.2.2.2.2.1 bt.2.2.2.2.1
    have x1 : wn w5 59 16 + 1 = nI (S 10 2 + 1) := by rw [b2, e16]; exact nI_1 _
    simp (decide := true) only [r70_134, r70_135, r70_136, r70_139, r70_140, r70_181, r70_182, r70_183, r70_186, r70_187, r70_188, r70_191, r70_192, n0, x1, sh59 hS5, List.set_set, sm_wp_some, sm_wp_none, sm_at, sm_get, sm_fld, sm_pfl, sm_cN, sm_ai, sm_al, sm_si, sm_slg, sm_aa, List.getElem?_cons_zero, List.getElem?_cons_succ, List.set_cons_zero, List.set_cons_succ, List.length_cons, List.length_nil, Option.toList_some, Option.toList_none, List.cons_append, List.nil_append, if_true, if_false, true_and, and_true, Option.some.injEq, gs_o, gs_s, List.length_set, pk_us, Nat.reduceLT, Nat.reduceLeDiff, Nat.reduceSub, Nat.reduceEqDiff, Nat.reduceAdd, Int32.reduceLT, Int32.reduceLE, Int32.reduceAdd, Int32.reduceSub, Int32.reduceToNatClampNeg, ↓reduceIte, reduceCtorEq, Nat.lt_irrefl, hS5.1]
    have s6 : Sh (w5.set 59 (.inr (7, [.ref 160, .ref 161, .ref 162, .ref 163, .ref 164, .int 0, .ref 165, .ref 166, .ref 167, .ref 168, .ref 169, .ref 170, .int (wn w5 59 12), .int (wn w5 59 13), .int (wn w5 59 14), .int (wn w5 59 15), .int (nI (S 10 2 + 1)), .int (wn w5 59 17), .int (wn w5 59 18), .int (wn w5 59 19), .int (wn w5 59 20), .ref 171, .ref 172, .ref 173, .int (wn w5 59 24), .int (wn w5 59 25)]))) := hS5.p59
    have q20 : wn (w5.set 59 (.inr (7, [.ref 160, .ref 161, .ref 162, .ref 163, .ref 164, .int 0, .ref 165, .ref 166, .ref 167, .ref 168, .ref 169, .ref 170, .int (wn w5 59 12), .int (wn w5 59 13), .int (wn w5 59 14), .int (wn w5 59 15), .int (nI (S 10 2 + 1)), .int (wn w5 59 17), .int (wn w5 59 18), .int (wn w5 59 19), .int (wn w5 59 20), .ref 171, .ref 172, .ref 173, .int (wn w5 59 24), .int (wn w5 59 25)]))) 59 20 = nI (r.2.2 10 0 - S 10 0) := by rw [wn59_20 hS5.1]; exact T5.2.2.2.2.2.2.2.2.2
    have q18 : wn (w5.set 59 (.inr (7, [.ref 160, .ref 161, .ref 162, .ref 163, .ref 164, .int 0, .ref 165, .ref 166, .ref 167, .ref 168, .ref 169, .ref 170, .int (wn w5 59 12), .int (wn w5 59 13), .int (wn w5 59 14), .int (wn w5 59 15), .int (nI (S 10 2 + 1)), .int (wn w5 59 17), .int (wn w5 59 18), .int (wn w5 59 19), .int (wn w5 59 20), .ref 171, .ref 172, .ref 173, .int (wn w5 59 24), .int (wn w5 59 25)]))) 59 18 = nI (S 10 0 + 0) := by rw [wn59_18 hS5.1, b4]; exact e18
    have qbk : ∀ k, k < 8 → k < S 10 0 + 0 → wl (w5.set 59 (.inr (7, [.ref 160, .ref 161, .ref 162, .ref 163, .ref 164, .int 0, .ref 165, .ref 166, .ref 167, .ref 168, .ref 169, .ref 170, .int (wn w5 59 12), .int (wn w5 59 13), .int (wn w5 59 14), .int (wn w5 59 15), .int (nI (S 10 2 + 1)), .int (wn w5 59 17), .int (wn w5 59 18), .int (wn w5 59 19), .int (wn w5 59 20), .ref 171, .ref 172, .ref 173, .int (wn w5 59 24), .int (wn w5 59 25)]))) 71 k = lN (r.2.2 1 (S 10 0 + 0 - 1 - k)) := by
      intro k hk hk2
      rw [wl_o (by decide), wl_c ((b1 71 (by omega)).trans (f4 71 (by omega))), r1 _ (by omega)]
      exact hbk k hk (by omega)
    have qfr : ∀ j, j < r.2.2 10 0 - S 10 0 → wl (w5.set 59 (.inr (7, [.ref 160, .ref 161, .ref 162, .ref 163, .ref 164, .int 0, .ref 165, .ref 166, .ref 167, .ref 168, .ref 169, .ref 170, .int (wn w5 59 12), .int (wn w5 59 13), .int (wn w5 59 14), .int (wn w5 59 15), .int (nI (S 10 2 + 1)), .int (wn w5 59 17), .int (wn w5 59 18), .int (wn w5 59 19), .int (wn w5 59 20), .ref 171, .ref 172, .ref 173, .int (wn w5 59 24), .int (wn w5 59 25)]))) 72 j = lN (r.2.2 1 (S 10 0 + j)) := by
      intro j hj
      rw [wl_o (by decide)]
      exact T5.2.2.2.2.2.1 j (by omega)
    refine lo_lp (S := r.2.2) (T := S 10 0) (D := r.2.2 10 0 - S 10 0) (i := 0) (by omega) hTl (r.2.2 10 0 - S 10 0) (Nat.zero_add _) s6 q20 qbk q18 qfr (fun w' z h1 h2 h3 h5 => ?_)
    have tot : S 10 0 + (r.2.2 10 0 - S 10 0) = r.2.2 10 0 := by omega
    rw [tot] at h2 h3
    simp (decide := true) only [r70_256, r70_257]
    rw [n0] at hQ
    have f0 : s_fin S r 0 = r.2.2 0 := if_pos e
    have ff1 : s_fin S r 1 = r.2.2 1 := if_pos e
    have f10 : s_fin S r 10 0 = r.2.2 10 0 := if_pos e
    have f2 : s_fin S r 10 2 = S 10 2 + 1 := if_pos e
    have f3 : s_fin S r 10 3 = S 10 3 := if_pos e
    have g59 : ∀ j, wn w' 59 j = wn ((w5.set 59 (.inr (7, [.ref 160, .ref 161, .ref 162, .ref 163, .ref 164, .int 0, .ref 165, .ref 166, .ref 167, .ref 168, .ref 169, .ref 170, .int (wn w5 59 12), .int (wn w5 59 13), .int (wn w5 59 14), .int (wn w5 59 15), .int (nI (S 10 2 + 1)), .int (wn w5 59 17), .int (wn w5 59 18), .int (wn w5 59 19), .int (wn w5 59 20), .ref 171, .ref 172, .ref 173, .int (wn w5 59 24), .int (wn w5 59 25)]))).set 59 (.inr (7, [.ref 160, .ref 161, .ref 162, .ref 163, .ref 164, .int (wn (w5.set 59 (.inr (7, [.ref 160, .ref 161, .ref 162, .ref 163, .ref 164, .int 0, .ref 165, .ref 166, .ref 167, .ref 168, .ref 169, .ref 170, .int (wn w5 59 12), .int (wn w5 59 13), .int (wn w5 59 14), .int (wn w5 59 15), .int (nI (S 10 2 + 1)), .int (wn w5 59 17), .int (wn w5 59 18), .int (wn w5 59 19), .int (wn w5 59 20), .ref 171, .ref 172, .ref 173, .int (wn w5 59 24), .int (wn w5 59 25)]))) 59 5), .ref 165, .ref 166, .ref 167, .ref 168, .ref 169, .ref 170, .int (wn (w5.set 59 (.inr (7, [.ref 160, .ref 161, .ref 162, .ref 163, .ref 164, .int 0, .ref 165, .ref 166, .ref 167, .ref 168, .ref 169, .ref 170, .int (wn w5 59 12), .int (wn w5 59 13), .int (wn w5 59 14), .int (wn w5 59 15), .int (nI (S 10 2 + 1)), .int (wn w5 59 17), .int (wn w5 59 18), .int (wn w5 59 19), .int (wn w5 59 20), .ref 171, .ref 172, .ref 173, .int (wn w5 59 24), .int (wn w5 59 25)]))) 59 12), .int (wn (w5.set 59 (.inr (7, [.ref 160, .ref 161, .ref 162, .ref 163, .ref 164, .int 0, .ref 165, .ref 166, .ref 167, .ref 168, .ref 169, .ref 170, .int (wn w5 59 12), .int (wn w5 59 13), .int (wn w5 59 14), .int (wn w5 59 15), .int (nI (S 10 2 + 1)), .int (wn w5 59 17), .int (wn w5 59 18), .int (wn w5 59 19), .int (wn w5 59 20), .ref 171, .ref 172, .ref 173, .int (wn w5 59 24), .int (wn w5 59 25)]))) 59 13), .int (wn (w5.set 59 (.inr (7, [.ref 160, .ref 161, .ref 162, .ref 163, .ref 164, .int 0, .ref 165, .ref 166, .ref 167, .ref 168, .ref 169, .ref 170, .int (wn w5 59 12), .int (wn w5 59 13), .int (wn w5 59 14), .int (wn w5 59 15), .int (nI (S 10 2 + 1)), .int (wn w5 59 17), .int (wn w5 59 18), .int (wn w5 59 19), .int (wn w5 59 20), .ref 171, .ref 172, .ref 173, .int (wn w5 59 24), .int (wn w5 59 25)]))) 59 14), .int (wn (w5.set 59 (.inr (7, [.ref 160, .ref 161, .ref 162, .ref 163, .ref 164, .int 0, .ref 165, .ref 166, .ref 167, .ref 168, .ref 169, .ref 170, .int (wn w5 59 12), .int (wn w5 59 13), .int (wn w5 59 14), .int (wn w5 59 15), .int (nI (S 10 2 + 1)), .int (wn w5 59 17), .int (wn w5 59 18), .int (wn w5 59 19), .int (wn w5 59 20), .ref 171, .ref 172, .ref 173, .int (wn w5 59 24), .int (wn w5 59 25)]))) 59 15), .int (wn (w5.set 59 (.inr (7, [.ref 160, .ref 161, .ref 162, .ref 163, .ref 164, .int 0, .ref 165, .ref 166, .ref 167, .ref 168, .ref 169, .ref 170, .int (wn w5 59 12), .int (wn w5 59 13), .int (wn w5 59 14), .int (wn w5 59 15), .int (nI (S 10 2 + 1)), .int (wn w5 59 17), .int (wn w5 59 18), .int (wn w5 59 19), .int (wn w5 59 20), .ref 171, .ref 172, .ref 173, .int (wn w5 59 24), .int (wn w5 59 25)]))) 59 16), .int (wn (w5.set 59 (.inr (7, [.ref 160, .ref 161, .ref 162, .ref 163, .ref 164, .int 0, .ref 165, .ref 166, .ref 167, .ref 168, .ref 169, .ref 170, .int (wn w5 59 12), .int (wn w5 59 13), .int (wn w5 59 14), .int (wn w5 59 15), .int (nI (S 10 2 + 1)), .int (wn w5 59 17), .int (wn w5 59 18), .int (wn w5 59 19), .int (wn w5 59 20), .ref 171, .ref 172, .ref 173, .int (wn w5 59 24), .int (wn w5 59 25)]))) 59 17), .int (nI (r.2.2 10 0)), .int (wn (w5.set 59 (.inr (7, [.ref 160, .ref 161, .ref 162, .ref 163, .ref 164, .int 0, .ref 165, .ref 166, .ref 167, .ref 168, .ref 169, .ref 170, .int (wn w5 59 12), .int (wn w5 59 13), .int (wn w5 59 14), .int (wn w5 59 15), .int (nI (S 10 2 + 1)), .int (wn w5 59 17), .int (wn w5 59 18), .int (wn w5 59 19), .int (wn w5 59 20), .ref 171, .ref 172, .ref 173, .int (wn w5 59 24), .int (wn w5 59 25)]))) 59 19), .int (wn (w5.set 59 (.inr (7, [.ref 160, .ref 161, .ref 162, .ref 163, .ref 164, .int 0, .ref 165, .ref 166, .ref 167, .ref 168, .ref 169, .ref 170, .int (wn w5 59 12), .int (wn w5 59 13), .int (wn w5 59 14), .int (wn w5 59 15), .int (nI (S 10 2 + 1)), .int (wn w5 59 17), .int (wn w5 59 18), .int (wn w5 59 19), .int (wn w5 59 20), .ref 171, .ref 172, .ref 173, .int (wn w5 59 24), .int (wn w5 59 25)]))) 59 20), .ref 171, .ref 172, .ref 173, .int (wn (w5.set 59 (.inr (7, [.ref 160, .ref 161, .ref 162, .ref 163, .ref 164, .int 0, .ref 165, .ref 166, .ref 167, .ref 168, .ref 169, .ref 170, .int (wn w5 59 12), .int (wn w5 59 13), .int (wn w5 59 14), .int (wn w5 59 15), .int (nI (S 10 2 + 1)), .int (wn w5 59 17), .int (wn w5 59 18), .int (wn w5 59 19), .int (wn w5 59 20), .ref 171, .ref 172, .ref 173, .int (wn w5 59 24), .int (wn w5 59 25)]))) 59 24), .int (wn (w5.set 59 (.inr (7, [.ref 160, .ref 161, .ref 162, .ref 163, .ref 164, .int 0, .ref 165, .ref 166, .ref 167, .ref 168, .ref 169, .ref 170, .int (wn w5 59 12), .int (wn w5 59 13), .int (wn w5 59 14), .int (wn w5 59 15), .int (nI (S 10 2 + 1)), .int (wn w5 59 17), .int (wn w5 59 18), .int (wn w5 59 19), .int (wn w5 59 20), .ref 171, .ref 172, .ref 173, .int (wn w5 59 24), .int (wn w5 59 25)]))) 59 25)]))) 59 j := fun j => wn_c h3
    refine hQ w' h1 ⟨⟨?_, ?_, ?_⟩, ?_, ⟨?_, fun t ht => absurd ht (Nat.not_lt_zero _)⟩, ?_, ?_, ?_, ?_, ?_, ?_, ?_⟩ (fun k hk => ((h5 k (by omega) (by omega)).trans (gs_o (by omega))).trans ((b1 k (by omega)).trans (f4 k (by omega))))
    · intro i hi
      rw [f0, wl_c (h5 60 (by decide) (by decide)), wl_o (by decide)]
      exact T5.2.1 i hi
    · rw [f10, ff1]
      exact h2
    · rw [f10, g59, wn59_18 s6.1]
    · exact PrM.n (w := w5) (S := s_fin S r) T5.2.2.1 ((wi_c (h5 62 (by decide) (by decide))).trans (wi_o (by decide))) ((wi_c (h5 63 (by decide) (by decide))).trans (wi_o (by decide))) ((wi_c (h5 64 (by decide) (by decide))).trans (wi_o (by decide)))
    · rw [g59, wn59_5 s6.1, wn59_5 hS5.1]; rfl
    · intro i hi
      rw [wl_c (h5 70 (by decide) (by decide)), wl_o (by decide)]
      exact T5.2.2.2.2.1 i hi
    · rw [g59, wn59_12 s6.1, wn59_12 hS5.1]; exact b5
    · rw [g59, wn59_13 s6.1, wn59_13 hS5.1, t13]
      show _ = nI (r.2.2 10 5)
      rw [bt.2.2.2.2.2.2.2.2.2.2]
      rfl
    · rw [g59, wn59_16 s6.1, wn59_16 hS5.1, f2]
    · rw [g59, wn59_17 s6.1, wn59_17 hS5.1, b3, e17, f3]
    · rw [g59, wn59_14 s6.1, wn59_14 hS5.1]; exact T5.2.2.2.2.2.2.2.1
    · rw [g59, wn59_15 s6.1, wn59_15 hS5.1]; exact T5.2.2.2.2.2.2.2.2.1
  · have n0 : ¬ nI r.1 ≤ 0 := nI_ge (a := 0) (by omega) (by omega)
    obtain ⟨q, q7⟩ := b7 e
    have hS5 := q.1
    have x1 : wn w5 59 17 + 1 = nI (S 10 3 + 1) := by rw [b3, e17]; exact nI_1 _
    simp (decide := true) only [r70_134, r70_135, r70_136, r70_139, r70_140, r70_143, r70_144, r70_145, r70_148, r70_149, r70_150, r70_153, r70_154, n0, x1, sh59 hS5, List.set_set, sm_wp_some, sm_wp_none, sm_at, sm_get, sm_fld, sm_pfl, sm_cN, sm_ai, sm_al, sm_si, sm_slg, sm_aa, List.getElem?_cons_zero, List.getElem?_cons_succ, List.set_cons_zero, List.set_cons_succ, List.length_cons, List.length_nil, Option.toList_some, Option.toList_none, List.cons_append, List.nil_append, if_true, if_false, true_and, and_true, Option.some.injEq, gs_o, gs_s, List.length_set, pk_us, Nat.reduceLT, Nat.reduceLeDiff, Nat.reduceSub, Nat.reduceEqDiff, Nat.reduceAdd, Int32.reduceLT, Int32.reduceLE, Int32.reduceAdd, Int32.reduceSub, Int32.reduceToNatClampNeg, ↓reduceIte, reduceCtorEq, Nat.lt_irrefl, hS5.1]
    have s6 : Sh (w5.set 59 (.inr (7, [.ref 160, .ref 161, .ref 162, .ref 163, .ref 164, .int 0, .ref 165, .ref 166, .ref 167, .ref 168, .ref 169, .ref 170, .int (wn w5 59 12), .int (wn w5 59 13), .int (wn w5 59 14), .int (wn w5 59 15), .int (wn w5 59 16), .int (nI (S 10 3 + 1)), .int (wn w5 59 18), .int (wn w5 59 19), .int (wn w5 59 20), .ref 171, .ref 172, .ref 173, .int (wn w5 59 24), .int (wn w5 59 25)]))) := hS5.p59
    refine rs_lp (i := 0) 94 rfl s6 (fun k hk => absurd hk (Nat.not_lt_zero _)) (fun w' h1 h2 h5 => ?_)
    simp (decide := true) only [r70_179, r70_180]
    have f0 : s_fin S r 0 = S 0 := if_neg e
    have ff1 : s_fin S r 1 = S 1 := if_neg e
    have f10 : s_fin S r 10 0 = S 10 0 := if_neg e
    have f2 : s_fin S r 10 2 = S 10 2 := if_neg e
    have f3 : s_fin S r 10 3 = S 10 3 + 1 := if_neg e
    have g59 : ∀ j, wn w' 59 j = wn (w5.set 59 (.inr (7, [.ref 160, .ref 161, .ref 162, .ref 163, .ref 164, .int 0, .ref 165, .ref 166, .ref 167, .ref 168, .ref 169, .ref 170, .int (wn w5 59 12), .int (wn w5 59 13), .int (wn w5 59 14), .int (wn w5 59 15), .int (wn w5 59 16), .int (nI (S 10 3 + 1)), .int (wn w5 59 18), .int (wn w5 59 19), .int (wn w5 59 20), .ref 171, .ref 172, .ref 173, .int (wn w5 59 24), .int (wn w5 59 25)]))) 59 j := fun j => wn_c (h5 59 (by decide))
    refine hQ w' h1 ⟨⟨?_, ?_, ?_⟩, ?_, ⟨?_, fun t ht => absurd ht (Nat.not_lt_zero _)⟩, ?_, ?_, ?_, ?_, ?_, ?_, ?_⟩ (fun k hk => ((h5 k (by omega)).trans (gs_o (by omega))).trans ((b1 k (by omega)).trans (f4 k (by omega))))
    · intro i hi
      rw [f0, h2 i hi, wl_o (by decide), wl_c (b1 61 (by omega))]
      exact cp4 i hi
    · intro k hk hk2
      rw [f10] at hk2 ⊢
      rw [ff1, wl_c (h5 71 (by decide)), wl_o (by decide), wl_c ((b1 71 (by omega)).trans (f4 71 (by omega)))]
      exact hbk k hk hk2
    · rw [f10, g59, wn59_18 hS5.1, b4]; exact e18
    · exact PrM.n (w := w5) (S := s_fin S r) q.2.1 ((wi_c (h5 62 (by decide))).trans (wi_o (by decide))) ((wi_c (h5 63 (by decide))).trans (wi_o (by decide))) ((wi_c (h5 64 (by decide))).trans (wi_o (by decide)))
    · rw [g59, wn59_5 hS5.1]; rfl
    · intro i hi
      rw [wl_c (h5 70 (by decide)), wl_o (by decide)]
      exact q.2.2.2.1 i hi
    · rw [g59, wn59_12 hS5.1]; exact b5
    · rw [g59, wn59_13 hS5.1]; exact q7
    · rw [g59, wn59_16 hS5.1, b2, e16, f2]
    · rw [g59, wn59_17 hS5.1, f3]
    · rw [g59, wn59_14 hS5.1]; exact q.2.2.2.2.1
    · rw [g59, wn59_15 hS5.1]; exact q.2.2.2.2.2
theorem bd_fin {n : Nat} {S : sm_S} (hB : Bd n S) (hn : n < 512) : Bd (n + 1) (s_fin S (s_grp (S 10 1) 0 (s_start S))) := by
  have hB2 := TxB.start hB hn
  obtain ⟨a, b, c, d⟩ := grp_B (T := S 10 0) (S 10 1) (i := 0) (S := s_start S) (Nat.zero_add _) hB2
  obtain ⟨b1, b2, b3, b4, c1, c2, c3⟩ := hB
  generalize s_grp (S 10 1) 0 (s_start S) = r at *
  have e2 : s_fin S r 2 = S 2 := a.1.1
  have e3 : s_fin S r 3 = S 3 := a.1.2.1
  have e11 : s_fin S r 11 = S 11 := a.1.2.2.2.2.2.2.2
  have q2 : BdP (s_fin S r) := by
    unfold BdP
    rw [e2, e3, e11]
    exact b2
  have q3 : BdG (s_fin S r) := ⟨Nat.zero_le 4, fun t ht => absurd ht (Nat.not_lt_zero _)⟩
  by_cases e : r.1 = 0
  · have bt := d e
    have f0 : s_fin S r 0 = r.2.2 0 := if_pos e
    have ff1 : s_fin S r 1 = r.2.2 1 := if_pos e
    have f10 : s_fin S r 10 0 = r.2.2 10 0 := if_pos e
    have f2 : s_fin S r 10 2 = S 10 2 + 1 := if_pos e
    have f3 : s_fin S r 10 3 = S 10 3 := if_pos e
    have bL : r.2.2 10 0 ≤ S 10 0 + r.2.2 14 4 := bt.2.2.2.2.2.2.2.2.1
    have b80 : r.2.2 14 4 ≤ 80 := Nat.le_trans bt.2.2.2.2.2.1 bt.2.2.2.2.1
    refine ⟨?_, q2, q3, b.1, ?_, ?_, ?_⟩
    · unfold BdB
      rw [f0, ff1, f10]
      exact bt.1
    · rw [f10]; omega
    · rw [f2, f3]; omega
    · rw [f2, f3]
      intro h
      omega
  · have f0 : s_fin S r 0 = S 0 := if_neg e
    have ff1 : s_fin S r 1 = S 1 := if_neg e
    have f10 : s_fin S r 10 0 = S 10 0 := if_neg e
    have f2 : s_fin S r 10 2 = S 10 2 := if_neg e
    have f3 : s_fin S r 10 3 = S 10 3 + 1 := if_neg e
    refine ⟨?_, q2, q3, b.1, ?_, ?_, ?_⟩
    · unfold BdB
      rw [f0, ff1, f10]
      exact b1
    · rw [f10]; omega
    · rw [f2, f3]; omega
    · rw [f2, f3]
      intro h
      omega
theorem op_submit : OpOK Inv 20 70 [sm_J, sm_J] [sm_J, sm_J, sm_J] := by
  intro X n w hn hI
  have hI2 := hI
  obtain ⟨hS, S, hC, hM, hB⟩ := hI
  have h4 : S 10 1 ≤ 4 := hB.2.2.1.1
  by_cases h0 : S 10 1 = 0
  · have g1 : wn w 45 1 = nI 0 := by rw [hC.2.2.1.1, h0]
    have g2 : wn w 59 5 = nI 0 := by rw [hM.2.2.1.1, h0]
    have n0 : nI 0 = 0 := rfl
    simp (decide := true) only [r20_0, r20_1, r20_4, r20_7, r20_10, r20_11, g1, n0, sh0 hS, sh45 hS, sm_wp_some, sm_wp_none, sm_at, sm_get, sm_fld, sm_pfl, sm_cN, sm_ai, sm_al, sm_si, sm_slg, sm_aa, List.getElem?_cons_zero, List.getElem?_cons_succ, List.set_cons_zero, List.set_cons_succ, List.length_cons, List.length_nil, Option.toList_some, Option.toList_none, List.cons_append, List.nil_append, if_true, if_false, true_and, and_true, Option.some.injEq, gs_o, gs_s, List.length_set, hS.1, pk_us, Nat.reduceLT, Nat.reduceLeDiff, Nat.reduceSub, Nat.reduceEqDiff, Nat.reduceAdd, Int32.reduceLT, Int32.reduceLE, Int32.reduceAdd, Int32.reduceSub, Int32.reduceToNatClampNeg, ↓reduceIte, reduceCtorEq, Nat.lt_irrefl]
    refine ⟨hS, _, rfl, ?_⟩
    simp (decide := true) only [r70_0, r70_1, r70_4, r70_7, r70_8, g2, n0, sh59 hS, sm_wp_some, sm_wp_none, sm_at, sm_get, sm_fld, sm_pfl, sm_cN, sm_ai, sm_al, sm_si, sm_slg, sm_aa, List.getElem?_cons_zero, List.getElem?_cons_succ, List.set_cons_zero, List.set_cons_succ, List.length_cons, List.length_nil, Option.toList_some, Option.toList_none, List.cons_append, List.nil_append, if_true, if_false, true_and, and_true, Option.some.injEq, gs_o, gs_s, List.length_set, hS.1, pk_us, Nat.reduceLT, Nat.reduceLeDiff, Nat.reduceSub, Nat.reduceEqDiff, Nat.reduceAdd, Int32.reduceLT, Int32.reduceLE, Int32.reduceAdd, Int32.reduceSub, Int32.reduceToNatClampNeg, ↓reduceIte, reduceCtorEq, Nat.lt_irrefl]
    exact hI2.step
  · refine sub_C hS hC hB hn h0 (fun w1 s1 p1 f1 => ⟨s1, _, rfl, ?_⟩)
    have M1 : PicM w1 S := hM.c (fun k hk => f1 k (by omega))
    refine sub_M s1 M1 hB hn h0 (fun w2 s2 p2 f2 => ⟨rfl, s2, _, ?_, p2, bd_fin hB hn⟩)
    exact p1.c (Nat.zero_le 4) (fun k hk => f2 k (by omega))
