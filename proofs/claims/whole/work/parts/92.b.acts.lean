/-! ACTS of the class that take one (gen/n5.py) -/
theorem bc_6 {X : sm_X} {w : sm_W} {Q : Option Value → sm_W → Prop} {S : sm_S} {T t a y ys x xs : Nat} (hR : RnC w (s_up S 14 0 (S 14 0 - 1)) t (S 14 1 + 1)) (hB : RnB T S t) (hn : 1 ≤ S 14 0) (hy : y < 2 ^ 31) (hf : True) (hQ : ∀ w', AfC w w' t (s_do S t a y ys x xs 6) → Q (some (.int (nI (s_do S t a y ys x xs 6).1))) w') : sm_R X 37 17 [.ref 155, .ref 6, .int (nI a), .int (nI ys), .int (nI y)] [] w Q := by
  have hR' := hR
  have hB' := hB
  obtain ⟨hS, hBk, hPr, hGr, hSc, hSt, hMc, hq⟩ := hR'
  obtain ⟨bB, bP, bG, bS, ⟨ht, hk⟩, ⟨h8, hE⟩, hq32, h80, hcs, hst, hen, hT1, hT2, hT3⟩ := hB'
  have h4 : S 10 1 ≤ 4 := bG.1
  have hBk : BkC 1 w S := hBk
  have hPr : PrC w S := hPr
  have hGr : GrC w S := hGr
  have hSc : ScC w S := hSc
  have hMc : McC w S t := hMc
  have ht4 : t < 4 := by omega
  have gt := hGr.2 t ht
  have bt := bG.2 t ht
  have hp : S 6 t < 4 := bt.2.2.2.1 hk
  have g4 : wn w (47 + 2 * t) 4 = nI (S 6 t) := (gt.2.1 hk).2.1
  have g6 : wn w (47 + 2 * t) 6 = nI (S 7 t) := (gt.2.1 hk).2.2.2.1
  have g7 : wn w (47 + 2 * t) 7 = nI (S 8 t) := (gt.2.1 hk).2.2.2.2
  have g1 : wn w (47 + 2 * t) 1 = nI (S 5 t) := gt.2.2
  have z1 : wr w 55 7 = 147 + 2 * t := hMc.2.2.2.2.1
  have z2 : ¬ (147 + 2 * t < 100) := by omega
  have z3 : 147 + 2 * t - 100 = 47 + 2 * t := by omega
  have z4 := shTr hS ht4
  have z5 : ¬ (148 + 2 * t < 100) := by omega
  have z6 : 148 + 2 * t - 100 = 48 + 2 * t := by omega
  have z7 := shSc hS ht4
  have z8 : sm_in (nI (S 6 t)) 4 = true := sm_in_nI hp (by decide)
  have z9 : (nI (S 6 t)).toNatClampNeg = S 6 t := nI_clamp (by omega)
  have z10 := zr3_p hp
  have z11 : ¬ (104 + S 6 t < 100) := by omega
  have z12 : 104 + S 6 t - 100 = 4 + S 6 t := by omega
  have z13 := shGl hS hp
  have z14 := zr8_p hp
  have z15 : ¬ (109 + S 6 t < 100) := by omega
  have z16 : 109 + S 6 t - 100 = 9 + S 6 t := by omega
  have z17 := shLo hS hp
  have z18 : wn w 55 8 = nI t := hMc.2.2.2.2.2.1
  have z19 : wn w 45 1 = nI (S 10 1) := hGr.1
  have gl : ∀ a, a < 4 → wi w (4 + S 6 t) a = nI (S 0 (6 + S 6 t * 4 + a)) := fun a ha => by
    have := hBk.2.1 (S 6 t) hp a ha
    rw [show 1 + 3 + S 6 t = 4 + S 6 t by omega] at this
    exact this
  have lo : ∀ i, i < 12 → wi w (9 + S 6 t) i = nI (S 0 (46 + S 6 t * 12 + i)) := fun i hi => by
    have := hBk.2.2.2.1 (S 6 t) hp i hi
    rw [show 1 + 8 + S 6 t = 9 + S 6 t by omega] at this
    exact this
  have e1 : sm_enF 9 0 6 = some 6 := rfl
  have e2 : sm_ai 6 (some (.inl (0, 31, .inl sm_swm))) = some 18 := rfl
  have e3 : sm_sw (Int32.toInt 18) 9 [76, 95, 117, 136, 147, 163, 184, 197, 208] 210 = 210 := by decide
  have e4 : sm_sw (Int32.toInt 18) 18 [40, 76, 112, 158] 210 = 40 := by decide
  simp (decide := true) only [r37_17, r37_20, r37_21, r37_24, r37_25, r35_0, r35_1, r35_4, e4, r37_210, r37_211, r37_212, r37_213, r37_215, r41_0, r41_3, r41_4, r41_7, r41_8, g97, e1, e2, e3, sm_wp_some, sm_cN, sm_at, sh55 hS, Option.toList_some, List.cons_append, List.nil_append, Nat.reduceSub, if_false, true_and]
  by_cases e : y < S 10 1 ∧ S 4 y = 3
  · have e5 : s_do S t a y ys x xs 6 = (0, s_psh S 1 1 (S 7 y)) := if_pos e
    rw [e5] at hQ
    have hy4 : y < 4 := by omega
    have y1 : sm_in (nI y) 4 = true := sm_in_nI (by omega) (by decide)
    have y2 : (nI y).toNatClampNeg = y := nI_clamp (by omega)
    have y3 := zr46_p hy4
    have y4 : ¬ (147 + 2 * y < 100) := by omega
    have y5 : 147 + 2 * y - 100 = 47 + 2 * y := by omega
    have y6 := shTr hS hy4
    have y7 : wn w (47 + 2 * y) 3 = nI (S 7 y) := ((hGr.2 y e.1).1 e.2).2.2
    simp (decide := true) only [r37_210, r37_211, r37_212, r37_213, r37_215, r37_218, r41_40, r41_41, r41_44, r41_45, r41_48, r41_51, r41_52, r41_55, r41_56, r41_57, r41_60, r41_63, r41_64, r41_65, r41_68, r41_71, r41_74, r41_75, g4, g6, g7, g1, z1, z2, z3, z4, z5, z6, z7, z8, z9, z10, z11, z12, z13, z14, z15, z16, z17, z18, z19, hq, sh1 hS, sh2 hS, sh3 hS, sh8 hS, sh45 hS, sh46 hS, sh55 hS, sh56 hS, hp_C hS hGr h4 hy, if_pos e, y1, y2, y3, y4, y5, y6, y7, sm_wp_some, sm_wp_none, sm_at, sm_get, sm_fld, sm_pfl, sm_cN, sm_ai, sm_al, sm_si, sm_slg, sm_aa, List.getElem?_cons_zero, List.getElem?_cons_succ, List.set_cons_zero, List.set_cons_succ, List.length_cons, List.length_nil, Option.toList_some, Option.toList_none, List.cons_append, List.nil_append, if_true, if_false, true_and, and_true, Option.some.injEq, gs_o, gs_s, List.length_set, hS.1, pk_us, Nat.reduceLT, Nat.reduceLeDiff, Nat.reduceSub, Nat.reduceEqDiff, Nat.reduceAdd, Int32.reduceLT, Int32.reduceLE, Int32.reduceAdd, Int32.reduceSub, Int32.reduceToNatClampNeg, reduceIte, reduceCtorEq, Nat.lt_irrefl]
    exact put_k hR h4 h8 (Nat.le_refl 1) hn (fun w' h => by
      simp (decide := true) only [r37_210, r37_211, r37_212, r37_213, r37_215, r37_218, r41_40, r41_41, r41_44, r41_45, r41_48, r41_51, r41_52, r41_55, r41_56, r41_57, r41_60, r41_63, r41_64, r41_65, r41_68, r41_71, r41_74, r41_75, Option.toList_some, List.cons_append, List.nil_append]
      exact hQ w' h)
  · have e5 : s_do S t a y ys x xs 6 = (3, S) := if_neg e
    rw [e5] at hQ
    simp (decide := true) only [r37_210, r37_211, r37_212, r37_213, r37_215, r37_218, r41_40, r41_41, r41_44, r41_45, r41_48, r41_51, r41_52, r41_55, r41_56, r41_57, r41_60, r41_63, r41_64, r41_65, r41_68, r41_71, r41_74, r41_75, g4, g6, g7, g1, z1, z2, z3, z4, z5, z6, z7, z8, z9, z10, z11, z12, z13, z14, z15, z16, z17, z18, z19, hq, sh1 hS, sh2 hS, sh3 hS, sh8 hS, sh45 hS, sh46 hS, sh55 hS, sh56 hS, hp_C hS hGr h4 hy, if_neg e, sm_wp_some, sm_wp_none, sm_at, sm_get, sm_fld, sm_pfl, sm_cN, sm_ai, sm_al, sm_si, sm_slg, sm_aa, List.getElem?_cons_zero, List.getElem?_cons_succ, List.set_cons_zero, List.set_cons_succ, List.length_cons, List.length_nil, Option.toList_some, Option.toList_none, List.cons_append, List.nil_append, if_true, if_false, true_and, and_true, Option.some.injEq, gs_o, gs_s, List.length_set, hS.1, pk_us, Nat.reduceLT, Nat.reduceLeDiff, Nat.reduceSub, Nat.reduceEqDiff, Nat.reduceAdd, Int32.reduceLT, Int32.reduceLE, Int32.reduceAdd, Int32.reduceSub, Int32.reduceToNatClampNeg, reduceIte, reduceCtorEq, Nat.lt_irrefl]
    exact hQ w ⟨FrC.rf w, fun h => absurd h (by omega), hR.rf⟩
theorem bc_7 {X : sm_X} {w : sm_W} {Q : Option Value → sm_W → Prop} {S : sm_S} {T t a y ys x xs : Nat} (hR : RnC w (s_up S 14 0 (S 14 0 - 1)) t (S 14 1 + 1)) (hB : RnB T S t) (hn : 1 ≤ S 14 0) (hy : y < 2 ^ 31) (hf : True) (hQ : ∀ w', AfC w w' t (s_do S t a y ys x xs 7) → Q (some (.int (nI (s_do S t a y ys x xs 7).1))) w') : sm_R X 37 17 [.ref 155, .ref 7, .int (nI a), .int (nI ys), .int (nI y)] [] w Q := by
  have hR' := hR
  have hB' := hB
  obtain ⟨hS, hBk, hPr, hGr, hSc, hSt, hMc, hq⟩ := hR'
  obtain ⟨bB, bP, bG, bS, ⟨ht, hk⟩, ⟨h8, hE⟩, hq32, h80, hcs, hst, hen, hT1, hT2, hT3⟩ := hB'
  have h4 : S 10 1 ≤ 4 := bG.1
  have hBk : BkC 1 w S := hBk
  have hPr : PrC w S := hPr
  have hGr : GrC w S := hGr
  have hSc : ScC w S := hSc
  have hMc : McC w S t := hMc
  have ht4 : t < 4 := by omega
  have gt := hGr.2 t ht
  have bt := bG.2 t ht
  have hp : S 6 t < 4 := bt.2.2.2.1 hk
  have g4 : wn w (47 + 2 * t) 4 = nI (S 6 t) := (gt.2.1 hk).2.1
  have g6 : wn w (47 + 2 * t) 6 = nI (S 7 t) := (gt.2.1 hk).2.2.2.1
  have g7 : wn w (47 + 2 * t) 7 = nI (S 8 t) := (gt.2.1 hk).2.2.2.2
  have g1 : wn w (47 + 2 * t) 1 = nI (S 5 t) := gt.2.2
  have z1 : wr w 55 7 = 147 + 2 * t := hMc.2.2.2.2.1
  have z2 : ¬ (147 + 2 * t < 100) := by omega
  have z3 : 147 + 2 * t - 100 = 47 + 2 * t := by omega
  have z4 := shTr hS ht4
  have z5 : ¬ (148 + 2 * t < 100) := by omega
  have z6 : 148 + 2 * t - 100 = 48 + 2 * t := by omega
  have z7 := shSc hS ht4
  have z8 : sm_in (nI (S 6 t)) 4 = true := sm_in_nI hp (by decide)
  have z9 : (nI (S 6 t)).toNatClampNeg = S 6 t := nI_clamp (by omega)
  have z10 := zr3_p hp
  have z11 : ¬ (104 + S 6 t < 100) := by omega
  have z12 : 104 + S 6 t - 100 = 4 + S 6 t := by omega
  have z13 := shGl hS hp
  have z14 := zr8_p hp
  have z15 : ¬ (109 + S 6 t < 100) := by omega
  have z16 : 109 + S 6 t - 100 = 9 + S 6 t := by omega
  have z17 := shLo hS hp
  have z18 : wn w 55 8 = nI t := hMc.2.2.2.2.2.1
  have z19 : wn w 45 1 = nI (S 10 1) := hGr.1
  have gl : ∀ a, a < 4 → wi w (4 + S 6 t) a = nI (S 0 (6 + S 6 t * 4 + a)) := fun a ha => by
    have := hBk.2.1 (S 6 t) hp a ha
    rw [show 1 + 3 + S 6 t = 4 + S 6 t by omega] at this
    exact this
  have lo : ∀ i, i < 12 → wi w (9 + S 6 t) i = nI (S 0 (46 + S 6 t * 12 + i)) := fun i hi => by
    have := hBk.2.2.2.1 (S 6 t) hp i hi
    rw [show 1 + 8 + S 6 t = 9 + S 6 t by omega] at this
    exact this
  have e1 : sm_enF 9 0 7 = some 7 := rfl
  have e2 : sm_ai 7 (some (.inl (0, 31, .inl sm_swm))) = some 19 := rfl
  have e3 : sm_sw (Int32.toInt 19) 9 [76, 95, 117, 136, 147, 163, 184, 197, 208] 210 = 210 := by decide
  have e4 : sm_sw (Int32.toInt 19) 18 [40, 76, 112, 158] 210 = 76 := by decide
  simp (decide := true) only [r37_17, r37_20, r37_21, r37_24, r37_25, r35_0, r35_1, r35_4, e4, r37_210, r37_211, r37_212, r37_213, r37_215, r41_0, r41_3, r41_4, r41_7, r41_8, g97, e1, e2, e3, sm_wp_some, sm_cN, sm_at, sh55 hS, Option.toList_some, List.cons_append, List.nil_append, Nat.reduceSub, if_false, true_and]
  by_cases e : y < S 10 1 ∧ S 4 y = 3
  · have e5 : s_do S t a y ys x xs 7 = (0, s_psh S 1 2 (S 6 y)) := if_pos e
    rw [e5] at hQ
    have hy4 : y < 4 := by omega
    have y1 : sm_in (nI y) 4 = true := sm_in_nI (by omega) (by decide)
    have y2 : (nI y).toNatClampNeg = y := nI_clamp (by omega)
    have y3 := zr46_p hy4
    have y4 : ¬ (147 + 2 * y < 100) := by omega
    have y5 : 147 + 2 * y - 100 = 47 + 2 * y := by omega
    have y6 := shTr hS hy4
    have y7 : wn w (47 + 2 * y) 2 = nI (S 6 y) := ((hGr.2 y e.1).1 e.2).2.1
    simp (decide := true) only [r37_210, r37_211, r37_212, r37_213, r37_215, r37_218, r41_76, r41_77, r41_80, r41_81, r41_84, r41_87, r41_88, r41_91, r41_92, r41_93, r41_96, r41_99, r41_100, r41_101, r41_104, r41_107, r41_110, r41_111, g4, g6, g7, g1, z1, z2, z3, z4, z5, z6, z7, z8, z9, z10, z11, z12, z13, z14, z15, z16, z17, z18, z19, hq, sh1 hS, sh2 hS, sh3 hS, sh8 hS, sh45 hS, sh46 hS, sh55 hS, sh56 hS, hp_C hS hGr h4 hy, if_pos e, y1, y2, y3, y4, y5, y6, y7, sm_wp_some, sm_wp_none, sm_at, sm_get, sm_fld, sm_pfl, sm_cN, sm_ai, sm_al, sm_si, sm_slg, sm_aa, List.getElem?_cons_zero, List.getElem?_cons_succ, List.set_cons_zero, List.set_cons_succ, List.length_cons, List.length_nil, Option.toList_some, Option.toList_none, List.cons_append, List.nil_append, if_true, if_false, true_and, and_true, Option.some.injEq, gs_o, gs_s, List.length_set, hS.1, pk_us, Nat.reduceLT, Nat.reduceLeDiff, Nat.reduceSub, Nat.reduceEqDiff, Nat.reduceAdd, Int32.reduceLT, Int32.reduceLE, Int32.reduceAdd, Int32.reduceSub, Int32.reduceToNatClampNeg, reduceIte, reduceCtorEq, Nat.lt_irrefl]
    exact put_k hR h4 h8 (Nat.le_refl 1) hn (fun w' h => by
      simp (decide := true) only [r37_210, r37_211, r37_212, r37_213, r37_215, r37_218, r41_76, r41_77, r41_80, r41_81, r41_84, r41_87, r41_88, r41_91, r41_92, r41_93, r41_96, r41_99, r41_100, r41_101, r41_104, r41_107, r41_110, r41_111, Option.toList_some, List.cons_append, List.nil_append]
      exact hQ w' h)
  · have e5 : s_do S t a y ys x xs 7 = (3, S) := if_neg e
    rw [e5] at hQ
    simp (decide := true) only [r37_210, r37_211, r37_212, r37_213, r37_215, r37_218, r41_76, r41_77, r41_80, r41_81, r41_84, r41_87, r41_88, r41_91, r41_92, r41_93, r41_96, r41_99, r41_100, r41_101, r41_104, r41_107, r41_110, r41_111, g4, g6, g7, g1, z1, z2, z3, z4, z5, z6, z7, z8, z9, z10, z11, z12, z13, z14, z15, z16, z17, z18, z19, hq, sh1 hS, sh2 hS, sh3 hS, sh8 hS, sh45 hS, sh46 hS, sh55 hS, sh56 hS, hp_C hS hGr h4 hy, if_neg e, sm_wp_some, sm_wp_none, sm_at, sm_get, sm_fld, sm_pfl, sm_cN, sm_ai, sm_al, sm_si, sm_slg, sm_aa, List.getElem?_cons_zero, List.getElem?_cons_succ, List.set_cons_zero, List.set_cons_succ, List.length_cons, List.length_nil, Option.toList_some, Option.toList_none, List.cons_append, List.nil_append, if_true, if_false, true_and, and_true, Option.some.injEq, gs_o, gs_s, List.length_set, hS.1, pk_us, Nat.reduceLT, Nat.reduceLeDiff, Nat.reduceSub, Nat.reduceEqDiff, Nat.reduceAdd, Int32.reduceLT, Int32.reduceLE, Int32.reduceAdd, Int32.reduceSub, Int32.reduceToNatClampNeg, reduceIte, reduceCtorEq, Nat.lt_irrefl]
    exact hQ w ⟨FrC.rf w, fun h => absurd h (by omega), hR.rf⟩
theorem bc_14 {X : sm_X} {w : sm_W} {Q : Option Value → sm_W → Prop} {S : sm_S} {T t a y ys x xs : Nat} (hR : RnC w (s_up S 14 0 (S 14 0 - 1)) t (S 14 1 + 1)) (hB : RnB T S t) (hn : 1 ≤ S 14 0) (hy : y < 2 ^ 31) (hf : True) (hQ : ∀ w', AfC w w' t (s_do S t a y ys x xs 14) → Q (some (.int (nI (s_do S t a y ys x xs 14).1))) w') : sm_R X 37 17 [.ref 155, .ref 14, .int (nI a), .int (nI ys), .int (nI y)] [] w Q := by
  have hR' := hR
  have hB' := hB
  obtain ⟨hS, hBk, hPr, hGr, hSc, hSt, hMc, hq⟩ := hR'
  obtain ⟨bB, bP, bG, bS, ⟨ht, hk⟩, ⟨h8, hE⟩, hq32, h80, hcs, hst, hen, hT1, hT2, hT3⟩ := hB'
  have h4 : S 10 1 ≤ 4 := bG.1
  have hBk : BkC 1 w S := hBk
  have hPr : PrC w S := hPr
  have hGr : GrC w S := hGr
  have hSc : ScC w S := hSc
  have hMc : McC w S t := hMc
  have ht4 : t < 4 := by omega
  have gt := hGr.2 t ht
  have bt := bG.2 t ht
  have hp : S 6 t < 4 := bt.2.2.2.1 hk
  have g4 : wn w (47 + 2 * t) 4 = nI (S 6 t) := (gt.2.1 hk).2.1
  have g6 : wn w (47 + 2 * t) 6 = nI (S 7 t) := (gt.2.1 hk).2.2.2.1
  have g7 : wn w (47 + 2 * t) 7 = nI (S 8 t) := (gt.2.1 hk).2.2.2.2
  have g1 : wn w (47 + 2 * t) 1 = nI (S 5 t) := gt.2.2
  have z1 : wr w 55 7 = 147 + 2 * t := hMc.2.2.2.2.1
  have z2 : ¬ (147 + 2 * t < 100) := by omega
  have z3 : 147 + 2 * t - 100 = 47 + 2 * t := by omega
  have z4 := shTr hS ht4
  have z5 : ¬ (148 + 2 * t < 100) := by omega
  have z6 : 148 + 2 * t - 100 = 48 + 2 * t := by omega
  have z7 := shSc hS ht4
  have z8 : sm_in (nI (S 6 t)) 4 = true := sm_in_nI hp (by decide)
  have z9 : (nI (S 6 t)).toNatClampNeg = S 6 t := nI_clamp (by omega)
  have z10 := zr3_p hp
  have z11 : ¬ (104 + S 6 t < 100) := by omega
  have z12 : 104 + S 6 t - 100 = 4 + S 6 t := by omega
  have z13 := shGl hS hp
  have z14 := zr8_p hp
  have z15 : ¬ (109 + S 6 t < 100) := by omega
  have z16 : 109 + S 6 t - 100 = 9 + S 6 t := by omega
  have z17 := shLo hS hp
  have z18 : wn w 55 8 = nI t := hMc.2.2.2.2.2.1
  have z19 : wn w 45 1 = nI (S 10 1) := hGr.1
  have gl : ∀ a, a < 4 → wi w (4 + S 6 t) a = nI (S 0 (6 + S 6 t * 4 + a)) := fun a ha => by
    have := hBk.2.1 (S 6 t) hp a ha
    rw [show 1 + 3 + S 6 t = 4 + S 6 t by omega] at this
    exact this
  have lo : ∀ i, i < 12 → wi w (9 + S 6 t) i = nI (S 0 (46 + S 6 t * 12 + i)) := fun i hi => by
    have := hBk.2.2.2.1 (S 6 t) hp i hi
    rw [show 1 + 8 + S 6 t = 9 + S 6 t by omega] at this
    exact this
  have e1 : sm_enF 9 0 14 = some 14 := rfl
  have e2 : sm_ai 14 (some (.inl (0, 31, .inl sm_swm))) = some 9 := rfl
  have e3 : sm_sw (Int32.toInt 9) 9 [76, 95, 117, 136, 147, 163, 184, 197, 208] 210 = 76 := by decide
  simp (decide := true) only [r37_17, r37_20, r37_21, r37_24, r37_25, r35_0, r35_1, r35_4, g97, e1, e2, e3, sm_wp_some, sm_cN, sm_at, sh55 hS, Option.toList_some, List.cons_append, List.nil_append, Nat.reduceSub, if_false, true_and]
  have ha : nI y = 0 ↔ y = 0 := nI_z (by omega)
  by_cases e : y = 0
  · have e5 : s_do S t a y ys x xs 14 = (0, s_psh S 1 1 1) := by
      show (0, s_psh S 1 1 (if y = 0 then 1 else 0)) = _
      rw [if_pos e]
    rw [e5] at hQ
    have ha' : nI y = 0 := ha.mpr e
    simp (decide := true) only [r37_76, r37_77, r37_80, r37_81, r37_83, r37_86, r37_87, r37_90, r37_91, r37_94, g4, g6, g7, g1, z1, z2, z3, z4, z5, z6, z7, z8, z9, z10, z11, z12, z13, z14, z15, z16, z17, z18, z19, hq, sh1 hS, sh2 hS, sh3 hS, sh8 hS, sh45 hS, sh46 hS, sh55 hS, sh56 hS, ha', sm_wp_some, sm_wp_none, sm_at, sm_get, sm_fld, sm_pfl, sm_cN, sm_ai, sm_al, sm_si, sm_slg, sm_aa, List.getElem?_cons_zero, List.getElem?_cons_succ, List.set_cons_zero, List.set_cons_succ, List.length_cons, List.length_nil, Option.toList_some, Option.toList_none, List.cons_append, List.nil_append, if_true, if_false, true_and, and_true, Option.some.injEq, gs_o, gs_s, List.length_set, hS.1, pk_us, Nat.reduceLT, Nat.reduceLeDiff, Nat.reduceSub, Nat.reduceEqDiff, Nat.reduceAdd, Int32.reduceLT, Int32.reduceLE, Int32.reduceAdd, Int32.reduceSub, Int32.reduceToNatClampNeg, reduceIte, reduceCtorEq, Nat.lt_irrefl]
    exact put_k hR h4 h8 (Nat.le_refl 1) hn (fun w' h => by
      simp (decide := true) only [r37_76, r37_77, r37_80, r37_81, r37_83, r37_86, r37_87, r37_90, r37_91, r37_94, Option.toList_some, List.cons_append, List.nil_append]
      exact hQ w' h)
  · have e5 : s_do S t a y ys x xs 14 = (0, s_psh S 1 1 0) := by
      show (0, s_psh S 1 1 (if y = 0 then 1 else 0)) = _
      rw [if_neg e]
    rw [e5] at hQ
    have ha' : ¬ nI y = 0 := fun q => e (ha.mp q)
    simp (decide := true) only [r37_76, r37_77, r37_80, r37_81, r37_83, r37_86, r37_87, r37_90, r37_91, r37_94, g4, g6, g7, g1, z1, z2, z3, z4, z5, z6, z7, z8, z9, z10, z11, z12, z13, z14, z15, z16, z17, z18, z19, hq, sh1 hS, sh2 hS, sh3 hS, sh8 hS, sh45 hS, sh46 hS, sh55 hS, sh56 hS, ha', sm_wp_some, sm_wp_none, sm_at, sm_get, sm_fld, sm_pfl, sm_cN, sm_ai, sm_al, sm_si, sm_slg, sm_aa, List.getElem?_cons_zero, List.getElem?_cons_succ, List.set_cons_zero, List.set_cons_succ, List.length_cons, List.length_nil, Option.toList_some, Option.toList_none, List.cons_append, List.nil_append, if_true, if_false, true_and, and_true, Option.some.injEq, gs_o, gs_s, List.length_set, hS.1, pk_us, Nat.reduceLT, Nat.reduceLeDiff, Nat.reduceSub, Nat.reduceEqDiff, Nat.reduceAdd, Int32.reduceLT, Int32.reduceLE, Int32.reduceAdd, Int32.reduceSub, Int32.reduceToNatClampNeg, reduceIte, reduceCtorEq, Nat.lt_irrefl]
    exact put_k hR h4 h8 (Nat.le_refl 1) hn (fun w' h => by
      simp (decide := true) only [r37_76, r37_77, r37_80, r37_81, r37_83, r37_86, r37_87, r37_90, r37_91, r37_94, Option.toList_some, List.cons_append, List.nil_append]
      exact hQ w' h)
theorem bc_15 {X : sm_X} {w : sm_W} {Q : Option Value → sm_W → Prop} {S : sm_S} {T t a y ys x xs : Nat} (hR : RnC w (s_up S 14 0 (S 14 0 - 1)) t (S 14 1 + 1)) (hB : RnB T S t) (hn : 1 ≤ S 14 0) (hy : y < 2 ^ 31) (hf : True) (hys : ys = S 13 (S 14 0 - 1)) (hyv : y = S 12 (S 14 0 - 1)) (hQ : ∀ w', AfC w w' t (s_do S t a y ys x xs 15) → Q (some (.int (nI (s_do S t a y ys x xs 15).1))) w') : sm_R X 37 17 [.ref 155, .ref 15, .int (nI a), .int (nI ys), .int (nI y)] [] w Q := by
  have hR' := hR
  have hB' := hB
  obtain ⟨hS, hBk, hPr, hGr, hSc, hSt, hMc, hq⟩ := hR'
  obtain ⟨bB, bP, bG, bS, ⟨ht, hk⟩, ⟨h8, hE⟩, hq32, h80, hcs, hst, hen, hT1, hT2, hT3⟩ := hB'
  have h4 : S 10 1 ≤ 4 := bG.1
  have hBk : BkC 1 w S := hBk
  have hPr : PrC w S := hPr
  have hGr : GrC w S := hGr
  have hSc : ScC w S := hSc
  have hMc : McC w S t := hMc
  have ht4 : t < 4 := by omega
  have gt := hGr.2 t ht
  have bt := bG.2 t ht
  have hp : S 6 t < 4 := bt.2.2.2.1 hk
  have g4 : wn w (47 + 2 * t) 4 = nI (S 6 t) := (gt.2.1 hk).2.1
  have g6 : wn w (47 + 2 * t) 6 = nI (S 7 t) := (gt.2.1 hk).2.2.2.1
  have g7 : wn w (47 + 2 * t) 7 = nI (S 8 t) := (gt.2.1 hk).2.2.2.2
  have g1 : wn w (47 + 2 * t) 1 = nI (S 5 t) := gt.2.2
  have z1 : wr w 55 7 = 147 + 2 * t := hMc.2.2.2.2.1
  have z2 : ¬ (147 + 2 * t < 100) := by omega
  have z3 : 147 + 2 * t - 100 = 47 + 2 * t := by omega
  have z4 := shTr hS ht4
  have z5 : ¬ (148 + 2 * t < 100) := by omega
  have z6 : 148 + 2 * t - 100 = 48 + 2 * t := by omega
  have z7 := shSc hS ht4
  have z8 : sm_in (nI (S 6 t)) 4 = true := sm_in_nI hp (by decide)
  have z9 : (nI (S 6 t)).toNatClampNeg = S 6 t := nI_clamp (by omega)
  have z10 := zr3_p hp
  have z11 : ¬ (104 + S 6 t < 100) := by omega
  have z12 : 104 + S 6 t - 100 = 4 + S 6 t := by omega
  have z13 := shGl hS hp
  have z14 := zr8_p hp
  have z15 : ¬ (109 + S 6 t < 100) := by omega
  have z16 : 109 + S 6 t - 100 = 9 + S 6 t := by omega
  have z17 := shLo hS hp
  have z18 : wn w 55 8 = nI t := hMc.2.2.2.2.2.1
  have z19 : wn w 45 1 = nI (S 10 1) := hGr.1
  have gl : ∀ a, a < 4 → wi w (4 + S 6 t) a = nI (S 0 (6 + S 6 t * 4 + a)) := fun a ha => by
    have := hBk.2.1 (S 6 t) hp a ha
    rw [show 1 + 3 + S 6 t = 4 + S 6 t by omega] at this
    exact this
  have lo : ∀ i, i < 12 → wi w (9 + S 6 t) i = nI (S 0 (46 + S 6 t * 12 + i)) := fun i hi => by
    have := hBk.2.2.2.1 (S 6 t) hp i hi
    rw [show 1 + 8 + S 6 t = 9 + S 6 t by omega] at this
    exact this
  have e1 : sm_enF 9 0 15 = some 15 := rfl
  have e2 : sm_ai 15 (some (.inl (0, 31, .inl sm_swm))) = some 10 := rfl
  have e3 : sm_sw (Int32.toInt 10) 9 [76, 95, 117, 136, 147, 163, 184, 197, 208] 210 = 95 := by decide
  simp (decide := true) only [r37_17, r37_20, r37_21, r37_24, r37_25, r35_0, r35_1, r35_4, g97, e1, e2, e3, sm_wp_some, sm_cN, sm_at, sh55 hS, Option.toList_some, List.cons_append, List.nil_append, Nat.reduceSub, if_false, true_and]
  simp (decide := true) only [r37_95, r37_96, r37_99, r37_100, r37_102, r37_105, r37_106, r37_107, r37_110, r37_111, r37_113, r37_116, g4, g6, g7, g1, z1, z2, z3, z4, z5, z6, z7, z8, z9, z10, z11, z12, z13, z14, z15, z16, z17, z18, z19, hq, sh1 hS, sh2 hS, sh3 hS, sh8 hS, sh45 hS, sh46 hS, sh55 hS, sh56 hS, sm_wp_some, sm_wp_none, sm_at, sm_get, sm_fld, sm_pfl, sm_cN, sm_ai, sm_al, sm_si, sm_slg, sm_aa, List.getElem?_cons_zero, List.getElem?_cons_succ, List.set_cons_zero, List.set_cons_succ, List.length_cons, List.length_nil, Option.toList_some, Option.toList_none, List.cons_append, List.nil_append, if_true, if_false, true_and, and_true, Option.some.injEq, gs_o, gs_s, List.length_set, hS.1, pk_us, Nat.reduceLT, Nat.reduceLeDiff, Nat.reduceSub, Nat.reduceEqDiff, Nat.reduceAdd, Int32.reduceLT, Int32.reduceLE, Int32.reduceAdd, Int32.reduceSub, Int32.reduceToNatClampNeg, reduceIte, reduceCtorEq, Nat.lt_irrefl]
  have k0 : S 14 0 - 1 + 1 = S 14 0 := by omega
  rw [put_C (m := S 14 0 - 1) hS (by omega) hSt.1]
  have hR2 := hR.put (s := ys) (v := y) h4
  rw [s_psh_k] at hR2
  have hR3 : RnC (((w.set 57 (.inl (0, 8, .inl (upd (wi w 57) (S 14 0 - 1) (nI ys))))).set 58 (.inl (0, 8, .inl (upd (wi w 58) (S 14 0 - 1) (nI y))))).set 56 (.inr (4, [.ref 157, .ref 158, .int (nI (S 14 0 - 1 + 1))]))) S t (S 14 1 + 1) := by
    obtain ⟨q1, q2, q3, q4, q5, q6, q7, q8⟩ := hR2
    refine ⟨q1, q2, q3, q4, q5, ⟨?_, fun i hi => ?_⟩, q7, q8⟩
    · rw [← k0]
      exact q6.1
    · have q9 := q6.2 i (by show i < S 14 0 - 1 + 1; omega)
      have r1 : s_psh S 1 ys y 13 i = if i = S 14 0 - 1 then ys else S 13 i := rfl
      have r2 : s_psh S 1 ys y 12 i = if i = S 14 0 - 1 then y else S 12 i := rfl
      rw [r1, r2] at q9
      by_cases e : i = S 14 0 - 1
      · rw [if_pos e, if_pos e] at q9
        rw [e] at q9 ⊢
        rw [← hys, ← hyv]
        exact q9
      · rw [if_neg e, if_neg e] at q9
        exact q9
  have hF : FrC w (((w.set 57 (.inl (0, 8, .inl (upd (wi w 57) (S 14 0 - 1) (nI ys))))).set 58 (.inl (0, 8, .inl (upd (wi w 58) (S 14 0 - 1) (nI y))))).set 56 (.inr (4, [.ref 157, .ref 158, .int (nI (S 14 0 - 1 + 1))]))) := ((FrC.set (by decide) (by decide) (by decide)).tr (FrC.set (by decide) (by decide) (by decide))).tr (FrC.set (by decide) (by decide) (by decide))
  show sm_R X 37 105 [.ref 155, .ref 15, .int (nI a), .int (nI ys), .int (nI y)] ((some (Value.int 0)).toList ++ []) (((w.set 57 (.inl (0, 8, .inl (upd (wi w 57) (S 14 0 - 1) (nI ys))))).set 58 (.inl (0, 8, .inl (upd (wi w 58) (S 14 0 - 1) (nI y))))).set 56 (.inr (4, [.ref 157, .ref 158, .int (nI (S 14 0 - 1 + 1))]))) Q
  generalize (((w.set 57 (.inl (0, 8, .inl (upd (wi w 57) (S 14 0 - 1) (nI ys))))).set 58 (.inl (0, 8, .inl (upd (wi w 58) (S 14 0 - 1) (nI y))))).set 56 (.inr (4, [.ref 157, .ref 158, .int (nI (S 14 0 - 1 + 1))]))) = w2 at hR3 hF
  have hS := hR3.1
  simp (decide := true) only [r37_105, r37_106, r37_107, r37_110, r37_111, r37_113, r37_116, sh55 hS, sh56 hS, sm_wp_some, sm_wp_none, sm_at, sm_get, sm_fld, sm_pfl, sm_cN, sm_ai, sm_al, sm_si, sm_slg, sm_aa, List.getElem?_cons_zero, List.getElem?_cons_succ, List.set_cons_zero, List.set_cons_succ, List.length_cons, List.length_nil, Option.toList_some, Option.toList_none, List.cons_append, List.nil_append, if_true, if_false, true_and, and_true, Option.some.injEq, gs_o, gs_s, List.length_set, hS.1, pk_us, Nat.reduceLT, Nat.reduceLeDiff, Nat.reduceSub, Nat.reduceEqDiff, Nat.reduceAdd, Int32.reduceLT, Int32.reduceLE, Int32.reduceAdd, Int32.reduceSub, Int32.reduceToNatClampNeg, reduceIte, reduceCtorEq, Nat.lt_irrefl]
  exact put_ok hR3 h4 h8 (fun w' h => by
    simp (decide := true) only [r37_105, r37_106, r37_107, r37_110, r37_111, r37_113, r37_116, Option.toList_some, List.cons_append, List.nil_append]
    exact hQ w' (AfC.tr hF h))
theorem bc_17 {X : sm_X} {w : sm_W} {Q : Option Value → sm_W → Prop} {S : sm_S} {T t a y ys x xs : Nat} (hR : RnC w (s_up S 14 0 (S 14 0 - 1)) t (S 14 1 + 1)) (hB : RnB T S t) (hn : 1 ≤ S 14 0) (hy : y < 2 ^ 31) (hf : True) (hQ : ∀ w', AfC w w' t (s_do S t a y ys x xs 17) → Q (some (.int (nI (s_do S t a y ys x xs 17).1))) w') : sm_R X 37 17 [.ref 155, .ref 17, .int (nI a), .int (nI ys), .int (nI y)] [] w Q := by
  have hR' := hR
  have hB' := hB
  obtain ⟨hS, hBk, hPr, hGr, hSc, hSt, hMc, hq⟩ := hR'
  obtain ⟨bB, bP, bG, bS, ⟨ht, hk⟩, ⟨h8, hE⟩, hq32, h80, hcs, hst, hen, hT1, hT2, hT3⟩ := hB'
  have h4 : S 10 1 ≤ 4 := bG.1
  have hBk : BkC 1 w S := hBk
  have hPr : PrC w S := hPr
  have hGr : GrC w S := hGr
  have hSc : ScC w S := hSc
  have hMc : McC w S t := hMc
  have ht4 : t < 4 := by omega
  have gt := hGr.2 t ht
  have bt := bG.2 t ht
  have hp : S 6 t < 4 := bt.2.2.2.1 hk
  have g4 : wn w (47 + 2 * t) 4 = nI (S 6 t) := (gt.2.1 hk).2.1
  have g6 : wn w (47 + 2 * t) 6 = nI (S 7 t) := (gt.2.1 hk).2.2.2.1
  have g7 : wn w (47 + 2 * t) 7 = nI (S 8 t) := (gt.2.1 hk).2.2.2.2
  have g1 : wn w (47 + 2 * t) 1 = nI (S 5 t) := gt.2.2
  have z1 : wr w 55 7 = 147 + 2 * t := hMc.2.2.2.2.1
  have z2 : ¬ (147 + 2 * t < 100) := by omega
  have z3 : 147 + 2 * t - 100 = 47 + 2 * t := by omega
  have z4 := shTr hS ht4
  have z5 : ¬ (148 + 2 * t < 100) := by omega
  have z6 : 148 + 2 * t - 100 = 48 + 2 * t := by omega
  have z7 := shSc hS ht4
  have z8 : sm_in (nI (S 6 t)) 4 = true := sm_in_nI hp (by decide)
  have z9 : (nI (S 6 t)).toNatClampNeg = S 6 t := nI_clamp (by omega)
  have z10 := zr3_p hp
  have z11 : ¬ (104 + S 6 t < 100) := by omega
  have z12 : 104 + S 6 t - 100 = 4 + S 6 t := by omega
  have z13 := shGl hS hp
  have z14 := zr8_p hp
  have z15 : ¬ (109 + S 6 t < 100) := by omega
  have z16 : 109 + S 6 t - 100 = 9 + S 6 t := by omega
  have z17 := shLo hS hp
  have z18 : wn w 55 8 = nI t := hMc.2.2.2.2.2.1
  have z19 : wn w 45 1 = nI (S 10 1) := hGr.1
  have gl : ∀ a, a < 4 → wi w (4 + S 6 t) a = nI (S 0 (6 + S 6 t * 4 + a)) := fun a ha => by
    have := hBk.2.1 (S 6 t) hp a ha
    rw [show 1 + 3 + S 6 t = 4 + S 6 t by omega] at this
    exact this
  have lo : ∀ i, i < 12 → wi w (9 + S 6 t) i = nI (S 0 (46 + S 6 t * 12 + i)) := fun i hi => by
    have := hBk.2.2.2.1 (S 6 t) hp i hi
    rw [show 1 + 8 + S 6 t = 9 + S 6 t by omega] at this
    exact this
  have e1 : sm_enF 9 0 17 = some 17 := rfl
  have e2 : sm_ai 17 (some (.inl (0, 31, .inl sm_swm))) = some 17 := rfl
  have e3 : sm_sw (Int32.toInt 17) 9 [76, 95, 117, 136, 147, 163, 184, 197, 208] 210 = 208 := by decide
  simp (decide := true) only [r37_17, r37_20, r37_21, r37_24, r37_25, r35_0, r35_1, r35_4, g97, e1, e2, e3, sm_wp_some, sm_cN, sm_at, sh55 hS, Option.toList_some, List.cons_append, List.nil_append, Nat.reduceSub, if_false, true_and]
  simp (decide := true) only [r37_208, r37_209, g4, g6, g7, g1, z1, z2, z3, z4, z5, z6, z7, z8, z9, z10, z11, z12, z13, z14, z15, z16, z17, z18, z19, hq, sh1 hS, sh2 hS, sh3 hS, sh8 hS, sh45 hS, sh46 hS, sh55 hS, sh56 hS, sm_wp_some, sm_wp_none, sm_at, sm_get, sm_fld, sm_pfl, sm_cN, sm_ai, sm_al, sm_si, sm_slg, sm_aa, List.getElem?_cons_zero, List.getElem?_cons_succ, List.set_cons_zero, List.set_cons_succ, List.length_cons, List.length_nil, Option.toList_some, Option.toList_none, List.cons_append, List.nil_append, if_true, if_false, true_and, and_true, Option.some.injEq, gs_o, gs_s, List.length_set, hS.1, pk_us, Nat.reduceLT, Nat.reduceLeDiff, Nat.reduceSub, Nat.reduceEqDiff, Nat.reduceAdd, Int32.reduceLT, Int32.reduceLE, Int32.reduceAdd, Int32.reduceSub, Int32.reduceToNatClampNeg, reduceIte, reduceCtorEq, Nat.lt_irrefl]
  exact hQ w ⟨FrC.rf w, fun _ => hR, hR.rf⟩
theorem bc_19 {X : sm_X} {w : sm_W} {Q : Option Value → sm_W → Prop} {S : sm_S} {T t a y ys x xs : Nat} (hR : RnC w (s_up S 14 0 (S 14 0 - 1)) t (S 14 1 + 1)) (hB : RnB T S t) (hn : 1 ≤ S 14 0) (hy : y < 2 ^ 31) (hf : a < 32) (hQ : ∀ w', AfC w w' t (s_do S t a y ys x xs 19) → Q (some (.int (nI (s_do S t a y ys x xs 19).1))) w') : sm_R X 37 17 [.ref 155, .ref 19, .int (nI a), .int (nI ys), .int (nI y)] [] w Q := by
  have hR' := hR
  have hB' := hB
  obtain ⟨hS, hBk, hPr, hGr, hSc, hSt, hMc, hq⟩ := hR'
  obtain ⟨bB, bP, bG, bS, ⟨ht, hk⟩, ⟨h8, hE⟩, hq32, h80, hcs, hst, hen, hT1, hT2, hT3⟩ := hB'
  have h4 : S 10 1 ≤ 4 := bG.1
  have hBk : BkC 1 w S := hBk
  have hPr : PrC w S := hPr
  have hGr : GrC w S := hGr
  have hSc : ScC w S := hSc
  have hMc : McC w S t := hMc
  have ht4 : t < 4 := by omega
  have gt := hGr.2 t ht
  have bt := bG.2 t ht
  have hp : S 6 t < 4 := bt.2.2.2.1 hk
  have g4 : wn w (47 + 2 * t) 4 = nI (S 6 t) := (gt.2.1 hk).2.1
  have g6 : wn w (47 + 2 * t) 6 = nI (S 7 t) := (gt.2.1 hk).2.2.2.1
  have g7 : wn w (47 + 2 * t) 7 = nI (S 8 t) := (gt.2.1 hk).2.2.2.2
  have g1 : wn w (47 + 2 * t) 1 = nI (S 5 t) := gt.2.2
  have z1 : wr w 55 7 = 147 + 2 * t := hMc.2.2.2.2.1
  have z2 : ¬ (147 + 2 * t < 100) := by omega
  have z3 : 147 + 2 * t - 100 = 47 + 2 * t := by omega
  have z4 := shTr hS ht4
  have z5 : ¬ (148 + 2 * t < 100) := by omega
  have z6 : 148 + 2 * t - 100 = 48 + 2 * t := by omega
  have z7 := shSc hS ht4
  have z8 : sm_in (nI (S 6 t)) 4 = true := sm_in_nI hp (by decide)
  have z9 : (nI (S 6 t)).toNatClampNeg = S 6 t := nI_clamp (by omega)
  have z10 := zr3_p hp
  have z11 : ¬ (104 + S 6 t < 100) := by omega
  have z12 : 104 + S 6 t - 100 = 4 + S 6 t := by omega
  have z13 := shGl hS hp
  have z14 := zr8_p hp
  have z15 : ¬ (109 + S 6 t < 100) := by omega
  have z16 : 109 + S 6 t - 100 = 9 + S 6 t := by omega
  have z17 := shLo hS hp
  have z18 : wn w 55 8 = nI t := hMc.2.2.2.2.2.1
  have z19 : wn w 45 1 = nI (S 10 1) := hGr.1
  have gl : ∀ a, a < 4 → wi w (4 + S 6 t) a = nI (S 0 (6 + S 6 t * 4 + a)) := fun a ha => by
    have := hBk.2.1 (S 6 t) hp a ha
    rw [show 1 + 3 + S 6 t = 4 + S 6 t by omega] at this
    exact this
  have lo : ∀ i, i < 12 → wi w (9 + S 6 t) i = nI (S 0 (46 + S 6 t * 12 + i)) := fun i hi => by
    have := hBk.2.2.2.1 (S 6 t) hp i hi
    rw [show 1 + 8 + S 6 t = 9 + S 6 t by omega] at this
    exact this
  have e1 : sm_enF 9 0 19 = some 19 := rfl
  have e2 : sm_ai 19 (some (.inl (0, 31, .inl sm_swm))) = some 11 := rfl
  have e3 : sm_sw (Int32.toInt 11) 9 [76, 95, 117, 136, 147, 163, 184, 197, 208] 210 = 117 := by decide
  simp (decide := true) only [r37_17, r37_20, r37_21, r37_24, r37_25, r35_0, r35_1, r35_4, g97, e1, e2, e3, sm_wp_some, sm_cN, sm_at, sh55 hS, Option.toList_some, List.cons_append, List.nil_append, Nat.reduceSub, if_false, true_and]
  have ha : nI y = 0 ↔ y = 0 := nI_z (by omega)
  by_cases e : y = 0
  · have e5 : s_do S t a y ys x xs 19 = (0, s_up (s_tke S 1) 14 1 (S 14 1 + 1)) := by
      show (0, s_up (s_tke S 1) 14 1 (if y = 0 then S 14 1 + 1 else a)) = _
      rw [if_pos e]
    rw [e5] at hQ
    have ha' : nI y = 0 := ha.mpr e
    simp (decide := true) only [r37_117, r37_118, r37_120, r37_123, r37_124, r37_127, r37_130, r37_131, r37_134, r37_135, g4, g6, g7, g1, z1, z2, z3, z4, z5, z6, z7, z8, z9, z10, z11, z12, z13, z14, z15, z16, z17, z18, z19, hq, sh1 hS, sh2 hS, sh3 hS, sh8 hS, sh45 hS, sh46 hS, sh55 hS, sh56 hS, ha', sm_wp_some, sm_wp_none, sm_at, sm_get, sm_fld, sm_pfl, sm_cN, sm_ai, sm_al, sm_si, sm_slg, sm_aa, List.getElem?_cons_zero, List.getElem?_cons_succ, List.set_cons_zero, List.set_cons_succ, List.length_cons, List.length_nil, Option.toList_some, Option.toList_none, List.cons_append, List.nil_append, if_true, if_false, true_and, and_true, Option.some.injEq, gs_o, gs_s, List.length_set, hS.1, pk_us, Nat.reduceLT, Nat.reduceLeDiff, Nat.reduceSub, Nat.reduceEqDiff, Nat.reduceAdd, Int32.reduceLT, Int32.reduceLE, Int32.reduceAdd, Int32.reduceSub, Int32.reduceToNatClampNeg, reduceIte, reduceCtorEq, Nat.lt_irrefl]
    have m := RnC.m55 (S := s_up (s_tke S 1) 14 1 (S 14 1 + 1)) (t := t) (q := S 14 1 + 1) hS hBk hPr hGr hSc hSt h4 hMc.1 hMc.2.1 hMc.2.2.1 hMc.2.2.2.1 rfl rfl hMc.2.2.2.2.2.2 rfl
    exact hQ _ ⟨FrC.set (by decide) (by decide) (by decide), fun _ => m, m.rf⟩
  · have e5 : s_do S t a y ys x xs 19 = (0, s_up (s_tke S 1) 14 1 a) := by
      show (0, s_up (s_tke S 1) 14 1 (if y = 0 then S 14 1 + 1 else a)) = _
      rw [if_neg e]
    rw [e5] at hQ
    have ha' : ¬ nI y = 0 := fun q => e (ha.mp q)
    simp (decide := true) only [r37_117, r37_118, r37_120, r37_123, r37_124, r37_127, r37_130, r37_131, r37_134, r37_135, g4, g6, g7, g1, z1, z2, z3, z4, z5, z6, z7, z8, z9, z10, z11, z12, z13, z14, z15, z16, z17, z18, z19, hq, sh1 hS, sh2 hS, sh3 hS, sh8 hS, sh45 hS, sh46 hS, sh55 hS, sh56 hS, ha', sm_wp_some, sm_wp_none, sm_at, sm_get, sm_fld, sm_pfl, sm_cN, sm_ai, sm_al, sm_si, sm_slg, sm_aa, List.getElem?_cons_zero, List.getElem?_cons_succ, List.set_cons_zero, List.set_cons_succ, List.length_cons, List.length_nil, Option.toList_some, Option.toList_none, List.cons_append, List.nil_append, if_true, if_false, true_and, and_true, Option.some.injEq, gs_o, gs_s, List.length_set, hS.1, pk_us, Nat.reduceLT, Nat.reduceLeDiff, Nat.reduceSub, Nat.reduceEqDiff, Nat.reduceAdd, Int32.reduceLT, Int32.reduceLE, Int32.reduceAdd, Int32.reduceSub, Int32.reduceToNatClampNeg, reduceIte, reduceCtorEq, Nat.lt_irrefl]
    have m := RnC.m55 (S := s_up (s_tke S 1) 14 1 (a)) (t := t) (q := a) hS hBk hPr hGr hSc hSt h4 hMc.1 hMc.2.1 hMc.2.2.1 hMc.2.2.2.1 rfl rfl hMc.2.2.2.2.2.2 rfl
    exact hQ _ ⟨FrC.set (by decide) (by decide) (by decide), fun _ => m, m.rf⟩
theorem bc_20 {X : sm_X} {w : sm_W} {Q : Option Value → sm_W → Prop} {S : sm_S} {T t a y ys x xs : Nat} (hR : RnC w (s_up S 14 0 (S 14 0 - 1)) t (S 14 1 + 1)) (hB : RnB T S t) (hn : 1 ≤ S 14 0) (hy : y < 2 ^ 31) (hf : True) (hQ : ∀ w', AfC w w' t (s_do S t a y ys x xs 20) → Q (some (.int (nI (s_do S t a y ys x xs 20).1))) w') : sm_R X 37 17 [.ref 155, .ref 20, .int (nI a), .int (nI ys), .int (nI y)] [] w Q := by
  have hR' := hR
  have hB' := hB
  obtain ⟨hS, hBk, hPr, hGr, hSc, hSt, hMc, hq⟩ := hR'
  obtain ⟨bB, bP, bG, bS, ⟨ht, hk⟩, ⟨h8, hE⟩, hq32, h80, hcs, hst, hen, hT1, hT2, hT3⟩ := hB'
  have h4 : S 10 1 ≤ 4 := bG.1
  have hBk : BkC 1 w S := hBk
  have hPr : PrC w S := hPr
  have hGr : GrC w S := hGr
  have hSc : ScC w S := hSc
  have hMc : McC w S t := hMc
  have ht4 : t < 4 := by omega
  have gt := hGr.2 t ht
  have bt := bG.2 t ht
  have hp : S 6 t < 4 := bt.2.2.2.1 hk
  have g4 : wn w (47 + 2 * t) 4 = nI (S 6 t) := (gt.2.1 hk).2.1
  have g6 : wn w (47 + 2 * t) 6 = nI (S 7 t) := (gt.2.1 hk).2.2.2.1
  have g7 : wn w (47 + 2 * t) 7 = nI (S 8 t) := (gt.2.1 hk).2.2.2.2
  have g1 : wn w (47 + 2 * t) 1 = nI (S 5 t) := gt.2.2
  have z1 : wr w 55 7 = 147 + 2 * t := hMc.2.2.2.2.1
  have z2 : ¬ (147 + 2 * t < 100) := by omega
  have z3 : 147 + 2 * t - 100 = 47 + 2 * t := by omega
  have z4 := shTr hS ht4
  have z5 : ¬ (148 + 2 * t < 100) := by omega
  have z6 : 148 + 2 * t - 100 = 48 + 2 * t := by omega
  have z7 := shSc hS ht4
  have z8 : sm_in (nI (S 6 t)) 4 = true := sm_in_nI hp (by decide)
  have z9 : (nI (S 6 t)).toNatClampNeg = S 6 t := nI_clamp (by omega)
  have z10 := zr3_p hp
  have z11 : ¬ (104 + S 6 t < 100) := by omega
  have z12 : 104 + S 6 t - 100 = 4 + S 6 t := by omega
  have z13 := shGl hS hp
  have z14 := zr8_p hp
  have z15 : ¬ (109 + S 6 t < 100) := by omega
  have z16 : 109 + S 6 t - 100 = 9 + S 6 t := by omega
  have z17 := shLo hS hp
  have z18 : wn w 55 8 = nI t := hMc.2.2.2.2.2.1
  have z19 : wn w 45 1 = nI (S 10 1) := hGr.1
  have gl : ∀ a, a < 4 → wi w (4 + S 6 t) a = nI (S 0 (6 + S 6 t * 4 + a)) := fun a ha => by
    have := hBk.2.1 (S 6 t) hp a ha
    rw [show 1 + 3 + S 6 t = 4 + S 6 t by omega] at this
    exact this
  have lo : ∀ i, i < 12 → wi w (9 + S 6 t) i = nI (S 0 (46 + S 6 t * 12 + i)) := fun i hi => by
    have := hBk.2.2.2.1 (S 6 t) hp i hi
    rw [show 1 + 8 + S 6 t = 9 + S 6 t by omega] at this
    exact this
  have e1 : sm_enF 9 0 20 = some 20 := rfl
  have e2 : sm_ai 20 (some (.inl (0, 31, .inl sm_swm))) = some 12 := rfl
  have e3 : sm_sw (Int32.toInt 12) 9 [76, 95, 117, 136, 147, 163, 184, 197, 208] 210 = 136 := by decide
  simp (decide := true) only [r37_17, r37_20, r37_21, r37_24, r37_25, r35_0, r35_1, r35_4, g97, e1, e2, e3, sm_wp_some, sm_cN, sm_at, sh55 hS, Option.toList_some, List.cons_append, List.nil_append, Nat.reduceSub, if_false, true_and]
  have ha : nI y = 0 ↔ y = 0 := nI_z (by omega)
  by_cases e : y ≠ 0
  · have e5 : s_do S t a y ys x xs 20 = (0, s_tke S 1) := if_pos e
    rw [e5] at hQ
    have ha' : ¬ nI y = 0 := fun q => e (ha.mp q)
    simp (decide := true) only [r37_136, r37_138, r37_141, r37_142, r37_145, r37_146, g4, g6, g7, g1, z1, z2, z3, z4, z5, z6, z7, z8, z9, z10, z11, z12, z13, z14, z15, z16, z17, z18, z19, hq, sh1 hS, sh2 hS, sh3 hS, sh8 hS, sh45 hS, sh46 hS, sh55 hS, sh56 hS, ha', sm_wp_some, sm_wp_none, sm_at, sm_get, sm_fld, sm_pfl, sm_cN, sm_ai, sm_al, sm_si, sm_slg, sm_aa, List.getElem?_cons_zero, List.getElem?_cons_succ, List.set_cons_zero, List.set_cons_succ, List.length_cons, List.length_nil, Option.toList_some, Option.toList_none, List.cons_append, List.nil_append, if_true, if_false, true_and, and_true, Option.some.injEq, gs_o, gs_s, List.length_set, hS.1, pk_us, Nat.reduceLT, Nat.reduceLeDiff, Nat.reduceSub, Nat.reduceEqDiff, Nat.reduceAdd, Int32.reduceLT, Int32.reduceLE, Int32.reduceAdd, Int32.reduceSub, Int32.reduceToNatClampNeg, reduceIte, reduceCtorEq, Nat.lt_irrefl]
    exact hQ w ⟨FrC.rf w, fun _ => hR, hR.rf⟩
  · have e5 : s_do S t a y ys x xs 20 = (3, S) := if_neg e
    rw [e5] at hQ
    have ha' : nI y = 0 := ha.mpr (by omega)
    simp (decide := true) only [r37_136, r37_138, r37_141, r37_142, r37_145, r37_146, g4, g6, g7, g1, z1, z2, z3, z4, z5, z6, z7, z8, z9, z10, z11, z12, z13, z14, z15, z16, z17, z18, z19, hq, sh1 hS, sh2 hS, sh3 hS, sh8 hS, sh45 hS, sh46 hS, sh55 hS, sh56 hS, ha', sm_wp_some, sm_wp_none, sm_at, sm_get, sm_fld, sm_pfl, sm_cN, sm_ai, sm_al, sm_si, sm_slg, sm_aa, List.getElem?_cons_zero, List.getElem?_cons_succ, List.set_cons_zero, List.set_cons_succ, List.length_cons, List.length_nil, Option.toList_some, Option.toList_none, List.cons_append, List.nil_append, if_true, if_false, true_and, and_true, Option.some.injEq, gs_o, gs_s, List.length_set, hS.1, pk_us, Nat.reduceLT, Nat.reduceLeDiff, Nat.reduceSub, Nat.reduceEqDiff, Nat.reduceAdd, Int32.reduceLT, Int32.reduceLE, Int32.reduceAdd, Int32.reduceSub, Int32.reduceToNatClampNeg, reduceIte, reduceCtorEq, Nat.lt_irrefl]
    exact hQ w ⟨FrC.rf w, fun h => absurd h (by omega), hR.rf⟩
theorem bc_22 {X : sm_X} {w : sm_W} {Q : Option Value → sm_W → Prop} {S : sm_S} {T t a y ys x xs : Nat} (hR : RnC w (s_up S 14 0 (S 14 0 - 1)) t (S 14 1 + 1)) (hB : RnB T S t) (hn : 1 ≤ S 14 0) (hy : y < 2 ^ 31) (hf : a < 4) (hQ : ∀ w', AfC w w' t (s_do S t a y ys x xs 22) → Q (some (.int (nI (s_do S t a y ys x xs 22).1))) w') : sm_R X 37 17 [.ref 155, .ref 22, .int (nI a), .int (nI ys), .int (nI y)] [] w Q := by
  have hR' := hR
  have hB' := hB
  obtain ⟨hS, hBk, hPr, hGr, hSc, hSt, hMc, hq⟩ := hR'
  obtain ⟨bB, bP, bG, bS, ⟨ht, hk⟩, ⟨h8, hE⟩, hq32, h80, hcs, hst, hen, hT1, hT2, hT3⟩ := hB'
  have h4 : S 10 1 ≤ 4 := bG.1
  have hBk : BkC 1 w S := hBk
  have hPr : PrC w S := hPr
  have hGr : GrC w S := hGr
  have hSc : ScC w S := hSc
  have hMc : McC w S t := hMc
  have ht4 : t < 4 := by omega
  have gt := hGr.2 t ht
  have bt := bG.2 t ht
  have hp : S 6 t < 4 := bt.2.2.2.1 hk
  have g4 : wn w (47 + 2 * t) 4 = nI (S 6 t) := (gt.2.1 hk).2.1
  have g6 : wn w (47 + 2 * t) 6 = nI (S 7 t) := (gt.2.1 hk).2.2.2.1
  have g7 : wn w (47 + 2 * t) 7 = nI (S 8 t) := (gt.2.1 hk).2.2.2.2
  have g1 : wn w (47 + 2 * t) 1 = nI (S 5 t) := gt.2.2
  have z1 : wr w 55 7 = 147 + 2 * t := hMc.2.2.2.2.1
  have z2 : ¬ (147 + 2 * t < 100) := by omega
  have z3 : 147 + 2 * t - 100 = 47 + 2 * t := by omega
  have z4 := shTr hS ht4
  have z5 : ¬ (148 + 2 * t < 100) := by omega
  have z6 : 148 + 2 * t - 100 = 48 + 2 * t := by omega
  have z7 := shSc hS ht4
  have z8 : sm_in (nI (S 6 t)) 4 = true := sm_in_nI hp (by decide)
  have z9 : (nI (S 6 t)).toNatClampNeg = S 6 t := nI_clamp (by omega)
  have z10 := zr3_p hp
  have z11 : ¬ (104 + S 6 t < 100) := by omega
  have z12 : 104 + S 6 t - 100 = 4 + S 6 t := by omega
  have z13 := shGl hS hp
  have z14 := zr8_p hp
  have z15 : ¬ (109 + S 6 t < 100) := by omega
  have z16 : 109 + S 6 t - 100 = 9 + S 6 t := by omega
  have z17 := shLo hS hp
  have z18 : wn w 55 8 = nI t := hMc.2.2.2.2.2.1
  have z19 : wn w 45 1 = nI (S 10 1) := hGr.1
  have gl : ∀ a, a < 4 → wi w (4 + S 6 t) a = nI (S 0 (6 + S 6 t * 4 + a)) := fun a ha => by
    have := hBk.2.1 (S 6 t) hp a ha
    rw [show 1 + 3 + S 6 t = 4 + S 6 t by omega] at this
    exact this
  have lo : ∀ i, i < 12 → wi w (9 + S 6 t) i = nI (S 0 (46 + S 6 t * 12 + i)) := fun i hi => by
    have := hBk.2.2.2.1 (S 6 t) hp i hi
    rw [show 1 + 8 + S 6 t = 9 + S 6 t by omega] at this
    exact this
  have e1 : sm_enF 9 0 22 = some 22 := rfl
  have e2 : sm_ai 22 (some (.inl (0, 31, .inl sm_swm))) = some 14 := rfl
  have e3 : sm_sw (Int32.toInt 14) 9 [76, 95, 117, 136, 147, 163, 184, 197, 208] 210 = 163 := by decide
  simp (decide := true) only [r37_17, r37_20, r37_21, r37_24, r37_25, r35_0, r35_1, r35_4, g97, e1, e2, e3, sm_wp_some, sm_cN, sm_at, sh55 hS, Option.toList_some, List.cons_append, List.nil_append, Nat.reduceSub, if_false, true_and]
  have ha4 : a < 4 := hf
  have a1 : sm_in (nI a) 4 = true := sm_in_nI ha4 (by decide)
  have a2 : (nI a).toNatClampNeg = a := nI_clamp (by omega)
  simp (decide := true) only [r37_163, r37_164, r37_167, r37_170, r37_171, r37_174, r37_177, r37_178, r37_179, r37_181, r37_182, r37_183, g4, g6, g7, g1, z1, z2, z3, z4, z5, z6, z7, z8, z9, z10, z11, z12, z13, z14, z15, z16, z17, z18, z19, hq, sh1 hS, sh2 hS, sh3 hS, sh8 hS, sh45 hS, sh46 hS, sh55 hS, sh56 hS, a1, a2, sm_wp_some, sm_wp_none, sm_at, sm_get, sm_fld, sm_pfl, sm_cN, sm_ai, sm_al, sm_si, sm_slg, sm_aa, List.getElem?_cons_zero, List.getElem?_cons_succ, List.set_cons_zero, List.set_cons_succ, List.length_cons, List.length_nil, Option.toList_some, Option.toList_none, List.cons_append, List.nil_append, if_true, if_false, true_and, and_true, Option.some.injEq, gs_o, gs_s, List.length_set, hS.1, pk_us, Nat.reduceLT, Nat.reduceLeDiff, Nat.reduceSub, Nat.reduceEqDiff, Nat.reduceAdd, Int32.reduceLT, Int32.reduceLE, Int32.reduceAdd, Int32.reduceSub, Int32.reduceToNatClampNeg, reduceIte, reduceCtorEq, Nat.lt_irrefl]
  have m := hR.gl (v := y) h4 hp ha4
  exact hQ _ ⟨FrC.set (by omega) (by omega) (by omega), fun _ => m, m.rf⟩
theorem bc_23 {X : sm_X} {w : sm_W} {Q : Option Value → sm_W → Prop} {S : sm_S} {T t a y ys x xs : Nat} (hR : RnC w (s_up S 14 0 (S 14 0 - 1)) t (S 14 1 + 1)) (hB : RnB T S t) (hn : 1 ≤ S 14 0) (hy : y < 6) (hf : a < 2) (hQ : ∀ w', AfC w w' t (s_do S t a y ys x xs 23) → Q (some (.int (nI (s_do S t a y ys x xs 23).1))) w') : sm_R X 37 17 [.ref 155, .ref 23, .int (nI a), .int (nI ys), .int (nI y)] [] w Q := by
  have hR' := hR
  have hB' := hB
  obtain ⟨hS, hBk, hPr, hGr, hSc, hSt, hMc, hq⟩ := hR'
  obtain ⟨bB, bP, bG, bS, ⟨ht, hk⟩, ⟨h8, hE⟩, hq32, h80, hcs, hst, hen, hT1, hT2, hT3⟩ := hB'
  have h4 : S 10 1 ≤ 4 := bG.1
  have hBk : BkC 1 w S := hBk
  have hPr : PrC w S := hPr
  have hGr : GrC w S := hGr
  have hSc : ScC w S := hSc
  have hMc : McC w S t := hMc
  have ht4 : t < 4 := by omega
  have gt := hGr.2 t ht
  have bt := bG.2 t ht
  have hp : S 6 t < 4 := bt.2.2.2.1 hk
  have g4 : wn w (47 + 2 * t) 4 = nI (S 6 t) := (gt.2.1 hk).2.1
  have g6 : wn w (47 + 2 * t) 6 = nI (S 7 t) := (gt.2.1 hk).2.2.2.1
  have g7 : wn w (47 + 2 * t) 7 = nI (S 8 t) := (gt.2.1 hk).2.2.2.2
  have g1 : wn w (47 + 2 * t) 1 = nI (S 5 t) := gt.2.2
  have z1 : wr w 55 7 = 147 + 2 * t := hMc.2.2.2.2.1
  have z2 : ¬ (147 + 2 * t < 100) := by omega
  have z3 : 147 + 2 * t - 100 = 47 + 2 * t := by omega
  have z4 := shTr hS ht4
  have z5 : ¬ (148 + 2 * t < 100) := by omega
  have z6 : 148 + 2 * t - 100 = 48 + 2 * t := by omega
  have z7 := shSc hS ht4
  have z8 : sm_in (nI (S 6 t)) 4 = true := sm_in_nI hp (by decide)
  have z9 : (nI (S 6 t)).toNatClampNeg = S 6 t := nI_clamp (by omega)
  have z10 := zr3_p hp
  have z11 : ¬ (104 + S 6 t < 100) := by omega
  have z12 : 104 + S 6 t - 100 = 4 + S 6 t := by omega
  have z13 := shGl hS hp
  have z14 := zr8_p hp
  have z15 : ¬ (109 + S 6 t < 100) := by omega
  have z16 : 109 + S 6 t - 100 = 9 + S 6 t := by omega
  have z17 := shLo hS hp
  have z18 : wn w 55 8 = nI t := hMc.2.2.2.2.2.1
  have z19 : wn w 45 1 = nI (S 10 1) := hGr.1
  have gl : ∀ a, a < 4 → wi w (4 + S 6 t) a = nI (S 0 (6 + S 6 t * 4 + a)) := fun a ha => by
    have := hBk.2.1 (S 6 t) hp a ha
    rw [show 1 + 3 + S 6 t = 4 + S 6 t by omega] at this
    exact this
  have lo : ∀ i, i < 12 → wi w (9 + S 6 t) i = nI (S 0 (46 + S 6 t * 12 + i)) := fun i hi => by
    have := hBk.2.2.2.1 (S 6 t) hp i hi
    rw [show 1 + 8 + S 6 t = 9 + S 6 t by omega] at this
    exact this
  have e1 : sm_enF 9 0 23 = some 23 := rfl
  have e2 : sm_ai 23 (some (.inl (0, 31, .inl sm_swm))) = some 21 := rfl
  have e3 : sm_sw (Int32.toInt 21) 9 [76, 95, 117, 136, 147, 163, 184, 197, 208] 210 = 210 := by decide
  have e4 : sm_sw (Int32.toInt 21) 18 [40, 76, 112, 158] 210 = 158 := by decide
  simp (decide := true) only [r37_17, r37_20, r37_21, r37_24, r37_25, r35_0, r35_1, r35_4, e4, r37_210, r37_211, r37_212, r37_213, r37_215, r41_0, r41_3, r41_4, r41_7, r41_8, g97, e1, e2, e3, sm_wp_some, sm_cN, sm_at, sh55 hS, Option.toList_some, List.cons_append, List.nil_append, Nat.reduceSub, if_false, true_and]
  by_cases e : S 0 (22 + S 6 t * 6 + y) = 1
  · have e5 : s_do S t a y ys x xs 23 = (0, s_psh S 1 1 (S 0 (46 + S 6 t * 12 + (y * 2 + a)))) := if_pos e
    rw [e5] at hQ
    have y1 : nI y * 2 = nI (y * 2) := pk_mul y 2
    have y2 : nI (y * 2) + nI a = nI (y * 2 + a) := nI_add _ _
    have y3 : sm_in (nI (y * 2 + a)) 12 = true := sm_in_nI (by omega) (by decide)
    have y4 : (nI (y * 2 + a)).toNatClampNeg = y * 2 + a := nI_clamp (by omega)
    have y5 := lo (y * 2 + a) (by omega)
    simp (decide := true) only [r37_210, r37_211, r37_212, r37_213, r37_215, r37_218, r41_158, r41_159, r41_162, r41_163, r41_166, r41_169, r41_170, r41_173, r41_176, r41_177, r41_180, r41_181, r41_182, r41_185, r41_188, r41_189, r41_192, r41_195, r41_196, r41_197, r41_198, r41_199, r41_200, r41_201, r41_202, r41_205, r41_208, r41_209, g4, g6, g7, g1, z1, z2, z3, z4, z5, z6, z7, z8, z9, z10, z11, z12, z13, z14, z15, z16, z17, z18, z19, hq, sh1 hS, sh2 hS, sh3 hS, sh8 hS, sh45 hS, sh46 hS, sh55 hS, sh56 hS, io_C hS (hBk.2.2.1 y hy) bB.2.1 hp hy, if_pos e, y1, y2, y3, y4, y5, sm_wp_some, sm_wp_none, sm_at, sm_get, sm_fld, sm_pfl, sm_cN, sm_ai, sm_al, sm_si, sm_slg, sm_aa, List.getElem?_cons_zero, List.getElem?_cons_succ, List.set_cons_zero, List.set_cons_succ, List.length_cons, List.length_nil, Option.toList_some, Option.toList_none, List.cons_append, List.nil_append, if_true, if_false, true_and, and_true, Option.some.injEq, gs_o, gs_s, List.length_set, hS.1, pk_us, Nat.reduceLT, Nat.reduceLeDiff, Nat.reduceSub, Nat.reduceEqDiff, Nat.reduceAdd, Int32.reduceLT, Int32.reduceLE, Int32.reduceAdd, Int32.reduceSub, Int32.reduceToNatClampNeg, reduceIte, reduceCtorEq, Nat.lt_irrefl]
    exact put_k hR h4 h8 (Nat.le_refl 1) hn (fun w' h => by
      simp (decide := true) only [r37_210, r37_211, r37_212, r37_213, r37_215, r37_218, r41_158, r41_159, r41_162, r41_163, r41_166, r41_169, r41_170, r41_173, r41_176, r41_177, r41_180, r41_181, r41_182, r41_185, r41_188, r41_189, r41_192, r41_195, r41_196, r41_197, r41_198, r41_199, r41_200, r41_201, r41_202, r41_205, r41_208, r41_209, Option.toList_some, List.cons_append, List.nil_append]
      exact hQ w' h)
  · have e5 : s_do S t a y ys x xs 23 = (3, S) := if_neg e
    rw [e5] at hQ
    simp (decide := true) only [r37_210, r37_211, r37_212, r37_213, r37_215, r37_218, r41_158, r41_159, r41_162, r41_163, r41_166, r41_169, r41_170, r41_173, r41_176, r41_177, r41_180, r41_181, r41_182, r41_185, r41_188, r41_189, r41_192, r41_195, r41_196, r41_197, r41_198, r41_199, r41_200, r41_201, r41_202, r41_205, r41_208, r41_209, g4, g6, g7, g1, z1, z2, z3, z4, z5, z6, z7, z8, z9, z10, z11, z12, z13, z14, z15, z16, z17, z18, z19, hq, sh1 hS, sh2 hS, sh3 hS, sh8 hS, sh45 hS, sh46 hS, sh55 hS, sh56 hS, io_C hS (hBk.2.2.1 y hy) bB.2.1 hp hy, if_neg e, sm_wp_some, sm_wp_none, sm_at, sm_get, sm_fld, sm_pfl, sm_cN, sm_ai, sm_al, sm_si, sm_slg, sm_aa, List.getElem?_cons_zero, List.getElem?_cons_succ, List.set_cons_zero, List.set_cons_succ, List.length_cons, List.length_nil, Option.toList_some, Option.toList_none, List.cons_append, List.nil_append, if_true, if_false, true_and, and_true, Option.some.injEq, gs_o, gs_s, List.length_set, hS.1, pk_us, Nat.reduceLT, Nat.reduceLeDiff, Nat.reduceSub, Nat.reduceEqDiff, Nat.reduceAdd, Int32.reduceLT, Int32.reduceLE, Int32.reduceAdd, Int32.reduceSub, Int32.reduceToNatClampNeg, reduceIte, reduceCtorEq, Nat.lt_irrefl]
    exact hQ w ⟨FrC.rf w, fun h => absurd h (by omega), hR.rf⟩
theorem bc_25 {X : sm_X} {w : sm_W} {Q : Option Value → sm_W → Prop} {S : sm_S} {T t a y ys x xs : Nat} (hR : RnC w (s_up S 14 0 (S 14 0 - 1)) t (S 14 1 + 1)) (hB : RnB T S t) (hn : 1 ≤ S 14 0) (hy : y < 6) (hf : True) (hQ : ∀ w', AfC w w' t (s_do S t a y ys x xs 25) → Q (some (.int (nI (s_do S t a y ys x xs 25).1))) w') : sm_R X 37 17 [.ref 155, .ref 25, .int (nI a), .int (nI ys), .int (nI y)] [] w Q := by
  have hR' := hR
  have hB' := hB
  obtain ⟨hS, hBk, hPr, hGr, hSc, hSt, hMc, hq⟩ := hR'
  obtain ⟨bB, bP, bG, bS, ⟨ht, hk⟩, ⟨h8, hE⟩, hq32, h80, hcs, hst, hen, hT1, hT2, hT3⟩ := hB'
  have h4 : S 10 1 ≤ 4 := bG.1
  have hBk : BkC 1 w S := hBk
  have hPr : PrC w S := hPr
  have hGr : GrC w S := hGr
  have hSc : ScC w S := hSc
  have hMc : McC w S t := hMc
  have ht4 : t < 4 := by omega
  have gt := hGr.2 t ht
  have bt := bG.2 t ht
  have hp : S 6 t < 4 := bt.2.2.2.1 hk
  have g4 : wn w (47 + 2 * t) 4 = nI (S 6 t) := (gt.2.1 hk).2.1
  have g6 : wn w (47 + 2 * t) 6 = nI (S 7 t) := (gt.2.1 hk).2.2.2.1
  have g7 : wn w (47 + 2 * t) 7 = nI (S 8 t) := (gt.2.1 hk).2.2.2.2
  have g1 : wn w (47 + 2 * t) 1 = nI (S 5 t) := gt.2.2
  have z1 : wr w 55 7 = 147 + 2 * t := hMc.2.2.2.2.1
  have z2 : ¬ (147 + 2 * t < 100) := by omega
  have z3 : 147 + 2 * t - 100 = 47 + 2 * t := by omega
  have z4 := shTr hS ht4
  have z5 : ¬ (148 + 2 * t < 100) := by omega
  have z6 : 148 + 2 * t - 100 = 48 + 2 * t := by omega
  have z7 := shSc hS ht4
  have z8 : sm_in (nI (S 6 t)) 4 = true := sm_in_nI hp (by decide)
  have z9 : (nI (S 6 t)).toNatClampNeg = S 6 t := nI_clamp (by omega)
  have z10 := zr3_p hp
  have z11 : ¬ (104 + S 6 t < 100) := by omega
  have z12 : 104 + S 6 t - 100 = 4 + S 6 t := by omega
  have z13 := shGl hS hp
  have z14 := zr8_p hp
  have z15 : ¬ (109 + S 6 t < 100) := by omega
  have z16 : 109 + S 6 t - 100 = 9 + S 6 t := by omega
  have z17 := shLo hS hp
  have z18 : wn w 55 8 = nI t := hMc.2.2.2.2.2.1
  have z19 : wn w 45 1 = nI (S 10 1) := hGr.1
  have gl : ∀ a, a < 4 → wi w (4 + S 6 t) a = nI (S 0 (6 + S 6 t * 4 + a)) := fun a ha => by
    have := hBk.2.1 (S 6 t) hp a ha
    rw [show 1 + 3 + S 6 t = 4 + S 6 t by omega] at this
    exact this
  have lo : ∀ i, i < 12 → wi w (9 + S 6 t) i = nI (S 0 (46 + S 6 t * 12 + i)) := fun i hi => by
    have := hBk.2.2.2.1 (S 6 t) hp i hi
    rw [show 1 + 8 + S 6 t = 9 + S 6 t by omega] at this
    exact this
  have e1 : sm_enF 9 0 25 = some 25 := rfl
  have e2 : sm_ai 25 (some (.inl (0, 31, .inl sm_swm))) = some 0 := rfl
  have e3 : sm_sw (Int32.toInt 0) 9 [76, 95, 117, 136, 147, 163, 184, 197, 208] 210 = 210 := by decide
  have e4 : sm_sw (Int32.toInt 0) 18 [40, 76, 112, 158] 210 = 210 := by decide
  simp (decide := true) only [r37_17, r37_20, r37_21, r37_24, r37_25, r35_0, r35_1, r35_4, e4, r37_210, r37_211, r37_212, r37_213, r37_215, r41_0, r41_3, r41_4, r41_7, r41_8, g97, e1, e2, e3, sm_wp_some, sm_cN, sm_at, sh55 hS, Option.toList_some, List.cons_append, List.nil_append, Nat.reduceSub, if_false, true_and]
  have y1 : sm_in (nI y) 6 = true := sm_in_nI hy (by decide)
  have y2 : (nI y).toNatClampNeg = y := nI_clamp (by omega)
  have y3 : wi w 2 y = nI (S 0 y) := hBk.1 y hy
  simp (decide := true) only [r37_210, r37_211, r37_212, r37_213, r37_215, r37_218, r41_210, r41_211, r41_214, r41_215, r41_216, r41_219, r41_222, r41_223, r41_224, r41_227, g4, g6, g7, g1, z1, z2, z3, z4, z5, z6, z7, z8, z9, z10, z11, z12, z13, z14, z15, z16, z17, z18, z19, hq, sh1 hS, sh2 hS, sh3 hS, sh8 hS, sh45 hS, sh46 hS, sh55 hS, sh56 hS, y1, y2, y3, sm_wp_some, sm_wp_none, sm_at, sm_get, sm_fld, sm_pfl, sm_cN, sm_ai, sm_al, sm_si, sm_slg, sm_aa, List.getElem?_cons_zero, List.getElem?_cons_succ, List.set_cons_zero, List.set_cons_succ, List.length_cons, List.length_nil, Option.toList_some, Option.toList_none, List.cons_append, List.nil_append, if_true, if_false, true_and, and_true, Option.some.injEq, gs_o, gs_s, List.length_set, hS.1, pk_us, Nat.reduceLT, Nat.reduceLeDiff, Nat.reduceSub, Nat.reduceEqDiff, Nat.reduceAdd, Int32.reduceLT, Int32.reduceLE, Int32.reduceAdd, Int32.reduceSub, Int32.reduceToNatClampNeg, reduceIte, reduceCtorEq, Nat.lt_irrefl]
  exact put_k hR h4 h8 (Nat.le_refl 1) hn (fun w' h => by
    simp (decide := true) only [r37_210, r37_211, r37_212, r37_213, r37_215, r37_218, r41_210, r41_211, r41_214, r41_215, r41_216, r41_219, r41_222, r41_223, r41_224, r41_227, Option.toList_some, List.cons_append, List.nil_append]
    exact hQ w' h)
theorem bc_27 {X : sm_X} {w : sm_W} {Q : Option Value → sm_W → Prop} {S : sm_S} {T t a y ys x xs : Nat} (hR : RnC w (s_up S 14 0 (S 14 0 - 1)) t (S 14 1 + 1)) (hB : RnB T S t) (hn : 1 ≤ S 14 0) (hy : y < 2 ^ 31) (hf : a < 4) (hQ : ∀ w', AfC w w' t (s_do S t a y ys x xs 27) → Q (some (.int (nI (s_do S t a y ys x xs 27).1))) w') : sm_R X 37 17 [.ref 155, .ref 27, .int (nI a), .int (nI ys), .int (nI y)] [] w Q := by
  have hR' := hR
  have hB' := hB
  obtain ⟨hS, hBk, hPr, hGr, hSc, hSt, hMc, hq⟩ := hR'
  obtain ⟨bB, bP, bG, bS, ⟨ht, hk⟩, ⟨h8, hE⟩, hq32, h80, hcs, hst, hen, hT1, hT2, hT3⟩ := hB'
  have h4 : S 10 1 ≤ 4 := bG.1
  have hBk : BkC 1 w S := hBk
  have hPr : PrC w S := hPr
  have hGr : GrC w S := hGr
  have hSc : ScC w S := hSc
  have hMc : McC w S t := hMc
  have ht4 : t < 4 := by omega
  have gt := hGr.2 t ht
  have bt := bG.2 t ht
  have hp : S 6 t < 4 := bt.2.2.2.1 hk
  have g4 : wn w (47 + 2 * t) 4 = nI (S 6 t) := (gt.2.1 hk).2.1
  have g6 : wn w (47 + 2 * t) 6 = nI (S 7 t) := (gt.2.1 hk).2.2.2.1
  have g7 : wn w (47 + 2 * t) 7 = nI (S 8 t) := (gt.2.1 hk).2.2.2.2
  have g1 : wn w (47 + 2 * t) 1 = nI (S 5 t) := gt.2.2
  have z1 : wr w 55 7 = 147 + 2 * t := hMc.2.2.2.2.1
  have z2 : ¬ (147 + 2 * t < 100) := by omega
  have z3 : 147 + 2 * t - 100 = 47 + 2 * t := by omega
  have z4 := shTr hS ht4
  have z5 : ¬ (148 + 2 * t < 100) := by omega
  have z6 : 148 + 2 * t - 100 = 48 + 2 * t := by omega
  have z7 := shSc hS ht4
  have z8 : sm_in (nI (S 6 t)) 4 = true := sm_in_nI hp (by decide)
  have z9 : (nI (S 6 t)).toNatClampNeg = S 6 t := nI_clamp (by omega)
  have z10 := zr3_p hp
  have z11 : ¬ (104 + S 6 t < 100) := by omega
  have z12 : 104 + S 6 t - 100 = 4 + S 6 t := by omega
  have z13 := shGl hS hp
  have z14 := zr8_p hp
  have z15 : ¬ (109 + S 6 t < 100) := by omega
  have z16 : 109 + S 6 t - 100 = 9 + S 6 t := by omega
  have z17 := shLo hS hp
  have z18 : wn w 55 8 = nI t := hMc.2.2.2.2.2.1
  have z19 : wn w 45 1 = nI (S 10 1) := hGr.1
  have gl : ∀ a, a < 4 → wi w (4 + S 6 t) a = nI (S 0 (6 + S 6 t * 4 + a)) := fun a ha => by
    have := hBk.2.1 (S 6 t) hp a ha
    rw [show 1 + 3 + S 6 t = 4 + S 6 t by omega] at this
    exact this
  have lo : ∀ i, i < 12 → wi w (9 + S 6 t) i = nI (S 0 (46 + S 6 t * 12 + i)) := fun i hi => by
    have := hBk.2.2.2.1 (S 6 t) hp i hi
    rw [show 1 + 8 + S 6 t = 9 + S 6 t by omega] at this
    exact this
  have e1 : sm_enF 9 0 27 = some 27 := rfl
  have e2 : sm_ai 27 (some (.inl (0, 31, .inl sm_swm))) = some 15 := rfl
  have e3 : sm_sw (Int32.toInt 15) 9 [76, 95, 117, 136, 147, 163, 184, 197, 208] 210 = 184 := by decide
  simp (decide := true) only [r37_17, r37_20, r37_21, r37_24, r37_25, r35_0, r35_1, r35_4, g97, e1, e2, e3, sm_wp_some, sm_cN, sm_at, sh55 hS, Option.toList_some, List.cons_append, List.nil_append, Nat.reduceSub, if_false, true_and]
  have ha4 : a < 4 := hf
  have a1 : sm_in (nI a) 4 = true := sm_in_nI ha4 (by decide)
  have a2 : (nI a).toNatClampNeg = a := nI_clamp (by omega)
  simp (decide := true) only [r37_184, r37_185, r37_188, r37_191, r37_192, r37_194, r37_195, r37_196, g4, g6, g7, g1, z1, z2, z3, z4, z5, z6, z7, z8, z9, z10, z11, z12, z13, z14, z15, z16, z17, z18, z19, hq, sh1 hS, sh2 hS, sh3 hS, sh8 hS, sh45 hS, sh46 hS, sh55 hS, sh56 hS, a1, a2, sm_wp_some, sm_wp_none, sm_at, sm_get, sm_fld, sm_pfl, sm_cN, sm_ai, sm_al, sm_si, sm_slg, sm_aa, List.getElem?_cons_zero, List.getElem?_cons_succ, List.set_cons_zero, List.set_cons_succ, List.length_cons, List.length_nil, Option.toList_some, Option.toList_none, List.cons_append, List.nil_append, if_true, if_false, true_and, and_true, Option.some.injEq, gs_o, gs_s, List.length_set, hS.1, pk_us, Nat.reduceLT, Nat.reduceLeDiff, Nat.reduceSub, Nat.reduceEqDiff, Nat.reduceAdd, Int32.reduceLT, Int32.reduceLE, Int32.reduceAdd, Int32.reduceSub, Int32.reduceToNatClampNeg, reduceIte, reduceCtorEq, Nat.lt_irrefl]
  have m := hR.sc (v := y) h4 ht4 ha4
  exact hQ _ ⟨FrC.set (by omega) (by omega) (by omega), fun _ => m, m.rf⟩
theorem bc_28 {X : sm_X} {w : sm_W} {Q : Option Value → sm_W → Prop} {S : sm_S} {T t a y ys x xs : Nat} (hR : RnC w (s_up S 14 0 (S 14 0 - 1)) t (S 14 1 + 1)) (hB : RnB T S t) (hn : 1 ≤ S 14 0) (hy : y < 2 ^ 31) (hf : a < 4) (hQ : ∀ w', AfC w w' t (s_do S t a y ys x xs 28) → Q (some (.int (nI (s_do S t a y ys x xs 28).1))) w') : sm_R X 37 17 [.ref 155, .ref 28, .int (nI a), .int (nI ys), .int (nI y)] [] w Q := by
  have hR' := hR
  have hB' := hB
  obtain ⟨hS, hBk, hPr, hGr, hSc, hSt, hMc, hq⟩ := hR'
  obtain ⟨bB, bP, bG, bS, ⟨ht, hk⟩, ⟨h8, hE⟩, hq32, h80, hcs, hst, hen, hT1, hT2, hT3⟩ := hB'
  have h4 : S 10 1 ≤ 4 := bG.1
  have hBk : BkC 1 w S := hBk
  have hPr : PrC w S := hPr
  have hGr : GrC w S := hGr
  have hSc : ScC w S := hSc
  have hMc : McC w S t := hMc
  have ht4 : t < 4 := by omega
  have gt := hGr.2 t ht
  have bt := bG.2 t ht
  have hp : S 6 t < 4 := bt.2.2.2.1 hk
  have g4 : wn w (47 + 2 * t) 4 = nI (S 6 t) := (gt.2.1 hk).2.1
  have g6 : wn w (47 + 2 * t) 6 = nI (S 7 t) := (gt.2.1 hk).2.2.2.1
  have g7 : wn w (47 + 2 * t) 7 = nI (S 8 t) := (gt.2.1 hk).2.2.2.2
  have g1 : wn w (47 + 2 * t) 1 = nI (S 5 t) := gt.2.2
  have z1 : wr w 55 7 = 147 + 2 * t := hMc.2.2.2.2.1
  have z2 : ¬ (147 + 2 * t < 100) := by omega
  have z3 : 147 + 2 * t - 100 = 47 + 2 * t := by omega
  have z4 := shTr hS ht4
  have z5 : ¬ (148 + 2 * t < 100) := by omega
  have z6 : 148 + 2 * t - 100 = 48 + 2 * t := by omega
  have z7 := shSc hS ht4
  have z8 : sm_in (nI (S 6 t)) 4 = true := sm_in_nI hp (by decide)
  have z9 : (nI (S 6 t)).toNatClampNeg = S 6 t := nI_clamp (by omega)
  have z10 := zr3_p hp
  have z11 : ¬ (104 + S 6 t < 100) := by omega
  have z12 : 104 + S 6 t - 100 = 4 + S 6 t := by omega
  have z13 := shGl hS hp
  have z14 := zr8_p hp
  have z15 : ¬ (109 + S 6 t < 100) := by omega
  have z16 : 109 + S 6 t - 100 = 9 + S 6 t := by omega
  have z17 := shLo hS hp
  have z18 : wn w 55 8 = nI t := hMc.2.2.2.2.2.1
  have z19 : wn w 45 1 = nI (S 10 1) := hGr.1
  have gl : ∀ a, a < 4 → wi w (4 + S 6 t) a = nI (S 0 (6 + S 6 t * 4 + a)) := fun a ha => by
    have := hBk.2.1 (S 6 t) hp a ha
    rw [show 1 + 3 + S 6 t = 4 + S 6 t by omega] at this
    exact this
  have lo : ∀ i, i < 12 → wi w (9 + S 6 t) i = nI (S 0 (46 + S 6 t * 12 + i)) := fun i hi => by
    have := hBk.2.2.2.1 (S 6 t) hp i hi
    rw [show 1 + 8 + S 6 t = 9 + S 6 t by omega] at this
    exact this
  have e1 : sm_enF 9 0 28 = some 28 := rfl
  have e2 : sm_ai 28 (some (.inl (0, 31, .inl sm_swm))) = some 20 := rfl
  have e3 : sm_sw (Int32.toInt 20) 9 [76, 95, 117, 136, 147, 163, 184, 197, 208] 210 = 210 := by decide
  have e4 : sm_sw (Int32.toInt 20) 18 [40, 76, 112, 158] 210 = 112 := by decide
  simp (decide := true) only [r37_17, r37_20, r37_21, r37_24, r37_25, r35_0, r35_1, r35_4, e4, r37_210, r37_211, r37_212, r37_213, r37_215, r41_0, r41_3, r41_4, r41_7, r41_8, g97, e1, e2, e3, sm_wp_some, sm_cN, sm_at, sh55 hS, Option.toList_some, List.cons_append, List.nil_append, Nat.reduceSub, if_false, true_and]
  have ha4 : a < 4 := hf
  have a1 : sm_in (nI a) 4 = true := sm_in_nI ha4 (by decide)
  have a2 : (nI a).toNatClampNeg = a := nI_clamp (by omega)
  by_cases e : y < t ∧ S 4 y ≠ 3
  · have e5 : s_do S t a y ys x xs 28 = (0, s_psh S 1 1 (S 9 (y * 4 + a))) := if_pos e
    rw [e5] at hQ
    have hy1 : y < S 10 1 := by omega
    have hy4 : y < 4 := by omega
    have y0 : ¬ nI t ≤ nI y := nI_ge e.1 (by omega)
    have y1 : sm_in (nI y) 4 = true := sm_in_nI (by omega) (by decide)
    have y2 : (nI y).toNatClampNeg = y := nI_clamp (by omega)
    have y3 := zr46_p hy4
    have y4 : ¬ (147 + 2 * y < 100) := by omega
    have y5 : 147 + 2 * y - 100 = 47 + 2 * y := by omega
    have y6 := shTr hS hy4
    have y7 : ¬ (148 + 2 * y < 100) := by omega
    have y8 : 148 + 2 * y - 100 = 48 + 2 * y := by omega
    have y9 := shSc hS hy4
    have y10 := hSc y hy4 a ha4
    have y11 : y < S 10 1 ∧ S 4 y ≠ 3 := ⟨hy1, e.2⟩
    simp (decide := true) only [r37_210, r37_211, r37_212, r37_213, r37_215, r37_218, r41_112, r41_113, r41_114, r41_117, r41_120, r41_121, r41_124, r41_125, r41_128, r41_131, r41_132, r41_135, r41_136, r41_137, r41_140, r41_143, r41_144, r41_145, r41_148, r41_149, r41_150, r41_153, r41_156, r41_157, g4, g6, g7, g1, z1, z2, z3, z4, z5, z6, z7, z8, z9, z10, z11, z12, z13, z14, z15, z16, z17, z18, z19, hq, sh1 hS, sh2 hS, sh3 hS, sh8 hS, sh45 hS, sh46 hS, sh55 hS, sh56 hS, hc_C hS hGr h4 hy, if_pos y11, a1, a2, y0, y1, y2, y3, y4, y5, y6, y7, y8, y9, y10, sm_wp_some, sm_wp_none, sm_at, sm_get, sm_fld, sm_pfl, sm_cN, sm_ai, sm_al, sm_si, sm_slg, sm_aa, List.getElem?_cons_zero, List.getElem?_cons_succ, List.set_cons_zero, List.set_cons_succ, List.length_cons, List.length_nil, Option.toList_some, Option.toList_none, List.cons_append, List.nil_append, if_true, if_false, true_and, and_true, Option.some.injEq, gs_o, gs_s, List.length_set, hS.1, pk_us, Nat.reduceLT, Nat.reduceLeDiff, Nat.reduceSub, Nat.reduceEqDiff, Nat.reduceAdd, Int32.reduceLT, Int32.reduceLE, Int32.reduceAdd, Int32.reduceSub, Int32.reduceToNatClampNeg, reduceIte, reduceCtorEq, Nat.lt_irrefl]
    exact put_k hR h4 h8 (Nat.le_refl 1) hn (fun w' h => by
      simp (decide := true) only [r37_210, r37_211, r37_212, r37_213, r37_215, r37_218, r41_112, r41_113, r41_114, r41_117, r41_120, r41_121, r41_124, r41_125, r41_128, r41_131, r41_132, r41_135, r41_136, r41_137, r41_140, r41_143, r41_144, r41_145, r41_148, r41_149, r41_150, r41_153, r41_156, r41_157, Option.toList_some, List.cons_append, List.nil_append]
      exact hQ w' h)
  · have e5 : s_do S t a y ys x xs 28 = (3, S) := if_neg e
    rw [e5] at hQ
    by_cases e0 : y < t
    · have y0 : ¬ nI t ≤ nI y := nI_ge e0 (by omega)
      have y11 : ¬ (y < S 10 1 ∧ S 4 y ≠ 3) := fun q => e ⟨e0, q.2⟩
      simp (decide := true) only [r37_210, r37_211, r37_212, r37_213, r37_215, r37_218, r41_112, r41_113, r41_114, r41_117, r41_120, r41_121, r41_124, r41_125, r41_128, r41_131, r41_132, r41_135, r41_136, r41_137, r41_140, r41_143, r41_144, r41_145, r41_148, r41_149, r41_150, r41_153, r41_156, r41_157, g4, g6, g7, g1, z1, z2, z3, z4, z5, z6, z7, z8, z9, z10, z11, z12, z13, z14, z15, z16, z17, z18, z19, hq, sh1 hS, sh2 hS, sh3 hS, sh8 hS, sh45 hS, sh46 hS, sh55 hS, sh56 hS, hc_C hS hGr h4 hy, if_neg y11, y0, sm_wp_some, sm_wp_none, sm_at, sm_get, sm_fld, sm_pfl, sm_cN, sm_ai, sm_al, sm_si, sm_slg, sm_aa, List.getElem?_cons_zero, List.getElem?_cons_succ, List.set_cons_zero, List.set_cons_succ, List.length_cons, List.length_nil, Option.toList_some, Option.toList_none, List.cons_append, List.nil_append, if_true, if_false, true_and, and_true, Option.some.injEq, gs_o, gs_s, List.length_set, hS.1, pk_us, Nat.reduceLT, Nat.reduceLeDiff, Nat.reduceSub, Nat.reduceEqDiff, Nat.reduceAdd, Int32.reduceLT, Int32.reduceLE, Int32.reduceAdd, Int32.reduceSub, Int32.reduceToNatClampNeg, reduceIte, reduceCtorEq, Nat.lt_irrefl]
      exact hQ w ⟨FrC.rf w, fun h => absurd h (by omega), hR.rf⟩
    · have y0 : nI t ≤ nI y := nI_le (by omega) hy
      simp (decide := true) only [r37_210, r37_211, r37_212, r37_213, r37_215, r37_218, r41_112, r41_113, r41_114, r41_117, r41_120, r41_121, r41_124, r41_125, r41_128, r41_131, r41_132, r41_135, r41_136, r41_137, r41_140, r41_143, r41_144, r41_145, r41_148, r41_149, r41_150, r41_153, r41_156, r41_157, g4, g6, g7, g1, z1, z2, z3, z4, z5, z6, z7, z8, z9, z10, z11, z12, z13, z14, z15, z16, z17, z18, z19, hq, sh1 hS, sh2 hS, sh3 hS, sh8 hS, sh45 hS, sh46 hS, sh55 hS, sh56 hS, y0, sm_wp_some, sm_wp_none, sm_at, sm_get, sm_fld, sm_pfl, sm_cN, sm_ai, sm_al, sm_si, sm_slg, sm_aa, List.getElem?_cons_zero, List.getElem?_cons_succ, List.set_cons_zero, List.set_cons_succ, List.length_cons, List.length_nil, Option.toList_some, Option.toList_none, List.cons_append, List.nil_append, if_true, if_false, true_and, and_true, Option.some.injEq, gs_o, gs_s, List.length_set, hS.1, pk_us, Nat.reduceLT, Nat.reduceLeDiff, Nat.reduceSub, Nat.reduceEqDiff, Nat.reduceAdd, Int32.reduceLT, Int32.reduceLE, Int32.reduceAdd, Int32.reduceSub, Int32.reduceToNatClampNeg, reduceIte, reduceCtorEq, Nat.lt_irrefl]
      exact hQ w ⟨FrC.rf w, fun h => absurd h (by omega), hR.rf⟩
theorem bc_29 {X : sm_X} {w : sm_W} {Q : Option Value → sm_W → Prop} {S : sm_S} {T t a y ys x xs : Nat} (hR : RnC w (s_up S 14 0 (S 14 0 - 1)) t (S 14 1 + 1)) (hB : RnB T S t) (hn : 1 ≤ S 14 0) (hy : y < 2 ^ 31) (hf : True) (hQ : ∀ w', AfC w w' t (s_do S t a y ys x xs 29) → Q (some (.int (nI (s_do S t a y ys x xs 29).1))) w') : sm_R X 37 17 [.ref 155, .ref 29, .int (nI a), .int (nI ys), .int (nI y)] [] w Q := by
  have hR' := hR
  have hB' := hB
  obtain ⟨hS, hBk, hPr, hGr, hSc, hSt, hMc, hq⟩ := hR'
  obtain ⟨bB, bP, bG, bS, ⟨ht, hk⟩, ⟨h8, hE⟩, hq32, h80, hcs, hst, hen, hT1, hT2, hT3⟩ := hB'
  have h4 : S 10 1 ≤ 4 := bG.1
  have hBk : BkC 1 w S := hBk
  have hPr : PrC w S := hPr
  have hGr : GrC w S := hGr
  have hSc : ScC w S := hSc
  have hMc : McC w S t := hMc
  have ht4 : t < 4 := by omega
  have gt := hGr.2 t ht
  have bt := bG.2 t ht
  have hp : S 6 t < 4 := bt.2.2.2.1 hk
  have g4 : wn w (47 + 2 * t) 4 = nI (S 6 t) := (gt.2.1 hk).2.1
  have g6 : wn w (47 + 2 * t) 6 = nI (S 7 t) := (gt.2.1 hk).2.2.2.1
  have g7 : wn w (47 + 2 * t) 7 = nI (S 8 t) := (gt.2.1 hk).2.2.2.2
  have g1 : wn w (47 + 2 * t) 1 = nI (S 5 t) := gt.2.2
  have z1 : wr w 55 7 = 147 + 2 * t := hMc.2.2.2.2.1
  have z2 : ¬ (147 + 2 * t < 100) := by omega
  have z3 : 147 + 2 * t - 100 = 47 + 2 * t := by omega
  have z4 := shTr hS ht4
  have z5 : ¬ (148 + 2 * t < 100) := by omega
  have z6 : 148 + 2 * t - 100 = 48 + 2 * t := by omega
  have z7 := shSc hS ht4
  have z8 : sm_in (nI (S 6 t)) 4 = true := sm_in_nI hp (by decide)
  have z9 : (nI (S 6 t)).toNatClampNeg = S 6 t := nI_clamp (by omega)
  have z10 := zr3_p hp
  have z11 : ¬ (104 + S 6 t < 100) := by omega
  have z12 : 104 + S 6 t - 100 = 4 + S 6 t := by omega
  have z13 := shGl hS hp
  have z14 := zr8_p hp
  have z15 : ¬ (109 + S 6 t < 100) := by omega
  have z16 : 109 + S 6 t - 100 = 9 + S 6 t := by omega
  have z17 := shLo hS hp
  have z18 : wn w 55 8 = nI t := hMc.2.2.2.2.2.1
  have z19 : wn w 45 1 = nI (S 10 1) := hGr.1
  have gl : ∀ a, a < 4 → wi w (4 + S 6 t) a = nI (S 0 (6 + S 6 t * 4 + a)) := fun a ha => by
    have := hBk.2.1 (S 6 t) hp a ha
    rw [show 1 + 3 + S 6 t = 4 + S 6 t by omega] at this
    exact this
  have lo : ∀ i, i < 12 → wi w (9 + S 6 t) i = nI (S 0 (46 + S 6 t * 12 + i)) := fun i hi => by
    have := hBk.2.2.2.1 (S 6 t) hp i hi
    rw [show 1 + 8 + S 6 t = 9 + S 6 t by omega] at this
    exact this
  have e1 : sm_enF 9 0 29 = some 29 := rfl
  have e2 : sm_ai 29 (some (.inl (0, 31, .inl sm_swm))) = some 16 := rfl
  have e3 : sm_sw (Int32.toInt 16) 9 [76, 95, 117, 136, 147, 163, 184, 197, 208] 210 = 197 := by decide
  simp (decide := true) only [r37_17, r37_20, r37_21, r37_24, r37_25, r35_0, r35_1, r35_4, g97, e1, e2, e3, sm_wp_some, sm_cN, sm_at, sh55 hS, Option.toList_some, List.cons_append, List.nil_append, Nat.reduceSub, if_false, true_and]
  have l5 : wn w 1 5 = nI (S 10 0) := hBk.2.2.2.2.1
  simp (decide := true) only [r37_197, r37_198, r37_201, r37_203, r37_206, r37_207, g4, g6, g7, g1, z1, z2, z3, z4, z5, z6, z7, z8, z9, z10, z11, z12, z13, z14, z15, z16, z17, z18, z19, hq, sh1 hS, sh2 hS, sh3 hS, sh8 hS, sh45 hS, sh46 hS, sh55 hS, sh56 hS, al_C hS l5 (by omega : S 10 0 < 2 ^ 30), sm_wp_some, sm_wp_none, sm_at, sm_get, sm_fld, sm_pfl, sm_cN, sm_ai, sm_al, sm_si, sm_slg, sm_aa, List.getElem?_cons_zero, List.getElem?_cons_succ, List.set_cons_zero, List.set_cons_succ, List.length_cons, List.length_nil, Option.toList_some, Option.toList_none, List.cons_append, List.nil_append, if_true, if_false, true_and, and_true, Option.some.injEq, gs_o, gs_s, List.length_set, hS.1, pk_us, Nat.reduceLT, Nat.reduceLeDiff, Nat.reduceSub, Nat.reduceEqDiff, Nat.reduceAdd, Int32.reduceLT, Int32.reduceLE, Int32.reduceAdd, Int32.reduceSub, Int32.reduceToNatClampNeg, reduceIte, reduceCtorEq, Nat.lt_irrefl]
  have m := hR.log (v := y) h4
  exact hQ _ ⟨(FrC.set (by omega) (by omega) (by omega)).tr (FrC.set (by omega) (by omega) (by omega)), fun _ => m, m.rf⟩
theorem bc_30 {X : sm_X} {w : sm_W} {Q : Option Value → sm_W → Prop} {S : sm_S} {T t a y ys x xs : Nat} (hR : RnC w (s_up S 14 0 (S 14 0 - 1)) t (S 14 1 + 1)) (hB : RnB T S t) (hn : 1 ≤ S 14 0) (hy : y < 2 ^ 31) (hf : True) (hQ : ∀ w', AfC w w' t (s_do S t a y ys x xs 30) → Q (some (.int (nI (s_do S t a y ys x xs 30).1))) w') : sm_R X 37 17 [.ref 155, .ref 30, .int (nI a), .int (nI ys), .int (nI y)] [] w Q := by
  have hR' := hR
  have hB' := hB
  obtain ⟨hS, hBk, hPr, hGr, hSc, hSt, hMc, hq⟩ := hR'
  obtain ⟨bB, bP, bG, bS, ⟨ht, hk⟩, ⟨h8, hE⟩, hq32, h80, hcs, hst, hen, hT1, hT2, hT3⟩ := hB'
  have h4 : S 10 1 ≤ 4 := bG.1
  have hBk : BkC 1 w S := hBk
  have hPr : PrC w S := hPr
  have hGr : GrC w S := hGr
  have hSc : ScC w S := hSc
  have hMc : McC w S t := hMc
  have ht4 : t < 4 := by omega
  have gt := hGr.2 t ht
  have bt := bG.2 t ht
  have hp : S 6 t < 4 := bt.2.2.2.1 hk
  have g4 : wn w (47 + 2 * t) 4 = nI (S 6 t) := (gt.2.1 hk).2.1
  have g6 : wn w (47 + 2 * t) 6 = nI (S 7 t) := (gt.2.1 hk).2.2.2.1
  have g7 : wn w (47 + 2 * t) 7 = nI (S 8 t) := (gt.2.1 hk).2.2.2.2
  have g1 : wn w (47 + 2 * t) 1 = nI (S 5 t) := gt.2.2
  have z1 : wr w 55 7 = 147 + 2 * t := hMc.2.2.2.2.1
  have z2 : ¬ (147 + 2 * t < 100) := by omega
  have z3 : 147 + 2 * t - 100 = 47 + 2 * t := by omega
  have z4 := shTr hS ht4
  have z5 : ¬ (148 + 2 * t < 100) := by omega
  have z6 : 148 + 2 * t - 100 = 48 + 2 * t := by omega
  have z7 := shSc hS ht4
  have z8 : sm_in (nI (S 6 t)) 4 = true := sm_in_nI hp (by decide)
  have z9 : (nI (S 6 t)).toNatClampNeg = S 6 t := nI_clamp (by omega)
  have z10 := zr3_p hp
  have z11 : ¬ (104 + S 6 t < 100) := by omega
  have z12 : 104 + S 6 t - 100 = 4 + S 6 t := by omega
  have z13 := shGl hS hp
  have z14 := zr8_p hp
  have z15 : ¬ (109 + S 6 t < 100) := by omega
  have z16 : 109 + S 6 t - 100 = 9 + S 6 t := by omega
  have z17 := shLo hS hp
  have z18 : wn w 55 8 = nI t := hMc.2.2.2.2.2.1
  have z19 : wn w 45 1 = nI (S 10 1) := hGr.1
  have gl : ∀ a, a < 4 → wi w (4 + S 6 t) a = nI (S 0 (6 + S 6 t * 4 + a)) := fun a ha => by
    have := hBk.2.1 (S 6 t) hp a ha
    rw [show 1 + 3 + S 6 t = 4 + S 6 t by omega] at this
    exact this
  have lo : ∀ i, i < 12 → wi w (9 + S 6 t) i = nI (S 0 (46 + S 6 t * 12 + i)) := fun i hi => by
    have := hBk.2.2.2.1 (S 6 t) hp i hi
    rw [show 1 + 8 + S 6 t = 9 + S 6 t by omega] at this
    exact this
  have e1 : sm_enF 9 0 30 = some 30 := rfl
  have e2 : sm_ai 30 (some (.inl (0, 31, .inl sm_swm))) = some 13 := rfl
  have e3 : sm_sw (Int32.toInt 13) 9 [76, 95, 117, 136, 147, 163, 184, 197, 208] 210 = 147 := by decide
  simp (decide := true) only [r37_17, r37_20, r37_21, r37_24, r37_25, r35_0, r35_1, r35_4, g97, e1, e2, e3, sm_wp_some, sm_cN, sm_at, sh55 hS, Option.toList_some, List.cons_append, List.nil_append, Nat.reduceSub, if_false, true_and]
  have ha : nI y = 0 ↔ y = 0 := nI_z (by omega)
  by_cases e : y ≠ 0
  · have e5 : s_do S t a y ys x xs 30 = (0, s_up (s_tke S 1) 14 2 1) := if_pos e
    rw [e5] at hQ
    have ha' : ¬ nI y = 0 := fun q => e (ha.mp q)
    simp (decide := true) only [r37_147, r37_148, r37_149 (s0 := 0) (Or.inl rfl), r37_149 (s0 := 1) (Or.inr rfl), r37_152, r37_154, r37_157, r37_158, r37_161, r37_162, g4, g6, g7, g1, z1, z2, z3, z4, z5, z6, z7, z8, z9, z10, z11, z12, z13, z14, z15, z16, z17, z18, z19, hq, sh1 hS, sh2 hS, sh3 hS, sh8 hS, sh45 hS, sh46 hS, sh55 hS, sh56 hS, ha', sm_wp_some, sm_wp_none, sm_at, sm_get, sm_fld, sm_pfl, sm_cN, sm_ai, sm_al, sm_si, sm_slg, sm_aa, List.getElem?_cons_zero, List.getElem?_cons_succ, List.set_cons_zero, List.set_cons_succ, List.length_cons, List.length_nil, Option.toList_some, Option.toList_none, List.cons_append, List.nil_append, if_true, if_false, true_and, and_true, Option.some.injEq, gs_o, gs_s, List.length_set, hS.1, pk_us, Nat.reduceLT, Nat.reduceLeDiff, Nat.reduceSub, Nat.reduceEqDiff, Nat.reduceAdd, Int32.reduceLT, Int32.reduceLE, Int32.reduceAdd, Int32.reduceSub, Int32.reduceToNatClampNeg, reduceIte, reduceCtorEq, Nat.lt_irrefl]
    have m := RnC.m55 (S := s_up (s_tke S 1) 14 2 1) (t := t) (q := S 14 1 + 1) hS hBk hPr hGr hSc hSt h4 hMc.1 hMc.2.1 hMc.2.2.1 hMc.2.2.2.1 rfl rfl rfl rfl
    exact hQ _ ⟨FrC.set (by decide) (by decide) (by decide), fun _ => m, m.rf⟩
  · have e5 : s_do S t a y ys x xs 30 = (3, S) := if_neg e
    rw [e5] at hQ
    have ha' : nI y = 0 := ha.mpr (by omega)
    simp (decide := true) only [r37_147, r37_148, r37_149 (s0 := 0) (Or.inl rfl), r37_149 (s0 := 1) (Or.inr rfl), r37_152, r37_154, r37_157, r37_158, r37_161, r37_162, g4, g6, g7, g1, z1, z2, z3, z4, z5, z6, z7, z8, z9, z10, z11, z12, z13, z14, z15, z16, z17, z18, z19, hq, sh1 hS, sh2 hS, sh3 hS, sh8 hS, sh45 hS, sh46 hS, sh55 hS, sh56 hS, ha', sm_wp_some, sm_wp_none, sm_at, sm_get, sm_fld, sm_pfl, sm_cN, sm_ai, sm_al, sm_si, sm_slg, sm_aa, List.getElem?_cons_zero, List.getElem?_cons_succ, List.set_cons_zero, List.set_cons_succ, List.length_cons, List.length_nil, Option.toList_some, Option.toList_none, List.cons_append, List.nil_append, if_true, if_false, true_and, and_true, Option.some.injEq, gs_o, gs_s, List.length_set, hS.1, pk_us, Nat.reduceLT, Nat.reduceLeDiff, Nat.reduceSub, Nat.reduceEqDiff, Nat.reduceAdd, Int32.reduceLT, Int32.reduceLE, Int32.reduceAdd, Int32.reduceSub, Int32.reduceToNatClampNeg, reduceIte, reduceCtorEq, Nat.lt_irrefl]
    have m := RnC.m55 (S := s_up (s_tke S 1) 14 2 1) (t := t) (q := S 14 1 + 1) hS hBk hPr hGr hSc hSt h4 hMc.1 hMc.2.1 hMc.2.2.1 hMc.2.2.2.1 rfl rfl rfl rfl
    exact hQ _ ⟨FrC.set (by decide) (by decide) (by decide), fun h => absurd h (by omega), m.rf⟩
/-! LONG NUMBERS -/
theorem q_toInt {n : Nat} (h : n < 2 ^ 63) : (lN n).toInt = (n : Int) := by
  unfold lN
  exact Int64.toInt_ofNat_of_lt h
theorem q_mul (a b : Nat) : lN a * lN b = lN (a * b) := by
  unfold lN
  exact (Int64.ofNat_mul a b).symm
theorem q_sub {a b : Nat} (h : b ≤ a) : lN a - lN b = lN (a - b) := by
  unfold lN
  exact (Int64.ofNat_sub a b h).symm
theorem lN_sub_neg {a b : Nat} (ha : a < 2 ^ 31) (hb : b < 2 ^ 31) (h : a < b) : lN a - lN b < 0 := by
  rw [Int64.lt_iff_toInt_lt, Int64.toInt_sub, q_toInt (by omega), q_toInt (by omega)]
  have e : ((a : Int) - (b : Int)).bmod (2 ^ 64) = (a : Int) - b := by
    rw [Int.bmod_eq_of_le] <;> omega
  rw [e]
  show (a : Int) - b < 0
  omega
theorem lN_div {a b : Nat} (ha : a < 2 ^ 31) (hb : b < 2 ^ 31) : lN a / lN b = lN (a / b) := by
  apply Int64.toInt_inj.mp
  have e1 : a / b ≤ a := Nat.div_le_self a b
  rw [Int64.toInt_div, q_toInt (by omega), q_toInt (by omega), q_toInt (by omega)]
  have e : Int.tdiv (a : Int) (b : Int) = ((a / b : Nat) : Int) := rfl
  rw [e]
  generalize a / b = d at e1
  rw [Int.bmod_eq_of_le] <;> omega
theorem lc_neg {x : Int64} (h : x < 0) : lg_cmp x 0 = -1 := by
  unfold lg_cmp
  have h1 : ¬ x > 0 := by
    rw [gt_iff_lt, Int64.lt_iff_toInt_lt]
    rw [Int64.lt_iff_toInt_lt] at h
    omega
  have h2 : ¬ x = 0 := by
    intro e
    subst e
    exact absurd h (by decide)
  rw [if_neg h1, if_neg h2]
theorem lc_max {n : Nat} (h : n < 2 ^ 63) : 0 < lg_cmp (lN n) 2147483647 ↔ 2147483647 < n := by
  have e := lc_v (b := 2147483647) h (by decide)
  have e2 : (2147483647 : Int64) = lN 2147483647 := rfl
  rw [e2, e]
  by_cases c : 2147483647 < n
  · rw [if_pos c]
    exact ⟨fun _ => c, fun _ => by decide⟩
  · rw [if_neg c]
    refine ⟨fun q => ?_, fun q => absurd q c⟩
    split at q <;> exact absurd q (by decide)
theorem lc_nn {n : Nat} (h : n < 2 ^ 63) : ¬ lg_cmp (lN n) 0 < 0 := by
  exact fun q => Nat.not_lt_zero n ((lc_lt (b := 0) h (by decide)).mp q)
theorem lc_z0 {n : Nat} (h : n < 2 ^ 63) : lg_cmp (lN n) 0 = 0 ↔ n = 0 := lc_eq (b := 0) h (by decide)
/-! ACTS of the class that take two (gen/n6.py) -/
theorem tc_8 {X : sm_X} {w : sm_W} {Q : Option Value → sm_W → Prop} {S : sm_S} {T t a y ys x xs : Nat} (hR : RnC w (s_up S 14 0 (S 14 0 - 2)) t (S 14 1 + 1)) (hB : RnB T S t) (hn : 2 ≤ S 14 0) (hx : x < 2 ^ 31) (hy : y < 2 ^ 31) (hf : True) (hQ : ∀ w', AfC w w' t (s_do S t a y ys x xs 8) → Q (some (.int (nI (s_do S t a y ys x xs 8).1))) w') : sm_R X 44 35 [.ref 155, .ref 8, .int (nI a), .int (nI ys), .int (nI y), .int (nI xs), .int (nI x)] [] w Q := by
  have hR' := hR
  have hB' := hB
  obtain ⟨hS, hBk, hPr, hGr, hSc, hSt, hMc, hq⟩ := hR'
  obtain ⟨bB, bP, bG, bS, ⟨ht, hk⟩, ⟨h8, hE⟩, hq32, h80, hcs, hst, hen, hT1, hT2, hT3⟩ := hB'
  have h4 : S 10 1 ≤ 4 := bG.1
  have hBk : BkC 1 w S := hBk
  have hPr : PrC w S := hPr
  have hGr : GrC w S := hGr
  have hSc : ScC w S := hSc
  have hMc : McC w S t := hMc
  have ht4 : t < 4 := by omega
  have gt := hGr.2 t ht
  have bt := bG.2 t ht
  have hp : S 6 t < 4 := bt.2.2.2.1 hk
  have g4 : wn w (47 + 2 * t) 4 = nI (S 6 t) := (gt.2.1 hk).2.1
  have g6 : wn w (47 + 2 * t) 6 = nI (S 7 t) := (gt.2.1 hk).2.2.2.1
  have g7 : wn w (47 + 2 * t) 7 = nI (S 8 t) := (gt.2.1 hk).2.2.2.2
  have g1 : wn w (47 + 2 * t) 1 = nI (S 5 t) := gt.2.2
  have z1 : wr w 55 7 = 147 + 2 * t := hMc.2.2.2.2.1
  have z2 : ¬ (147 + 2 * t < 100) := by omega
  have z3 : 147 + 2 * t - 100 = 47 + 2 * t := by omega
  have z4 := shTr hS ht4
  have z5 : ¬ (148 + 2 * t < 100) := by omega
  have z6 : 148 + 2 * t - 100 = 48 + 2 * t := by omega
  have z7 := shSc hS ht4
  have z8 : sm_in (nI (S 6 t)) 4 = true := sm_in_nI hp (by decide)
  have z9 : (nI (S 6 t)).toNatClampNeg = S 6 t := nI_clamp (by omega)
  have z10 := zr3_p hp
  have z11 : ¬ (104 + S 6 t < 100) := by omega
  have z12 : 104 + S 6 t - 100 = 4 + S 6 t := by omega
  have z13 := shGl hS hp
  have z14 := zr8_p hp
  have z15 : ¬ (109 + S 6 t < 100) := by omega
  have z16 : 109 + S 6 t - 100 = 9 + S 6 t := by omega
  have z17 := shLo hS hp
  have z18 : wn w 55 8 = nI t := hMc.2.2.2.2.2.1
  have z19 : wn w 45 1 = nI (S 10 1) := hGr.1
  have gl : ∀ a, a < 4 → wi w (4 + S 6 t) a = nI (S 0 (6 + S 6 t * 4 + a)) := fun a ha => by
    have := hBk.2.1 (S 6 t) hp a ha
    rw [show 1 + 3 + S 6 t = 4 + S 6 t by omega] at this
    exact this
  have lo : ∀ i, i < 12 → wi w (9 + S 6 t) i = nI (S 0 (46 + S 6 t * 12 + i)) := fun i hi => by
    have := hBk.2.2.2.1 (S 6 t) hp i hi
    rw [show 1 + 8 + S 6 t = 9 + S 6 t by omega] at this
    exact this
  have e1 : sm_enF 9 0 8 = some 8 := rfl
  have e2 : sm_ai 8 (some (.inl (0, 31, .inl sm_swm))) = some 26 := rfl
  have e3 : sm_sw (Int32.toInt 26) 22 [72, 93, 120, 143] 153 = 153 := by decide
  simp (decide := true) only [r44_35, r44_38, r44_39, r44_42, r44_43, r35_0, r35_1, r35_4, g97, e1, e2, e3, sm_wp_some, Option.toList_some, List.cons_append, List.nil_append]
  have e4 : sm_sw (Int32.toInt 26) 26 [52, 61, 70] 79 = 52 := by decide
  have l1 : (nI x).toInt64 = lN x := nI_l hx
  have l2 : (nI y).toInt64 = lN y := nI_l hy
  by_cases e : x + y ≤ 2147483647
  · have e5 : s_do S t a y ys x xs 8 = (0, s_psh S 2 1 (x + y)) := if_pos e
    rw [e5] at hQ
    have bx : x + y < 2 ^ 63 := by omega
    have l3 : lN x + lN y = lN (x + y) := lN_add x y
    have l4 := lc_nn bx
    have l6 : (lN (x + y)).toInt32 = nI (x + y) := lN_i _
    have l5 : ¬ 0 < lg_cmp (lN (x + y)) 2147483647 := fun q => absurd ((lc_max bx).mp q) (by omega)
    simp (decide := true) only [r44_153, r44_154, r44_155, r44_157, r44_158, r44_160, r44_161, r44_164, r46_0, r46_1, r46_4, r46_7, r46_9, r46_10, r46_11, r46_14, r46_15, r46_16, r46_19, r46_20, r46_23, r46_24, r35_0, r35_1, r35_4, g97, e1, e2, e4, l1, l2, g4, g6, g7, g1, z1, z2, z3, z4, z5, z6, z7, z8, z9, z10, z11, z12, z13, z14, z15, z16, z17, z18, z19, hq, sh1 hS, sh3 hS, sh8 hS, sh45 hS, sh55 hS, sh56 hS, sm_wp_some, sm_wp_none, sm_at, sm_fld, sm_pfl, sm_cN, sm_al, sm_si, sm_slg, sm_aa, List.getElem?_cons_zero, List.getElem?_cons_succ, List.set_cons_zero, List.set_cons_succ, List.length_cons, List.length_nil, Option.toList_some, Option.toList_none, List.cons_append, List.nil_append, if_true, if_false, true_and, and_true, Option.some.injEq, gs_o, gs_s, List.length_set, hS.1, pk_us, Nat.reduceLT, Nat.reduceLeDiff, Nat.reduceSub, Nat.reduceEqDiff, Nat.reduceAdd, Int32.reduceLT, Int32.reduceLE, Int32.reduceAdd, Int32.reduceSub, Int32.reduceToNatClampNeg, reduceIte, reduceCtorEq, Nat.lt_irrefl]
    simp (decide := true) only [r46_52, r46_53, r46_55, r46_56, r46_58, r46_61, r46_62, r46_64, r46_65, r46_67, r46_70, r46_71, r46_73, r46_74, r46_76, r46_79, r46_80, r46_82, r46_83, r46_85, r46_87, r46_88, r46_89, r46_92, r46_94, r46_97, r46_98, r46_101, r46_102, r46_105, r46_106, r46_108, r46_110, r46_113, r46_114, r46_117, r46_118, r46_120, r46_121, r46_124, r46_127, r46_128, r44_164, l3, l4, l5, l6, g4, g6, g7, g1, z1, z2, z3, z4, z5, z6, z7, z8, z9, z10, z11, z12, z13, z14, z15, z16, z17, z18, z19, hq, sh1 hS, sh3 hS, sh8 hS, sh45 hS, sh55 hS, sh56 hS, sm_wp_some, sm_wp_none, sm_at, sm_get, sm_fld, sm_pfl, sm_cN, sm_ai, sm_al, sm_si, sm_slg, sm_aa, List.getElem?_cons_zero, List.getElem?_cons_succ, List.set_cons_zero, List.set_cons_succ, List.length_cons, List.length_nil, Option.toList_some, Option.toList_none, List.cons_append, List.nil_append, if_true, if_false, true_and, and_true, Option.some.injEq, gs_o, gs_s, List.length_set, hS.1, pk_us, Nat.reduceLT, Nat.reduceLeDiff, Nat.reduceSub, Nat.reduceEqDiff, Nat.reduceAdd, Int32.reduceLT, Int32.reduceLE, Int32.reduceAdd, Int32.reduceSub, Int32.reduceToNatClampNeg, reduceIte, reduceCtorEq, Nat.lt_irrefl]
    exact put_k hR h4 h8 (by decide) hn (fun w' h => by
      simp (decide := true) only [r46_121, r46_124, r46_127, r46_128, r44_153, r44_154, r44_155, r44_157, r44_158, r44_160, r44_161, r44_164, Option.toList_some, List.cons_append, List.nil_append]
      exact hQ w' h)
  · have e5 : s_do S t a y ys x xs 8 = (3, S) := if_neg e
    rw [e5] at hQ
    have bx : x + y < 2 ^ 63 := by omega
    have l3 : lN x + lN y = lN (x + y) := lN_add x y
    have l4 := lc_nn bx
    have l6 : (lN (x + y)).toInt32 = nI (x + y) := lN_i _
    have l5 := (lc_max bx).mpr (by omega)
    simp (decide := true) only [r44_153, r44_154, r44_155, r44_157, r44_158, r44_160, r44_161, r44_164, r46_0, r46_1, r46_4, r46_7, r46_9, r46_10, r46_11, r46_14, r46_15, r46_16, r46_19, r46_20, r46_23, r46_24, r35_0, r35_1, r35_4, g97, e1, e2, e4, l1, l2, g4, g6, g7, g1, z1, z2, z3, z4, z5, z6, z7, z8, z9, z10, z11, z12, z13, z14, z15, z16, z17, z18, z19, hq, sh1 hS, sh3 hS, sh8 hS, sh45 hS, sh55 hS, sh56 hS, sm_wp_some, sm_wp_none, sm_at, sm_fld, sm_pfl, sm_cN, sm_al, sm_si, sm_slg, sm_aa, List.getElem?_cons_zero, List.getElem?_cons_succ, List.set_cons_zero, List.set_cons_succ, List.length_cons, List.length_nil, Option.toList_some, Option.toList_none, List.cons_append, List.nil_append, if_true, if_false, true_and, and_true, Option.some.injEq, gs_o, gs_s, List.length_set, hS.1, pk_us, Nat.reduceLT, Nat.reduceLeDiff, Nat.reduceSub, Nat.reduceEqDiff, Nat.reduceAdd, Int32.reduceLT, Int32.reduceLE, Int32.reduceAdd, Int32.reduceSub, Int32.reduceToNatClampNeg, reduceIte, reduceCtorEq, Nat.lt_irrefl]
    simp (decide := true) only [r46_52, r46_53, r46_55, r46_56, r46_58, r46_61, r46_62, r46_64, r46_65, r46_67, r46_70, r46_71, r46_73, r46_74, r46_76, r46_79, r46_80, r46_82, r46_83, r46_85, r46_87, r46_88, r46_89, r46_92, r46_94, r46_97, r46_98, r46_101, r46_102, r46_105, r46_106, r46_108, r46_110, r46_113, r46_114, r46_117, r46_118, r46_120, r46_121, r46_124, r46_127, r46_128, r44_164, l3, l4, l5, g4, g6, g7, g1, z1, z2, z3, z4, z5, z6, z7, z8, z9, z10, z11, z12, z13, z14, z15, z16, z17, z18, z19, hq, sh1 hS, sh3 hS, sh8 hS, sh45 hS, sh55 hS, sh56 hS, sm_wp_some, sm_wp_none, sm_at, sm_get, sm_fld, sm_pfl, sm_cN, sm_ai, sm_al, sm_si, sm_slg, sm_aa, List.getElem?_cons_zero, List.getElem?_cons_succ, List.set_cons_zero, List.set_cons_succ, List.length_cons, List.length_nil, Option.toList_some, Option.toList_none, List.cons_append, List.nil_append, if_true, if_false, true_and, and_true, Option.some.injEq, gs_o, gs_s, List.length_set, hS.1, pk_us, Nat.reduceLT, Nat.reduceLeDiff, Nat.reduceSub, Nat.reduceEqDiff, Nat.reduceAdd, Int32.reduceLT, Int32.reduceLE, Int32.reduceAdd, Int32.reduceSub, Int32.reduceToNatClampNeg, reduceIte, reduceCtorEq, Nat.lt_irrefl]
    exact hQ w ⟨FrC.rf w, fun h => absurd h (by omega), hR.rf⟩
theorem tc_9 {X : sm_X} {w : sm_W} {Q : Option Value → sm_W → Prop} {S : sm_S} {T t a y ys x xs : Nat} (hR : RnC w (s_up S 14 0 (S 14 0 - 2)) t (S 14 1 + 1)) (hB : RnB T S t) (hn : 2 ≤ S 14 0) (hx : x < 2 ^ 31) (hy : y < 2 ^ 31) (hf : True) (hQ : ∀ w', AfC w w' t (s_do S t a y ys x xs 9) → Q (some (.int (nI (s_do S t a y ys x xs 9).1))) w') : sm_R X 44 35 [.ref 155, .ref 9, .int (nI a), .int (nI ys), .int (nI y), .int (nI xs), .int (nI x)] [] w Q := by
  have hR' := hR
  have hB' := hB
  obtain ⟨hS, hBk, hPr, hGr, hSc, hSt, hMc, hq⟩ := hR'
  obtain ⟨bB, bP, bG, bS, ⟨ht, hk⟩, ⟨h8, hE⟩, hq32, h80, hcs, hst, hen, hT1, hT2, hT3⟩ := hB'
  have h4 : S 10 1 ≤ 4 := bG.1
  have hBk : BkC 1 w S := hBk
  have hPr : PrC w S := hPr
  have hGr : GrC w S := hGr
  have hSc : ScC w S := hSc
  have hMc : McC w S t := hMc
  have ht4 : t < 4 := by omega
  have gt := hGr.2 t ht
  have bt := bG.2 t ht
  have hp : S 6 t < 4 := bt.2.2.2.1 hk
  have g4 : wn w (47 + 2 * t) 4 = nI (S 6 t) := (gt.2.1 hk).2.1
  have g6 : wn w (47 + 2 * t) 6 = nI (S 7 t) := (gt.2.1 hk).2.2.2.1
  have g7 : wn w (47 + 2 * t) 7 = nI (S 8 t) := (gt.2.1 hk).2.2.2.2
  have g1 : wn w (47 + 2 * t) 1 = nI (S 5 t) := gt.2.2
  have z1 : wr w 55 7 = 147 + 2 * t := hMc.2.2.2.2.1
  have z2 : ¬ (147 + 2 * t < 100) := by omega
  have z3 : 147 + 2 * t - 100 = 47 + 2 * t := by omega
  have z4 := shTr hS ht4
  have z5 : ¬ (148 + 2 * t < 100) := by omega
  have z6 : 148 + 2 * t - 100 = 48 + 2 * t := by omega
  have z7 := shSc hS ht4
  have z8 : sm_in (nI (S 6 t)) 4 = true := sm_in_nI hp (by decide)
  have z9 : (nI (S 6 t)).toNatClampNeg = S 6 t := nI_clamp (by omega)
  have z10 := zr3_p hp
  have z11 : ¬ (104 + S 6 t < 100) := by omega
  have z12 : 104 + S 6 t - 100 = 4 + S 6 t := by omega
  have z13 := shGl hS hp
  have z14 := zr8_p hp
  have z15 : ¬ (109 + S 6 t < 100) := by omega
  have z16 : 109 + S 6 t - 100 = 9 + S 6 t := by omega
  have z17 := shLo hS hp
  have z18 : wn w 55 8 = nI t := hMc.2.2.2.2.2.1
  have z19 : wn w 45 1 = nI (S 10 1) := hGr.1
  have gl : ∀ a, a < 4 → wi w (4 + S 6 t) a = nI (S 0 (6 + S 6 t * 4 + a)) := fun a ha => by
    have := hBk.2.1 (S 6 t) hp a ha
    rw [show 1 + 3 + S 6 t = 4 + S 6 t by omega] at this
    exact this
  have lo : ∀ i, i < 12 → wi w (9 + S 6 t) i = nI (S 0 (46 + S 6 t * 12 + i)) := fun i hi => by
    have := hBk.2.2.2.1 (S 6 t) hp i hi
    rw [show 1 + 8 + S 6 t = 9 + S 6 t by omega] at this
    exact this
  have e1 : sm_enF 9 0 9 = some 9 := rfl
  have e2 : sm_ai 9 (some (.inl (0, 31, .inl sm_swm))) = some 27 := rfl
  have e3 : sm_sw (Int32.toInt 27) 22 [72, 93, 120, 143] 153 = 153 := by decide
  simp (decide := true) only [r44_35, r44_38, r44_39, r44_42, r44_43, r35_0, r35_1, r35_4, g97, e1, e2, e3, sm_wp_some, Option.toList_some, List.cons_append, List.nil_append]
  have e4 : sm_sw (Int32.toInt 27) 26 [52, 61, 70] 79 = 61 := by decide
  have l1 : (nI x).toInt64 = lN x := nI_l hx
  have l2 : (nI y).toInt64 = lN y := nI_l hy
  by_cases e : y ≤ x
  · have e5 : s_do S t a y ys x xs 9 = (0, s_psh S 2 1 (x - y)) := if_pos e
    rw [e5] at hQ
    have l3 : lN x - lN y = lN (x - y) := q_sub e
    have l4 := lc_nn (n := x - y) (by omega)
    have l5 : ¬ 0 < lg_cmp (lN (x - y)) 2147483647 := fun q => absurd ((lc_max (by omega)).mp q) (by omega)
    have l6 : (lN (x - y)).toInt32 = nI (x - y) := lN_i _
    simp (decide := true) only [r44_153, r44_154, r44_155, r44_157, r44_158, r44_160, r44_161, r44_164, r46_0, r46_1, r46_4, r46_7, r46_9, r46_10, r46_11, r46_14, r46_15, r46_16, r46_19, r46_20, r46_23, r46_24, r35_0, r35_1, r35_4, g97, e1, e2, e4, l1, l2, g4, g6, g7, g1, z1, z2, z3, z4, z5, z6, z7, z8, z9, z10, z11, z12, z13, z14, z15, z16, z17, z18, z19, hq, sh1 hS, sh3 hS, sh8 hS, sh45 hS, sh55 hS, sh56 hS, sm_wp_some, sm_wp_none, sm_at, sm_fld, sm_pfl, sm_cN, sm_al, sm_si, sm_slg, sm_aa, List.getElem?_cons_zero, List.getElem?_cons_succ, List.set_cons_zero, List.set_cons_succ, List.length_cons, List.length_nil, Option.toList_some, Option.toList_none, List.cons_append, List.nil_append, if_true, if_false, true_and, and_true, Option.some.injEq, gs_o, gs_s, List.length_set, hS.1, pk_us, Nat.reduceLT, Nat.reduceLeDiff, Nat.reduceSub, Nat.reduceEqDiff, Nat.reduceAdd, Int32.reduceLT, Int32.reduceLE, Int32.reduceAdd, Int32.reduceSub, Int32.reduceToNatClampNeg, reduceIte, reduceCtorEq, Nat.lt_irrefl]
    simp (decide := true) only [r46_52, r46_53, r46_55, r46_56, r46_58, r46_61, r46_62, r46_64, r46_65, r46_67, r46_70, r46_71, r46_73, r46_74, r46_76, r46_79, r46_80, r46_82, r46_83, r46_85, r46_87, r46_88, r46_89, r46_92, r46_94, r46_97, r46_98, r46_101, r46_102, r46_105, r46_106, r46_108, r46_110, r46_113, r46_114, r46_117, r46_118, r46_120, r46_121, r46_124, r46_127, r46_128, r44_164, l3, l4, l5, l6, g4, g6, g7, g1, z1, z2, z3, z4, z5, z6, z7, z8, z9, z10, z11, z12, z13, z14, z15, z16, z17, z18, z19, hq, sh1 hS, sh3 hS, sh8 hS, sh45 hS, sh55 hS, sh56 hS, sm_wp_some, sm_wp_none, sm_at, sm_get, sm_fld, sm_pfl, sm_cN, sm_ai, sm_al, sm_si, sm_slg, sm_aa, List.getElem?_cons_zero, List.getElem?_cons_succ, List.set_cons_zero, List.set_cons_succ, List.length_cons, List.length_nil, Option.toList_some, Option.toList_none, List.cons_append, List.nil_append, if_true, if_false, true_and, and_true, Option.some.injEq, gs_o, gs_s, List.length_set, hS.1, pk_us, Nat.reduceLT, Nat.reduceLeDiff, Nat.reduceSub, Nat.reduceEqDiff, Nat.reduceAdd, Int32.reduceLT, Int32.reduceLE, Int32.reduceAdd, Int32.reduceSub, Int32.reduceToNatClampNeg, reduceIte, reduceCtorEq, Nat.lt_irrefl]
    exact put_k hR h4 h8 (by decide) hn (fun w' h => by
      simp (decide := true) only [r46_121, r46_124, r46_127, r46_128, r44_153, r44_154, r44_155, r44_157, r44_158, r44_160, r44_161, r44_164, Option.toList_some, List.cons_append, List.nil_append]
      exact hQ w' h)
  · have e5 : s_do S t a y ys x xs 9 = (3, S) := if_neg e
    rw [e5] at hQ
    have l3 : lg_cmp (lN x - lN y) 0 = -1 := lc_neg (lN_sub_neg hx hy (by omega))
    simp (decide := true) only [r44_153, r44_154, r44_155, r44_157, r44_158, r44_160, r44_161, r44_164, r46_0, r46_1, r46_4, r46_7, r46_9, r46_10, r46_11, r46_14, r46_15, r46_16, r46_19, r46_20, r46_23, r46_24, r35_0, r35_1, r35_4, g97, e1, e2, e4, l1, l2, g4, g6, g7, g1, z1, z2, z3, z4, z5, z6, z7, z8, z9, z10, z11, z12, z13, z14, z15, z16, z17, z18, z19, hq, sh1 hS, sh3 hS, sh8 hS, sh45 hS, sh55 hS, sh56 hS, sm_wp_some, sm_wp_none, sm_at, sm_fld, sm_pfl, sm_cN, sm_al, sm_si, sm_slg, sm_aa, List.getElem?_cons_zero, List.getElem?_cons_succ, List.set_cons_zero, List.set_cons_succ, List.length_cons, List.length_nil, Option.toList_some, Option.toList_none, List.cons_append, List.nil_append, if_true, if_false, true_and, and_true, Option.some.injEq, gs_o, gs_s, List.length_set, hS.1, pk_us, Nat.reduceLT, Nat.reduceLeDiff, Nat.reduceSub, Nat.reduceEqDiff, Nat.reduceAdd, Int32.reduceLT, Int32.reduceLE, Int32.reduceAdd, Int32.reduceSub, Int32.reduceToNatClampNeg, reduceIte, reduceCtorEq, Nat.lt_irrefl]
    simp (decide := true) only [r46_52, r46_53, r46_55, r46_56, r46_58, r46_61, r46_62, r46_64, r46_65, r46_67, r46_70, r46_71, r46_73, r46_74, r46_76, r46_79, r46_80, r46_82, r46_83, r46_85, r46_87, r46_88, r46_89, r46_92, r46_94, r46_97, r46_98, r46_101, r46_102, r46_105, r46_106, r46_108, r46_110, r46_113, r46_114, r46_117, r46_118, r46_120, r46_121, r46_124, r46_127, r46_128, r44_164, l3, g4, g6, g7, g1, z1, z2, z3, z4, z5, z6, z7, z8, z9, z10, z11, z12, z13, z14, z15, z16, z17, z18, z19, hq, sh1 hS, sh3 hS, sh8 hS, sh45 hS, sh55 hS, sh56 hS, sm_wp_some, sm_wp_none, sm_at, sm_get, sm_fld, sm_pfl, sm_cN, sm_ai, sm_al, sm_si, sm_slg, sm_aa, List.getElem?_cons_zero, List.getElem?_cons_succ, List.set_cons_zero, List.set_cons_succ, List.length_cons, List.length_nil, Option.toList_some, Option.toList_none, List.cons_append, List.nil_append, if_true, if_false, true_and, and_true, Option.some.injEq, gs_o, gs_s, List.length_set, hS.1, pk_us, Nat.reduceLT, Nat.reduceLeDiff, Nat.reduceSub, Nat.reduceEqDiff, Nat.reduceAdd, Int32.reduceLT, Int32.reduceLE, Int32.reduceAdd, Int32.reduceSub, Int32.reduceToNatClampNeg, reduceIte, reduceCtorEq, Nat.lt_irrefl]
    exact hQ w ⟨FrC.rf w, fun h => absurd h (by omega), hR.rf⟩
theorem tc_10 {X : sm_X} {w : sm_W} {Q : Option Value → sm_W → Prop} {S : sm_S} {T t a y ys x xs : Nat} (hR : RnC w (s_up S 14 0 (S 14 0 - 2)) t (S 14 1 + 1)) (hB : RnB T S t) (hn : 2 ≤ S 14 0) (hx : x < 2 ^ 31) (hy : y < 2 ^ 31) (hf : True) (hQ : ∀ w', AfC w w' t (s_do S t a y ys x xs 10) → Q (some (.int (nI (s_do S t a y ys x xs 10).1))) w') : sm_R X 44 35 [.ref 155, .ref 10, .int (nI a), .int (nI ys), .int (nI y), .int (nI xs), .int (nI x)] [] w Q := by
  have hR' := hR
  have hB' := hB
  obtain ⟨hS, hBk, hPr, hGr, hSc, hSt, hMc, hq⟩ := hR'
  obtain ⟨bB, bP, bG, bS, ⟨ht, hk⟩, ⟨h8, hE⟩, hq32, h80, hcs, hst, hen, hT1, hT2, hT3⟩ := hB'
  have h4 : S 10 1 ≤ 4 := bG.1
  have hBk : BkC 1 w S := hBk
  have hPr : PrC w S := hPr
  have hGr : GrC w S := hGr
  have hSc : ScC w S := hSc
  have hMc : McC w S t := hMc
  have ht4 : t < 4 := by omega
  have gt := hGr.2 t ht
  have bt := bG.2 t ht
  have hp : S 6 t < 4 := bt.2.2.2.1 hk
  have g4 : wn w (47 + 2 * t) 4 = nI (S 6 t) := (gt.2.1 hk).2.1
  have g6 : wn w (47 + 2 * t) 6 = nI (S 7 t) := (gt.2.1 hk).2.2.2.1
  have g7 : wn w (47 + 2 * t) 7 = nI (S 8 t) := (gt.2.1 hk).2.2.2.2
  have g1 : wn w (47 + 2 * t) 1 = nI (S 5 t) := gt.2.2
  have z1 : wr w 55 7 = 147 + 2 * t := hMc.2.2.2.2.1
  have z2 : ¬ (147 + 2 * t < 100) := by omega
  have z3 : 147 + 2 * t - 100 = 47 + 2 * t := by omega
  have z4 := shTr hS ht4
  have z5 : ¬ (148 + 2 * t < 100) := by omega
  have z6 : 148 + 2 * t - 100 = 48 + 2 * t := by omega
  have z7 := shSc hS ht4
  have z8 : sm_in (nI (S 6 t)) 4 = true := sm_in_nI hp (by decide)
  have z9 : (nI (S 6 t)).toNatClampNeg = S 6 t := nI_clamp (by omega)
  have z10 := zr3_p hp
  have z11 : ¬ (104 + S 6 t < 100) := by omega
  have z12 : 104 + S 6 t - 100 = 4 + S 6 t := by omega
  have z13 := shGl hS hp
  have z14 := zr8_p hp
  have z15 : ¬ (109 + S 6 t < 100) := by omega
  have z16 : 109 + S 6 t - 100 = 9 + S 6 t := by omega
  have z17 := shLo hS hp
  have z18 : wn w 55 8 = nI t := hMc.2.2.2.2.2.1
  have z19 : wn w 45 1 = nI (S 10 1) := hGr.1
  have gl : ∀ a, a < 4 → wi w (4 + S 6 t) a = nI (S 0 (6 + S 6 t * 4 + a)) := fun a ha => by
    have := hBk.2.1 (S 6 t) hp a ha
    rw [show 1 + 3 + S 6 t = 4 + S 6 t by omega] at this
    exact this
  have lo : ∀ i, i < 12 → wi w (9 + S 6 t) i = nI (S 0 (46 + S 6 t * 12 + i)) := fun i hi => by
    have := hBk.2.2.2.1 (S 6 t) hp i hi
    rw [show 1 + 8 + S 6 t = 9 + S 6 t by omega] at this
    exact this
  have e1 : sm_enF 9 0 10 = some 10 := rfl
  have e2 : sm_ai 10 (some (.inl (0, 31, .inl sm_swm))) = some 28 := rfl
  have e3 : sm_sw (Int32.toInt 28) 22 [72, 93, 120, 143] 153 = 153 := by decide
  simp (decide := true) only [r44_35, r44_38, r44_39, r44_42, r44_43, r35_0, r35_1, r35_4, g97, e1, e2, e3, sm_wp_some, Option.toList_some, List.cons_append, List.nil_append]
  have e4 : sm_sw (Int32.toInt 28) 26 [52, 61, 70] 79 = 70 := by decide
  have l1 : (nI x).toInt64 = lN x := nI_l hx
  have l2 : (nI y).toInt64 = lN y := nI_l hy
  by_cases e : x * y ≤ 2147483647
  · have e5 : s_do S t a y ys x xs 10 = (0, s_psh S 2 1 (x * y)) := if_pos e
    rw [e5] at hQ
    have bx : x * y < 2 ^ 63 := Nat.lt_of_lt_of_le (Nat.mul_lt_mul'' hx hy) (by decide)
    have l3 : lN x * lN y = lN (x * y) := q_mul x y
    have l4 := lc_nn bx
    have l6 : (lN (x * y)).toInt32 = nI (x * y) := lN_i _
    have l5 : ¬ 0 < lg_cmp (lN (x * y)) 2147483647 := fun q => absurd ((lc_max bx).mp q) (by omega)
    simp (decide := true) only [r44_153, r44_154, r44_155, r44_157, r44_158, r44_160, r44_161, r44_164, r46_0, r46_1, r46_4, r46_7, r46_9, r46_10, r46_11, r46_14, r46_15, r46_16, r46_19, r46_20, r46_23, r46_24, r35_0, r35_1, r35_4, g97, e1, e2, e4, l1, l2, g4, g6, g7, g1, z1, z2, z3, z4, z5, z6, z7, z8, z9, z10, z11, z12, z13, z14, z15, z16, z17, z18, z19, hq, sh1 hS, sh3 hS, sh8 hS, sh45 hS, sh55 hS, sh56 hS, sm_wp_some, sm_wp_none, sm_at, sm_fld, sm_pfl, sm_cN, sm_al, sm_si, sm_slg, sm_aa, List.getElem?_cons_zero, List.getElem?_cons_succ, List.set_cons_zero, List.set_cons_succ, List.length_cons, List.length_nil, Option.toList_some, Option.toList_none, List.cons_append, List.nil_append, if_true, if_false, true_and, and_true, Option.some.injEq, gs_o, gs_s, List.length_set, hS.1, pk_us, Nat.reduceLT, Nat.reduceLeDiff, Nat.reduceSub, Nat.reduceEqDiff, Nat.reduceAdd, Int32.reduceLT, Int32.reduceLE, Int32.reduceAdd, Int32.reduceSub, Int32.reduceToNatClampNeg, reduceIte, reduceCtorEq, Nat.lt_irrefl]
    simp (decide := true) only [r46_52, r46_53, r46_55, r46_56, r46_58, r46_61, r46_62, r46_64, r46_65, r46_67, r46_70, r46_71, r46_73, r46_74, r46_76, r46_79, r46_80, r46_82, r46_83, r46_85, r46_87, r46_88, r46_89, r46_92, r46_94, r46_97, r46_98, r46_101, r46_102, r46_105, r46_106, r46_108, r46_110, r46_113, r46_114, r46_117, r46_118, r46_120, r46_121, r46_124, r46_127, r46_128, r44_164, l3, l4, l5, l6, g4, g6, g7, g1, z1, z2, z3, z4, z5, z6, z7, z8, z9, z10, z11, z12, z13, z14, z15, z16, z17, z18, z19, hq, sh1 hS, sh3 hS, sh8 hS, sh45 hS, sh55 hS, sh56 hS, sm_wp_some, sm_wp_none, sm_at, sm_get, sm_fld, sm_pfl, sm_cN, sm_ai, sm_al, sm_si, sm_slg, sm_aa, List.getElem?_cons_zero, List.getElem?_cons_succ, List.set_cons_zero, List.set_cons_succ, List.length_cons, List.length_nil, Option.toList_some, Option.toList_none, List.cons_append, List.nil_append, if_true, if_false, true_and, and_true, Option.some.injEq, gs_o, gs_s, List.length_set, hS.1, pk_us, Nat.reduceLT, Nat.reduceLeDiff, Nat.reduceSub, Nat.reduceEqDiff, Nat.reduceAdd, Int32.reduceLT, Int32.reduceLE, Int32.reduceAdd, Int32.reduceSub, Int32.reduceToNatClampNeg, reduceIte, reduceCtorEq, Nat.lt_irrefl]
    exact put_k hR h4 h8 (by decide) hn (fun w' h => by
      simp (decide := true) only [r46_121, r46_124, r46_127, r46_128, r44_153, r44_154, r44_155, r44_157, r44_158, r44_160, r44_161, r44_164, Option.toList_some, List.cons_append, List.nil_append]
      exact hQ w' h)
  · have e5 : s_do S t a y ys x xs 10 = (3, S) := if_neg e
    rw [e5] at hQ
    have bx : x * y < 2 ^ 63 := Nat.lt_of_lt_of_le (Nat.mul_lt_mul'' hx hy) (by decide)
    have l3 : lN x * lN y = lN (x * y) := q_mul x y
    have l4 := lc_nn bx
    have l6 : (lN (x * y)).toInt32 = nI (x * y) := lN_i _
    have l5 := (lc_max bx).mpr (by omega)
    simp (decide := true) only [r44_153, r44_154, r44_155, r44_157, r44_158, r44_160, r44_161, r44_164, r46_0, r46_1, r46_4, r46_7, r46_9, r46_10, r46_11, r46_14, r46_15, r46_16, r46_19, r46_20, r46_23, r46_24, r35_0, r35_1, r35_4, g97, e1, e2, e4, l1, l2, g4, g6, g7, g1, z1, z2, z3, z4, z5, z6, z7, z8, z9, z10, z11, z12, z13, z14, z15, z16, z17, z18, z19, hq, sh1 hS, sh3 hS, sh8 hS, sh45 hS, sh55 hS, sh56 hS, sm_wp_some, sm_wp_none, sm_at, sm_fld, sm_pfl, sm_cN, sm_al, sm_si, sm_slg, sm_aa, List.getElem?_cons_zero, List.getElem?_cons_succ, List.set_cons_zero, List.set_cons_succ, List.length_cons, List.length_nil, Option.toList_some, Option.toList_none, List.cons_append, List.nil_append, if_true, if_false, true_and, and_true, Option.some.injEq, gs_o, gs_s, List.length_set, hS.1, pk_us, Nat.reduceLT, Nat.reduceLeDiff, Nat.reduceSub, Nat.reduceEqDiff, Nat.reduceAdd, Int32.reduceLT, Int32.reduceLE, Int32.reduceAdd, Int32.reduceSub, Int32.reduceToNatClampNeg, reduceIte, reduceCtorEq, Nat.lt_irrefl]
    simp (decide := true) only [r46_52, r46_53, r46_55, r46_56, r46_58, r46_61, r46_62, r46_64, r46_65, r46_67, r46_70, r46_71, r46_73, r46_74, r46_76, r46_79, r46_80, r46_82, r46_83, r46_85, r46_87, r46_88, r46_89, r46_92, r46_94, r46_97, r46_98, r46_101, r46_102, r46_105, r46_106, r46_108, r46_110, r46_113, r46_114, r46_117, r46_118, r46_120, r46_121, r46_124, r46_127, r46_128, r44_164, l3, l4, l5, g4, g6, g7, g1, z1, z2, z3, z4, z5, z6, z7, z8, z9, z10, z11, z12, z13, z14, z15, z16, z17, z18, z19, hq, sh1 hS, sh3 hS, sh8 hS, sh45 hS, sh55 hS, sh56 hS, sm_wp_some, sm_wp_none, sm_at, sm_get, sm_fld, sm_pfl, sm_cN, sm_ai, sm_al, sm_si, sm_slg, sm_aa, List.getElem?_cons_zero, List.getElem?_cons_succ, List.set_cons_zero, List.set_cons_succ, List.length_cons, List.length_nil, Option.toList_some, Option.toList_none, List.cons_append, List.nil_append, if_true, if_false, true_and, and_true, Option.some.injEq, gs_o, gs_s, List.length_set, hS.1, pk_us, Nat.reduceLT, Nat.reduceLeDiff, Nat.reduceSub, Nat.reduceEqDiff, Nat.reduceAdd, Int32.reduceLT, Int32.reduceLE, Int32.reduceAdd, Int32.reduceSub, Int32.reduceToNatClampNeg, reduceIte, reduceCtorEq, Nat.lt_irrefl]
    exact hQ w ⟨FrC.rf w, fun h => absurd h (by omega), hR.rf⟩
theorem tc_11 {X : sm_X} {w : sm_W} {Q : Option Value → sm_W → Prop} {S : sm_S} {T t a y ys x xs : Nat} (hR : RnC w (s_up S 14 0 (S 14 0 - 2)) t (S 14 1 + 1)) (hB : RnB T S t) (hn : 2 ≤ S 14 0) (hx : x < 2 ^ 31) (hy : y < 2 ^ 31) (hf : True) (hQ : ∀ w', AfC w w' t (s_do S t a y ys x xs 11) → Q (some (.int (nI (s_do S t a y ys x xs 11).1))) w') : sm_R X 44 35 [.ref 155, .ref 11, .int (nI a), .int (nI ys), .int (nI y), .int (nI xs), .int (nI x)] [] w Q := by
  have hR' := hR
  have hB' := hB
  obtain ⟨hS, hBk, hPr, hGr, hSc, hSt, hMc, hq⟩ := hR'
  obtain ⟨bB, bP, bG, bS, ⟨ht, hk⟩, ⟨h8, hE⟩, hq32, h80, hcs, hst, hen, hT1, hT2, hT3⟩ := hB'
  have h4 : S 10 1 ≤ 4 := bG.1
  have hBk : BkC 1 w S := hBk
  have hPr : PrC w S := hPr
  have hGr : GrC w S := hGr
  have hSc : ScC w S := hSc
  have hMc : McC w S t := hMc
  have ht4 : t < 4 := by omega
  have gt := hGr.2 t ht
  have bt := bG.2 t ht
  have hp : S 6 t < 4 := bt.2.2.2.1 hk
  have g4 : wn w (47 + 2 * t) 4 = nI (S 6 t) := (gt.2.1 hk).2.1
  have g6 : wn w (47 + 2 * t) 6 = nI (S 7 t) := (gt.2.1 hk).2.2.2.1
  have g7 : wn w (47 + 2 * t) 7 = nI (S 8 t) := (gt.2.1 hk).2.2.2.2
  have g1 : wn w (47 + 2 * t) 1 = nI (S 5 t) := gt.2.2
  have z1 : wr w 55 7 = 147 + 2 * t := hMc.2.2.2.2.1
  have z2 : ¬ (147 + 2 * t < 100) := by omega
  have z3 : 147 + 2 * t - 100 = 47 + 2 * t := by omega
  have z4 := shTr hS ht4
  have z5 : ¬ (148 + 2 * t < 100) := by omega
  have z6 : 148 + 2 * t - 100 = 48 + 2 * t := by omega
  have z7 := shSc hS ht4
  have z8 : sm_in (nI (S 6 t)) 4 = true := sm_in_nI hp (by decide)
  have z9 : (nI (S 6 t)).toNatClampNeg = S 6 t := nI_clamp (by omega)
  have z10 := zr3_p hp
  have z11 : ¬ (104 + S 6 t < 100) := by omega
  have z12 : 104 + S 6 t - 100 = 4 + S 6 t := by omega
  have z13 := shGl hS hp
  have z14 := zr8_p hp
  have z15 : ¬ (109 + S 6 t < 100) := by omega
  have z16 : 109 + S 6 t - 100 = 9 + S 6 t := by omega
  have z17 := shLo hS hp
  have z18 : wn w 55 8 = nI t := hMc.2.2.2.2.2.1
  have z19 : wn w 45 1 = nI (S 10 1) := hGr.1
  have gl : ∀ a, a < 4 → wi w (4 + S 6 t) a = nI (S 0 (6 + S 6 t * 4 + a)) := fun a ha => by
    have := hBk.2.1 (S 6 t) hp a ha
    rw [show 1 + 3 + S 6 t = 4 + S 6 t by omega] at this
    exact this
  have lo : ∀ i, i < 12 → wi w (9 + S 6 t) i = nI (S 0 (46 + S 6 t * 12 + i)) := fun i hi => by
    have := hBk.2.2.2.1 (S 6 t) hp i hi
    rw [show 1 + 8 + S 6 t = 9 + S 6 t by omega] at this
    exact this
  have e1 : sm_enF 9 0 11 = some 11 := rfl
  have e2 : sm_ai 11 (some (.inl (0, 31, .inl sm_swm))) = some 0 := rfl
  have e3 : sm_sw (Int32.toInt 0) 22 [72, 93, 120, 143] 153 = 153 := by decide
  simp (decide := true) only [r44_35, r44_38, r44_39, r44_42, r44_43, r35_0, r35_1, r35_4, g97, e1, e2, e3, sm_wp_some, Option.toList_some, List.cons_append, List.nil_append]
  have e4 : sm_sw (Int32.toInt 0) 26 [52, 61, 70] 79 = 79 := by decide
  have l1 : (nI x).toInt64 = lN x := nI_l hx
  have l2 : (nI y).toInt64 = lN y := nI_l hy
  by_cases e : y ≠ 0
  · have e5 : s_do S t a y ys x xs 11 = (0, s_psh S 2 1 (x / y)) := if_pos e
    rw [e5] at hQ
    have d0 : x / y ≤ x := Nat.div_le_self x y
    have l0 : ¬ lg_cmp (lN y) 0 = 0 := fun q => e ((lc_z0 (by omega)).mp q)
    have l7 : ¬ lN y = 0 := fun q => e ((pk_lEQ (b := 0) (by omega) (by decide)).mp q)
    have l3 : lN x / lN y = lN (x / y) := lN_div hx hy
    have l4 := lc_nn (n := x / y) (by omega)
    have l5 : ¬ 0 < lg_cmp (lN (x / y)) 2147483647 := fun q => absurd ((lc_max (n := x / y) (by omega)).mp q) (by omega)
    have l6 : (lN (x / y)).toInt32 = nI (x / y) := lN_i _
    simp (decide := true) only [r44_153, r44_154, r44_155, r44_157, r44_158, r44_160, r44_161, r44_164, r46_0, r46_1, r46_4, r46_7, r46_9, r46_10, r46_11, r46_14, r46_15, r46_16, r46_19, r46_20, r46_23, r46_24, r35_0, r35_1, r35_4, g97, e1, e2, e4, l1, l2, l0, l7, l3, l4, l5, l6, g4, g6, g7, g1, z1, z2, z3, z4, z5, z6, z7, z8, z9, z10, z11, z12, z13, z14, z15, z16, z17, z18, z19, hq, sh1 hS, sh3 hS, sh8 hS, sh45 hS, sh55 hS, sh56 hS, sm_wp_some, sm_wp_none, sm_at, sm_fld, sm_pfl, sm_cN, sm_al, sm_si, sm_slg, sm_aa, List.getElem?_cons_zero, List.getElem?_cons_succ, List.set_cons_zero, List.set_cons_succ, List.length_cons, List.length_nil, Option.toList_some, Option.toList_none, List.cons_append, List.nil_append, if_true, if_false, true_and, and_true, Option.some.injEq, gs_o, gs_s, List.length_set, hS.1, pk_us, Nat.reduceLT, Nat.reduceLeDiff, Nat.reduceSub, Nat.reduceEqDiff, Nat.reduceAdd, Int32.reduceLT, Int32.reduceLE, Int32.reduceAdd, Int32.reduceSub, Int32.reduceToNatClampNeg, reduceIte, reduceCtorEq, Nat.lt_irrefl]
    simp (decide := true) only [r46_52, r46_53, r46_55, r46_56, r46_58, r46_61, r46_62, r46_64, r46_65, r46_67, r46_70, r46_71, r46_73, r46_74, r46_76, r46_79, r46_80, r46_82, r46_83, r46_85, r46_87, r46_88, r46_89, r46_92, r46_94, r46_97, r46_98, r46_101, r46_102, r46_105, r46_106, r46_108, r46_110, r46_113, r46_114, r46_117, r46_118, r46_120, r46_121, r46_124, r46_127, r46_128, r44_164, l0, l7, l3, l4, l5, l6, g4, g6, g7, g1, z1, z2, z3, z4, z5, z6, z7, z8, z9, z10, z11, z12, z13, z14, z15, z16, z17, z18, z19, hq, sh1 hS, sh3 hS, sh8 hS, sh45 hS, sh55 hS, sh56 hS, sm_wp_some, sm_wp_none, sm_at, sm_get, sm_fld, sm_pfl, sm_cN, sm_ai, sm_al, sm_si, sm_slg, sm_aa, List.getElem?_cons_zero, List.getElem?_cons_succ, List.set_cons_zero, List.set_cons_succ, List.length_cons, List.length_nil, Option.toList_some, Option.toList_none, List.cons_append, List.nil_append, if_true, if_false, true_and, and_true, Option.some.injEq, gs_o, gs_s, List.length_set, hS.1, pk_us, Nat.reduceLT, Nat.reduceLeDiff, Nat.reduceSub, Nat.reduceEqDiff, Nat.reduceAdd, Int32.reduceLT, Int32.reduceLE, Int32.reduceAdd, Int32.reduceSub, Int32.reduceToNatClampNeg, reduceIte, reduceCtorEq, Nat.lt_irrefl]
    exact put_k hR h4 h8 (by decide) hn (fun w' h => by
      simp (decide := true) only [r46_121, r46_124, r46_127, r46_128, r44_153, r44_154, r44_155, r44_157, r44_158, r44_160, r44_161, r44_164, Option.toList_some, List.cons_append, List.nil_append]
      exact hQ w' h)
  · have e5 : s_do S t a y ys x xs 11 = (3, S) := if_neg e
    rw [e5] at hQ
    have l0 : lg_cmp (lN y) 0 = 0 := (lc_z0 (by omega)).mpr (by omega)
    simp (decide := true) only [r44_153, r44_154, r44_155, r44_157, r44_158, r44_160, r44_161, r44_164, r46_0, r46_1, r46_4, r46_7, r46_9, r46_10, r46_11, r46_14, r46_15, r46_16, r46_19, r46_20, r46_23, r46_24, r46_7, r46_9, r46_10, r46_11, r46_14, r46_15, r44_164, r35_0, r35_1, r35_4, g97, e1, e2, e4, l1, l2, l0, g4, g6, g7, g1, z1, z2, z3, z4, z5, z6, z7, z8, z9, z10, z11, z12, z13, z14, z15, z16, z17, z18, z19, hq, sh1 hS, sh3 hS, sh8 hS, sh45 hS, sh55 hS, sh56 hS, sm_wp_some, sm_wp_none, sm_at, sm_fld, sm_pfl, sm_cN, sm_al, sm_si, sm_slg, sm_aa, List.getElem?_cons_zero, List.getElem?_cons_succ, List.set_cons_zero, List.set_cons_succ, List.length_cons, List.length_nil, Option.toList_some, Option.toList_none, List.cons_append, List.nil_append, if_true, if_false, true_and, and_true, Option.some.injEq, gs_o, gs_s, List.length_set, hS.1, pk_us, Nat.reduceLT, Nat.reduceLeDiff, Nat.reduceSub, Nat.reduceEqDiff, Nat.reduceAdd, Int32.reduceLT, Int32.reduceLE, Int32.reduceAdd, Int32.reduceSub, Int32.reduceToNatClampNeg, reduceIte, reduceCtorEq, Nat.lt_irrefl]
    exact hQ w ⟨FrC.rf w, fun h => absurd h (by omega), hR.rf⟩
theorem tc_12 {X : sm_X} {w : sm_W} {Q : Option Value → sm_W → Prop} {S : sm_S} {T t a y ys x xs : Nat} (hR : RnC w (s_up S 14 0 (S 14 0 - 2)) t (S 14 1 + 1)) (hB : RnB T S t) (hn : 2 ≤ S 14 0) (hx : x < 2 ^ 31) (hy : y < 2 ^ 31) (hf : True) (hQ : ∀ w', AfC w w' t (s_do S t a y ys x xs 12) → Q (some (.int (nI (s_do S t a y ys x xs 12).1))) w') : sm_R X 44 35 [.ref 155, .ref 12, .int (nI a), .int (nI ys), .int (nI y), .int (nI xs), .int (nI x)] [] w Q := by
  have hR' := hR
  have hB' := hB
  obtain ⟨hS, hBk, hPr, hGr, hSc, hSt, hMc, hq⟩ := hR'
  obtain ⟨bB, bP, bG, bS, ⟨ht, hk⟩, ⟨h8, hE⟩, hq32, h80, hcs, hst, hen, hT1, hT2, hT3⟩ := hB'
  have h4 : S 10 1 ≤ 4 := bG.1
  have hBk : BkC 1 w S := hBk
  have hPr : PrC w S := hPr
  have hGr : GrC w S := hGr
  have hSc : ScC w S := hSc
  have hMc : McC w S t := hMc
  have ht4 : t < 4 := by omega
  have gt := hGr.2 t ht
  have bt := bG.2 t ht
  have hp : S 6 t < 4 := bt.2.2.2.1 hk
  have g4 : wn w (47 + 2 * t) 4 = nI (S 6 t) := (gt.2.1 hk).2.1
  have g6 : wn w (47 + 2 * t) 6 = nI (S 7 t) := (gt.2.1 hk).2.2.2.1
  have g7 : wn w (47 + 2 * t) 7 = nI (S 8 t) := (gt.2.1 hk).2.2.2.2
  have g1 : wn w (47 + 2 * t) 1 = nI (S 5 t) := gt.2.2
  have z1 : wr w 55 7 = 147 + 2 * t := hMc.2.2.2.2.1
  have z2 : ¬ (147 + 2 * t < 100) := by omega
  have z3 : 147 + 2 * t - 100 = 47 + 2 * t := by omega
  have z4 := shTr hS ht4
  have z5 : ¬ (148 + 2 * t < 100) := by omega
  have z6 : 148 + 2 * t - 100 = 48 + 2 * t := by omega
  have z7 := shSc hS ht4
  have z8 : sm_in (nI (S 6 t)) 4 = true := sm_in_nI hp (by decide)
  have z9 : (nI (S 6 t)).toNatClampNeg = S 6 t := nI_clamp (by omega)
  have z10 := zr3_p hp
  have z11 : ¬ (104 + S 6 t < 100) := by omega
  have z12 : 104 + S 6 t - 100 = 4 + S 6 t := by omega
  have z13 := shGl hS hp
  have z14 := zr8_p hp
  have z15 : ¬ (109 + S 6 t < 100) := by omega
  have z16 : 109 + S 6 t - 100 = 9 + S 6 t := by omega
  have z17 := shLo hS hp
  have z18 : wn w 55 8 = nI t := hMc.2.2.2.2.2.1
  have z19 : wn w 45 1 = nI (S 10 1) := hGr.1
  have gl : ∀ a, a < 4 → wi w (4 + S 6 t) a = nI (S 0 (6 + S 6 t * 4 + a)) := fun a ha => by
    have := hBk.2.1 (S 6 t) hp a ha
    rw [show 1 + 3 + S 6 t = 4 + S 6 t by omega] at this
    exact this
  have lo : ∀ i, i < 12 → wi w (9 + S 6 t) i = nI (S 0 (46 + S 6 t * 12 + i)) := fun i hi => by
    have := hBk.2.2.2.1 (S 6 t) hp i hi
    rw [show 1 + 8 + S 6 t = 9 + S 6 t by omega] at this
    exact this
  have e1 : sm_enF 9 0 12 = some 12 := rfl
  have e2 : sm_ai 12 (some (.inl (0, 31, .inl sm_swm))) = some 22 := rfl
  have e3 : sm_sw (Int32.toInt 22) 22 [72, 93, 120, 143] 153 = 72 := by decide
  simp (decide := true) only [r44_35, r44_38, r44_39, r44_42, r44_43, r35_0, r35_1, r35_4, g97, e1, e2, e3, sm_wp_some, Option.toList_some, List.cons_append, List.nil_append]
  by_cases e : x < y
  · have e5 : s_do S t a y ys x xs 12 = (0, s_psh S 2 1 1) := by
      show (0, s_psh S 2 1 (if x < y then 1 else 0)) = _
      rw [if_pos e]
    rw [e5] at hQ
    have l1 : ¬ nI y ≤ nI x := nI_ge e hy
    simp (decide := true) only [r44_72, r44_73, r44_76, r44_77, r44_79, r44_81, r44_84, r44_85, r44_88, r44_89, r44_92, g4, g6, g7, g1, z1, z2, z3, z4, z5, z6, z7, z8, z9, z10, z11, z12, z13, z14, z15, z16, z17, z18, z19, hq, sh1 hS, sh3 hS, sh8 hS, sh45 hS, sh46 hS, sh55 hS, sh56 hS, l1, sm_wp_some, sm_wp_none, sm_at, sm_get, sm_fld, sm_pfl, sm_cN, sm_ai, sm_al, sm_si, sm_slg, sm_aa, List.getElem?_cons_zero, List.getElem?_cons_succ, List.set_cons_zero, List.set_cons_succ, List.length_cons, List.length_nil, Option.toList_some, Option.toList_none, List.cons_append, List.nil_append, if_true, if_false, true_and, and_true, Option.some.injEq, gs_o, gs_s, List.length_set, hS.1, pk_us, Nat.reduceLT, Nat.reduceLeDiff, Nat.reduceSub, Nat.reduceEqDiff, Nat.reduceAdd, Int32.reduceLT, Int32.reduceLE, Int32.reduceAdd, Int32.reduceSub, Int32.reduceToNatClampNeg, reduceIte, reduceCtorEq, Nat.lt_irrefl]
    exact put_k hR h4 h8 (by decide) hn (fun w' h => by
      simp (decide := true) only [r44_72, r44_73, r44_76, r44_77, r44_79, r44_81, r44_84, r44_85, r44_88, r44_89, r44_92, Option.toList_some, List.cons_append, List.nil_append]
      exact hQ w' h)
  · have e5 : s_do S t a y ys x xs 12 = (0, s_psh S 2 1 0) := by
      show (0, s_psh S 2 1 (if x < y then 1 else 0)) = _
      rw [if_neg e]
    rw [e5] at hQ
    have l1 : nI y ≤ nI x := nI_le (by omega) hx
    simp (decide := true) only [r44_72, r44_73, r44_76, r44_77, r44_79, r44_81, r44_84, r44_85, r44_88, r44_89, r44_92, g4, g6, g7, g1, z1, z2, z3, z4, z5, z6, z7, z8, z9, z10, z11, z12, z13, z14, z15, z16, z17, z18, z19, hq, sh1 hS, sh3 hS, sh8 hS, sh45 hS, sh46 hS, sh55 hS, sh56 hS, l1, sm_wp_some, sm_wp_none, sm_at, sm_get, sm_fld, sm_pfl, sm_cN, sm_ai, sm_al, sm_si, sm_slg, sm_aa, List.getElem?_cons_zero, List.getElem?_cons_succ, List.set_cons_zero, List.set_cons_succ, List.length_cons, List.length_nil, Option.toList_some, Option.toList_none, List.cons_append, List.nil_append, if_true, if_false, true_and, and_true, Option.some.injEq, gs_o, gs_s, List.length_set, hS.1, pk_us, Nat.reduceLT, Nat.reduceLeDiff, Nat.reduceSub, Nat.reduceEqDiff, Nat.reduceAdd, Int32.reduceLT, Int32.reduceLE, Int32.reduceAdd, Int32.reduceSub, Int32.reduceToNatClampNeg, reduceIte, reduceCtorEq, Nat.lt_irrefl]
    exact put_k hR h4 h8 (by decide) hn (fun w' h => by
      simp (decide := true) only [r44_72, r44_73, r44_76, r44_77, r44_79, r44_81, r44_84, r44_85, r44_88, r44_89, r44_92, Option.toList_some, List.cons_append, List.nil_append]
      exact hQ w' h)
theorem tc_13 {X : sm_X} {w : sm_W} {Q : Option Value → sm_W → Prop} {S : sm_S} {T t a y ys x xs : Nat} (hR : RnC w (s_up S 14 0 (S 14 0 - 2)) t (S 14 1 + 1)) (hB : RnB T S t) (hn : 2 ≤ S 14 0) (hx : x < 2 ^ 31) (hy : y < 2 ^ 31) (hxs : xs < 2 ^ 31) (hys : ys < 2 ^ 31) (hf : True) (hQ : ∀ w', AfC w w' t (s_do S t a y ys x xs 13) → Q (some (.int (nI (s_do S t a y ys x xs 13).1))) w') : sm_R X 44 35 [.ref 155, .ref 13, .int (nI a), .int (nI ys), .int (nI y), .int (nI xs), .int (nI x)] [] w Q := by
  have hR' := hR
  have hB' := hB
  obtain ⟨hS, hBk, hPr, hGr, hSc, hSt, hMc, hq⟩ := hR'
  obtain ⟨bB, bP, bG, bS, ⟨ht, hk⟩, ⟨h8, hE⟩, hq32, h80, hcs, hst, hen, hT1, hT2, hT3⟩ := hB'
  have h4 : S 10 1 ≤ 4 := bG.1
  have hBk : BkC 1 w S := hBk
  have hPr : PrC w S := hPr
  have hGr : GrC w S := hGr
  have hSc : ScC w S := hSc
  have hMc : McC w S t := hMc
  have ht4 : t < 4 := by omega
  have gt := hGr.2 t ht
  have bt := bG.2 t ht
  have hp : S 6 t < 4 := bt.2.2.2.1 hk
  have g4 : wn w (47 + 2 * t) 4 = nI (S 6 t) := (gt.2.1 hk).2.1
  have g6 : wn w (47 + 2 * t) 6 = nI (S 7 t) := (gt.2.1 hk).2.2.2.1
  have g7 : wn w (47 + 2 * t) 7 = nI (S 8 t) := (gt.2.1 hk).2.2.2.2
  have g1 : wn w (47 + 2 * t) 1 = nI (S 5 t) := gt.2.2
  have z1 : wr w 55 7 = 147 + 2 * t := hMc.2.2.2.2.1
  have z2 : ¬ (147 + 2 * t < 100) := by omega
  have z3 : 147 + 2 * t - 100 = 47 + 2 * t := by omega
  have z4 := shTr hS ht4
  have z5 : ¬ (148 + 2 * t < 100) := by omega
  have z6 : 148 + 2 * t - 100 = 48 + 2 * t := by omega
  have z7 := shSc hS ht4
  have z8 : sm_in (nI (S 6 t)) 4 = true := sm_in_nI hp (by decide)
  have z9 : (nI (S 6 t)).toNatClampNeg = S 6 t := nI_clamp (by omega)
  have z10 := zr3_p hp
  have z11 : ¬ (104 + S 6 t < 100) := by omega
  have z12 : 104 + S 6 t - 100 = 4 + S 6 t := by omega
  have z13 := shGl hS hp
  have z14 := zr8_p hp
  have z15 : ¬ (109 + S 6 t < 100) := by omega
  have z16 : 109 + S 6 t - 100 = 9 + S 6 t := by omega
  have z17 := shLo hS hp
  have z18 : wn w 55 8 = nI t := hMc.2.2.2.2.2.1
  have z19 : wn w 45 1 = nI (S 10 1) := hGr.1
  have gl : ∀ a, a < 4 → wi w (4 + S 6 t) a = nI (S 0 (6 + S 6 t * 4 + a)) := fun a ha => by
    have := hBk.2.1 (S 6 t) hp a ha
    rw [show 1 + 3 + S 6 t = 4 + S 6 t by omega] at this
    exact this
  have lo : ∀ i, i < 12 → wi w (9 + S 6 t) i = nI (S 0 (46 + S 6 t * 12 + i)) := fun i hi => by
    have := hBk.2.2.2.1 (S 6 t) hp i hi
    rw [show 1 + 8 + S 6 t = 9 + S 6 t by omega] at this
    exact this
  have e1 : sm_enF 9 0 13 = some 13 := rfl
  have e2 : sm_ai 13 (some (.inl (0, 31, .inl sm_swm))) = some 23 := rfl
  have e3 : sm_sw (Int32.toInt 23) 22 [72, 93, 120, 143] 153 = 93 := by decide
  simp (decide := true) only [r44_35, r44_38, r44_39, r44_42, r44_43, r35_0, r35_1, r35_4, g97, e1, e2, e3, sm_wp_some, Option.toList_some, List.cons_append, List.nil_append]
  have q1 : nI xs = nI ys ↔ xs = ys := nI_eq hxs hys
  have q2 : nI x = nI y ↔ x = y := nI_eq hx hy
  by_cases e : xs = ys ∧ x = y
  · have e5 : s_do S t a y ys x xs 13 = (0, s_psh S 2 1 1) := by
      show (0, s_psh S 2 1 (if xs = ys ∧ x = y then 1 else 0)) = _
      rw [if_pos e]
    rw [e5] at hQ
    have l1 := q1.mpr e.1
    have l2 := q2.mpr e.2
    simp (decide := true) only [r44_93, r44_94, r44_97, r44_98, r44_100, r44_101, r44_104, r44_106, r44_108, r44_111, r44_112, r44_115, r44_116, r44_119, g4, g6, g7, g1, z1, z2, z3, z4, z5, z6, z7, z8, z9, z10, z11, z12, z13, z14, z15, z16, z17, z18, z19, hq, sh1 hS, sh3 hS, sh8 hS, sh45 hS, sh46 hS, sh55 hS, sh56 hS, l1, l2, sm_wp_some, sm_wp_none, sm_at, sm_get, sm_fld, sm_pfl, sm_cN, sm_ai, sm_al, sm_si, sm_slg, sm_aa, List.getElem?_cons_zero, List.getElem?_cons_succ, List.set_cons_zero, List.set_cons_succ, List.length_cons, List.length_nil, Option.toList_some, Option.toList_none, List.cons_append, List.nil_append, if_true, if_false, true_and, and_true, Option.some.injEq, gs_o, gs_s, List.length_set, hS.1, pk_us, Nat.reduceLT, Nat.reduceLeDiff, Nat.reduceSub, Nat.reduceEqDiff, Nat.reduceAdd, Int32.reduceLT, Int32.reduceLE, Int32.reduceAdd, Int32.reduceSub, Int32.reduceToNatClampNeg, reduceIte, reduceCtorEq, Nat.lt_irrefl]
    exact put_k hR h4 h8 (by decide) hn (fun w' h => by
      simp (decide := true) only [r44_93, r44_94, r44_97, r44_98, r44_100, r44_101, r44_104, r44_106, r44_108, r44_111, r44_112, r44_115, r44_116, r44_119, Option.toList_some, List.cons_append, List.nil_append]
      exact hQ w' h)
  · have e5 : s_do S t a y ys x xs 13 = (0, s_psh S 2 1 0) := by
      show (0, s_psh S 2 1 (if xs = ys ∧ x = y then 1 else 0)) = _
      rw [if_neg e]
    rw [e5] at hQ
    by_cases e6 : xs = ys
    · have l1 := q1.mpr e6
      have l2 : ¬ nI x = nI y := fun q => e ⟨e6, q2.mp q⟩
      simp (decide := true) only [r44_93, r44_94, r44_97, r44_98, r44_100, r44_101, r44_104, r44_106, r44_108, r44_111, r44_112, r44_115, r44_116, r44_119, g4, g6, g7, g1, z1, z2, z3, z4, z5, z6, z7, z8, z9, z10, z11, z12, z13, z14, z15, z16, z17, z18, z19, hq, sh1 hS, sh3 hS, sh8 hS, sh45 hS, sh46 hS, sh55 hS, sh56 hS, l1, l2, sm_wp_some, sm_wp_none, sm_at, sm_get, sm_fld, sm_pfl, sm_cN, sm_ai, sm_al, sm_si, sm_slg, sm_aa, List.getElem?_cons_zero, List.getElem?_cons_succ, List.set_cons_zero, List.set_cons_succ, List.length_cons, List.length_nil, Option.toList_some, Option.toList_none, List.cons_append, List.nil_append, if_true, if_false, true_and, and_true, Option.some.injEq, gs_o, gs_s, List.length_set, hS.1, pk_us, Nat.reduceLT, Nat.reduceLeDiff, Nat.reduceSub, Nat.reduceEqDiff, Nat.reduceAdd, Int32.reduceLT, Int32.reduceLE, Int32.reduceAdd, Int32.reduceSub, Int32.reduceToNatClampNeg, reduceIte, reduceCtorEq, Nat.lt_irrefl]
      exact put_k hR h4 h8 (by decide) hn (fun w' h => by
        simp (decide := true) only [r44_93, r44_94, r44_97, r44_98, r44_100, r44_101, r44_104, r44_106, r44_108, r44_111, r44_112, r44_115, r44_116, r44_119, Option.toList_some, List.cons_append, List.nil_append]
        exact hQ w' h)
    · have l1 : ¬ nI xs = nI ys := fun q => e6 (q1.mp q)
      simp (decide := true) only [r44_93, r44_94, r44_97, r44_98, r44_100, r44_101, r44_104, r44_106, r44_108, r44_111, r44_112, r44_115, r44_116, r44_119, g4, g6, g7, g1, z1, z2, z3, z4, z5, z6, z7, z8, z9, z10, z11, z12, z13, z14, z15, z16, z17, z18, z19, hq, sh1 hS, sh3 hS, sh8 hS, sh45 hS, sh46 hS, sh55 hS, sh56 hS, l1, sm_wp_some, sm_wp_none, sm_at, sm_get, sm_fld, sm_pfl, sm_cN, sm_ai, sm_al, sm_si, sm_slg, sm_aa, List.getElem?_cons_zero, List.getElem?_cons_succ, List.set_cons_zero, List.set_cons_succ, List.length_cons, List.length_nil, Option.toList_some, Option.toList_none, List.cons_append, List.nil_append, if_true, if_false, true_and, and_true, Option.some.injEq, gs_o, gs_s, List.length_set, hS.1, pk_us, Nat.reduceLT, Nat.reduceLeDiff, Nat.reduceSub, Nat.reduceEqDiff, Nat.reduceAdd, Int32.reduceLT, Int32.reduceLE, Int32.reduceAdd, Int32.reduceSub, Int32.reduceToNatClampNeg, reduceIte, reduceCtorEq, Nat.lt_irrefl]
      exact put_k hR h4 h8 (by decide) hn (fun w' h => by
        simp (decide := true) only [r44_93, r44_94, r44_97, r44_98, r44_100, r44_101, r44_104, r44_106, r44_108, r44_111, r44_112, r44_115, r44_116, r44_119, Option.toList_some, List.cons_append, List.nil_append]
        exact hQ w' h)
theorem tc_16 {X : sm_X} {w : sm_W} {Q : Option Value → sm_W → Prop} {S : sm_S} {T t a y ys x xs : Nat} (hR : RnC w (s_up S 14 0 (S 14 0 - 2)) t (S 14 1 + 1)) (hB : RnB T S t) (hn : 2 ≤ S 14 0) (hx : x < 2 ^ 31) (hy : y < 2 ^ 31) (hf : True) (hQ : ∀ w', AfC w w' t (s_do S t a y ys x xs 16) → Q (some (.int (nI (s_do S t a y ys x xs 16).1))) w') : sm_R X 44 35 [.ref 155, .ref 16, .int (nI a), .int (nI ys), .int (nI y), .int (nI xs), .int (nI x)] [] w Q := by
  have hR' := hR
  have hB' := hB
  obtain ⟨hS, hBk, hPr, hGr, hSc, hSt, hMc, hq⟩ := hR'
  obtain ⟨bB, bP, bG, bS, ⟨ht, hk⟩, ⟨h8, hE⟩, hq32, h80, hcs, hst, hen, hT1, hT2, hT3⟩ := hB'
  have h4 : S 10 1 ≤ 4 := bG.1
  have hBk : BkC 1 w S := hBk
  have hPr : PrC w S := hPr
  have hGr : GrC w S := hGr
  have hSc : ScC w S := hSc
  have hMc : McC w S t := hMc
  have ht4 : t < 4 := by omega
  have gt := hGr.2 t ht
  have bt := bG.2 t ht
  have hp : S 6 t < 4 := bt.2.2.2.1 hk
  have g4 : wn w (47 + 2 * t) 4 = nI (S 6 t) := (gt.2.1 hk).2.1
  have g6 : wn w (47 + 2 * t) 6 = nI (S 7 t) := (gt.2.1 hk).2.2.2.1
  have g7 : wn w (47 + 2 * t) 7 = nI (S 8 t) := (gt.2.1 hk).2.2.2.2
  have g1 : wn w (47 + 2 * t) 1 = nI (S 5 t) := gt.2.2
  have z1 : wr w 55 7 = 147 + 2 * t := hMc.2.2.2.2.1
  have z2 : ¬ (147 + 2 * t < 100) := by omega
  have z3 : 147 + 2 * t - 100 = 47 + 2 * t := by omega
  have z4 := shTr hS ht4
  have z5 : ¬ (148 + 2 * t < 100) := by omega
  have z6 : 148 + 2 * t - 100 = 48 + 2 * t := by omega
  have z7 := shSc hS ht4
  have z8 : sm_in (nI (S 6 t)) 4 = true := sm_in_nI hp (by decide)
  have z9 : (nI (S 6 t)).toNatClampNeg = S 6 t := nI_clamp (by omega)
  have z10 := zr3_p hp
  have z11 : ¬ (104 + S 6 t < 100) := by omega
  have z12 : 104 + S 6 t - 100 = 4 + S 6 t := by omega
  have z13 := shGl hS hp
  have z14 := zr8_p hp
  have z15 : ¬ (109 + S 6 t < 100) := by omega
  have z16 : 109 + S 6 t - 100 = 9 + S 6 t := by omega
  have z17 := shLo hS hp
  have z18 : wn w 55 8 = nI t := hMc.2.2.2.2.2.1
  have z19 : wn w 45 1 = nI (S 10 1) := hGr.1
  have gl : ∀ a, a < 4 → wi w (4 + S 6 t) a = nI (S 0 (6 + S 6 t * 4 + a)) := fun a ha => by
    have := hBk.2.1 (S 6 t) hp a ha
    rw [show 1 + 3 + S 6 t = 4 + S 6 t by omega] at this
    exact this
  have lo : ∀ i, i < 12 → wi w (9 + S 6 t) i = nI (S 0 (46 + S 6 t * 12 + i)) := fun i hi => by
    have := hBk.2.2.2.1 (S 6 t) hp i hi
    rw [show 1 + 8 + S 6 t = 9 + S 6 t by omega] at this
    exact this
  have e1 : sm_enF 9 0 16 = some 16 := rfl
  have e2 : sm_ai 16 (some (.inl (0, 31, .inl sm_swm))) = some 24 := rfl
  have e3 : sm_sw (Int32.toInt 24) 22 [72, 93, 120, 143] 153 = 120 := by decide
  simp (decide := true) only [r44_35, r44_38, r44_39, r44_42, r44_43, r35_0, r35_1, r35_4, g97, e1, e2, e3, sm_wp_some, Option.toList_some, List.cons_append, List.nil_append]
  simp (decide := true) only [r44_120, r44_121, r44_124, r44_125, r44_127, r44_130, r44_131, r44_132, r44_135, r44_137, r44_139, r44_142, g4, g6, g7, g1, z1, z2, z3, z4, z5, z6, z7, z8, z9, z10, z11, z12, z13, z14, z15, z16, z17, z18, z19, hq, sh1 hS, sh3 hS, sh8 hS, sh45 hS, sh46 hS, sh55 hS, sh56 hS, sm_wp_some, sm_wp_none, sm_at, sm_get, sm_fld, sm_pfl, sm_cN, sm_ai, sm_al, sm_si, sm_slg, sm_aa, List.getElem?_cons_zero, List.getElem?_cons_succ, List.set_cons_zero, List.set_cons_succ, List.length_cons, List.length_nil, Option.toList_some, Option.toList_none, List.cons_append, List.nil_append, if_true, if_false, true_and, and_true, Option.some.injEq, gs_o, gs_s, List.length_set, hS.1, pk_us, Nat.reduceLT, Nat.reduceLeDiff, Nat.reduceSub, Nat.reduceEqDiff, Nat.reduceAdd, Int32.reduceLT, Int32.reduceLE, Int32.reduceAdd, Int32.reduceSub, Int32.reduceToNatClampNeg, reduceIte, reduceCtorEq, Nat.lt_irrefl]
  rw [put_C (m := S 14 0 - 2) hS (by omega) hSt.1]
  have hR2 := hR.put (s := ys) (v := y) h4
  rw [s_psh_k] at hR2
  have hR2 : RnC (((w.set 57 (.inl (0, 8, .inl (upd (wi w 57) (S 14 0 - 2) (nI ys))))).set 58 (.inl (0, 8, .inl (upd (wi w 58) (S 14 0 - 2) (nI y))))).set 56 (.inr (4, [.ref 157, .ref 158, .int (nI (S 14 0 - 2 + 1))]))) (s_psh S 2 ys y) t (S 14 1 + 1) := hR2
  have hF : FrC w (((w.set 57 (.inl (0, 8, .inl (upd (wi w 57) (S 14 0 - 2) (nI ys))))).set 58 (.inl (0, 8, .inl (upd (wi w 58) (S 14 0 - 2) (nI y))))).set 56 (.inr (4, [.ref 157, .ref 158, .int (nI (S 14 0 - 2 + 1))]))) := ((FrC.set (by decide) (by decide) (by decide)).tr (FrC.set (by decide) (by decide) (by decide))).tr (FrC.set (by decide) (by decide) (by decide))
  show sm_R X 44 130 [.ref 155, .ref 16, .int (nI a), .int (nI ys), .int (nI y), .int (nI xs), .int (nI x)] ((some (Value.int 0)).toList ++ []) (((w.set 57 (.inl (0, 8, .inl (upd (wi w 57) (S 14 0 - 2) (nI ys))))).set 58 (.inl (0, 8, .inl (upd (wi w 58) (S 14 0 - 2) (nI y))))).set 56 (.inr (4, [.ref 157, .ref 158, .int (nI (S 14 0 - 2 + 1))]))) Q
  generalize (((w.set 57 (.inl (0, 8, .inl (upd (wi w 57) (S 14 0 - 2) (nI ys))))).set 58 (.inl (0, 8, .inl (upd (wi w 58) (S 14 0 - 2) (nI y))))).set 56 (.inr (4, [.ref 157, .ref 158, .int (nI (S 14 0 - 2 + 1))]))) = w2 at hR2 hF
  have hS := hR2.1
  simp (decide := true) only [r44_130, r44_131, r44_132, r44_135, r44_137, r44_139, r44_142, sh55 hS, sh56 hS, sm_wp_some, sm_wp_none, sm_at, sm_get, sm_fld, sm_pfl, sm_cN, sm_ai, sm_al, sm_si, sm_slg, sm_aa, List.getElem?_cons_zero, List.getElem?_cons_succ, List.set_cons_zero, List.set_cons_succ, List.length_cons, List.length_nil, Option.toList_some, Option.toList_none, List.cons_append, List.nil_append, if_true, if_false, true_and, and_true, Option.some.injEq, gs_o, gs_s, List.length_set, hS.1, pk_us, Nat.reduceLT, Nat.reduceLeDiff, Nat.reduceSub, Nat.reduceEqDiff, Nat.reduceAdd, Int32.reduceLT, Int32.reduceLE, Int32.reduceAdd, Int32.reduceSub, Int32.reduceToNatClampNeg, reduceIte, reduceCtorEq, Nat.lt_irrefl]
  rw [put_C (m := S 14 0 - 2 + 1) hS (by omega) hR2.2.2.2.2.2.1.1]
  simp (decide := true) only [r44_130, r44_131, r44_132, r44_135, r44_137, r44_139, r44_142, Option.toList_some, List.cons_append, List.nil_append]
  have m := hR2.put (s := xs) (v := x) h4
  exact hQ _ ⟨((hF.tr (FrC.set (by decide) (by decide) (by decide))).tr (FrC.set (by decide) (by decide) (by decide))).tr (FrC.set (by decide) (by decide) (by decide)), fun _ => m, m.rf⟩
theorem tc_24 {X : sm_X} {w : sm_W} {Q : Option Value → sm_W → Prop} {S : sm_S} {T t a y ys x xs : Nat} (hR : RnC w (s_up S 14 0 (S 14 0 - 2)) t (S 14 1 + 1)) (hB : RnB T S t) (hn : 2 ≤ S 14 0) (hx : x < 6) (hy : y < 2 ^ 31) (hf : a < 2) (hQ : ∀ w', AfC w w' t (s_do S t a y ys x xs 24) → Q (some (.int (nI (s_do S t a y ys x xs 24).1))) w') : sm_R X 44 35 [.ref 155, .ref 24, .int (nI a), .int (nI ys), .int (nI y), .int (nI xs), .int (nI x)] [] w Q := by
  have hR' := hR
  have hB' := hB
  obtain ⟨hS, hBk, hPr, hGr, hSc, hSt, hMc, hq⟩ := hR'
  obtain ⟨bB, bP, bG, bS, ⟨ht, hk⟩, ⟨h8, hE⟩, hq32, h80, hcs, hst, hen, hT1, hT2, hT3⟩ := hB'
  have h4 : S 10 1 ≤ 4 := bG.1
  have hBk : BkC 1 w S := hBk
  have hPr : PrC w S := hPr
  have hGr : GrC w S := hGr
  have hSc : ScC w S := hSc
  have hMc : McC w S t := hMc
  have ht4 : t < 4 := by omega
  have gt := hGr.2 t ht
  have bt := bG.2 t ht
  have hp : S 6 t < 4 := bt.2.2.2.1 hk
  have g4 : wn w (47 + 2 * t) 4 = nI (S 6 t) := (gt.2.1 hk).2.1
  have g6 : wn w (47 + 2 * t) 6 = nI (S 7 t) := (gt.2.1 hk).2.2.2.1
  have g7 : wn w (47 + 2 * t) 7 = nI (S 8 t) := (gt.2.1 hk).2.2.2.2
  have g1 : wn w (47 + 2 * t) 1 = nI (S 5 t) := gt.2.2
  have z1 : wr w 55 7 = 147 + 2 * t := hMc.2.2.2.2.1
  have z2 : ¬ (147 + 2 * t < 100) := by omega
  have z3 : 147 + 2 * t - 100 = 47 + 2 * t := by omega
  have z4 := shTr hS ht4
  have z5 : ¬ (148 + 2 * t < 100) := by omega
  have z6 : 148 + 2 * t - 100 = 48 + 2 * t := by omega
  have z7 := shSc hS ht4
  have z8 : sm_in (nI (S 6 t)) 4 = true := sm_in_nI hp (by decide)
  have z9 : (nI (S 6 t)).toNatClampNeg = S 6 t := nI_clamp (by omega)
  have z10 := zr3_p hp
  have z11 : ¬ (104 + S 6 t < 100) := by omega
  have z12 : 104 + S 6 t - 100 = 4 + S 6 t := by omega
  have z13 := shGl hS hp
  have z14 := zr8_p hp
  have z15 : ¬ (109 + S 6 t < 100) := by omega
  have z16 : 109 + S 6 t - 100 = 9 + S 6 t := by omega
  have z17 := shLo hS hp
  have z18 : wn w 55 8 = nI t := hMc.2.2.2.2.2.1
  have z19 : wn w 45 1 = nI (S 10 1) := hGr.1
  have gl : ∀ a, a < 4 → wi w (4 + S 6 t) a = nI (S 0 (6 + S 6 t * 4 + a)) := fun a ha => by
    have := hBk.2.1 (S 6 t) hp a ha
    rw [show 1 + 3 + S 6 t = 4 + S 6 t by omega] at this
    exact this
  have lo : ∀ i, i < 12 → wi w (9 + S 6 t) i = nI (S 0 (46 + S 6 t * 12 + i)) := fun i hi => by
    have := hBk.2.2.2.1 (S 6 t) hp i hi
    rw [show 1 + 8 + S 6 t = 9 + S 6 t by omega] at this
    exact this
  have e1 : sm_enF 9 0 24 = some 24 := rfl
  have e2 : sm_ai 24 (some (.inl (0, 31, .inl sm_swm))) = some 25 := rfl
  have e3 : sm_sw (Int32.toInt 25) 22 [72, 93, 120, 143] 153 = 143 := by decide
  simp (decide := true) only [r44_35, r44_38, r44_39, r44_42, r44_43, r35_0, r35_1, r35_4, g97, e1, e2, e3, sm_wp_some, Option.toList_some, List.cons_append, List.nil_append]
  by_cases e : S 0 (22 + S 6 t * 6 + x) = 1
  · have e5 : s_do S t a y ys x xs 24 = (0, s_up (s_tke S 2) 0 (46 + S 6 t * 12 + (x * 2 + a)) y) := if_pos e
    rw [e5] at hQ
    have y1 : nI x * 2 = nI (x * 2) := pk_mul x 2
    have y2 : nI (x * 2) + nI a = nI (x * 2 + a) := nI_add _ _
    have y3 : sm_in (nI (x * 2 + a)) 12 = true := sm_in_nI (by omega) (by decide)
    have y4 : (nI (x * 2 + a)).toNatClampNeg = x * 2 + a := nI_clamp (by omega)
    have hi : x * 2 + a < 12 := by omega
    simp (decide := true) only [r44_143, r44_144, r44_146, r44_147, r44_149, r44_152, r45_0, r45_1, r45_4, r45_5, r45_8, r45_11, r45_12, r45_15, r45_18, r45_19, r45_20, r45_21, r45_24, r45_27, r45_28, r45_31, r45_34, r45_35, r45_36, r45_37, r45_38, r45_39, r45_40, r45_41, r45_42, r45_43, g4, g6, g7, g1, z1, z2, z3, z4, z5, z6, z7, z8, z9, z10, z11, z12, z13, z14, z15, z16, z17, z18, z19, hq, sh1 hS, sh3 hS, sh8 hS, sh45 hS, sh46 hS, sh55 hS, sh56 hS, io_C hS (hBk.2.2.1 x hx) bB.2.1 hp hx, if_pos e, y1, y2, y3, y4, sm_wp_some, sm_wp_none, sm_at, sm_get, sm_fld, sm_pfl, sm_cN, sm_ai, sm_al, sm_si, sm_slg, sm_aa, List.getElem?_cons_zero, List.getElem?_cons_succ, List.set_cons_zero, List.set_cons_succ, List.length_cons, List.length_nil, Option.toList_some, Option.toList_none, List.cons_append, List.nil_append, if_true, if_false, true_and, and_true, Option.some.injEq, gs_o, gs_s, List.length_set, hS.1, pk_us, Nat.reduceLT, Nat.reduceLeDiff, Nat.reduceSub, Nat.reduceEqDiff, Nat.reduceAdd, Int32.reduceLT, Int32.reduceLE, Int32.reduceAdd, Int32.reduceSub, Int32.reduceToNatClampNeg, reduceIte, reduceCtorEq, Nat.lt_irrefl]
    have m := hR.lo (v := y) h4 hp hi
    exact hQ _ ⟨FrC.set (by omega) (by omega) (by omega), fun _ => m, m.rf⟩
  · have e5 : s_do S t a y ys x xs 24 = (3, S) := if_neg e
    rw [e5] at hQ
    simp (decide := true) only [r44_143, r44_144, r44_146, r44_147, r44_149, r44_152, r45_0, r45_1, r45_4, r45_5, r45_8, r45_11, r45_12, r45_15, r45_18, r45_19, r45_20, r45_21, r45_24, r45_27, r45_28, r45_31, r45_34, r45_35, r45_36, r45_37, r45_38, r45_39, r45_40, r45_41, r45_42, r45_43, g4, g6, g7, g1, z1, z2, z3, z4, z5, z6, z7, z8, z9, z10, z11, z12, z13, z14, z15, z16, z17, z18, z19, hq, sh1 hS, sh3 hS, sh8 hS, sh45 hS, sh46 hS, sh55 hS, sh56 hS, io_C hS (hBk.2.2.1 x hx) bB.2.1 hp hx, if_neg e, sm_wp_some, sm_wp_none, sm_at, sm_get, sm_fld, sm_pfl, sm_cN, sm_ai, sm_al, sm_si, sm_slg, sm_aa, List.getElem?_cons_zero, List.getElem?_cons_succ, List.set_cons_zero, List.set_cons_succ, List.length_cons, List.length_nil, Option.toList_some, Option.toList_none, List.cons_append, List.nil_append, if_true, if_false, true_and, and_true, Option.some.injEq, gs_o, gs_s, List.length_set, hS.1, pk_us, Nat.reduceLT, Nat.reduceLeDiff, Nat.reduceSub, Nat.reduceEqDiff, Nat.reduceAdd, Int32.reduceLT, Int32.reduceLE, Int32.reduceAdd, Int32.reduceSub, Int32.reduceToNatClampNeg, reduceIte, reduceCtorEq, Nat.lt_irrefl]
    exact hQ w ⟨FrC.rf w, fun h => absurd h (by omega), hR.rf⟩
