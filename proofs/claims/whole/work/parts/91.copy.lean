/-! BOOKS.COPYFROM (gen/copy.py) -/
theorem cpy_z {f g : Nat → Int32} {n j : Nat} (h : j < n) : va_cpy f g 0 0 n j = f j := by
  rw [pk_cpy_in (Nat.zero_le j) (by omega)]
  simp only [Nat.zero_add, Nat.sub_zero]
theorem cp15_0 {X : sm_X} {w : sm_W} {Q : Option Value → sm_W → Prop} (hS : Sh w) (hQ : ∀ w', Sh w' → (∀ k, k < 4 → wi w' 18 k = wi w 4 k) → (∀ k, k < 12 → wi w' 23 k = wi w 9 k) → (∀ j, j ≠ 18 → j ≠ 23 → w'[j]? = w[j]?) → sm_R X 21 17 [.ref 115, .ref 101, .int 1] [] w' Q) : sm_R X 21 17 [.ref 115, .ref 101, .int 0] [] w Q := by
  rw [r21_17]
  simp (decide := true) only [r21_0, r21_1, r21_4, r21_5, r21_6, r21_9, r21_10, r21_12, r21_15, r21_16, r21_18, r21_19, r21_22, r21_23, r21_26, r21_27, r21_28, r21_29, r21_30, r21_33, r21_34, r21_35, r21_36, r21_37, r21_40, r21_41, r21_44, r21_45, r21_46, r21_47, r21_48, r21_51, r21_52, r21_53, r21_54, r21_56, r21_59, r21_62, r21_65, r21_66, r21_69, r21_70, r21_71, r21_74, r21_75, r21_77, r21_80, r21_81, r21_84, r21_85, r21_86, r21_89, r21_90, r21_92, r21_95, r21_96, r21_97, r21_100, r21_103, sm_cpi, sm_in, sh15 hS, sh1 hS, sh17 hS, sh3 hS, sh22 hS, sh8 hS, sh18 hS, sh4 hS, sh23 hS, sh9 hS, zr3_p (show 0 < 4 by decide), zr8_p (show 0 < 4 by decide), zr17_p (show 0 < 4 by decide), zr22_p (show 0 < 4 by decide), sm_wp_some, sm_wp_none, sm_at, sm_get, sm_fld, sm_pfl, sm_cN, sm_ai, sm_al, sm_si, sm_slg, sm_aa, List.getElem?_cons_zero, List.getElem?_cons_succ, List.set_cons_zero, List.set_cons_succ, List.length_cons, List.length_nil, Option.toList_some, Option.toList_none, List.cons_append, List.nil_append, if_true, if_false, true_and, and_true, Option.some.injEq, gs_o, gs_s, List.length_set, hS.1, pk_us, Nat.reduceLT, Nat.reduceLeDiff, Nat.reduceSub, Nat.reduceEqDiff, Nat.reduceAdd, Int32.reduceLT, Int32.reduceLE, Int32.reduceAdd, Int32.reduceSub, Int32.reduceToNatClampNeg, reduceIte, reduceCtorEq, Nat.lt_irrefl]
  refine hQ _ hS.p18.p23 (fun k hk => ?_) (fun k hk => ?_) (fun j h1 h2 => ?_)
  · rw [wi_o (by decide), wi18_s hS.1, cpy_z hk]
  · rw [wi23_s (by rw [List.length_set, hS.1]), cpy_z hk]
  · rw [gs_o (by omega), gs_o (by omega)]
theorem cp15_1 {X : sm_X} {w : sm_W} {Q : Option Value → sm_W → Prop} (hS : Sh w) (hQ : ∀ w', Sh w' → (∀ k, k < 4 → wi w' 19 k = wi w 5 k) → (∀ k, k < 12 → wi w' 24 k = wi w 10 k) → (∀ j, j ≠ 19 → j ≠ 24 → w'[j]? = w[j]?) → sm_R X 21 17 [.ref 115, .ref 101, .int 2] [] w' Q) : sm_R X 21 17 [.ref 115, .ref 101, .int 1] [] w Q := by
  rw [r21_17]
  simp (decide := true) only [r21_0, r21_1, r21_4, r21_5, r21_6, r21_9, r21_10, r21_12, r21_15, r21_16, r21_18, r21_19, r21_22, r21_23, r21_26, r21_27, r21_28, r21_29, r21_30, r21_33, r21_34, r21_35, r21_36, r21_37, r21_40, r21_41, r21_44, r21_45, r21_46, r21_47, r21_48, r21_51, r21_52, r21_53, r21_54, r21_56, r21_59, r21_62, r21_65, r21_66, r21_69, r21_70, r21_71, r21_74, r21_75, r21_77, r21_80, r21_81, r21_84, r21_85, r21_86, r21_89, r21_90, r21_92, r21_95, r21_96, r21_97, r21_100, r21_103, sm_cpi, sm_in, sh15 hS, sh1 hS, sh17 hS, sh3 hS, sh22 hS, sh8 hS, sh19 hS, sh5 hS, sh24 hS, sh10 hS, zr3_p (show 1 < 4 by decide), zr8_p (show 1 < 4 by decide), zr17_p (show 1 < 4 by decide), zr22_p (show 1 < 4 by decide), sm_wp_some, sm_wp_none, sm_at, sm_get, sm_fld, sm_pfl, sm_cN, sm_ai, sm_al, sm_si, sm_slg, sm_aa, List.getElem?_cons_zero, List.getElem?_cons_succ, List.set_cons_zero, List.set_cons_succ, List.length_cons, List.length_nil, Option.toList_some, Option.toList_none, List.cons_append, List.nil_append, if_true, if_false, true_and, and_true, Option.some.injEq, gs_o, gs_s, List.length_set, hS.1, pk_us, Nat.reduceLT, Nat.reduceLeDiff, Nat.reduceSub, Nat.reduceEqDiff, Nat.reduceAdd, Int32.reduceLT, Int32.reduceLE, Int32.reduceAdd, Int32.reduceSub, Int32.reduceToNatClampNeg, reduceIte, reduceCtorEq, Nat.lt_irrefl]
  refine hQ _ hS.p19.p24 (fun k hk => ?_) (fun k hk => ?_) (fun j h1 h2 => ?_)
  · rw [wi_o (by decide), wi19_s hS.1, cpy_z hk]
  · rw [wi24_s (by rw [List.length_set, hS.1]), cpy_z hk]
  · rw [gs_o (by omega), gs_o (by omega)]
theorem cp15_2 {X : sm_X} {w : sm_W} {Q : Option Value → sm_W → Prop} (hS : Sh w) (hQ : ∀ w', Sh w' → (∀ k, k < 4 → wi w' 20 k = wi w 6 k) → (∀ k, k < 12 → wi w' 25 k = wi w 11 k) → (∀ j, j ≠ 20 → j ≠ 25 → w'[j]? = w[j]?) → sm_R X 21 17 [.ref 115, .ref 101, .int 3] [] w' Q) : sm_R X 21 17 [.ref 115, .ref 101, .int 2] [] w Q := by
  rw [r21_17]
  simp (decide := true) only [r21_0, r21_1, r21_4, r21_5, r21_6, r21_9, r21_10, r21_12, r21_15, r21_16, r21_18, r21_19, r21_22, r21_23, r21_26, r21_27, r21_28, r21_29, r21_30, r21_33, r21_34, r21_35, r21_36, r21_37, r21_40, r21_41, r21_44, r21_45, r21_46, r21_47, r21_48, r21_51, r21_52, r21_53, r21_54, r21_56, r21_59, r21_62, r21_65, r21_66, r21_69, r21_70, r21_71, r21_74, r21_75, r21_77, r21_80, r21_81, r21_84, r21_85, r21_86, r21_89, r21_90, r21_92, r21_95, r21_96, r21_97, r21_100, r21_103, sm_cpi, sm_in, sh15 hS, sh1 hS, sh17 hS, sh3 hS, sh22 hS, sh8 hS, sh20 hS, sh6 hS, sh25 hS, sh11 hS, zr3_p (show 2 < 4 by decide), zr8_p (show 2 < 4 by decide), zr17_p (show 2 < 4 by decide), zr22_p (show 2 < 4 by decide), sm_wp_some, sm_wp_none, sm_at, sm_get, sm_fld, sm_pfl, sm_cN, sm_ai, sm_al, sm_si, sm_slg, sm_aa, List.getElem?_cons_zero, List.getElem?_cons_succ, List.set_cons_zero, List.set_cons_succ, List.length_cons, List.length_nil, Option.toList_some, Option.toList_none, List.cons_append, List.nil_append, if_true, if_false, true_and, and_true, Option.some.injEq, gs_o, gs_s, List.length_set, hS.1, pk_us, Nat.reduceLT, Nat.reduceLeDiff, Nat.reduceSub, Nat.reduceEqDiff, Nat.reduceAdd, Int32.reduceLT, Int32.reduceLE, Int32.reduceAdd, Int32.reduceSub, Int32.reduceToNatClampNeg, reduceIte, reduceCtorEq, Nat.lt_irrefl]
  refine hQ _ hS.p20.p25 (fun k hk => ?_) (fun k hk => ?_) (fun j h1 h2 => ?_)
  · rw [wi_o (by decide), wi20_s hS.1, cpy_z hk]
  · rw [wi25_s (by rw [List.length_set, hS.1]), cpy_z hk]
  · rw [gs_o (by omega), gs_o (by omega)]
theorem cp15_3 {X : sm_X} {w : sm_W} {Q : Option Value → sm_W → Prop} (hS : Sh w) (hQ : ∀ w', Sh w' → (∀ k, k < 4 → wi w' 21 k = wi w 7 k) → (∀ k, k < 12 → wi w' 26 k = wi w 12 k) → (∀ j, j ≠ 21 → j ≠ 26 → w'[j]? = w[j]?) → sm_R X 21 17 [.ref 115, .ref 101, .int 4] [] w' Q) : sm_R X 21 17 [.ref 115, .ref 101, .int 3] [] w Q := by
  rw [r21_17]
  simp (decide := true) only [r21_0, r21_1, r21_4, r21_5, r21_6, r21_9, r21_10, r21_12, r21_15, r21_16, r21_18, r21_19, r21_22, r21_23, r21_26, r21_27, r21_28, r21_29, r21_30, r21_33, r21_34, r21_35, r21_36, r21_37, r21_40, r21_41, r21_44, r21_45, r21_46, r21_47, r21_48, r21_51, r21_52, r21_53, r21_54, r21_56, r21_59, r21_62, r21_65, r21_66, r21_69, r21_70, r21_71, r21_74, r21_75, r21_77, r21_80, r21_81, r21_84, r21_85, r21_86, r21_89, r21_90, r21_92, r21_95, r21_96, r21_97, r21_100, r21_103, sm_cpi, sm_in, sh15 hS, sh1 hS, sh17 hS, sh3 hS, sh22 hS, sh8 hS, sh21 hS, sh7 hS, sh26 hS, sh12 hS, zr3_p (show 3 < 4 by decide), zr8_p (show 3 < 4 by decide), zr17_p (show 3 < 4 by decide), zr22_p (show 3 < 4 by decide), sm_wp_some, sm_wp_none, sm_at, sm_get, sm_fld, sm_pfl, sm_cN, sm_ai, sm_al, sm_si, sm_slg, sm_aa, List.getElem?_cons_zero, List.getElem?_cons_succ, List.set_cons_zero, List.set_cons_succ, List.length_cons, List.length_nil, Option.toList_some, Option.toList_none, List.cons_append, List.nil_append, if_true, if_false, true_and, and_true, Option.some.injEq, gs_o, gs_s, List.length_set, hS.1, pk_us, Nat.reduceLT, Nat.reduceLeDiff, Nat.reduceSub, Nat.reduceEqDiff, Nat.reduceAdd, Int32.reduceLT, Int32.reduceLE, Int32.reduceAdd, Int32.reduceSub, Int32.reduceToNatClampNeg, reduceIte, reduceCtorEq, Nat.lt_irrefl]
  refine hQ _ hS.p21.p26 (fun k hk => ?_) (fun k hk => ?_) (fun j h1 h2 => ?_)
  · rw [wi_o (by decide), wi21_s hS.1, cpy_z hk]
  · rw [wi26_s (by rw [List.length_set, hS.1]), cpy_z hk]
  · rw [gs_o (by omega), gs_o (by omega)]
theorem cp15_e {X : sm_X} {w : sm_W} {Q : Option Value → sm_W → Prop} (hS : Sh w) (hQ : ∀ w', Sh w' → (∀ k, k < 6 → wi w' 27 k = wi w 13 k) → (∀ k, k < 8 → wi w' 28 k = wi w 14 k) → wn w' 15 5 = wn w 1 5 → (∀ j, j ≠ 27 → j ≠ 28 → j ≠ 15 → w'[j]? = w[j]?) → Q none w') : sm_R X 21 17 [.ref 115, .ref 101, .int 4] [] w Q := by
  rw [r21_17]
  simp (decide := true) only [r21_0, r21_1, r21_4, r21_5, r21_6, r21_9, r21_10, r21_12, r21_15, r21_16, r21_18, r21_19, r21_22, r21_23, r21_26, r21_27, r21_28, r21_29, r21_30, r21_33, r21_34, r21_35, r21_36, r21_37, r21_40, r21_41, r21_44, r21_45, r21_46, r21_47, r21_48, r21_51, r21_52, r21_53, r21_54, r21_56, r21_59, r21_62, r21_65, r21_66, r21_69, r21_70, r21_71, r21_74, r21_75, r21_77, r21_80, r21_81, r21_84, r21_85, r21_86, r21_89, r21_90, r21_92, r21_95, r21_96, r21_97, r21_100, r21_103, sm_cpi, sm_in, sh15 hS, sh1 hS, sh27 hS, sh13 hS, sh28 hS, sh14 hS, sm_wp_some, sm_wp_none, sm_at, sm_get, sm_fld, sm_pfl, sm_cN, sm_ai, sm_al, sm_si, sm_slg, sm_aa, List.getElem?_cons_zero, List.getElem?_cons_succ, List.set_cons_zero, List.set_cons_succ, List.length_cons, List.length_nil, Option.toList_some, Option.toList_none, List.cons_append, List.nil_append, if_true, if_false, true_and, and_true, Option.some.injEq, gs_o, gs_s, List.length_set, hS.1, pk_us, Nat.reduceLT, Nat.reduceLeDiff, Nat.reduceSub, Nat.reduceEqDiff, Nat.reduceAdd, Int32.reduceLT, Int32.reduceLE, Int32.reduceAdd, Int32.reduceSub, Int32.reduceToNatClampNeg, reduceIte, reduceCtorEq, Nat.lt_irrefl]
  refine hQ _ hS.p27.p28.p15 (fun k hk => ?_) (fun k hk => ?_) ?_ (fun j h1 h2 h3 => ?_)
  · rw [wi_o (by decide), wi_o (by decide), wi27_s hS.1, cpy_z hk]
  · rw [wi_o (by decide), wi28_s (by rw [List.length_set, hS.1]), cpy_z hk]
  · rw [wn15_5 (by rw [List.length_set, List.length_set, hS.1])]
  · rw [gs_o (by omega), gs_o (by omega), gs_o (by omega)]
theorem cp15 {X : sm_X} {w : sm_W} {Q : Option Value → sm_W → Prop} {S : sm_S} (hS : Sh w) (hB : BkC 1 w S) (hQ : ∀ w', Sh w' → BkC 15 w' S → (∀ j, j < 15 ∨ 28 < j → w'[j]? = w[j]?) → Q none w') : sm_R X 21 0 [.ref 115, .ref 101, sm_J] [] w Q := by
  simp (decide := true) only [r21_0, r21_1, r21_4, r21_5, r21_6, r21_9, r21_10, r21_12, r21_15, r21_16, r21_18, r21_19, r21_22, r21_23, r21_26, r21_27, r21_28, r21_29, r21_30, r21_33, r21_34, r21_35, r21_36, r21_37, r21_40, r21_41, r21_44, r21_45, r21_46, r21_47, r21_48, r21_51, r21_52, r21_53, r21_54, r21_56, r21_59, r21_62, r21_65, r21_66, r21_69, r21_70, r21_71, r21_74, r21_75, r21_77, r21_80, r21_81, r21_84, r21_85, r21_86, r21_89, r21_90, r21_92, r21_95, r21_96, r21_97, r21_100, r21_103, sm_cpi, sh15 hS, sh1 hS, sh16 hS, sh2 hS, sm_wp_some, sm_wp_none, sm_at, sm_get, sm_fld, sm_pfl, sm_cN, sm_ai, sm_al, sm_si, sm_slg, sm_aa, List.getElem?_cons_zero, List.getElem?_cons_succ, List.set_cons_zero, List.set_cons_succ, List.length_cons, List.length_nil, Option.toList_some, Option.toList_none, List.cons_append, List.nil_append, if_true, if_false, true_and, and_true, Option.some.injEq, gs_o, gs_s, List.length_set, hS.1, pk_us, Nat.reduceLT, Nat.reduceLeDiff, Nat.reduceSub, Nat.reduceEqDiff, Nat.reduceAdd, Int32.reduceLT, Int32.reduceLE, Int32.reduceAdd, Int32.reduceSub, Int32.reduceToNatClampNeg, reduceIte, reduceCtorEq, Nat.lt_irrefl]
  have e0 : ∀ j, j ≠ 16 → (w.set 16 (.inl (0, 6, .inl (va_cpy (wi w 2) (wi w 16) 0 0 6))))[j]? = w[j]? := fun j h => gs_o (by omega)
  have a0 : ∀ k, k < 6 → wi (w.set 16 (.inl (0, 6, .inl (va_cpy (wi w 2) (wi w 16) 0 0 6)))) 16 k = wi w 2 k := fun k hk => by rw [wi16_s hS.1, cpy_z hk]
  have h0 := hS.p16 (f := va_cpy (wi w 2) (wi w 16) 0 0 6)
  revert h0 e0 a0
  generalize w.set 16 (.inl (0, 6, .inl (va_cpy (wi w 2) (wi w 16) 0 0 6))) = w0
  intro e0 a0 h0
  refine cp15_0 h0 fun w1 h1 g1 l1 e1 => cp15_1 h1 fun w2 h2 g2 l2 e2 => cp15_2 h2 fun w3 h3 g3 l3 e3 => cp15_3 h3 fun w4 h4 g4 l4 e4 => cp15_e h4 fun w5 h5 g5 l5 n5 e5 => hQ w5 h5 ?_ (fun j hj => ?_)
  · obtain ⟨b1, b2, b3, b4, b5, b6⟩ := hB
    have E4 : ∀ j, j ≠ 27 → j ≠ 28 → j ≠ 15 → w5[j]? = w4[j]? := e5
    have K0 : ∀ j, j < 15 ∨ 28 < j → w0[j]? = w[j]? := fun j h => e0 j (by omega)
    have K1 : ∀ j, j < 15 ∨ 28 < j → w1[j]? = w[j]? := fun j h => (e1 j (by omega) (by omega)).trans (K0 j h)
    have K2 : ∀ j, j < 15 ∨ 28 < j → w2[j]? = w[j]? := fun j h => (e2 j (by omega) (by omega)).trans (K1 j h)
    have K3 : ∀ j, j < 15 ∨ 28 < j → w3[j]? = w[j]? := fun j h => (e3 j (by omega) (by omega)).trans (K2 j h)
    have K4 : ∀ j, j < 15 ∨ 28 < j → w4[j]? = w[j]? := fun j h => (e4 j (by omega) (by omega)).trans (K3 j h)
    refine ⟨fun a ha => ?_, fun p hp k hk => ?_, fun a ha => ?_, fun p hp i hi => ?_, ?_, fun j hj h8 => ?_⟩
    · rw [wi_c (e5 _ (by omega) (by omega) (by omega)), wi_c (e4 _ (by omega) (by omega)), wi_c (e3 _ (by omega) (by omega)), wi_c (e2 _ (by omega) (by omega)), wi_c (e1 _ (by omega) (by omega))]
      exact (a0 a ha).trans (b1 a ha)
    · rw [wi_c (e5 _ (by omega) (by omega) (by omega))]
      match p, hp with
      | 0, _ =>
        rw [wi_c (e4 _ (by omega) (by omega)), wi_c (e3 _ (by omega) (by omega)), wi_c (e2 _ (by omega) (by omega))]
        exact (g1 k hk).trans (by rw [wi_c (K0 _ (by omega))]; exact b2 0 (by decide) k hk)
      | 1, _ =>
        rw [wi_c (e4 _ (by omega) (by omega)), wi_c (e3 _ (by omega) (by omega))]
        exact (g2 k hk).trans (by rw [wi_c (K1 _ (by omega))]; exact b2 1 (by decide) k hk)
      | 2, _ =>
        rw [wi_c (e4 _ (by omega) (by omega))]
        exact (g3 k hk).trans (by rw [wi_c (K2 _ (by omega))]; exact b2 2 (by decide) k hk)
      | 3, _ => exact (g4 k hk).trans (by rw [wi_c (K3 _ (by omega))]; exact b2 3 (by decide) k hk)
    · exact (g5 a ha).trans (by rw [wi_c (K4 _ (by omega))]; exact b3 a ha)
    · rw [wi_c (e5 _ (by omega) (by omega) (by omega))]
      match p, hp with
      | 0, _ =>
        rw [wi_c (e4 _ (by omega) (by omega)), wi_c (e3 _ (by omega) (by omega)), wi_c (e2 _ (by omega) (by omega))]
        exact (l1 i hi).trans (by rw [wi_c (K0 _ (by omega))]; exact b4 0 (by decide) i hi)
      | 1, _ =>
        rw [wi_c (e4 _ (by omega) (by omega)), wi_c (e3 _ (by omega) (by omega))]
        exact (l2 i hi).trans (by rw [wi_c (K1 _ (by omega))]; exact b4 1 (by decide) i hi)
      | 2, _ =>
        rw [wi_c (e4 _ (by omega) (by omega))]
        exact (l3 i hi).trans (by rw [wi_c (K2 _ (by omega))]; exact b4 2 (by decide) i hi)
      | 3, _ => exact (l4 i hi).trans (by rw [wi_c (K3 _ (by omega))]; exact b4 3 (by decide) i hi)
    · rw [n5, wn_c (K4 _ (by omega))]
      exact b5
    · exact (l5 _ (by omega)).trans (by rw [wi_c (K4 _ (by omega))]; exact b6 j hj h8)
  · rw [e5 j (by omega) (by omega) (by omega), e4 j (by omega) (by omega), e3 j (by omega) (by omega), e2 j (by omega) (by omega), e1 j (by omega) (by omega), e0 j (by omega)]
theorem cp1_0 {X : sm_X} {w : sm_W} {Q : Option Value → sm_W → Prop} (hS : Sh w) (hQ : ∀ w', Sh w' → (∀ k, k < 4 → wi w' 4 k = wi w 18 k) → (∀ k, k < 12 → wi w' 9 k = wi w 23 k) → (∀ j, j ≠ 4 → j ≠ 9 → w'[j]? = w[j]?) → sm_R X 21 17 [.ref 101, .ref 115, .int 1] [] w' Q) : sm_R X 21 17 [.ref 101, .ref 115, .int 0] [] w Q := by
  rw [r21_17]
  simp (decide := true) only [r21_0, r21_1, r21_4, r21_5, r21_6, r21_9, r21_10, r21_12, r21_15, r21_16, r21_18, r21_19, r21_22, r21_23, r21_26, r21_27, r21_28, r21_29, r21_30, r21_33, r21_34, r21_35, r21_36, r21_37, r21_40, r21_41, r21_44, r21_45, r21_46, r21_47, r21_48, r21_51, r21_52, r21_53, r21_54, r21_56, r21_59, r21_62, r21_65, r21_66, r21_69, r21_70, r21_71, r21_74, r21_75, r21_77, r21_80, r21_81, r21_84, r21_85, r21_86, r21_89, r21_90, r21_92, r21_95, r21_96, r21_97, r21_100, r21_103, sm_cpi, sm_in, sh1 hS, sh15 hS, sh3 hS, sh17 hS, sh8 hS, sh22 hS, sh4 hS, sh18 hS, sh9 hS, sh23 hS, zr3_p (show 0 < 4 by decide), zr8_p (show 0 < 4 by decide), zr17_p (show 0 < 4 by decide), zr22_p (show 0 < 4 by decide), sm_wp_some, sm_wp_none, sm_at, sm_get, sm_fld, sm_pfl, sm_cN, sm_ai, sm_al, sm_si, sm_slg, sm_aa, List.getElem?_cons_zero, List.getElem?_cons_succ, List.set_cons_zero, List.set_cons_succ, List.length_cons, List.length_nil, Option.toList_some, Option.toList_none, List.cons_append, List.nil_append, if_true, if_false, true_and, and_true, Option.some.injEq, gs_o, gs_s, List.length_set, hS.1, pk_us, Nat.reduceLT, Nat.reduceLeDiff, Nat.reduceSub, Nat.reduceEqDiff, Nat.reduceAdd, Int32.reduceLT, Int32.reduceLE, Int32.reduceAdd, Int32.reduceSub, Int32.reduceToNatClampNeg, reduceIte, reduceCtorEq, Nat.lt_irrefl]
  refine hQ _ hS.p4.p9 (fun k hk => ?_) (fun k hk => ?_) (fun j h1 h2 => ?_)
  · rw [wi_o (by decide), wi4_s hS.1, cpy_z hk]
  · rw [wi9_s (by rw [List.length_set, hS.1]), cpy_z hk]
  · rw [gs_o (by omega), gs_o (by omega)]
theorem cp1_1 {X : sm_X} {w : sm_W} {Q : Option Value → sm_W → Prop} (hS : Sh w) (hQ : ∀ w', Sh w' → (∀ k, k < 4 → wi w' 5 k = wi w 19 k) → (∀ k, k < 12 → wi w' 10 k = wi w 24 k) → (∀ j, j ≠ 5 → j ≠ 10 → w'[j]? = w[j]?) → sm_R X 21 17 [.ref 101, .ref 115, .int 2] [] w' Q) : sm_R X 21 17 [.ref 101, .ref 115, .int 1] [] w Q := by
  rw [r21_17]
  simp (decide := true) only [r21_0, r21_1, r21_4, r21_5, r21_6, r21_9, r21_10, r21_12, r21_15, r21_16, r21_18, r21_19, r21_22, r21_23, r21_26, r21_27, r21_28, r21_29, r21_30, r21_33, r21_34, r21_35, r21_36, r21_37, r21_40, r21_41, r21_44, r21_45, r21_46, r21_47, r21_48, r21_51, r21_52, r21_53, r21_54, r21_56, r21_59, r21_62, r21_65, r21_66, r21_69, r21_70, r21_71, r21_74, r21_75, r21_77, r21_80, r21_81, r21_84, r21_85, r21_86, r21_89, r21_90, r21_92, r21_95, r21_96, r21_97, r21_100, r21_103, sm_cpi, sm_in, sh1 hS, sh15 hS, sh3 hS, sh17 hS, sh8 hS, sh22 hS, sh5 hS, sh19 hS, sh10 hS, sh24 hS, zr3_p (show 1 < 4 by decide), zr8_p (show 1 < 4 by decide), zr17_p (show 1 < 4 by decide), zr22_p (show 1 < 4 by decide), sm_wp_some, sm_wp_none, sm_at, sm_get, sm_fld, sm_pfl, sm_cN, sm_ai, sm_al, sm_si, sm_slg, sm_aa, List.getElem?_cons_zero, List.getElem?_cons_succ, List.set_cons_zero, List.set_cons_succ, List.length_cons, List.length_nil, Option.toList_some, Option.toList_none, List.cons_append, List.nil_append, if_true, if_false, true_and, and_true, Option.some.injEq, gs_o, gs_s, List.length_set, hS.1, pk_us, Nat.reduceLT, Nat.reduceLeDiff, Nat.reduceSub, Nat.reduceEqDiff, Nat.reduceAdd, Int32.reduceLT, Int32.reduceLE, Int32.reduceAdd, Int32.reduceSub, Int32.reduceToNatClampNeg, reduceIte, reduceCtorEq, Nat.lt_irrefl]
  refine hQ _ hS.p5.p10 (fun k hk => ?_) (fun k hk => ?_) (fun j h1 h2 => ?_)
  · rw [wi_o (by decide), wi5_s hS.1, cpy_z hk]
  · rw [wi10_s (by rw [List.length_set, hS.1]), cpy_z hk]
  · rw [gs_o (by omega), gs_o (by omega)]
theorem cp1_2 {X : sm_X} {w : sm_W} {Q : Option Value → sm_W → Prop} (hS : Sh w) (hQ : ∀ w', Sh w' → (∀ k, k < 4 → wi w' 6 k = wi w 20 k) → (∀ k, k < 12 → wi w' 11 k = wi w 25 k) → (∀ j, j ≠ 6 → j ≠ 11 → w'[j]? = w[j]?) → sm_R X 21 17 [.ref 101, .ref 115, .int 3] [] w' Q) : sm_R X 21 17 [.ref 101, .ref 115, .int 2] [] w Q := by
  rw [r21_17]
  simp (decide := true) only [r21_0, r21_1, r21_4, r21_5, r21_6, r21_9, r21_10, r21_12, r21_15, r21_16, r21_18, r21_19, r21_22, r21_23, r21_26, r21_27, r21_28, r21_29, r21_30, r21_33, r21_34, r21_35, r21_36, r21_37, r21_40, r21_41, r21_44, r21_45, r21_46, r21_47, r21_48, r21_51, r21_52, r21_53, r21_54, r21_56, r21_59, r21_62, r21_65, r21_66, r21_69, r21_70, r21_71, r21_74, r21_75, r21_77, r21_80, r21_81, r21_84, r21_85, r21_86, r21_89, r21_90, r21_92, r21_95, r21_96, r21_97, r21_100, r21_103, sm_cpi, sm_in, sh1 hS, sh15 hS, sh3 hS, sh17 hS, sh8 hS, sh22 hS, sh6 hS, sh20 hS, sh11 hS, sh25 hS, zr3_p (show 2 < 4 by decide), zr8_p (show 2 < 4 by decide), zr17_p (show 2 < 4 by decide), zr22_p (show 2 < 4 by decide), sm_wp_some, sm_wp_none, sm_at, sm_get, sm_fld, sm_pfl, sm_cN, sm_ai, sm_al, sm_si, sm_slg, sm_aa, List.getElem?_cons_zero, List.getElem?_cons_succ, List.set_cons_zero, List.set_cons_succ, List.length_cons, List.length_nil, Option.toList_some, Option.toList_none, List.cons_append, List.nil_append, if_true, if_false, true_and, and_true, Option.some.injEq, gs_o, gs_s, List.length_set, hS.1, pk_us, Nat.reduceLT, Nat.reduceLeDiff, Nat.reduceSub, Nat.reduceEqDiff, Nat.reduceAdd, Int32.reduceLT, Int32.reduceLE, Int32.reduceAdd, Int32.reduceSub, Int32.reduceToNatClampNeg, reduceIte, reduceCtorEq, Nat.lt_irrefl]
  refine hQ _ hS.p6.p11 (fun k hk => ?_) (fun k hk => ?_) (fun j h1 h2 => ?_)
  · rw [wi_o (by decide), wi6_s hS.1, cpy_z hk]
  · rw [wi11_s (by rw [List.length_set, hS.1]), cpy_z hk]
  · rw [gs_o (by omega), gs_o (by omega)]
theorem cp1_3 {X : sm_X} {w : sm_W} {Q : Option Value → sm_W → Prop} (hS : Sh w) (hQ : ∀ w', Sh w' → (∀ k, k < 4 → wi w' 7 k = wi w 21 k) → (∀ k, k < 12 → wi w' 12 k = wi w 26 k) → (∀ j, j ≠ 7 → j ≠ 12 → w'[j]? = w[j]?) → sm_R X 21 17 [.ref 101, .ref 115, .int 4] [] w' Q) : sm_R X 21 17 [.ref 101, .ref 115, .int 3] [] w Q := by
  rw [r21_17]
  simp (decide := true) only [r21_0, r21_1, r21_4, r21_5, r21_6, r21_9, r21_10, r21_12, r21_15, r21_16, r21_18, r21_19, r21_22, r21_23, r21_26, r21_27, r21_28, r21_29, r21_30, r21_33, r21_34, r21_35, r21_36, r21_37, r21_40, r21_41, r21_44, r21_45, r21_46, r21_47, r21_48, r21_51, r21_52, r21_53, r21_54, r21_56, r21_59, r21_62, r21_65, r21_66, r21_69, r21_70, r21_71, r21_74, r21_75, r21_77, r21_80, r21_81, r21_84, r21_85, r21_86, r21_89, r21_90, r21_92, r21_95, r21_96, r21_97, r21_100, r21_103, sm_cpi, sm_in, sh1 hS, sh15 hS, sh3 hS, sh17 hS, sh8 hS, sh22 hS, sh7 hS, sh21 hS, sh12 hS, sh26 hS, zr3_p (show 3 < 4 by decide), zr8_p (show 3 < 4 by decide), zr17_p (show 3 < 4 by decide), zr22_p (show 3 < 4 by decide), sm_wp_some, sm_wp_none, sm_at, sm_get, sm_fld, sm_pfl, sm_cN, sm_ai, sm_al, sm_si, sm_slg, sm_aa, List.getElem?_cons_zero, List.getElem?_cons_succ, List.set_cons_zero, List.set_cons_succ, List.length_cons, List.length_nil, Option.toList_some, Option.toList_none, List.cons_append, List.nil_append, if_true, if_false, true_and, and_true, Option.some.injEq, gs_o, gs_s, List.length_set, hS.1, pk_us, Nat.reduceLT, Nat.reduceLeDiff, Nat.reduceSub, Nat.reduceEqDiff, Nat.reduceAdd, Int32.reduceLT, Int32.reduceLE, Int32.reduceAdd, Int32.reduceSub, Int32.reduceToNatClampNeg, reduceIte, reduceCtorEq, Nat.lt_irrefl]
  refine hQ _ hS.p7.p12 (fun k hk => ?_) (fun k hk => ?_) (fun j h1 h2 => ?_)
  · rw [wi_o (by decide), wi7_s hS.1, cpy_z hk]
  · rw [wi12_s (by rw [List.length_set, hS.1]), cpy_z hk]
  · rw [gs_o (by omega), gs_o (by omega)]
theorem cp1_e {X : sm_X} {w : sm_W} {Q : Option Value → sm_W → Prop} (hS : Sh w) (hQ : ∀ w', Sh w' → (∀ k, k < 6 → wi w' 13 k = wi w 27 k) → (∀ k, k < 8 → wi w' 14 k = wi w 28 k) → wn w' 1 5 = wn w 15 5 → (∀ j, j ≠ 13 → j ≠ 14 → j ≠ 1 → w'[j]? = w[j]?) → Q none w') : sm_R X 21 17 [.ref 101, .ref 115, .int 4] [] w Q := by
  rw [r21_17]
  simp (decide := true) only [r21_0, r21_1, r21_4, r21_5, r21_6, r21_9, r21_10, r21_12, r21_15, r21_16, r21_18, r21_19, r21_22, r21_23, r21_26, r21_27, r21_28, r21_29, r21_30, r21_33, r21_34, r21_35, r21_36, r21_37, r21_40, r21_41, r21_44, r21_45, r21_46, r21_47, r21_48, r21_51, r21_52, r21_53, r21_54, r21_56, r21_59, r21_62, r21_65, r21_66, r21_69, r21_70, r21_71, r21_74, r21_75, r21_77, r21_80, r21_81, r21_84, r21_85, r21_86, r21_89, r21_90, r21_92, r21_95, r21_96, r21_97, r21_100, r21_103, sm_cpi, sm_in, sh1 hS, sh15 hS, sh13 hS, sh27 hS, sh14 hS, sh28 hS, sm_wp_some, sm_wp_none, sm_at, sm_get, sm_fld, sm_pfl, sm_cN, sm_ai, sm_al, sm_si, sm_slg, sm_aa, List.getElem?_cons_zero, List.getElem?_cons_succ, List.set_cons_zero, List.set_cons_succ, List.length_cons, List.length_nil, Option.toList_some, Option.toList_none, List.cons_append, List.nil_append, if_true, if_false, true_and, and_true, Option.some.injEq, gs_o, gs_s, List.length_set, hS.1, pk_us, Nat.reduceLT, Nat.reduceLeDiff, Nat.reduceSub, Nat.reduceEqDiff, Nat.reduceAdd, Int32.reduceLT, Int32.reduceLE, Int32.reduceAdd, Int32.reduceSub, Int32.reduceToNatClampNeg, reduceIte, reduceCtorEq, Nat.lt_irrefl]
  refine hQ _ hS.p13.p14.p1 (fun k hk => ?_) (fun k hk => ?_) ?_ (fun j h1 h2 h3 => ?_)
  · rw [wi_o (by decide), wi_o (by decide), wi13_s hS.1, cpy_z hk]
  · rw [wi_o (by decide), wi14_s (by rw [List.length_set, hS.1]), cpy_z hk]
  · rw [wn1_5 (by rw [List.length_set, List.length_set, hS.1])]
  · rw [gs_o (by omega), gs_o (by omega), gs_o (by omega)]
theorem cp1 {X : sm_X} {w : sm_W} {Q : Option Value → sm_W → Prop} {S : sm_S} (hS : Sh w) (hB : BkC 15 w S) (hQ : ∀ w', Sh w' → BkC 1 w' S → (∀ j, j < 1 ∨ 14 < j → w'[j]? = w[j]?) → Q none w') : sm_R X 21 0 [.ref 101, .ref 115, sm_J] [] w Q := by
  simp (decide := true) only [r21_0, r21_1, r21_4, r21_5, r21_6, r21_9, r21_10, r21_12, r21_15, r21_16, r21_18, r21_19, r21_22, r21_23, r21_26, r21_27, r21_28, r21_29, r21_30, r21_33, r21_34, r21_35, r21_36, r21_37, r21_40, r21_41, r21_44, r21_45, r21_46, r21_47, r21_48, r21_51, r21_52, r21_53, r21_54, r21_56, r21_59, r21_62, r21_65, r21_66, r21_69, r21_70, r21_71, r21_74, r21_75, r21_77, r21_80, r21_81, r21_84, r21_85, r21_86, r21_89, r21_90, r21_92, r21_95, r21_96, r21_97, r21_100, r21_103, sm_cpi, sh1 hS, sh15 hS, sh2 hS, sh16 hS, sm_wp_some, sm_wp_none, sm_at, sm_get, sm_fld, sm_pfl, sm_cN, sm_ai, sm_al, sm_si, sm_slg, sm_aa, List.getElem?_cons_zero, List.getElem?_cons_succ, List.set_cons_zero, List.set_cons_succ, List.length_cons, List.length_nil, Option.toList_some, Option.toList_none, List.cons_append, List.nil_append, if_true, if_false, true_and, and_true, Option.some.injEq, gs_o, gs_s, List.length_set, hS.1, pk_us, Nat.reduceLT, Nat.reduceLeDiff, Nat.reduceSub, Nat.reduceEqDiff, Nat.reduceAdd, Int32.reduceLT, Int32.reduceLE, Int32.reduceAdd, Int32.reduceSub, Int32.reduceToNatClampNeg, reduceIte, reduceCtorEq, Nat.lt_irrefl]
  have e0 : ∀ j, j ≠ 2 → (w.set 2 (.inl (0, 6, .inl (va_cpy (wi w 16) (wi w 2) 0 0 6))))[j]? = w[j]? := fun j h => gs_o (by omega)
  have a0 : ∀ k, k < 6 → wi (w.set 2 (.inl (0, 6, .inl (va_cpy (wi w 16) (wi w 2) 0 0 6)))) 2 k = wi w 16 k := fun k hk => by rw [wi2_s hS.1, cpy_z hk]
  have h0 := hS.p2 (f := va_cpy (wi w 16) (wi w 2) 0 0 6)
  revert h0 e0 a0
  generalize w.set 2 (.inl (0, 6, .inl (va_cpy (wi w 16) (wi w 2) 0 0 6))) = w0
  intro e0 a0 h0
  refine cp1_0 h0 fun w1 h1 g1 l1 e1 => cp1_1 h1 fun w2 h2 g2 l2 e2 => cp1_2 h2 fun w3 h3 g3 l3 e3 => cp1_3 h3 fun w4 h4 g4 l4 e4 => cp1_e h4 fun w5 h5 g5 l5 n5 e5 => hQ w5 h5 ?_ (fun j hj => ?_)
  · obtain ⟨b1, b2, b3, b4, b5, b6⟩ := hB
    have E4 : ∀ j, j ≠ 13 → j ≠ 14 → j ≠ 1 → w5[j]? = w4[j]? := e5
    have K0 : ∀ j, j < 1 ∨ 14 < j → w0[j]? = w[j]? := fun j h => e0 j (by omega)
    have K1 : ∀ j, j < 1 ∨ 14 < j → w1[j]? = w[j]? := fun j h => (e1 j (by omega) (by omega)).trans (K0 j h)
    have K2 : ∀ j, j < 1 ∨ 14 < j → w2[j]? = w[j]? := fun j h => (e2 j (by omega) (by omega)).trans (K1 j h)
    have K3 : ∀ j, j < 1 ∨ 14 < j → w3[j]? = w[j]? := fun j h => (e3 j (by omega) (by omega)).trans (K2 j h)
    have K4 : ∀ j, j < 1 ∨ 14 < j → w4[j]? = w[j]? := fun j h => (e4 j (by omega) (by omega)).trans (K3 j h)
    refine ⟨fun a ha => ?_, fun p hp k hk => ?_, fun a ha => ?_, fun p hp i hi => ?_, ?_, fun j hj h8 => ?_⟩
    · rw [wi_c (e5 _ (by omega) (by omega) (by omega)), wi_c (e4 _ (by omega) (by omega)), wi_c (e3 _ (by omega) (by omega)), wi_c (e2 _ (by omega) (by omega)), wi_c (e1 _ (by omega) (by omega))]
      exact (a0 a ha).trans (b1 a ha)
    · rw [wi_c (e5 _ (by omega) (by omega) (by omega))]
      match p, hp with
      | 0, _ =>
        rw [wi_c (e4 _ (by omega) (by omega)), wi_c (e3 _ (by omega) (by omega)), wi_c (e2 _ (by omega) (by omega))]
        exact (g1 k hk).trans (by rw [wi_c (K0 _ (by omega))]; exact b2 0 (by decide) k hk)
      | 1, _ =>
        rw [wi_c (e4 _ (by omega) (by omega)), wi_c (e3 _ (by omega) (by omega))]
        exact (g2 k hk).trans (by rw [wi_c (K1 _ (by omega))]; exact b2 1 (by decide) k hk)
      | 2, _ =>
        rw [wi_c (e4 _ (by omega) (by omega))]
        exact (g3 k hk).trans (by rw [wi_c (K2 _ (by omega))]; exact b2 2 (by decide) k hk)
      | 3, _ => exact (g4 k hk).trans (by rw [wi_c (K3 _ (by omega))]; exact b2 3 (by decide) k hk)
    · exact (g5 a ha).trans (by rw [wi_c (K4 _ (by omega))]; exact b3 a ha)
    · rw [wi_c (e5 _ (by omega) (by omega) (by omega))]
      match p, hp with
      | 0, _ =>
        rw [wi_c (e4 _ (by omega) (by omega)), wi_c (e3 _ (by omega) (by omega)), wi_c (e2 _ (by omega) (by omega))]
        exact (l1 i hi).trans (by rw [wi_c (K0 _ (by omega))]; exact b4 0 (by decide) i hi)
      | 1, _ =>
        rw [wi_c (e4 _ (by omega) (by omega)), wi_c (e3 _ (by omega) (by omega))]
        exact (l2 i hi).trans (by rw [wi_c (K1 _ (by omega))]; exact b4 1 (by decide) i hi)
      | 2, _ =>
        rw [wi_c (e4 _ (by omega) (by omega))]
        exact (l3 i hi).trans (by rw [wi_c (K2 _ (by omega))]; exact b4 2 (by decide) i hi)
      | 3, _ => exact (l4 i hi).trans (by rw [wi_c (K3 _ (by omega))]; exact b4 3 (by decide) i hi)
    · rw [n5, wn_c (K4 _ (by omega))]
      exact b5
    · exact (l5 _ (by omega)).trans (by rw [wi_c (K4 _ (by omega))]; exact b6 j hj h8)
  · rw [e5 j (by omega) (by omega) (by omega), e4 j (by omega) (by omega), e3 j (by omega) (by omega), e2 j (by omega) (by omega), e1 j (by omega) (by omega), e0 j (by omega)]
