/-! THE OPERATIONS (gen/ops.py) -/
set_option maxHeartbeats 2000000 in
theorem dep0  : OpOK Inv 13 65 [.int 0] [.int 0, sm_J] := by
  intro X n w hn hI
  have hI2 := hI
  obtain ⟨hS, S, hC, hM, hB⟩ := hI
  have hC2 := hC
  have hM2 := hM
  have hB2 := hB
  obtain ⟨⟨b1, b2, b3, b4, b5, b6⟩, p1, ⟨g1, g2⟩, c1, r1, r2, r3, r4, r5⟩ := hC
  obtain ⟨⟨m1, m2, m3⟩, mp, ⟨mg1, mg2⟩, mc, n1, n2, n3, n4, n5, n6⟩ := hM
  obtain ⟨⟨q1, q2, q3⟩, q4, ⟨q5, q6⟩, q7, q8, q9, q10⟩ := hB
  have v4 : wn w 29 2 = nI (S 3 4) := (p1 4 (by decide)).1
  have u4 : wi w 64 4 = nI (S 3 4) := (mp 4 (by decide)).1
  have h32 := (q4 4 (by decide)).1
  by_cases hz : S 3 4 = 0
  · have z0 : nI (S 3 4) = 0 := by rw [hz]; rfl
    simp (decide := true) only [r13_0, r13_1, r13_2, r13_5, r13_8, r13_9, r13_12, r13_15, r13_18, r13_19, r13_20, r13_21, r13_24, r13_25, r13_26, r13_27, r13_30, r13_33, r13_34, r13_37, r13_38, r13_41, r13_42, r13_45, r13_46, r13_49, r13_50, r13_53, r13_54, r13_55, r13_58, r8_0, r8_1, r8_4, r8_5, r8_6, r8_9, r8_10, r8_13, r8_14 (s0 := 0) (Or.inl rfl), r8_14 (s0 := 1) (Or.inr rfl), sh0 hS, sh29 hS, r65_0, r65_1, r65_2, r65_3, r65_4, r65_7, r65_10, r65_11, r65_14, r65_15, r65_16, r65_19, r65_20, r65_21, r65_22, r62_0, r62_1, r62_2, r62_5, r62_6, r62_7, r62_10, r62_11, r62_14, r62_15 (s0 := 0) (Or.inl rfl), r62_15 (s0 := 1) (Or.inr rfl), sh59 hS, sh64 hS, v4, u4, z0, sm_wp_some, sm_wp_none, sm_at, sm_get, sm_fld, sm_pfl, sm_cN, sm_ai, sm_al, sm_si, sm_slg, sm_aa, List.getElem?_cons_zero, List.getElem?_cons_succ, List.set_cons_zero, List.set_cons_succ, List.length_cons, List.length_nil, Option.toList_some, Option.toList_none, List.cons_append, List.nil_append, if_true, if_false, true_and, and_true, Option.some.injEq, gs_o, gs_s, List.length_set, hS.1, pk_us, Nat.reduceLT, Nat.reduceLeDiff, Nat.reduceSub, Nat.reduceEqDiff, Nat.reduceAdd, Int32.reduceLT, Int32.reduceLE, Int32.reduceAdd, Int32.reduceSub, Int32.reduceToNatClampNeg, reduceIte, reduceCtorEq, Nat.lt_irrefl, List.set_set]
    exact ⟨hS, _, rfl, rfl, hI2.step⟩
  · have z0 : ¬ nI (S 3 4) = 0 := fun h => hz ((nI_z (by omega)).mp h)
    have z1 : ¬ nI (S 3 4) < 0 := nI_pos (by omega)
    have z2 : (nI (S 3 4)).toNatClampNeg = S 3 4 := nI_clamp (by omega)
    have z3 : 0 + S 3 4 ≤ 32 := by omega
    simp (decide := true) only [r13_0, r13_1, r13_2, r13_5, r13_8, r13_9, r13_12, r13_15, r13_18, r13_19, r13_20, r13_21, r13_24, r13_25, r13_26, r13_27, r13_30, r13_33, r13_34, r13_37, r13_38, r13_41, r13_42, r13_45, r13_46, r13_49, r13_50, r13_53, r13_54, r13_55, r13_58, r8_0, r8_1, r8_4, r8_5, r8_6, r8_9, r8_10, r8_13, r8_14 (s0 := 0) (Or.inl rfl), r8_14 (s0 := 1) (Or.inr rfl), r14_0, r14_1, r14_4, r14_5, r14_6, r14_9, r14_10, r14_11, r14_14, r14_17, r14_18, r14_21, r14_22, r14_23, r14_26, r14_27, r14_28, r14_31, r14_34, r14_35, r14_36, r14_39, r14_42, sm_cpi, sh0 hS, sh1 hS, sh29 hS, sh30 hS, sh31 hS, sh32 hS, sh33 hS, sh34 hS, sh35 hS, v4, z0, z1, z2, z3, sm_in, zr32_p (show 0 < 4 by decide), Nat.reduceMul, r15_0, r15_1, sm_wp_some, sm_wp_none, sm_at, sm_get, sm_fld, sm_pfl, sm_cN, sm_ai, sm_al, sm_si, sm_slg, sm_aa, List.getElem?_cons_zero, List.getElem?_cons_succ, List.set_cons_zero, List.set_cons_succ, List.length_cons, List.length_nil, Option.toList_some, Option.toList_none, List.cons_append, List.nil_append, if_true, if_false, true_and, and_true, Option.some.injEq, gs_o, gs_s, List.length_set, hS.1, pk_us, Nat.reduceLT, Nat.reduceLeDiff, Nat.reduceSub, Nat.reduceEqDiff, Nat.reduceAdd, Int32.reduceLT, Int32.reduceLE, Int32.reduceAdd, Int32.reduceSub, Int32.reduceToNatClampNeg, reduceIte, reduceCtorEq, Nat.lt_irrefl, List.set_set]
    refine cg_loop (p := 0) (by decide) ?_ 4 0 _ rfl ⟨hS.p34.p35.p33.p29, fun k hk => absurd hk (Nat.not_lt_zero k), fun j _ => rfl⟩
    rintro w1 ⟨hS1, c1, c2⟩
    have x1 : wn w1 33 2 = nI (S 3 4) := by rw [wn_c (c2 33 (by decide)), wn_o (by decide), wn33_2 (by simp only [List.length_set, hS.1])]
    have x2 : wi w1 64 4 = nI (S 3 4) := by rw [wi_c (c2 64 (by decide)), wi_o (by decide), wi_o (by decide), wi_o (by decide), wi_o (by decide)]; exact u4
    simp (decide := true) only [r13_0, r13_1, r13_2, r13_5, r13_8, r13_9, r13_12, r13_15, r13_18, r13_19, r13_20, r13_21, r13_24, r13_25, r13_26, r13_27, r13_30, r13_33, r13_34, r13_37, r13_38, r13_41, r13_42, r13_45, r13_46, r13_49, r13_50, r13_53, r13_54, r13_55, r13_58, sh0 hS1, sh32 hS1, sh33 hS1, sm_in, zr32_p (show 0 < 4 by decide), Nat.reduceMul, x1, sm_wp_some, sm_wp_none, sm_at, sm_get, sm_fld, sm_pfl, sm_cN, sm_ai, sm_al, sm_si, sm_slg, sm_aa, List.getElem?_cons_zero, List.getElem?_cons_succ, List.set_cons_zero, List.set_cons_succ, List.length_cons, List.length_nil, Option.toList_some, Option.toList_none, List.cons_append, List.nil_append, if_true, if_false, true_and, and_true, Option.some.injEq, gs_o, gs_s, List.length_set, hS.1, pk_us, Nat.reduceLT, Nat.reduceLeDiff, Nat.reduceSub, Nat.reduceEqDiff, Nat.reduceAdd, Int32.reduceLT, Int32.reduceLE, Int32.reduceAdd, Int32.reduceSub, Int32.reduceToNatClampNeg, reduceIte, reduceCtorEq, Nat.lt_irrefl, List.set_set]
    refine ⟨hS1, _, rfl, ?_⟩
    simp (decide := true) only [r65_0, r65_1, r65_2, r65_3, r65_4, r65_7, r65_10, r65_11, r65_14, r65_15, r65_16, r65_19, r65_20, r65_21, r65_22, r62_0, r62_1, r62_2, r62_5, r62_6, r62_7, r62_10, r62_11, r62_14, r62_15 (s0 := 0) (Or.inl rfl), r62_15 (s0 := 1) (Or.inr rfl), sh59 hS1, sh64 hS1, x2, z0, sm_wp_some, sm_wp_none, sm_at, sm_get, sm_fld, sm_pfl, sm_cN, sm_ai, sm_al, sm_si, sm_slg, sm_aa, List.getElem?_cons_zero, List.getElem?_cons_succ, List.set_cons_zero, List.set_cons_succ, List.length_cons, List.length_nil, Option.toList_some, Option.toList_none, List.cons_append, List.nil_append, if_true, if_false, true_and, and_true, Option.some.injEq, gs_o, gs_s, List.length_set, hS.1, pk_us, Nat.reduceLT, Nat.reduceLeDiff, Nat.reduceSub, Nat.reduceEqDiff, Nat.reduceAdd, Int32.reduceLT, Int32.reduceLE, Int32.reduceAdd, Int32.reduceSub, Int32.reduceToNatClampNeg, reduceIte, reduceCtorEq, Nat.lt_irrefl, List.set_set]
    refine md_loop (w0 := w1) (p := 0) (by decide) ?_ 32 0 w1 rfl ⟨hS1, fun k hk => absurd hk (Nat.not_lt_zero k), fun k _ => ⟨rfl, rfl⟩, fun j _ _ => rfl⟩
    rintro w2 ⟨hS2, e1, e2, e3⟩
    rw [r65_77, r65_78]
    refine mg_loop (w0 := w2) (p := 0) (by decide) ?_ 4 0 w2 rfl ⟨hS2, fun k hk => absurd hk (Nat.not_lt_zero k), fun k _ => rfl, fun j _ => rfl⟩
    rintro w3 ⟨hS3, f1, f2, f3⟩
    have x3 : wi w3 64 = wi w 64 := by rw [wi_c (f3 64 (by decide)), wi_c (e3 64 (by decide) (by decide)), wi_c (c2 64 (by decide)), wi_o (by decide), wi_o (by decide), wi_o (by decide), wi_o (by decide)]
    have len3 := hS3.1
    simp (decide := true) only [r65_104, r65_105, r65_108, r65_109, r65_110, r65_113, r65_114, r65_115, r65_116, r65_117, r65_120, r65_121, r65_122, r65_123, r65_124, r65_127, r65_128, r65_129, sh59 hS3, sh64 hS3, sm_in, x3, u4, len3, nI_clamp (show 0 < 2 ^ 31 by decide), sm_wp_some, sm_wp_none, sm_at, sm_get, sm_fld, sm_pfl, sm_cN, sm_ai, sm_al, sm_si, sm_slg, sm_aa, List.getElem?_cons_zero, List.getElem?_cons_succ, List.set_cons_zero, List.set_cons_succ, List.length_cons, List.length_nil, Option.toList_some, Option.toList_none, List.cons_append, List.nil_append, if_true, if_false, true_and, and_true, Option.some.injEq, gs_o, gs_s, List.length_set, hS3.1, pk_us, Nat.reduceLT, Nat.reduceLeDiff, Nat.reduceSub, Nat.reduceEqDiff, Nat.reduceAdd, Int32.reduceLT, Int32.reduceLE, Int32.reduceAdd, Int32.reduceSub, Int32.reduceToNatClampNeg, reduceIte, reduceCtorEq, Nat.lt_irrefl, List.set_set]
    have x4 : upd (upd (wi w 64) 0 (nI (S 3 4))) 4 0 0 = nI (S 3 4) := by rw [pk_un (by decide), pk_us]
    refine ⟨by rw [x4], inv_dep (p := 0) (by decide) hS3.p64 hC2 hM2 hB2 (fun j g1 g2 g3 g4 g5 => ?_) (fun k hk => ?_) ?_ ?_ (fun k hk => ?_) (fun k hk => ?_) (fun k hk => ?_) (fun k hk => ?_) (fun k hk => ?_) (wi64_s hS3.1)⟩
    · rw [gs_o (by omega), f3 j (by omega), e3 j (by omega) (by omega), c2 j (by omega), gs_o (by omega), gs_o (by omega), gs_o (by omega), gs_o (by omega)]
    · rw [wi_o (by decide), wi_c (f3 _ (by decide)), wi_c (e3 _ (by decide) (by decide))]
      exact c1 k hk
    · rw [wn_o (by decide), wn_c (f3 _ (by decide)), wn_c (e3 _ (by decide) (by decide)), wn_c (c2 _ (by decide)), wn29_2 (by simp only [List.length_set, hS.1])]
    · rw [wn_o (by decide), wn_c (f3 _ (by decide)), wn_c (e3 _ (by decide) (by decide))]
      exact x1
    · rw [wi_o (by decide), wi_o (by decide), wi_c (f3 _ (by decide)), wi_c (e3 _ (by decide) (by decide)), wi_c (c2 _ (by decide)), wi_c (f3 _ (by decide)), wi_c (e3 _ (by decide) (by decide)), wi_c (c2 _ (by decide))]
      simp (decide := true) only [Nat.reduceMul, Nat.reduceAdd, wi_o, wi34_s, wi35_s, List.length_set, hS.1]
      rw [pk_cpy_in (by omega) (by omega), pk_cpy_in (by omega) (by omega)]
      simp only [Nat.zero_add, Nat.sub_zero, and_self]
    · have n1 := wi_c (c2 62 (by decide))
      have n2 := wi_c (c2 63 (by decide))
      simp (decide := true) only [wi_o] at n1 n2
      rw [wi_o (by decide), wi_o (by decide), wi_c (f3 62 (by decide)), wi_c (f3 63 (by decide)), (e1 k hk).1, (e1 k hk).2, n1, n2]
      exact ⟨rfl, rfl⟩
    · have n1 := wi_c (c2 62 (by decide))
      have n2 := wi_c (c2 63 (by decide))
      simp (decide := true) only [wi_o] at n1 n2
      rw [wi_o (by decide), wi_o (by decide), wi_c (f3 62 (by decide)), wi_c (f3 63 (by decide)), (e2 k (by omega)).1, (e2 k (by omega)).2, n1, n2]
      exact ⟨rfl, rfl⟩
    · rw [wl_o (by decide)]
      exact f1 k hk
    · rw [wl_o (by decide), f2 k hk, wl_c (e3 60 (by decide) (by decide)), wl_c (c2 60 (by decide))]
      simp (decide := true) only [wl_o]
set_option maxHeartbeats 2000000 in
theorem dep1  : OpOK Inv 13 65 [.int 1] [.int 1, sm_J] := by
  intro X n w hn hI
  have hI2 := hI
  obtain ⟨hS, S, hC, hM, hB⟩ := hI
  have hC2 := hC
  have hM2 := hM
  have hB2 := hB
  obtain ⟨⟨b1, b2, b3, b4, b5, b6⟩, p1, ⟨g1, g2⟩, c1, r1, r2, r3, r4, r5⟩ := hC
  obtain ⟨⟨m1, m2, m3⟩, mp, ⟨mg1, mg2⟩, mc, n1, n2, n3, n4, n5, n6⟩ := hM
  obtain ⟨⟨q1, q2, q3⟩, q4, ⟨q5, q6⟩, q7, q8, q9, q10⟩ := hB
  have v4 : wn w 29 2 = nI (S 3 4) := (p1 4 (by decide)).1
  have u4 : wi w 64 4 = nI (S 3 4) := (mp 4 (by decide)).1
  have h32 := (q4 4 (by decide)).1
  by_cases hz : S 3 4 = 0
  · have z0 : nI (S 3 4) = 0 := by rw [hz]; rfl
    simp (decide := true) only [r13_0, r13_1, r13_2, r13_5, r13_8, r13_9, r13_12, r13_15, r13_18, r13_19, r13_20, r13_21, r13_24, r13_25, r13_26, r13_27, r13_30, r13_33, r13_34, r13_37, r13_38, r13_41, r13_42, r13_45, r13_46, r13_49, r13_50, r13_53, r13_54, r13_55, r13_58, r8_0, r8_1, r8_4, r8_5, r8_6, r8_9, r8_10, r8_13, r8_14 (s0 := 0) (Or.inl rfl), r8_14 (s0 := 1) (Or.inr rfl), sh0 hS, sh29 hS, r65_0, r65_1, r65_2, r65_3, r65_4, r65_7, r65_10, r65_11, r65_14, r65_15, r65_16, r65_19, r65_20, r65_21, r65_22, r62_0, r62_1, r62_2, r62_5, r62_6, r62_7, r62_10, r62_11, r62_14, r62_15 (s0 := 0) (Or.inl rfl), r62_15 (s0 := 1) (Or.inr rfl), sh59 hS, sh64 hS, v4, u4, z0, sm_wp_some, sm_wp_none, sm_at, sm_get, sm_fld, sm_pfl, sm_cN, sm_ai, sm_al, sm_si, sm_slg, sm_aa, List.getElem?_cons_zero, List.getElem?_cons_succ, List.set_cons_zero, List.set_cons_succ, List.length_cons, List.length_nil, Option.toList_some, Option.toList_none, List.cons_append, List.nil_append, if_true, if_false, true_and, and_true, Option.some.injEq, gs_o, gs_s, List.length_set, hS.1, pk_us, Nat.reduceLT, Nat.reduceLeDiff, Nat.reduceSub, Nat.reduceEqDiff, Nat.reduceAdd, Int32.reduceLT, Int32.reduceLE, Int32.reduceAdd, Int32.reduceSub, Int32.reduceToNatClampNeg, reduceIte, reduceCtorEq, Nat.lt_irrefl, List.set_set]
    exact ⟨hS, _, rfl, rfl, hI2.step⟩
  · have z0 : ¬ nI (S 3 4) = 0 := fun h => hz ((nI_z (by omega)).mp h)
    have z1 : ¬ nI (S 3 4) < 0 := nI_pos (by omega)
    have z2 : (nI (S 3 4)).toNatClampNeg = S 3 4 := nI_clamp (by omega)
    have z3 : 0 + S 3 4 ≤ 32 := by omega
    simp (decide := true) only [r13_0, r13_1, r13_2, r13_5, r13_8, r13_9, r13_12, r13_15, r13_18, r13_19, r13_20, r13_21, r13_24, r13_25, r13_26, r13_27, r13_30, r13_33, r13_34, r13_37, r13_38, r13_41, r13_42, r13_45, r13_46, r13_49, r13_50, r13_53, r13_54, r13_55, r13_58, r8_0, r8_1, r8_4, r8_5, r8_6, r8_9, r8_10, r8_13, r8_14 (s0 := 0) (Or.inl rfl), r8_14 (s0 := 1) (Or.inr rfl), r14_0, r14_1, r14_4, r14_5, r14_6, r14_9, r14_10, r14_11, r14_14, r14_17, r14_18, r14_21, r14_22, r14_23, r14_26, r14_27, r14_28, r14_31, r14_34, r14_35, r14_36, r14_39, r14_42, sm_cpi, sh0 hS, sh1 hS, sh29 hS, sh30 hS, sh31 hS, sh32 hS, sh36 hS, sh37 hS, sh38 hS, v4, z0, z1, z2, z3, sm_in, zr32_p (show 1 < 4 by decide), Nat.reduceMul, r15_0, r15_1, sm_wp_some, sm_wp_none, sm_at, sm_get, sm_fld, sm_pfl, sm_cN, sm_ai, sm_al, sm_si, sm_slg, sm_aa, List.getElem?_cons_zero, List.getElem?_cons_succ, List.set_cons_zero, List.set_cons_succ, List.length_cons, List.length_nil, Option.toList_some, Option.toList_none, List.cons_append, List.nil_append, if_true, if_false, true_and, and_true, Option.some.injEq, gs_o, gs_s, List.length_set, hS.1, pk_us, Nat.reduceLT, Nat.reduceLeDiff, Nat.reduceSub, Nat.reduceEqDiff, Nat.reduceAdd, Int32.reduceLT, Int32.reduceLE, Int32.reduceAdd, Int32.reduceSub, Int32.reduceToNatClampNeg, reduceIte, reduceCtorEq, Nat.lt_irrefl, List.set_set]
    refine cg_loop (p := 1) (by decide) ?_ 4 0 _ rfl ⟨hS.p37.p38.p36.p29, fun k hk => absurd hk (Nat.not_lt_zero k), fun j _ => rfl⟩
    rintro w1 ⟨hS1, c1, c2⟩
    have x1 : wn w1 36 2 = nI (S 3 4) := by rw [wn_c (c2 36 (by decide)), wn_o (by decide), wn36_2 (by simp only [List.length_set, hS.1])]
    have x2 : wi w1 64 4 = nI (S 3 4) := by rw [wi_c (c2 64 (by decide)), wi_o (by decide), wi_o (by decide), wi_o (by decide), wi_o (by decide)]; exact u4
    simp (decide := true) only [r13_0, r13_1, r13_2, r13_5, r13_8, r13_9, r13_12, r13_15, r13_18, r13_19, r13_20, r13_21, r13_24, r13_25, r13_26, r13_27, r13_30, r13_33, r13_34, r13_37, r13_38, r13_41, r13_42, r13_45, r13_46, r13_49, r13_50, r13_53, r13_54, r13_55, r13_58, sh0 hS1, sh32 hS1, sh36 hS1, sm_in, zr32_p (show 1 < 4 by decide), Nat.reduceMul, x1, sm_wp_some, sm_wp_none, sm_at, sm_get, sm_fld, sm_pfl, sm_cN, sm_ai, sm_al, sm_si, sm_slg, sm_aa, List.getElem?_cons_zero, List.getElem?_cons_succ, List.set_cons_zero, List.set_cons_succ, List.length_cons, List.length_nil, Option.toList_some, Option.toList_none, List.cons_append, List.nil_append, if_true, if_false, true_and, and_true, Option.some.injEq, gs_o, gs_s, List.length_set, hS.1, pk_us, Nat.reduceLT, Nat.reduceLeDiff, Nat.reduceSub, Nat.reduceEqDiff, Nat.reduceAdd, Int32.reduceLT, Int32.reduceLE, Int32.reduceAdd, Int32.reduceSub, Int32.reduceToNatClampNeg, reduceIte, reduceCtorEq, Nat.lt_irrefl, List.set_set]
    refine ⟨hS1, _, rfl, ?_⟩
    simp (decide := true) only [r65_0, r65_1, r65_2, r65_3, r65_4, r65_7, r65_10, r65_11, r65_14, r65_15, r65_16, r65_19, r65_20, r65_21, r65_22, r62_0, r62_1, r62_2, r62_5, r62_6, r62_7, r62_10, r62_11, r62_14, r62_15 (s0 := 0) (Or.inl rfl), r62_15 (s0 := 1) (Or.inr rfl), sh59 hS1, sh64 hS1, x2, z0, sm_wp_some, sm_wp_none, sm_at, sm_get, sm_fld, sm_pfl, sm_cN, sm_ai, sm_al, sm_si, sm_slg, sm_aa, List.getElem?_cons_zero, List.getElem?_cons_succ, List.set_cons_zero, List.set_cons_succ, List.length_cons, List.length_nil, Option.toList_some, Option.toList_none, List.cons_append, List.nil_append, if_true, if_false, true_and, and_true, Option.some.injEq, gs_o, gs_s, List.length_set, hS.1, pk_us, Nat.reduceLT, Nat.reduceLeDiff, Nat.reduceSub, Nat.reduceEqDiff, Nat.reduceAdd, Int32.reduceLT, Int32.reduceLE, Int32.reduceAdd, Int32.reduceSub, Int32.reduceToNatClampNeg, reduceIte, reduceCtorEq, Nat.lt_irrefl, List.set_set]
    refine md_loop (w0 := w1) (p := 1) (by decide) ?_ 32 0 w1 rfl ⟨hS1, fun k hk => absurd hk (Nat.not_lt_zero k), fun k _ => ⟨rfl, rfl⟩, fun j _ _ => rfl⟩
    rintro w2 ⟨hS2, e1, e2, e3⟩
    rw [r65_77, r65_78]
    refine mg_loop (w0 := w2) (p := 1) (by decide) ?_ 4 0 w2 rfl ⟨hS2, fun k hk => absurd hk (Nat.not_lt_zero k), fun k _ => rfl, fun j _ => rfl⟩
    rintro w3 ⟨hS3, f1, f2, f3⟩
    have x3 : wi w3 64 = wi w 64 := by rw [wi_c (f3 64 (by decide)), wi_c (e3 64 (by decide) (by decide)), wi_c (c2 64 (by decide)), wi_o (by decide), wi_o (by decide), wi_o (by decide), wi_o (by decide)]
    have len3 := hS3.1
    simp (decide := true) only [r65_104, r65_105, r65_108, r65_109, r65_110, r65_113, r65_114, r65_115, r65_116, r65_117, r65_120, r65_121, r65_122, r65_123, r65_124, r65_127, r65_128, r65_129, sh59 hS3, sh64 hS3, sm_in, x3, u4, len3, nI_clamp (show 1 < 2 ^ 31 by decide), sm_wp_some, sm_wp_none, sm_at, sm_get, sm_fld, sm_pfl, sm_cN, sm_ai, sm_al, sm_si, sm_slg, sm_aa, List.getElem?_cons_zero, List.getElem?_cons_succ, List.set_cons_zero, List.set_cons_succ, List.length_cons, List.length_nil, Option.toList_some, Option.toList_none, List.cons_append, List.nil_append, if_true, if_false, true_and, and_true, Option.some.injEq, gs_o, gs_s, List.length_set, hS3.1, pk_us, Nat.reduceLT, Nat.reduceLeDiff, Nat.reduceSub, Nat.reduceEqDiff, Nat.reduceAdd, Int32.reduceLT, Int32.reduceLE, Int32.reduceAdd, Int32.reduceSub, Int32.reduceToNatClampNeg, reduceIte, reduceCtorEq, Nat.lt_irrefl, List.set_set]
    have x4 : upd (upd (wi w 64) 1 (nI (S 3 4))) 4 0 1 = nI (S 3 4) := by rw [pk_un (by decide), pk_us]
    refine ⟨by rw [x4], inv_dep (p := 1) (by decide) hS3.p64 hC2 hM2 hB2 (fun j g1 g2 g3 g4 g5 => ?_) (fun k hk => ?_) ?_ ?_ (fun k hk => ?_) (fun k hk => ?_) (fun k hk => ?_) (fun k hk => ?_) (fun k hk => ?_) (wi64_s hS3.1)⟩
    · rw [gs_o (by omega), f3 j (by omega), e3 j (by omega) (by omega), c2 j (by omega), gs_o (by omega), gs_o (by omega), gs_o (by omega), gs_o (by omega)]
    · rw [wi_o (by decide), wi_c (f3 _ (by decide)), wi_c (e3 _ (by decide) (by decide))]
      exact c1 k hk
    · rw [wn_o (by decide), wn_c (f3 _ (by decide)), wn_c (e3 _ (by decide) (by decide)), wn_c (c2 _ (by decide)), wn29_2 (by simp only [List.length_set, hS.1])]
    · rw [wn_o (by decide), wn_c (f3 _ (by decide)), wn_c (e3 _ (by decide) (by decide))]
      exact x1
    · rw [wi_o (by decide), wi_o (by decide), wi_c (f3 _ (by decide)), wi_c (e3 _ (by decide) (by decide)), wi_c (c2 _ (by decide)), wi_c (f3 _ (by decide)), wi_c (e3 _ (by decide) (by decide)), wi_c (c2 _ (by decide))]
      simp (decide := true) only [Nat.reduceMul, Nat.reduceAdd, wi_o, wi37_s, wi38_s, List.length_set, hS.1]
      rw [pk_cpy_in (by omega) (by omega), pk_cpy_in (by omega) (by omega)]
      simp only [Nat.zero_add, Nat.sub_zero, and_self]
    · have n1 := wi_c (c2 62 (by decide))
      have n2 := wi_c (c2 63 (by decide))
      simp (decide := true) only [wi_o] at n1 n2
      rw [wi_o (by decide), wi_o (by decide), wi_c (f3 62 (by decide)), wi_c (f3 63 (by decide)), (e1 k hk).1, (e1 k hk).2, n1, n2]
      exact ⟨rfl, rfl⟩
    · have n1 := wi_c (c2 62 (by decide))
      have n2 := wi_c (c2 63 (by decide))
      simp (decide := true) only [wi_o] at n1 n2
      rw [wi_o (by decide), wi_o (by decide), wi_c (f3 62 (by decide)), wi_c (f3 63 (by decide)), (e2 k (by omega)).1, (e2 k (by omega)).2, n1, n2]
      exact ⟨rfl, rfl⟩
    · rw [wl_o (by decide)]
      exact f1 k hk
    · rw [wl_o (by decide), f2 k hk, wl_c (e3 60 (by decide) (by decide)), wl_c (c2 60 (by decide))]
      simp (decide := true) only [wl_o]
set_option maxHeartbeats 2000000 in
theorem dep2  : OpOK Inv 13 65 [.int 2] [.int 2, sm_J] := by
  intro X n w hn hI
  have hI2 := hI
  obtain ⟨hS, S, hC, hM, hB⟩ := hI
  have hC2 := hC
  have hM2 := hM
  have hB2 := hB
  obtain ⟨⟨b1, b2, b3, b4, b5, b6⟩, p1, ⟨g1, g2⟩, c1, r1, r2, r3, r4, r5⟩ := hC
  obtain ⟨⟨m1, m2, m3⟩, mp, ⟨mg1, mg2⟩, mc, n1, n2, n3, n4, n5, n6⟩ := hM
  obtain ⟨⟨q1, q2, q3⟩, q4, ⟨q5, q6⟩, q7, q8, q9, q10⟩ := hB
  have v4 : wn w 29 2 = nI (S 3 4) := (p1 4 (by decide)).1
  have u4 : wi w 64 4 = nI (S 3 4) := (mp 4 (by decide)).1
  have h32 := (q4 4 (by decide)).1
  by_cases hz : S 3 4 = 0
  · have z0 : nI (S 3 4) = 0 := by rw [hz]; rfl
    simp (decide := true) only [r13_0, r13_1, r13_2, r13_5, r13_8, r13_9, r13_12, r13_15, r13_18, r13_19, r13_20, r13_21, r13_24, r13_25, r13_26, r13_27, r13_30, r13_33, r13_34, r13_37, r13_38, r13_41, r13_42, r13_45, r13_46, r13_49, r13_50, r13_53, r13_54, r13_55, r13_58, r8_0, r8_1, r8_4, r8_5, r8_6, r8_9, r8_10, r8_13, r8_14 (s0 := 0) (Or.inl rfl), r8_14 (s0 := 1) (Or.inr rfl), sh0 hS, sh29 hS, r65_0, r65_1, r65_2, r65_3, r65_4, r65_7, r65_10, r65_11, r65_14, r65_15, r65_16, r65_19, r65_20, r65_21, r65_22, r62_0, r62_1, r62_2, r62_5, r62_6, r62_7, r62_10, r62_11, r62_14, r62_15 (s0 := 0) (Or.inl rfl), r62_15 (s0 := 1) (Or.inr rfl), sh59 hS, sh64 hS, v4, u4, z0, sm_wp_some, sm_wp_none, sm_at, sm_get, sm_fld, sm_pfl, sm_cN, sm_ai, sm_al, sm_si, sm_slg, sm_aa, List.getElem?_cons_zero, List.getElem?_cons_succ, List.set_cons_zero, List.set_cons_succ, List.length_cons, List.length_nil, Option.toList_some, Option.toList_none, List.cons_append, List.nil_append, if_true, if_false, true_and, and_true, Option.some.injEq, gs_o, gs_s, List.length_set, hS.1, pk_us, Nat.reduceLT, Nat.reduceLeDiff, Nat.reduceSub, Nat.reduceEqDiff, Nat.reduceAdd, Int32.reduceLT, Int32.reduceLE, Int32.reduceAdd, Int32.reduceSub, Int32.reduceToNatClampNeg, reduceIte, reduceCtorEq, Nat.lt_irrefl, List.set_set]
    exact ⟨hS, _, rfl, rfl, hI2.step⟩
  · have z0 : ¬ nI (S 3 4) = 0 := fun h => hz ((nI_z (by omega)).mp h)
    have z1 : ¬ nI (S 3 4) < 0 := nI_pos (by omega)
    have z2 : (nI (S 3 4)).toNatClampNeg = S 3 4 := nI_clamp (by omega)
    have z3 : 0 + S 3 4 ≤ 32 := by omega
    simp (decide := true) only [r13_0, r13_1, r13_2, r13_5, r13_8, r13_9, r13_12, r13_15, r13_18, r13_19, r13_20, r13_21, r13_24, r13_25, r13_26, r13_27, r13_30, r13_33, r13_34, r13_37, r13_38, r13_41, r13_42, r13_45, r13_46, r13_49, r13_50, r13_53, r13_54, r13_55, r13_58, r8_0, r8_1, r8_4, r8_5, r8_6, r8_9, r8_10, r8_13, r8_14 (s0 := 0) (Or.inl rfl), r8_14 (s0 := 1) (Or.inr rfl), r14_0, r14_1, r14_4, r14_5, r14_6, r14_9, r14_10, r14_11, r14_14, r14_17, r14_18, r14_21, r14_22, r14_23, r14_26, r14_27, r14_28, r14_31, r14_34, r14_35, r14_36, r14_39, r14_42, sm_cpi, sh0 hS, sh1 hS, sh29 hS, sh30 hS, sh31 hS, sh32 hS, sh39 hS, sh40 hS, sh41 hS, v4, z0, z1, z2, z3, sm_in, zr32_p (show 2 < 4 by decide), Nat.reduceMul, r15_0, r15_1, sm_wp_some, sm_wp_none, sm_at, sm_get, sm_fld, sm_pfl, sm_cN, sm_ai, sm_al, sm_si, sm_slg, sm_aa, List.getElem?_cons_zero, List.getElem?_cons_succ, List.set_cons_zero, List.set_cons_succ, List.length_cons, List.length_nil, Option.toList_some, Option.toList_none, List.cons_append, List.nil_append, if_true, if_false, true_and, and_true, Option.some.injEq, gs_o, gs_s, List.length_set, hS.1, pk_us, Nat.reduceLT, Nat.reduceLeDiff, Nat.reduceSub, Nat.reduceEqDiff, Nat.reduceAdd, Int32.reduceLT, Int32.reduceLE, Int32.reduceAdd, Int32.reduceSub, Int32.reduceToNatClampNeg, reduceIte, reduceCtorEq, Nat.lt_irrefl, List.set_set]
    refine cg_loop (p := 2) (by decide) ?_ 4 0 _ rfl ⟨hS.p40.p41.p39.p29, fun k hk => absurd hk (Nat.not_lt_zero k), fun j _ => rfl⟩
    rintro w1 ⟨hS1, c1, c2⟩
    have x1 : wn w1 39 2 = nI (S 3 4) := by rw [wn_c (c2 39 (by decide)), wn_o (by decide), wn39_2 (by simp only [List.length_set, hS.1])]
    have x2 : wi w1 64 4 = nI (S 3 4) := by rw [wi_c (c2 64 (by decide)), wi_o (by decide), wi_o (by decide), wi_o (by decide), wi_o (by decide)]; exact u4
    simp (decide := true) only [r13_0, r13_1, r13_2, r13_5, r13_8, r13_9, r13_12, r13_15, r13_18, r13_19, r13_20, r13_21, r13_24, r13_25, r13_26, r13_27, r13_30, r13_33, r13_34, r13_37, r13_38, r13_41, r13_42, r13_45, r13_46, r13_49, r13_50, r13_53, r13_54, r13_55, r13_58, sh0 hS1, sh32 hS1, sh39 hS1, sm_in, zr32_p (show 2 < 4 by decide), Nat.reduceMul, x1, sm_wp_some, sm_wp_none, sm_at, sm_get, sm_fld, sm_pfl, sm_cN, sm_ai, sm_al, sm_si, sm_slg, sm_aa, List.getElem?_cons_zero, List.getElem?_cons_succ, List.set_cons_zero, List.set_cons_succ, List.length_cons, List.length_nil, Option.toList_some, Option.toList_none, List.cons_append, List.nil_append, if_true, if_false, true_and, and_true, Option.some.injEq, gs_o, gs_s, List.length_set, hS.1, pk_us, Nat.reduceLT, Nat.reduceLeDiff, Nat.reduceSub, Nat.reduceEqDiff, Nat.reduceAdd, Int32.reduceLT, Int32.reduceLE, Int32.reduceAdd, Int32.reduceSub, Int32.reduceToNatClampNeg, reduceIte, reduceCtorEq, Nat.lt_irrefl, List.set_set]
    refine ⟨hS1, _, rfl, ?_⟩
    simp (decide := true) only [r65_0, r65_1, r65_2, r65_3, r65_4, r65_7, r65_10, r65_11, r65_14, r65_15, r65_16, r65_19, r65_20, r65_21, r65_22, r62_0, r62_1, r62_2, r62_5, r62_6, r62_7, r62_10, r62_11, r62_14, r62_15 (s0 := 0) (Or.inl rfl), r62_15 (s0 := 1) (Or.inr rfl), sh59 hS1, sh64 hS1, x2, z0, sm_wp_some, sm_wp_none, sm_at, sm_get, sm_fld, sm_pfl, sm_cN, sm_ai, sm_al, sm_si, sm_slg, sm_aa, List.getElem?_cons_zero, List.getElem?_cons_succ, List.set_cons_zero, List.set_cons_succ, List.length_cons, List.length_nil, Option.toList_some, Option.toList_none, List.cons_append, List.nil_append, if_true, if_false, true_and, and_true, Option.some.injEq, gs_o, gs_s, List.length_set, hS.1, pk_us, Nat.reduceLT, Nat.reduceLeDiff, Nat.reduceSub, Nat.reduceEqDiff, Nat.reduceAdd, Int32.reduceLT, Int32.reduceLE, Int32.reduceAdd, Int32.reduceSub, Int32.reduceToNatClampNeg, reduceIte, reduceCtorEq, Nat.lt_irrefl, List.set_set]
    refine md_loop (w0 := w1) (p := 2) (by decide) ?_ 32 0 w1 rfl ⟨hS1, fun k hk => absurd hk (Nat.not_lt_zero k), fun k _ => ⟨rfl, rfl⟩, fun j _ _ => rfl⟩
    rintro w2 ⟨hS2, e1, e2, e3⟩
    rw [r65_77, r65_78]
    refine mg_loop (w0 := w2) (p := 2) (by decide) ?_ 4 0 w2 rfl ⟨hS2, fun k hk => absurd hk (Nat.not_lt_zero k), fun k _ => rfl, fun j _ => rfl⟩
    rintro w3 ⟨hS3, f1, f2, f3⟩
    have x3 : wi w3 64 = wi w 64 := by rw [wi_c (f3 64 (by decide)), wi_c (e3 64 (by decide) (by decide)), wi_c (c2 64 (by decide)), wi_o (by decide), wi_o (by decide), wi_o (by decide), wi_o (by decide)]
    have len3 := hS3.1
    simp (decide := true) only [r65_104, r65_105, r65_108, r65_109, r65_110, r65_113, r65_114, r65_115, r65_116, r65_117, r65_120, r65_121, r65_122, r65_123, r65_124, r65_127, r65_128, r65_129, sh59 hS3, sh64 hS3, sm_in, x3, u4, len3, nI_clamp (show 2 < 2 ^ 31 by decide), sm_wp_some, sm_wp_none, sm_at, sm_get, sm_fld, sm_pfl, sm_cN, sm_ai, sm_al, sm_si, sm_slg, sm_aa, List.getElem?_cons_zero, List.getElem?_cons_succ, List.set_cons_zero, List.set_cons_succ, List.length_cons, List.length_nil, Option.toList_some, Option.toList_none, List.cons_append, List.nil_append, if_true, if_false, true_and, and_true, Option.some.injEq, gs_o, gs_s, List.length_set, hS3.1, pk_us, Nat.reduceLT, Nat.reduceLeDiff, Nat.reduceSub, Nat.reduceEqDiff, Nat.reduceAdd, Int32.reduceLT, Int32.reduceLE, Int32.reduceAdd, Int32.reduceSub, Int32.reduceToNatClampNeg, reduceIte, reduceCtorEq, Nat.lt_irrefl, List.set_set]
    have x4 : upd (upd (wi w 64) 2 (nI (S 3 4))) 4 0 2 = nI (S 3 4) := by rw [pk_un (by decide), pk_us]
    refine ⟨by rw [x4], inv_dep (p := 2) (by decide) hS3.p64 hC2 hM2 hB2 (fun j g1 g2 g3 g4 g5 => ?_) (fun k hk => ?_) ?_ ?_ (fun k hk => ?_) (fun k hk => ?_) (fun k hk => ?_) (fun k hk => ?_) (fun k hk => ?_) (wi64_s hS3.1)⟩
    · rw [gs_o (by omega), f3 j (by omega), e3 j (by omega) (by omega), c2 j (by omega), gs_o (by omega), gs_o (by omega), gs_o (by omega), gs_o (by omega)]
    · rw [wi_o (by decide), wi_c (f3 _ (by decide)), wi_c (e3 _ (by decide) (by decide))]
      exact c1 k hk
    · rw [wn_o (by decide), wn_c (f3 _ (by decide)), wn_c (e3 _ (by decide) (by decide)), wn_c (c2 _ (by decide)), wn29_2 (by simp only [List.length_set, hS.1])]
    · rw [wn_o (by decide), wn_c (f3 _ (by decide)), wn_c (e3 _ (by decide) (by decide))]
      exact x1
    · rw [wi_o (by decide), wi_o (by decide), wi_c (f3 _ (by decide)), wi_c (e3 _ (by decide) (by decide)), wi_c (c2 _ (by decide)), wi_c (f3 _ (by decide)), wi_c (e3 _ (by decide) (by decide)), wi_c (c2 _ (by decide))]
      simp (decide := true) only [Nat.reduceMul, Nat.reduceAdd, wi_o, wi40_s, wi41_s, List.length_set, hS.1]
      rw [pk_cpy_in (by omega) (by omega), pk_cpy_in (by omega) (by omega)]
      simp only [Nat.zero_add, Nat.sub_zero, and_self]
    · have n1 := wi_c (c2 62 (by decide))
      have n2 := wi_c (c2 63 (by decide))
      simp (decide := true) only [wi_o] at n1 n2
      rw [wi_o (by decide), wi_o (by decide), wi_c (f3 62 (by decide)), wi_c (f3 63 (by decide)), (e1 k hk).1, (e1 k hk).2, n1, n2]
      exact ⟨rfl, rfl⟩
    · have n1 := wi_c (c2 62 (by decide))
      have n2 := wi_c (c2 63 (by decide))
      simp (decide := true) only [wi_o] at n1 n2
      rw [wi_o (by decide), wi_o (by decide), wi_c (f3 62 (by decide)), wi_c (f3 63 (by decide)), (e2 k (by omega)).1, (e2 k (by omega)).2, n1, n2]
      exact ⟨rfl, rfl⟩
    · rw [wl_o (by decide)]
      exact f1 k hk
    · rw [wl_o (by decide), f2 k hk, wl_c (e3 60 (by decide) (by decide)), wl_c (c2 60 (by decide))]
      simp (decide := true) only [wl_o]
set_option maxHeartbeats 2000000 in
theorem dep3  : OpOK Inv 13 65 [.int 3] [.int 3, sm_J] := by
  intro X n w hn hI
  have hI2 := hI
  obtain ⟨hS, S, hC, hM, hB⟩ := hI
  have hC2 := hC
  have hM2 := hM
  have hB2 := hB
  obtain ⟨⟨b1, b2, b3, b4, b5, b6⟩, p1, ⟨g1, g2⟩, c1, r1, r2, r3, r4, r5⟩ := hC
  obtain ⟨⟨m1, m2, m3⟩, mp, ⟨mg1, mg2⟩, mc, n1, n2, n3, n4, n5, n6⟩ := hM
  obtain ⟨⟨q1, q2, q3⟩, q4, ⟨q5, q6⟩, q7, q8, q9, q10⟩ := hB
  have v4 : wn w 29 2 = nI (S 3 4) := (p1 4 (by decide)).1
  have u4 : wi w 64 4 = nI (S 3 4) := (mp 4 (by decide)).1
  have h32 := (q4 4 (by decide)).1
  by_cases hz : S 3 4 = 0
  · have z0 : nI (S 3 4) = 0 := by rw [hz]; rfl
    simp (decide := true) only [r13_0, r13_1, r13_2, r13_5, r13_8, r13_9, r13_12, r13_15, r13_18, r13_19, r13_20, r13_21, r13_24, r13_25, r13_26, r13_27, r13_30, r13_33, r13_34, r13_37, r13_38, r13_41, r13_42, r13_45, r13_46, r13_49, r13_50, r13_53, r13_54, r13_55, r13_58, r8_0, r8_1, r8_4, r8_5, r8_6, r8_9, r8_10, r8_13, r8_14 (s0 := 0) (Or.inl rfl), r8_14 (s0 := 1) (Or.inr rfl), sh0 hS, sh29 hS, r65_0, r65_1, r65_2, r65_3, r65_4, r65_7, r65_10, r65_11, r65_14, r65_15, r65_16, r65_19, r65_20, r65_21, r65_22, r62_0, r62_1, r62_2, r62_5, r62_6, r62_7, r62_10, r62_11, r62_14, r62_15 (s0 := 0) (Or.inl rfl), r62_15 (s0 := 1) (Or.inr rfl), sh59 hS, sh64 hS, v4, u4, z0, sm_wp_some, sm_wp_none, sm_at, sm_get, sm_fld, sm_pfl, sm_cN, sm_ai, sm_al, sm_si, sm_slg, sm_aa, List.getElem?_cons_zero, List.getElem?_cons_succ, List.set_cons_zero, List.set_cons_succ, List.length_cons, List.length_nil, Option.toList_some, Option.toList_none, List.cons_append, List.nil_append, if_true, if_false, true_and, and_true, Option.some.injEq, gs_o, gs_s, List.length_set, hS.1, pk_us, Nat.reduceLT, Nat.reduceLeDiff, Nat.reduceSub, Nat.reduceEqDiff, Nat.reduceAdd, Int32.reduceLT, Int32.reduceLE, Int32.reduceAdd, Int32.reduceSub, Int32.reduceToNatClampNeg, reduceIte, reduceCtorEq, Nat.lt_irrefl, List.set_set]
    exact ⟨hS, _, rfl, rfl, hI2.step⟩
  · have z0 : ¬ nI (S 3 4) = 0 := fun h => hz ((nI_z (by omega)).mp h)
    have z1 : ¬ nI (S 3 4) < 0 := nI_pos (by omega)
    have z2 : (nI (S 3 4)).toNatClampNeg = S 3 4 := nI_clamp (by omega)
    have z3 : 0 + S 3 4 ≤ 32 := by omega
    simp (decide := true) only [r13_0, r13_1, r13_2, r13_5, r13_8, r13_9, r13_12, r13_15, r13_18, r13_19, r13_20, r13_21, r13_24, r13_25, r13_26, r13_27, r13_30, r13_33, r13_34, r13_37, r13_38, r13_41, r13_42, r13_45, r13_46, r13_49, r13_50, r13_53, r13_54, r13_55, r13_58, r8_0, r8_1, r8_4, r8_5, r8_6, r8_9, r8_10, r8_13, r8_14 (s0 := 0) (Or.inl rfl), r8_14 (s0 := 1) (Or.inr rfl), r14_0, r14_1, r14_4, r14_5, r14_6, r14_9, r14_10, r14_11, r14_14, r14_17, r14_18, r14_21, r14_22, r14_23, r14_26, r14_27, r14_28, r14_31, r14_34, r14_35, r14_36, r14_39, r14_42, sm_cpi, sh0 hS, sh1 hS, sh29 hS, sh30 hS, sh31 hS, sh32 hS, sh42 hS, sh43 hS, sh44 hS, v4, z0, z1, z2, z3, sm_in, zr32_p (show 3 < 4 by decide), Nat.reduceMul, r15_0, r15_1, sm_wp_some, sm_wp_none, sm_at, sm_get, sm_fld, sm_pfl, sm_cN, sm_ai, sm_al, sm_si, sm_slg, sm_aa, List.getElem?_cons_zero, List.getElem?_cons_succ, List.set_cons_zero, List.set_cons_succ, List.length_cons, List.length_nil, Option.toList_some, Option.toList_none, List.cons_append, List.nil_append, if_true, if_false, true_and, and_true, Option.some.injEq, gs_o, gs_s, List.length_set, hS.1, pk_us, Nat.reduceLT, Nat.reduceLeDiff, Nat.reduceSub, Nat.reduceEqDiff, Nat.reduceAdd, Int32.reduceLT, Int32.reduceLE, Int32.reduceAdd, Int32.reduceSub, Int32.reduceToNatClampNeg, reduceIte, reduceCtorEq, Nat.lt_irrefl, List.set_set]
    refine cg_loop (p := 3) (by decide) ?_ 4 0 _ rfl ⟨hS.p43.p44.p42.p29, fun k hk => absurd hk (Nat.not_lt_zero k), fun j _ => rfl⟩
    rintro w1 ⟨hS1, c1, c2⟩
    have x1 : wn w1 42 2 = nI (S 3 4) := by rw [wn_c (c2 42 (by decide)), wn_o (by decide), wn42_2 (by simp only [List.length_set, hS.1])]
    have x2 : wi w1 64 4 = nI (S 3 4) := by rw [wi_c (c2 64 (by decide)), wi_o (by decide), wi_o (by decide), wi_o (by decide), wi_o (by decide)]; exact u4
    simp (decide := true) only [r13_0, r13_1, r13_2, r13_5, r13_8, r13_9, r13_12, r13_15, r13_18, r13_19, r13_20, r13_21, r13_24, r13_25, r13_26, r13_27, r13_30, r13_33, r13_34, r13_37, r13_38, r13_41, r13_42, r13_45, r13_46, r13_49, r13_50, r13_53, r13_54, r13_55, r13_58, sh0 hS1, sh32 hS1, sh42 hS1, sm_in, zr32_p (show 3 < 4 by decide), Nat.reduceMul, x1, sm_wp_some, sm_wp_none, sm_at, sm_get, sm_fld, sm_pfl, sm_cN, sm_ai, sm_al, sm_si, sm_slg, sm_aa, List.getElem?_cons_zero, List.getElem?_cons_succ, List.set_cons_zero, List.set_cons_succ, List.length_cons, List.length_nil, Option.toList_some, Option.toList_none, List.cons_append, List.nil_append, if_true, if_false, true_and, and_true, Option.some.injEq, gs_o, gs_s, List.length_set, hS.1, pk_us, Nat.reduceLT, Nat.reduceLeDiff, Nat.reduceSub, Nat.reduceEqDiff, Nat.reduceAdd, Int32.reduceLT, Int32.reduceLE, Int32.reduceAdd, Int32.reduceSub, Int32.reduceToNatClampNeg, reduceIte, reduceCtorEq, Nat.lt_irrefl, List.set_set]
    refine ⟨hS1, _, rfl, ?_⟩
    simp (decide := true) only [r65_0, r65_1, r65_2, r65_3, r65_4, r65_7, r65_10, r65_11, r65_14, r65_15, r65_16, r65_19, r65_20, r65_21, r65_22, r62_0, r62_1, r62_2, r62_5, r62_6, r62_7, r62_10, r62_11, r62_14, r62_15 (s0 := 0) (Or.inl rfl), r62_15 (s0 := 1) (Or.inr rfl), sh59 hS1, sh64 hS1, x2, z0, sm_wp_some, sm_wp_none, sm_at, sm_get, sm_fld, sm_pfl, sm_cN, sm_ai, sm_al, sm_si, sm_slg, sm_aa, List.getElem?_cons_zero, List.getElem?_cons_succ, List.set_cons_zero, List.set_cons_succ, List.length_cons, List.length_nil, Option.toList_some, Option.toList_none, List.cons_append, List.nil_append, if_true, if_false, true_and, and_true, Option.some.injEq, gs_o, gs_s, List.length_set, hS.1, pk_us, Nat.reduceLT, Nat.reduceLeDiff, Nat.reduceSub, Nat.reduceEqDiff, Nat.reduceAdd, Int32.reduceLT, Int32.reduceLE, Int32.reduceAdd, Int32.reduceSub, Int32.reduceToNatClampNeg, reduceIte, reduceCtorEq, Nat.lt_irrefl, List.set_set]
    refine md_loop (w0 := w1) (p := 3) (by decide) ?_ 32 0 w1 rfl ⟨hS1, fun k hk => absurd hk (Nat.not_lt_zero k), fun k _ => ⟨rfl, rfl⟩, fun j _ _ => rfl⟩
    rintro w2 ⟨hS2, e1, e2, e3⟩
    rw [r65_77, r65_78]
    refine mg_loop (w0 := w2) (p := 3) (by decide) ?_ 4 0 w2 rfl ⟨hS2, fun k hk => absurd hk (Nat.not_lt_zero k), fun k _ => rfl, fun j _ => rfl⟩
    rintro w3 ⟨hS3, f1, f2, f3⟩
    have x3 : wi w3 64 = wi w 64 := by rw [wi_c (f3 64 (by decide)), wi_c (e3 64 (by decide) (by decide)), wi_c (c2 64 (by decide)), wi_o (by decide), wi_o (by decide), wi_o (by decide), wi_o (by decide)]
    have len3 := hS3.1
    simp (decide := true) only [r65_104, r65_105, r65_108, r65_109, r65_110, r65_113, r65_114, r65_115, r65_116, r65_117, r65_120, r65_121, r65_122, r65_123, r65_124, r65_127, r65_128, r65_129, sh59 hS3, sh64 hS3, sm_in, x3, u4, len3, nI_clamp (show 3 < 2 ^ 31 by decide), sm_wp_some, sm_wp_none, sm_at, sm_get, sm_fld, sm_pfl, sm_cN, sm_ai, sm_al, sm_si, sm_slg, sm_aa, List.getElem?_cons_zero, List.getElem?_cons_succ, List.set_cons_zero, List.set_cons_succ, List.length_cons, List.length_nil, Option.toList_some, Option.toList_none, List.cons_append, List.nil_append, if_true, if_false, true_and, and_true, Option.some.injEq, gs_o, gs_s, List.length_set, hS3.1, pk_us, Nat.reduceLT, Nat.reduceLeDiff, Nat.reduceSub, Nat.reduceEqDiff, Nat.reduceAdd, Int32.reduceLT, Int32.reduceLE, Int32.reduceAdd, Int32.reduceSub, Int32.reduceToNatClampNeg, reduceIte, reduceCtorEq, Nat.lt_irrefl, List.set_set]
    have x4 : upd (upd (wi w 64) 3 (nI (S 3 4))) 4 0 3 = nI (S 3 4) := by rw [pk_un (by decide), pk_us]
    refine ⟨by rw [x4], inv_dep (p := 3) (by decide) hS3.p64 hC2 hM2 hB2 (fun j g1 g2 g3 g4 g5 => ?_) (fun k hk => ?_) ?_ ?_ (fun k hk => ?_) (fun k hk => ?_) (fun k hk => ?_) (fun k hk => ?_) (fun k hk => ?_) (wi64_s hS3.1)⟩
    · rw [gs_o (by omega), f3 j (by omega), e3 j (by omega) (by omega), c2 j (by omega), gs_o (by omega), gs_o (by omega), gs_o (by omega), gs_o (by omega)]
    · rw [wi_o (by decide), wi_c (f3 _ (by decide)), wi_c (e3 _ (by decide) (by decide))]
      exact c1 k hk
    · rw [wn_o (by decide), wn_c (f3 _ (by decide)), wn_c (e3 _ (by decide) (by decide)), wn_c (c2 _ (by decide)), wn29_2 (by simp only [List.length_set, hS.1])]
    · rw [wn_o (by decide), wn_c (f3 _ (by decide)), wn_c (e3 _ (by decide) (by decide))]
      exact x1
    · rw [wi_o (by decide), wi_o (by decide), wi_c (f3 _ (by decide)), wi_c (e3 _ (by decide) (by decide)), wi_c (c2 _ (by decide)), wi_c (f3 _ (by decide)), wi_c (e3 _ (by decide) (by decide)), wi_c (c2 _ (by decide))]
      simp (decide := true) only [Nat.reduceMul, Nat.reduceAdd, wi_o, wi43_s, wi44_s, List.length_set, hS.1]
      rw [pk_cpy_in (by omega) (by omega), pk_cpy_in (by omega) (by omega)]
      simp only [Nat.zero_add, Nat.sub_zero, and_self]
    · have n1 := wi_c (c2 62 (by decide))
      have n2 := wi_c (c2 63 (by decide))
      simp (decide := true) only [wi_o] at n1 n2
      rw [wi_o (by decide), wi_o (by decide), wi_c (f3 62 (by decide)), wi_c (f3 63 (by decide)), (e1 k hk).1, (e1 k hk).2, n1, n2]
      exact ⟨rfl, rfl⟩
    · have n1 := wi_c (c2 62 (by decide))
      have n2 := wi_c (c2 63 (by decide))
      simp (decide := true) only [wi_o] at n1 n2
      rw [wi_o (by decide), wi_o (by decide), wi_c (f3 62 (by decide)), wi_c (f3 63 (by decide)), (e2 k (by omega)).1, (e2 k (by omega)).2, n1, n2]
      exact ⟨rfl, rfl⟩
    · rw [wl_o (by decide)]
      exact f1 k hk
    · rw [wl_o (by decide), f2 k hk, wl_c (e3 60 (by decide) (by decide)), wl_c (c2 60 (by decide))]
      simp (decide := true) only [wl_o]
set_option maxHeartbeats 2000000 in
theorem op_deploy (a1 : Int32) : OpOK Inv 13 65 [.int a1] [.int a1, sm_J] := by
  intro X n w hn hI
  have hI2 := hI
  obtain ⟨hS, S, hC, hM, hB⟩ := hI
  have hC2 := hC
  have hM2 := hM
  have hB2 := hB
  obtain ⟨⟨b1, b2, b3, b4, b5, b6⟩, p1, ⟨g1, g2⟩, c1, r1, r2, r3, r4, r5⟩ := hC
  obtain ⟨⟨m1, m2, m3⟩, mp, ⟨mg1, mg2⟩, mc, n1, n2, n3, n4, n5, n6⟩ := hM
  obtain ⟨⟨q1, q2, q3⟩, q4, ⟨q5, q6⟩, q7, q8, q9, q10⟩ := hB
  rcases ix4 a1 with ha | ⟨ha0, ha1, ha2⟩ | ⟨p, hp, rfl, ha0, ha1, ha2, ha3, ha4⟩
  · simp (decide := true) only [r13_0, r13_1, r13_2, r13_5, r13_8, r13_9, r13_12, r13_15, r13_18, r13_19, r13_20, r13_21, r13_24, r13_25, r13_26, r13_27, r13_30, r13_33, r13_34, r13_37, r13_38, r13_41, r13_42, r13_45, r13_46, r13_49, r13_50, r13_53, r13_54, r13_55, r13_58, r8_0, r8_1, r8_4, r8_5, r8_6, r8_9, r8_10, r8_13, r8_14 (s0 := 0) (Or.inl rfl), r8_14 (s0 := 1) (Or.inr rfl), sh0 hS, sh29 hS, r65_0, r65_1, r65_2, r65_3, r65_4, r65_7, r65_10, r65_11, r65_14, r65_15, r65_16, r65_19, r65_20, r65_21, r65_22, r62_0, r62_1, r62_2, r62_5, r62_6, r62_7, r62_10, r62_11, r62_14, r62_15 (s0 := 0) (Or.inl rfl), r62_15 (s0 := 1) (Or.inr rfl), sh59 hS, ha, sm_wp_some, sm_wp_none, sm_at, sm_get, sm_fld, sm_pfl, sm_cN, sm_ai, sm_al, sm_si, sm_slg, sm_aa, List.getElem?_cons_zero, List.getElem?_cons_succ, List.set_cons_zero, List.set_cons_succ, List.length_cons, List.length_nil, Option.toList_some, Option.toList_none, List.cons_append, List.nil_append, if_true, if_false, true_and, and_true, Option.some.injEq, gs_o, gs_s, List.length_set, hS.1, pk_us, Nat.reduceLT, Nat.reduceLeDiff, Nat.reduceSub, Nat.reduceEqDiff, Nat.reduceAdd, Int32.reduceLT, Int32.reduceLE, Int32.reduceAdd, Int32.reduceSub, Int32.reduceToNatClampNeg, reduceIte, reduceCtorEq, Nat.lt_irrefl, List.set_set]
    exact ⟨hS, _, rfl, rfl, hI2.step⟩
  · simp (decide := true) only [r13_0, r13_1, r13_2, r13_5, r13_8, r13_9, r13_12, r13_15, r13_18, r13_19, r13_20, r13_21, r13_24, r13_25, r13_26, r13_27, r13_30, r13_33, r13_34, r13_37, r13_38, r13_41, r13_42, r13_45, r13_46, r13_49, r13_50, r13_53, r13_54, r13_55, r13_58, r8_0, r8_1, r8_4, r8_5, r8_6, r8_9, r8_10, r8_13, r8_14 (s0 := 0) (Or.inl rfl), r8_14 (s0 := 1) (Or.inr rfl), sh0 hS, sh29 hS, r65_0, r65_1, r65_2, r65_3, r65_4, r65_7, r65_10, r65_11, r65_14, r65_15, r65_16, r65_19, r65_20, r65_21, r65_22, r62_0, r62_1, r62_2, r62_5, r62_6, r62_7, r62_10, r62_11, r62_14, r62_15 (s0 := 0) (Or.inl rfl), r62_15 (s0 := 1) (Or.inr rfl), sh59 hS, ha0, ha1, ha2, sm_wp_some, sm_wp_none, sm_at, sm_get, sm_fld, sm_pfl, sm_cN, sm_ai, sm_al, sm_si, sm_slg, sm_aa, List.getElem?_cons_zero, List.getElem?_cons_succ, List.set_cons_zero, List.set_cons_succ, List.length_cons, List.length_nil, Option.toList_some, Option.toList_none, List.cons_append, List.nil_append, if_true, if_false, true_and, and_true, Option.some.injEq, gs_o, gs_s, List.length_set, hS.1, pk_us, Nat.reduceLT, Nat.reduceLeDiff, Nat.reduceSub, Nat.reduceEqDiff, Nat.reduceAdd, Int32.reduceLT, Int32.reduceLE, Int32.reduceAdd, Int32.reduceSub, Int32.reduceToNatClampNeg, reduceIte, reduceCtorEq, Nat.lt_irrefl, List.set_set]
    exact ⟨hS, _, rfl, rfl, hI2.step⟩
  · skip
    match p, hp with
    | 0, _ => exact dep0 X n w hn hI2
    | 1, _ => exact dep1 X n w hn hI2
    | 2, _ => exact dep2 X n w hn hI2
    | 3, _ => exact dep3 X n w hn hI2
