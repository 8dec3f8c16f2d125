/-! THE LEAST of an account (gen/least.py) -/
def s_cnt (S : sm_S) (a : Nat) : Nat := S 0 (22 + a) + S 0 (28 + a) + S 0 (34 + a) + S 0 (40 + a)
def s_least (S : sm_S) (a : Nat) : Nat := if s_cnt S a = 0 ∧ S 0 a = 0 then 0 else 10 + 5 * s_cnt S a
set_option maxHeartbeats 2000000 in
set_option maxRecDepth 100000 in
theorem bc_C {X : sm_X} {w : sm_W} {Q : Option Value → sm_W → Prop} {x0 x1 x2 x3 : Nat} (hS : Sh w) (h0 : x0 ≤ 1) (h1 : x1 ≤ 1) (h2 : x2 ≤ 1) (h3 : x3 ≤ 1) : sm_R X 50 0 [.int (nI (x0 + 2 * x1 + 4 * x2 + 8 * x3))] [] w Q ↔ Q (some (.int (nI (x0 + x1 + x2 + x3)))) w := by
  have c0 : x0 = 0 ∨ x0 = 1 := by omega
  have c1 : x1 = 0 ∨ x1 = 1 := by omega
  have c2 : x2 = 0 ∨ x2 = 1 := by omega
  have c3 : x3 = 0 ∨ x3 = 1 := by omega
  simp (decide := true) only [r50_0, r50_1, r50_2, r50_3, r50_4, r50_7, r50_8, r50_9, r50_10, r50_11, r50_14, r50_15, r50_16, r50_17, r50_18, r50_21, r50_22, r50_23, r50_24, r50_25, r50_26, r50_27, r50_28, r50_29, r50_32, r50_33, r50_34, r50_35, r50_36, r50_38, r50_39, r50_40, r50_41, r50_42, r50_43, r50_45, r50_46, r50_47, r50_48, r50_49, r50_51, r50_52, sm_wp_some, sm_wp_none, sm_at, sm_get, sm_fld, sm_pfl, sm_cN, sm_ai, sm_al, sm_si, sm_slg, sm_aa, List.getElem?_cons_zero, List.getElem?_cons_succ, List.set_cons_zero, List.set_cons_succ, List.length_cons, List.length_nil, Option.toList_some, Option.toList_none, List.cons_append, List.nil_append, if_true, if_false, true_and, and_true, Option.some.injEq, gs_o, gs_s, List.length_set, hS.1, pk_us, Nat.reduceLT, Nat.reduceLeDiff, Nat.reduceSub, Nat.reduceEqDiff, Nat.reduceAdd, Int32.reduceLT, Int32.reduceLE, Int32.reduceAdd, Int32.reduceSub, Int32.reduceToNatClampNeg, reduceIte, reduceCtorEq, Nat.lt_irrefl]
  refine iff_of_eq (congrArg (fun z => Q (some (Value.int z)) w) ?_)
  rcases c0 with e0 | e0 <;> rcases c1 with e1 | e1 <;> rcases c2 with e2 | e2 <;> rcases c3 with e3 | e3 <;> rw [e0, e1, e2, e3] <;> decide
theorem opt_it {X : sm_X} {w : sm_W} {Q : Option Value → sm_W → Prop} {S : sm_S} {a i x : Nat} (hS : Sh w) (ha : a < 6) (hi : i < 4) (hm : ∀ i, i < 94 → wl w 60 i = lN (S 0 i)) : sm_R X 85 4 [.ref 159, .int (nI a), .int (nI x), .int (nI i)] [] w Q ↔ sm_R X 85 4 [.ref 159, .int (nI a), .int (nI (x + S 0 (22 + i * 6 + a))), .int (nI (i + 1))] [] w Q := by
  have y0 : (22 : Int32) + nI i * 6 + nI a = nI (22 + i * 6 + a) := by
    have e1 : nI i * 6 = nI (i * 6) := pk_mul i 6
    have e2 : (22 : Int32) + nI (i * 6) = nI (22 + i * 6) := nI_add 22 (i * 6)
    rw [e1, e2, nI_add]
  have y1 : sm_in (nI (22 + i * 6 + a)) 94 = true := sm_in_nI (by omega) (by decide)
  have y2 : (nI (22 + i * 6 + a)).toNatClampNeg = 22 + i * 6 + a := nI_clamp (by omega)
  have y3 : wl w 60 (22 + i * 6 + a) = lN (S 0 (22 + i * 6 + a)) := hm _ (by omega)
  have y4 : ¬ (4 : Int32) ≤ nI i := nI_ge (b := 4) (by omega) (by decide)
  have y5 : nI i + 1 = nI (i + 1) := nI_1 i
  have y6 : nI x + nI (S 0 (22 + i * 6 + a)) = nI (x + S 0 (22 + i * 6 + a)) := nI_add _ _
  rw [r85_4]
  simp (decide := true) only [r85_0, r85_1, r85_2, r85_3, r85_5, r85_6, r85_9, r85_10, r85_11, r85_14, r85_16, r85_17, r85_19, r85_20, r85_21, r85_22, r85_23, r85_24, r85_25, r85_26, r85_27, r85_30, r85_33, r85_34, sh59 hS, sh60 hS, y0, y1, y2, y3, y4, y5, y6, lN_i, sm_wp_some, sm_wp_none, sm_at, sm_get, sm_fld, sm_pfl, sm_cN, sm_ai, sm_al, sm_si, sm_slg, sm_aa, List.getElem?_cons_zero, List.getElem?_cons_succ, List.set_cons_zero, List.set_cons_succ, List.length_cons, List.length_nil, Option.toList_some, Option.toList_none, List.cons_append, List.nil_append, if_true, if_false, true_and, and_true, Option.some.injEq, gs_o, gs_s, List.length_set, hS.1, pk_us, Nat.reduceLT, Nat.reduceLeDiff, Nat.reduceSub, Nat.reduceEqDiff, Nat.reduceAdd, Int32.reduceLT, Int32.reduceLE, Int32.reduceAdd, Int32.reduceSub, Int32.reduceToNatClampNeg, reduceIte, reduceCtorEq, Nat.lt_irrefl]
theorem opt_M {X : sm_X} {w : sm_W} {Q : Option Value → sm_W → Prop} {S : sm_S} {a : Nat} (hS : Sh w) (ha : a < 6) (hm : ∀ i, i < 94 → wl w 60 i = lN (S 0 i)) : sm_R X 85 0 [.ref 159, .int (nI a), sm_J, sm_J] [] w Q ↔ Q (some (.int (nI (s_cnt S a)))) w := by
  have e : sm_R X 85 0 [.ref 159, .int (nI a), sm_J, sm_J] [] w Q ↔ sm_R X 85 4 [.ref 159, .int (nI a), .int (nI 0), .int (nI 0)] [] w Q := by
    simp (decide := true) only [r85_0, r85_1, r85_2, r85_3]
    exact Iff.rfl
  rw [e, opt_it hS ha (by decide) hm, opt_it hS ha (by decide) hm, opt_it hS ha (by decide) hm, opt_it hS ha (by decide) hm, r85_4]
  have z : (4 : Int32) ≤ nI (0 + 1 + 1 + 1 + 1) := by decide
  simp (decide := true) only [r85_0, r85_1, r85_2, r85_3, r85_5, r85_6, r85_9, r85_10, r85_11, r85_14, r85_16, r85_17, r85_19, r85_20, r85_21, r85_22, r85_23, r85_24, r85_25, r85_26, r85_27, r85_30, r85_33, r85_34, z, sm_wp_some, sm_wp_none, sm_at, sm_get, sm_fld, sm_pfl, sm_cN, sm_ai, sm_al, sm_si, sm_slg, sm_aa, List.getElem?_cons_zero, List.getElem?_cons_succ, List.set_cons_zero, List.set_cons_succ, List.length_cons, List.length_nil, Option.toList_some, Option.toList_none, List.cons_append, List.nil_append, if_true, if_false, true_and, and_true, Option.some.injEq, gs_o, gs_s, List.length_set, hS.1, pk_us, Nat.reduceLT, Nat.reduceLeDiff, Nat.reduceSub, Nat.reduceEqDiff, Nat.reduceAdd, Int32.reduceLT, Int32.reduceLE, Int32.reduceAdd, Int32.reduceSub, Int32.reduceToNatClampNeg, reduceIte, reduceCtorEq, Nat.lt_irrefl]
  refine iff_of_eq (congrArg (fun z => Q (some (Value.int (nI z))) w) ?_)
  unfold s_cnt
  simp only [Nat.zero_add, Nat.zero_mul, Nat.reduceAdd, Nat.reduceMul, Nat.add_zero]
theorem least_M {X : sm_X} {w : sm_W} {Q : Option Value → sm_W → Prop} {S : sm_S} {a : Nat} (hS : Sh w) (ha : a < 6) (hm : ∀ i, i < 94 → wl w 60 i = lN (S 0 i)) (hb : ∀ i, i < 94 → S 0 i < 2 ^ 31) (ho : ∀ i, 22 ≤ i → i < 46 → S 0 i ≤ 1) : sm_R X 84 0 [.ref 159, .int (nI a), sm_J] [] w Q ↔ Q (some (.long (lN (s_least S a)))) w := by
  have hc : s_cnt S a ≤ 4 := by
    have h0 := ho (22 + a) (by omega) (by omega)
    have h1 := ho (28 + a) (by omega) (by omega)
    have h2 := ho (34 + a) (by omega) (by omega)
    have h3 := ho (40 + a) (by omega) (by omega)
    unfold s_cnt
    omega
  have y1 : sm_in (nI a) 94 = true := sm_in_nI (by omega) (by decide)
  have y2 : (nI a).toNatClampNeg = a := nI_clamp (by omega)
  have y3 : wl w 60 a = lN (S 0 a) := hm _ (by omega)
  have y4 : lg_cmp (lN (S 0 a)) 0 = 0 ↔ S 0 a = 0 := lc_z (by have := hb a (by omega); omega)
  have y5 : nI (s_cnt S a) = 0 ↔ s_cnt S a = 0 := nI_z (by omega)
  have y6 : (10 : Int32) + 5 * nI (s_cnt S a) = nI (10 + 5 * s_cnt S a) := by
    have e1 : (5 : Int32) * nI (s_cnt S a) = nI (5 * s_cnt S a) := pk_mul 5 _
    have e2 : (10 : Int32) + nI (5 * s_cnt S a) = nI (10 + 5 * s_cnt S a) := nI_add 10 _
    rw [e1, e2]
  have y7 : (nI (10 + 5 * s_cnt S a)).toInt64 = lN (10 + 5 * s_cnt S a) := nI_l (by omega)
  simp (decide := true) only [r84_0, r84_1, r84_2, r84_5, r84_6, r84_7, r84_10, r84_11, r84_14, r84_15, r84_16, r84_17, r84_18, r84_21, r84_22, r84_25, r84_27, r84_28, r84_29, r84_30, r84_31, r84_32, opt_M hS ha hm, sh59 hS, sh60 hS, y1, y2, y3, y4, y5, y6, y7, sm_wp_some, sm_wp_none, sm_at, sm_get, sm_fld, sm_pfl, sm_cN, sm_ai, sm_al, sm_si, sm_slg, sm_aa, List.getElem?_cons_zero, List.getElem?_cons_succ, List.set_cons_zero, List.set_cons_succ, List.length_cons, List.length_nil, Option.toList_some, Option.toList_none, List.cons_append, List.nil_append, if_true, if_false, true_and, and_true, Option.some.injEq, gs_o, gs_s, List.length_set, hS.1, pk_us, Nat.reduceLT, Nat.reduceLeDiff, Nat.reduceSub, Nat.reduceEqDiff, Nat.reduceAdd, Int32.reduceLT, Int32.reduceLE, Int32.reduceAdd, Int32.reduceSub, Int32.reduceToNatClampNeg, reduceIte, reduceCtorEq, Nat.lt_irrefl]
  unfold s_least
  by_cases c1 : s_cnt S a = 0
  · by_cases c2 : S 0 a = 0
    · simp only [c1, c2, if_true, and_self]
      exact Iff.rfl
    · simp only [c1, c2, if_true, if_false, and_false]
  · simp only [c1, if_false, false_and]
theorem least_C {X : sm_X} {w : sm_W} {Q : Option Value → sm_W → Prop} {S : sm_S} {a : Nat} (hS : Sh w) (ha : a < 6) (h1 : wi w 2 a = nI (S 0 a)) (h2 : wi w 13 a = nI (s_ob S a)) (hb : ∀ i, i < 94 → S 0 i < 2 ^ 31) (ho : ∀ i, 22 ≤ i → i < 46 → S 0 i ≤ 1) : sm_R X 49 0 [.ref 101, .int (nI a)] [] w Q ↔ Q (some (.int (nI (s_least S a)))) w := by
  have o0 := ho (22 + a) (by omega) (by omega)
  have o1 := ho (28 + a) (by omega) (by omega)
  have o2 := ho (34 + a) (by omega) (by omega)
  have o3 := ho (40 + a) (by omega) (by omega)
  have hc : s_cnt S a ≤ 4 := by
    unfold s_cnt
    omega
  have hd : s_ob S a < 16 := by
    unfold s_ob
    omega
  have he : s_ob S a = 0 ↔ s_cnt S a = 0 := by
    unfold s_ob s_cnt
    omega
  have y1 : sm_in (nI a) 6 = true := sm_in_nI (by omega) (by decide)
  have y2 : (nI a).toNatClampNeg = a := nI_clamp (by omega)
  have y4 : nI (S 0 a) = 0 ↔ S 0 a = 0 := nI_z (hb a (by omega))
  have y5 : nI (s_ob S a) = 0 ↔ s_cnt S a = 0 := (nI_z (by omega)).trans he
  have y6 : (10 : Int32) + 5 * nI (s_cnt S a) = nI (10 + 5 * s_cnt S a) := by
    have e1 : (5 : Int32) * nI (s_cnt S a) = nI (5 * s_cnt S a) := pk_mul 5 _
    have e2 : (10 : Int32) + nI (5 * s_cnt S a) = nI (10 + 5 * s_cnt S a) := nI_add 10 _
    rw [e1, e2]
  have y7 : ∀ Q, sm_R X 50 0 [.int (nI (s_ob S a))] [] w Q ↔ Q (some (.int (nI (s_cnt S a)))) w := fun Q => bc_C hS o0 o1 o2 o3
  simp (decide := true) only [r49_0, r49_1, r49_4, r49_5, r49_6, r49_9, r49_10, r49_13, r49_14, r49_15, r49_18, r49_19, r49_20, r49_22, r49_23, r49_24, r49_27, r49_28, r49_29, r49_32, r49_33, r49_34, sh1 hS, sh2 hS, sh13 hS, h1, h2, y1, y2, y4, y5, y6, y7, sm_wp_some, sm_wp_none, sm_at, sm_get, sm_fld, sm_pfl, sm_cN, sm_ai, sm_al, sm_si, sm_slg, sm_aa, List.getElem?_cons_zero, List.getElem?_cons_succ, List.set_cons_zero, List.set_cons_succ, List.length_cons, List.length_nil, Option.toList_some, Option.toList_none, List.cons_append, List.nil_append, if_true, if_false, true_and, and_true, Option.some.injEq, gs_o, gs_s, List.length_set, hS.1, pk_us, Nat.reduceLT, Nat.reduceLeDiff, Nat.reduceSub, Nat.reduceEqDiff, Nat.reduceAdd, Int32.reduceLT, Int32.reduceLE, Int32.reduceAdd, Int32.reduceSub, Int32.reduceToNatClampNeg, reduceIte, reduceCtorEq, Nat.lt_irrefl]
  unfold s_least
  by_cases c1 : s_cnt S a = 0
  · by_cases c2 : S 0 a = 0
    · simp only [c1, c2, if_true, and_self]
      exact Iff.rfl
    · simp only [c1, c2, if_true, if_false, and_false]
  · simp only [c1, if_false, false_and]
