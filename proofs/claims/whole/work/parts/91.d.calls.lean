/-! GROUP.CALLS (gen/calls.py) -/
def s_calls (S : sm_S) : Nat → Nat
  | 0 => 0
  | m + 1 => s_calls S m + (if S 4 m = 3 then 0 else 1)
theorem s_calls_le {S : sm_S} : ∀ m, s_calls S m ≤ m
  | 0 => Nat.le_refl 0
  | m + 1 => by
    have := s_calls_le (S := S) m
    unfold s_calls
    split <;> omega
theorem calls_it {X : sm_X} {w : sm_W} {Q : Option Value → sm_W → Prop} {S : sm_S} {i c : Nat} (hS : Sh w) (hG : GrC w S) (h4 : S 10 1 ≤ 4) (hi : i < S 10 1) : sm_R X 23 4 [.ref 145, .int (nI c), .int (nI i)] [] w Q ↔ sm_R X 23 4 [.ref 145, .int (nI (c + if S 4 i = 3 then 0 else 1)), .int (nI (i + 1))] [] w Q := by
  have hi4 : i < 4 := by omega
  have z1 : ¬ nI (S 10 1) ≤ nI i := nI_ge hi (by omega)
  have z2 : sm_in (nI i) 4 = true := sm_in_nI (by omega) (by decide)
  have z3 : (nI i).toNatClampNeg = i := nI_clamp (by omega)
  have z4 : 100 ≤ 147 + 2 * i := by omega
  have z5 : ¬ 147 + 2 * i < 100 := by omega
  have z6 : 147 + 2 * i - 100 = 47 + 2 * i := by omega
  have z7 : nI i + 1 = nI (i + 1) := nI_1 i
  have z8 : nI c + 1 = nI (c + 1) := nI_1 c
  have z9 := hG.1
  rw [r23_4]
  by_cases h3 : S 4 i = 3
  · have y := ((hG.2 i hi).1 h3).1
    simp (decide := true) only [r23_0, r23_1, r23_2, r23_3, r23_5, r23_6, r23_9, r23_12, r23_13, r23_16, r23_17, r23_18, r23_21, r23_24, r23_27, r23_30, r23_33, r23_34, sh45 hS, sh46 hS, shTr hS hi4, zr46_p hi4, z1, z2, z3, z4, z5, z6, z7, z8, z9, y, h3, Nat.add_zero, sm_wp_some, sm_wp_none, sm_at, sm_get, sm_fld, sm_pfl, sm_cN, sm_ai, sm_al, sm_si, sm_slg, sm_aa, List.getElem?_cons_zero, List.getElem?_cons_succ, List.set_cons_zero, List.set_cons_succ, List.length_cons, List.length_nil, Option.toList_some, Option.toList_none, List.cons_append, List.nil_append, if_true, if_false, true_and, and_true, Option.some.injEq, gs_o, gs_s, List.length_set, hS.1, pk_us, Nat.reduceLT, Nat.reduceLeDiff, Nat.reduceSub, Nat.reduceEqDiff, Nat.reduceAdd, Int32.reduceLT, Int32.reduceLE, Int32.reduceAdd, Int32.reduceSub, Int32.reduceToNatClampNeg, reduceIte, reduceCtorEq, Nat.lt_irrefl]
  · have y := ((hG.2 i hi).2.1 h3).1
    simp (decide := true) only [r23_0, r23_1, r23_2, r23_3, r23_5, r23_6, r23_9, r23_12, r23_13, r23_16, r23_17, r23_18, r23_21, r23_24, r23_27, r23_30, r23_33, r23_34, sh45 hS, sh46 hS, shTr hS hi4, zr46_p hi4, z1, z2, z3, z4, z5, z6, z7, z8, z9, y, h3, sm_wp_some, sm_wp_none, sm_at, sm_get, sm_fld, sm_pfl, sm_cN, sm_ai, sm_al, sm_si, sm_slg, sm_aa, List.getElem?_cons_zero, List.getElem?_cons_succ, List.set_cons_zero, List.set_cons_succ, List.length_cons, List.length_nil, Option.toList_some, Option.toList_none, List.cons_append, List.nil_append, if_true, if_false, true_and, and_true, Option.some.injEq, gs_o, gs_s, List.length_set, hS.1, pk_us, Nat.reduceLT, Nat.reduceLeDiff, Nat.reduceSub, Nat.reduceEqDiff, Nat.reduceAdd, Int32.reduceLT, Int32.reduceLE, Int32.reduceAdd, Int32.reduceSub, Int32.reduceToNatClampNeg, reduceIte, reduceCtorEq, Nat.lt_irrefl]
theorem calls_lp {X : sm_X} {w : sm_W} {Q : Option Value → sm_W → Prop} {S : sm_S} (hS : Sh w) (hG : GrC w S) (h4 : S 10 1 ≤ 4) : ∀ (m i : Nat), i + m = S 10 1 → (sm_R X 23 4 [.ref 145, .int (nI (s_calls S i)), .int (nI i)] [] w Q ↔ Q (some (.int (nI (s_calls S (S 10 1))))) w)
  | 0, i, h => by
    have z1 : nI (S 10 1) ≤ nI i := nI_le (by omega) (by omega)
    have z9 := hG.1
    rw [show i = S 10 1 by omega] at z1 ⊢
    rw [r23_4]
    simp (decide := true) only [r23_0, r23_1, r23_2, r23_3, r23_5, r23_6, r23_9, r23_12, r23_13, r23_16, r23_17, r23_18, r23_21, r23_24, r23_27, r23_30, r23_33, r23_34, sh45 hS, z1, z9, sm_wp_some, sm_wp_none, sm_at, sm_get, sm_fld, sm_pfl, sm_cN, sm_ai, sm_al, sm_si, sm_slg, sm_aa, List.getElem?_cons_zero, List.getElem?_cons_succ, List.set_cons_zero, List.set_cons_succ, List.length_cons, List.length_nil, Option.toList_some, Option.toList_none, List.cons_append, List.nil_append, if_true, if_false, true_and, and_true, Option.some.injEq, gs_o, gs_s, List.length_set, hS.1, pk_us, Nat.reduceLT, Nat.reduceLeDiff, Nat.reduceSub, Nat.reduceEqDiff, Nat.reduceAdd, Int32.reduceLT, Int32.reduceLE, Int32.reduceAdd, Int32.reduceSub, Int32.reduceToNatClampNeg, reduceIte, reduceCtorEq, Nat.lt_irrefl]
  | m + 1, i, h => by
    rw [calls_it hS hG h4 (by omega)]
    exact calls_lp hS hG h4 m (i + 1) (by omega)
theorem calls_C {X : sm_X} {w : sm_W} {Q : Option Value → sm_W → Prop} {S : sm_S} (hS : Sh w) (hG : GrC w S) (h4 : S 10 1 ≤ 4) : sm_R X 23 0 [.ref 145, sm_J, sm_J] [] w Q ↔ Q (some (.int (nI (s_calls S (S 10 1))))) w := by
  simp (decide := true) only [r23_0, r23_1, r23_2, r23_3]
  exact calls_lp hS hG h4 (S 10 1) 0 (by omega)
