/-! faultOfTaking and the step of the class (gen/n7.py) -/
theorem en_8 : ∀ c, c < 31 → sm_enF 8 0 c = some (nI (s_pr c)) ∧ sm_enF 8 2 c = some (nI (s_mu c)) ∧ sm_enF 8 3 c = some (nI (s_mt c)) ∧ s_tk c ≤ 2 ∧ s_mu c ≤ 3 ∧ s_mt c ≤ 3 ∧ 1 ≤ s_pr c ∧ s_pr c ≤ 3 := by decide
theorem mask_C {s m : Nat} (hs : s = 1 ∨ s = 2) (hm : m ≤ 3) : (nI s &&& nI m = 0) ↔ ¬ (m = 3 ∨ m = s) := by
  have : m = 0 ∨ m = 1 ∨ m = 2 ∨ m = 3 := by omega
  rcases hs with e | e <;> rcases this with q | q | q | q <;> subst e <;> subst q <;> decide
theorem ft_C {X : sm_X} {w : sm_W} {Q : Option Value → sm_W → Prop} {S : sm_S} {c : Nat} (hS : Sh w) (hK : StC w S) (h8 : S 14 0 ≤ 8) (hE : ∀ i, i < S 14 0 → s_ent (S 13 i) (S 12 i)) (hc : c < 31) : sm_R X 32 0 [.ref 156, .ref c, sm_J] [] w Q ↔ Q (some (.int (nI (s_pre S c)))) w := by
  obtain ⟨o0, o2, o3, k2, km, kt, kp⟩ := en_8 c hc
  have n0 : nI 0 = 0 := rfl
  have n1 : nI 1 = 1 := rfl
  have n2 : nI 2 = 2 := rfl
  have t1 : wn w 56 2 = nI (S 14 0) := hK.1
  have c1 : c < 100 := by omega
  by_cases e : S 14 0 < s_tk c
  · have p : s_pre S c = 1 := if_pos e
    have z1 : ¬ nI (s_tk c) ≤ nI (S 14 0) := nI_ge e (by omega)
    rw [p]
    simp (decide := true) only [r32_0, r32_1, r32_4, r32_5, r32_6, r32_9, r32_10, r32_13, r32_14, r32_15, r32_16, r32_17, r32_20, r32_21, r32_24, r32_25, r32_28, r32_29, r32_30, r32_31, r32_32, r32_35, r32_36, r32_39, r32_40, r32_41, r32_42, r32_43, r32_46, r32_47, r32_50, r32_51, r32_54, r32_55, r32_56, r32_57, r32_58, r32_61, r32_62, r32_65, r32_66, r32_67, r32_68, tk_C hS hc, hc, c1, t1, z1, n1, sh56 hS, sh57 hS, sm_wp_some, sm_wp_none, sm_at, sm_get, sm_fld, sm_pfl, sm_cN, sm_ai, sm_al, sm_si, sm_slg, sm_aa, List.getElem?_cons_zero, List.getElem?_cons_succ, List.set_cons_zero, List.set_cons_succ, List.length_cons, List.length_nil, Option.toList_some, Option.toList_none, List.cons_append, List.nil_append, if_true, if_false, true_and, and_true, Option.some.injEq, gs_o, gs_s, List.length_set, hS.1, pk_us, Nat.reduceLT, Nat.reduceLeDiff, Nat.reduceSub, Nat.reduceEqDiff, Nat.reduceAdd, Int32.reduceLT, Int32.reduceLE, Int32.reduceAdd, Int32.reduceSub, Int32.reduceToNatClampNeg, reduceIte, reduceCtorEq, Nat.lt_irrefl]
  · have p1 : s_pre S c = if 1 ≤ s_tk c ∧ ¬ (s_mt c = 3 ∨ s_mt c = S 13 (S 14 0 - 1)) then 2 else if s_tk c = 2 ∧ ¬ (s_mu c = 3 ∨ s_mu c = S 13 (S 14 0 - 2)) then 2 else 0 := if_neg e
    have z1 : nI (s_tk c) ≤ nI (S 14 0) := nI_le (by omega) (by omega)
    have k3 : s_tk c = 0 ∨ s_tk c = 1 ∨ s_tk c = 2 := by omega
    rcases k3 with k | k | k
    · have p : s_pre S c = 0 := by
        rw [p1, if_neg (fun q => by omega), if_neg (fun q => by omega)]
      rw [p]
      rw [k, n0] at z1
      simp (decide := true) only [r32_0, r32_1, r32_4, r32_5, r32_6, r32_9, r32_10, r32_13, r32_14, r32_15, r32_16, r32_17, r32_20, r32_21, r32_24, r32_25, r32_28, r32_29, r32_30, r32_31, r32_32, r32_35, r32_36, r32_39, r32_40, r32_41, r32_42, r32_43, r32_46, r32_47, r32_50, r32_51, r32_54, r32_55, r32_56, r32_57, r32_58, r32_61, r32_62, r32_65, r32_66, r32_67, r32_68, tk_C hS hc, hc, c1, t1, k, z1, n0, sh56 hS, sh57 hS, sm_wp_some, sm_wp_none, sm_at, sm_get, sm_fld, sm_pfl, sm_cN, sm_ai, sm_al, sm_si, sm_slg, sm_aa, List.getElem?_cons_zero, List.getElem?_cons_succ, List.set_cons_zero, List.set_cons_succ, List.length_cons, List.length_nil, Option.toList_some, Option.toList_none, List.cons_append, List.nil_append, if_true, if_false, true_and, and_true, Option.some.injEq, gs_o, gs_s, List.length_set, hS.1, pk_us, Nat.reduceLT, Nat.reduceLeDiff, Nat.reduceSub, Nat.reduceEqDiff, Nat.reduceAdd, Int32.reduceLT, Int32.reduceLE, Int32.reduceAdd, Int32.reduceSub, Int32.reduceToNatClampNeg, reduceIte, reduceCtorEq, Nat.lt_irrefl]
    · rw [k, n1] at z1
      have y1 : nI (S 14 0) - 1 = nI (S 14 0 - 1) := pk_sub (b := 1) (by omega)
      have y2 : sm_in (nI (S 14 0 - 1)) 8 = true := sm_in_nI (by omega) (by decide)
      have y3 : (nI (S 14 0 - 1)).toNatClampNeg = S 14 0 - 1 := nI_clamp (by omega)
      have y4 := (hK.2 (S 14 0 - 1) (by omega)).1
      have y5 := mask_C (s := S 13 (S 14 0 - 1)) (m := s_mt c) (by rcases hE (S 14 0 - 1) (by omega) with q | q; exact Or.inl q.1; exact Or.inr q.1) kt
      by_cases f : s_mt c = 3 ∨ s_mt c = S 13 (S 14 0 - 1)
      · have p : s_pre S c = 0 := by
          rw [p1, if_neg (fun q => q.2 f), if_neg (fun q => by omega)]
        have y6 : ¬ (nI (S 13 (S 14 0 - 1)) &&& nI (s_mt c) = 0) := fun q => y5.mp q f
        rw [p]
        simp (decide := true) only [r32_0, r32_1, r32_4, r32_5, r32_6, r32_9, r32_10, r32_13, r32_14, r32_15, r32_16, r32_17, r32_20, r32_21, r32_24, r32_25, r32_28, r32_29, r32_30, r32_31, r32_32, r32_35, r32_36, r32_39, r32_40, r32_41, r32_42, r32_43, r32_46, r32_47, r32_50, r32_51, r32_54, r32_55, r32_56, r32_57, r32_58, r32_61, r32_62, r32_65, r32_66, r32_67, r32_68, tk_C hS hc, hc, c1, t1, k, z1, n0, n1, o3, y1, y2, y3, y4, y6, sh56 hS, sh57 hS, sm_wp_some, sm_wp_none, sm_at, sm_get, sm_fld, sm_pfl, sm_cN, sm_ai, sm_al, sm_si, sm_slg, sm_aa, List.getElem?_cons_zero, List.getElem?_cons_succ, List.set_cons_zero, List.set_cons_succ, List.length_cons, List.length_nil, Option.toList_some, Option.toList_none, List.cons_append, List.nil_append, if_true, if_false, true_and, and_true, Option.some.injEq, gs_o, gs_s, List.length_set, hS.1, pk_us, Nat.reduceLT, Nat.reduceLeDiff, Nat.reduceSub, Nat.reduceEqDiff, Nat.reduceAdd, Int32.reduceLT, Int32.reduceLE, Int32.reduceAdd, Int32.reduceSub, Int32.reduceToNatClampNeg, reduceIte, reduceCtorEq, Nat.lt_irrefl]
      · have p : s_pre S c = 2 := by
          rw [p1, if_pos ⟨by omega, f⟩]
        have y6 : nI (S 13 (S 14 0 - 1)) &&& nI (s_mt c) = 0 := y5.mpr f
        rw [p]
        simp (decide := true) only [r32_0, r32_1, r32_4, r32_5, r32_6, r32_9, r32_10, r32_13, r32_14, r32_15, r32_16, r32_17, r32_20, r32_21, r32_24, r32_25, r32_28, r32_29, r32_30, r32_31, r32_32, r32_35, r32_36, r32_39, r32_40, r32_41, r32_42, r32_43, r32_46, r32_47, r32_50, r32_51, r32_54, r32_55, r32_56, r32_57, r32_58, r32_61, r32_62, r32_65, r32_66, r32_67, r32_68, tk_C hS hc, hc, c1, t1, k, z1, n1, n2, o3, y1, y2, y3, y4, y6, sh56 hS, sh57 hS, sm_wp_some, sm_wp_none, sm_at, sm_get, sm_fld, sm_pfl, sm_cN, sm_ai, sm_al, sm_si, sm_slg, sm_aa, List.getElem?_cons_zero, List.getElem?_cons_succ, List.set_cons_zero, List.set_cons_succ, List.length_cons, List.length_nil, Option.toList_some, Option.toList_none, List.cons_append, List.nil_append, if_true, if_false, true_and, and_true, Option.some.injEq, gs_o, gs_s, List.length_set, hS.1, pk_us, Nat.reduceLT, Nat.reduceLeDiff, Nat.reduceSub, Nat.reduceEqDiff, Nat.reduceAdd, Int32.reduceLT, Int32.reduceLE, Int32.reduceAdd, Int32.reduceSub, Int32.reduceToNatClampNeg, reduceIte, reduceCtorEq, Nat.lt_irrefl]
    · rw [k, n2] at z1
      have y1 : nI (S 14 0) - 1 = nI (S 14 0 - 1) := pk_sub (b := 1) (by omega)
      have y2 : sm_in (nI (S 14 0 - 1)) 8 = true := sm_in_nI (by omega) (by decide)
      have y3 : (nI (S 14 0 - 1)).toNatClampNeg = S 14 0 - 1 := nI_clamp (by omega)
      have y4 := (hK.2 (S 14 0 - 1) (by omega)).1
      have y5 := mask_C (s := S 13 (S 14 0 - 1)) (m := s_mt c) (by rcases hE (S 14 0 - 1) (by omega) with q | q; exact Or.inl q.1; exact Or.inr q.1) kt
      have x1 : nI (S 14 0) - 2 = nI (S 14 0 - 2) := pk_sub (b := 2) (by omega)
      have x2 : sm_in (nI (S 14 0 - 2)) 8 = true := sm_in_nI (by omega) (by decide)
      have x3 : (nI (S 14 0 - 2)).toNatClampNeg = S 14 0 - 2 := nI_clamp (by omega)
      have x4 := (hK.2 (S 14 0 - 2) (by omega)).1
      have x5 := mask_C (s := S 13 (S 14 0 - 2)) (m := s_mu c) (by rcases hE (S 14 0 - 2) (by omega) with q | q; exact Or.inl q.1; exact Or.inr q.1) km
      by_cases f : s_mt c = 3 ∨ s_mt c = S 13 (S 14 0 - 1)
      · have y6 : ¬ (nI (S 13 (S 14 0 - 1)) &&& nI (s_mt c) = 0) := fun q => y5.mp q f
        by_cases g : s_mu c = 3 ∨ s_mu c = S 13 (S 14 0 - 2)
        · have p : s_pre S c = 0 := by
            rw [p1, if_neg (fun q => q.2 f), if_neg (fun q => q.2 g)]
          have x6 : ¬ (nI (S 13 (S 14 0 - 2)) &&& nI (s_mu c) = 0) := fun q => x5.mp q g
          rw [p]
          simp (decide := true) only [r32_0, r32_1, r32_4, r32_5, r32_6, r32_9, r32_10, r32_13, r32_14, r32_15, r32_16, r32_17, r32_20, r32_21, r32_24, r32_25, r32_28, r32_29, r32_30, r32_31, r32_32, r32_35, r32_36, r32_39, r32_40, r32_41, r32_42, r32_43, r32_46, r32_47, r32_50, r32_51, r32_54, r32_55, r32_56, r32_57, r32_58, r32_61, r32_62, r32_65, r32_66, r32_67, r32_68, tk_C hS hc, hc, c1, t1, k, z1, n0, n2, o2, o3, y1, y2, y3, y4, y6, x1, x2, x3, x4, x6, sh56 hS, sh57 hS, sm_wp_some, sm_wp_none, sm_at, sm_get, sm_fld, sm_pfl, sm_cN, sm_ai, sm_al, sm_si, sm_slg, sm_aa, List.getElem?_cons_zero, List.getElem?_cons_succ, List.set_cons_zero, List.set_cons_succ, List.length_cons, List.length_nil, Option.toList_some, Option.toList_none, List.cons_append, List.nil_append, if_true, if_false, true_and, and_true, Option.some.injEq, gs_o, gs_s, List.length_set, hS.1, pk_us, Nat.reduceLT, Nat.reduceLeDiff, Nat.reduceSub, Nat.reduceEqDiff, Nat.reduceAdd, Int32.reduceLT, Int32.reduceLE, Int32.reduceAdd, Int32.reduceSub, Int32.reduceToNatClampNeg, reduceIte, reduceCtorEq, Nat.lt_irrefl]
        · have p : s_pre S c = 2 := by
            rw [p1, if_neg (fun q => q.2 f), if_pos ⟨k, g⟩]
          have x6 : nI (S 13 (S 14 0 - 2)) &&& nI (s_mu c) = 0 := x5.mpr g
          rw [p]
          simp (decide := true) only [r32_0, r32_1, r32_4, r32_5, r32_6, r32_9, r32_10, r32_13, r32_14, r32_15, r32_16, r32_17, r32_20, r32_21, r32_24, r32_25, r32_28, r32_29, r32_30, r32_31, r32_32, r32_35, r32_36, r32_39, r32_40, r32_41, r32_42, r32_43, r32_46, r32_47, r32_50, r32_51, r32_54, r32_55, r32_56, r32_57, r32_58, r32_61, r32_62, r32_65, r32_66, r32_67, r32_68, tk_C hS hc, hc, c1, t1, k, z1, n0, n2, o2, o3, y1, y2, y3, y4, y6, x1, x2, x3, x4, x6, sh56 hS, sh57 hS, sm_wp_some, sm_wp_none, sm_at, sm_get, sm_fld, sm_pfl, sm_cN, sm_ai, sm_al, sm_si, sm_slg, sm_aa, List.getElem?_cons_zero, List.getElem?_cons_succ, List.set_cons_zero, List.set_cons_succ, List.length_cons, List.length_nil, Option.toList_some, Option.toList_none, List.cons_append, List.nil_append, if_true, if_false, true_and, and_true, Option.some.injEq, gs_o, gs_s, List.length_set, hS.1, pk_us, Nat.reduceLT, Nat.reduceLeDiff, Nat.reduceSub, Nat.reduceEqDiff, Nat.reduceAdd, Int32.reduceLT, Int32.reduceLE, Int32.reduceAdd, Int32.reduceSub, Int32.reduceToNatClampNeg, reduceIte, reduceCtorEq, Nat.lt_irrefl]
      · have p : s_pre S c = 2 := by
          rw [p1, if_pos ⟨by omega, f⟩]
        have y6 : nI (S 13 (S 14 0 - 1)) &&& nI (s_mt c) = 0 := y5.mpr f
        rw [p]
        simp (decide := true) only [r32_0, r32_1, r32_4, r32_5, r32_6, r32_9, r32_10, r32_13, r32_14, r32_15, r32_16, r32_17, r32_20, r32_21, r32_24, r32_25, r32_28, r32_29, r32_30, r32_31, r32_32, r32_35, r32_36, r32_39, r32_40, r32_41, r32_42, r32_43, r32_46, r32_47, r32_50, r32_51, r32_54, r32_55, r32_56, r32_57, r32_58, r32_61, r32_62, r32_65, r32_66, r32_67, r32_68, tk_C hS hc, hc, c1, t1, k, z1, n2, o3, y1, y2, y3, y4, y6, sh56 hS, sh57 hS, sm_wp_some, sm_wp_none, sm_at, sm_get, sm_fld, sm_pfl, sm_cN, sm_ai, sm_al, sm_si, sm_slg, sm_aa, List.getElem?_cons_zero, List.getElem?_cons_succ, List.set_cons_zero, List.set_cons_succ, List.length_cons, List.length_nil, Option.toList_some, Option.toList_none, List.cons_append, List.nil_append, if_true, if_false, true_and, and_true, Option.some.injEq, gs_o, gs_s, List.length_set, hS.1, pk_us, Nat.reduceLT, Nat.reduceLeDiff, Nat.reduceSub, Nat.reduceEqDiff, Nat.reduceAdd, Int32.reduceLT, Int32.reduceLE, Int32.reduceAdd, Int32.reduceSub, Int32.reduceToNatClampNeg, reduceIte, reduceCtorEq, Nat.lt_irrefl]
/-! THE STEP of the class (gen/n8.py) -/
theorem sd_0 {X : sm_X} {w : sm_W} {Q : Option Value → sm_W → Prop} {c a P : Nat} {q0 : Int32} (hS : Sh w) (hc : c < 31) (hk : s_tk c = 0) : sm_R X 31 103 [.ref 155, .ref P, .int q0, .ref c, .int (nI a), .int 0] [] w Q ↔ sm_R X 34 0 [.ref 155, .ref c, .int (nI a)] [] w (fun v w => sm_R X 31 139 [.ref 155, .ref P, .int q0, .ref c, .int (nI a), .int 0] (v.toList ++ []) w Q) := by
  have n : nI 0 = 0 := rfl
  simp (decide := true) only [r31_103, r31_104, r31_107, r31_132, r31_133, r31_134, r31_136, tk_C hS hc, hc, hk, n, sh55 hS, sm_wp_some, sm_wp_none, sm_at, sm_get, sm_fld, sm_pfl, sm_cN, sm_ai, sm_al, sm_si, sm_slg, sm_aa, List.getElem?_cons_zero, List.getElem?_cons_succ, List.set_cons_zero, List.set_cons_succ, List.length_cons, List.length_nil, Option.toList_some, Option.toList_none, List.cons_append, List.nil_append, if_true, if_false, true_and, and_true, Option.some.injEq, gs_o, gs_s, List.length_set, hS.1, pk_us, Nat.reduceLT, Nat.reduceLeDiff, Nat.reduceSub, Nat.reduceEqDiff, Nat.reduceAdd, Int32.reduceLT, Int32.reduceLE, Int32.reduceAdd, Int32.reduceSub, Int32.reduceToNatClampNeg, reduceIte, reduceCtorEq, Nat.lt_irrefl]
theorem sd_1 {X : sm_X} {w : sm_W} {Q : Option Value → sm_W → Prop} {c a P : Nat} {q0 : Int32} (hS : Sh w) (hc : c < 31) (hk : s_tk c = 1) : sm_R X 31 103 [.ref 155, .ref P, .int q0, .ref c, .int (nI a), .int 0] [] w Q ↔ sm_R X 37 0 [.ref 155, .ref c, .int (nI a), sm_J, sm_J] [] w (fun v w => sm_R X 31 147 [.ref 155, .ref P, .int q0, .ref c, .int (nI a), .int 0] (v.toList ++ []) w Q) := by
  have n : nI 1 = 1 := rfl
  simp (decide := true) only [r31_103, r31_104, r31_107, r31_132, r31_133, r31_134, r31_136, r31_139, r31_140, r31_141, r31_142, r31_144, tk_C hS hc, hc, hk, n, sh55 hS, sm_wp_some, sm_wp_none, sm_at, sm_get, sm_fld, sm_pfl, sm_cN, sm_ai, sm_al, sm_si, sm_slg, sm_aa, List.getElem?_cons_zero, List.getElem?_cons_succ, List.set_cons_zero, List.set_cons_succ, List.length_cons, List.length_nil, Option.toList_some, Option.toList_none, List.cons_append, List.nil_append, if_true, if_false, true_and, and_true, Option.some.injEq, gs_o, gs_s, List.length_set, hS.1, pk_us, Nat.reduceLT, Nat.reduceLeDiff, Nat.reduceSub, Nat.reduceEqDiff, Nat.reduceAdd, Int32.reduceLT, Int32.reduceLE, Int32.reduceAdd, Int32.reduceSub, Int32.reduceToNatClampNeg, reduceIte, reduceCtorEq, Nat.lt_irrefl]
theorem sd_2 {X : sm_X} {w : sm_W} {Q : Option Value → sm_W → Prop} {c a P : Nat} {q0 : Int32} (hS : Sh w) (hc : c < 31) (hk : s_tk c = 2) : sm_R X 31 103 [.ref 155, .ref P, .int q0, .ref c, .int (nI a), .int 0] [] w Q ↔ sm_R X 44 0 [.ref 155, .ref c, .int (nI a), sm_J, sm_J, sm_J, sm_J] [] w (fun v w => sm_R X 31 155 [.ref 155, .ref P, .int q0, .ref c, .int (nI a), .int 0] (v.toList ++ []) w Q) := by
  have n : nI 2 = 2 := rfl
  simp (decide := true) only [r31_103, r31_104, r31_107, r31_132, r31_133, r31_134, r31_136, r31_139, r31_140, r31_141, r31_142, r31_144, r31_147, r31_148, r31_149, r31_150, r31_152, tk_C hS hc, hc, hk, n, sh55 hS, sm_wp_some, sm_wp_none, sm_at, sm_get, sm_fld, sm_pfl, sm_cN, sm_ai, sm_al, sm_si, sm_slg, sm_aa, List.getElem?_cons_zero, List.getElem?_cons_succ, List.set_cons_zero, List.set_cons_succ, List.length_cons, List.length_nil, Option.toList_some, Option.toList_none, List.cons_append, List.nil_append, if_true, if_false, true_and, and_true, Option.some.injEq, gs_o, gs_s, List.length_set, hS.1, pk_us, Nat.reduceLT, Nat.reduceLeDiff, Nat.reduceSub, Nat.reduceEqDiff, Nat.reduceAdd, Int32.reduceLT, Int32.reduceLE, Int32.reduceAdd, Int32.reduceSub, Int32.reduceToNatClampNeg, reduceIte, reduceCtorEq, Nat.lt_irrefl]
theorem pre_1 {S : sm_S} {c : Nat} (hE : ∀ i, i < S 14 0 → s_ent (S 13 i) (S 12 i)) (hk : s_tk c = 1) (hp : s_pre S c = 0) : 1 ≤ S 14 0 ∧ (s_mt c = 2 → S 12 (S 14 0 - 1) < 6) ∧ S 12 (S 14 0 - 1) < 2 ^ 31 := by
  unfold s_pre at hp
  by_cases e : S 14 0 < s_tk c
  · rw [if_pos e] at hp
    exact absurd hp (by decide)
  · rw [if_neg e] at hp
    by_cases f : 1 ≤ s_tk c ∧ ¬ (s_mt c = 3 ∨ s_mt c = S 13 (S 14 0 - 1))
    · rw [if_pos f] at hp
      exact absurd hp (by decide)
    · have h1 : 1 ≤ S 14 0 := by omega
      have h2 := hE (S 14 0 - 1) (by omega)
      unfold s_ent at h2
      refine ⟨h1, fun h => ?_, ?_⟩ <;> omega
theorem pre_2 {S : sm_S} {c : Nat} (hE : ∀ i, i < S 14 0 → s_ent (S 13 i) (S 12 i)) (hk : s_tk c = 2) (hp : s_pre S c = 0) : 2 ≤ S 14 0 ∧ (s_mu c = 2 → S 12 (S 14 0 - 2) < 6) ∧ S 12 (S 14 0 - 2) < 2 ^ 31 ∧ S 12 (S 14 0 - 1) < 2 ^ 31 ∧ S 13 (S 14 0 - 2) < 2 ^ 31 ∧ S 13 (S 14 0 - 1) < 2 ^ 31 := by
  unfold s_pre at hp
  by_cases e : S 14 0 < s_tk c
  · rw [if_pos e] at hp
    exact absurd hp (by decide)
  · rw [if_neg e] at hp
    by_cases f : 1 ≤ s_tk c ∧ ¬ (s_mt c = 3 ∨ s_mt c = S 13 (S 14 0 - 1))
    · rw [if_pos f] at hp
      exact absurd hp (by decide)
    · rw [if_neg f] at hp
      by_cases g : s_tk c = 2 ∧ ¬ (s_mu c = 3 ∨ s_mu c = S 13 (S 14 0 - 2))
      · rw [if_pos g] at hp
        exact absurd hp (by decide)
      · have h1 : 2 ≤ S 14 0 := by omega
        have h2 := hE (S 14 0 - 1) (by omega)
        have h3 := hE (S 14 0 - 2) (by omega)
        unfold s_ent at h2 h3
        refine ⟨h1, fun h => ?_, ?_, ?_, ?_, ?_⟩ <;> omega
theorem ax_0 {X : sm_X} {w : sm_W} {Q : Option Value → sm_W → Prop} {S : sm_S} {T t a P : Nat} {q0 : Int32} (hR : RnC w S t (S 14 1 + 1)) (hB : RnB T S t) (hp : s_pre S 0 = 0) (hf : s_fit 0 a) (hQ : ∀ w', AfC w w' t (s_act S t 0 a) → Q (some (.int (nI (s_act S t 0 a).1))) w') : sm_R X 31 103 [.ref 155, .ref P, .int q0, .ref 0, .int (nI a), .int 0] [] w Q := by
  rw [sd_0 hR.1 (by decide) rfl]
  exact ac_0 hR hB (hf.1 rfl) (fun w' h => by
    simp (decide := true) only [r31_139, Option.toList_some, List.cons_append, List.nil_append]
    exact hQ w' h)
theorem ax_1 {X : sm_X} {w : sm_W} {Q : Option Value → sm_W → Prop} {S : sm_S} {T t a P : Nat} {q0 : Int32} (hR : RnC w S t (S 14 1 + 1)) (hB : RnB T S t) (hp : s_pre S 1 = 0) (hf : s_fit 1 a) (hQ : ∀ w', AfC w w' t (s_act S t 1 a) → Q (some (.int (nI (s_act S t 1 a).1))) w') : sm_R X 31 103 [.ref 155, .ref P, .int q0, .ref 1, .int (nI a), .int 0] [] w Q := by
  rw [sd_0 hR.1 (by decide) rfl]
  exact ac_1 hR hB (hf.2.1 rfl) (fun w' h => by
    simp (decide := true) only [r31_139, Option.toList_some, List.cons_append, List.nil_append]
    exact hQ w' h)
theorem ax_2 {X : sm_X} {w : sm_W} {Q : Option Value → sm_W → Prop} {S : sm_S} {T t a P : Nat} {q0 : Int32} (hR : RnC w S t (S 14 1 + 1)) (hB : RnB T S t) (hp : s_pre S 2 = 0) (hf : s_fit 2 a) (hQ : ∀ w', AfC w w' t (s_act S t 2 a) → Q (some (.int (nI (s_act S t 2 a).1))) w') : sm_R X 31 103 [.ref 155, .ref P, .int q0, .ref 2, .int (nI a), .int 0] [] w Q := by
  rw [sd_0 hR.1 (by decide) rfl]
  exact ac_2 hR hB (hf.2.2.1 (by decide)) (fun w' h => by
    simp (decide := true) only [r31_139, Option.toList_some, List.cons_append, List.nil_append]
    exact hQ w' h)
theorem ax_3 {X : sm_X} {w : sm_W} {Q : Option Value → sm_W → Prop} {S : sm_S} {T t a P : Nat} {q0 : Int32} (hR : RnC w S t (S 14 1 + 1)) (hB : RnB T S t) (hp : s_pre S 3 = 0) (hf : s_fit 3 a) (hQ : ∀ w', AfC w w' t (s_act S t 3 a) → Q (some (.int (nI (s_act S t 3 a).1))) w') : sm_R X 31 103 [.ref 155, .ref P, .int q0, .ref 3, .int (nI a), .int 0] [] w Q := by
  rw [sd_0 hR.1 (by decide) rfl]
  exact ac_3 hR hB (True.intro) (fun w' h => by
    simp (decide := true) only [r31_139, Option.toList_some, List.cons_append, List.nil_append]
    exact hQ w' h)
theorem ax_4 {X : sm_X} {w : sm_W} {Q : Option Value → sm_W → Prop} {S : sm_S} {T t a P : Nat} {q0 : Int32} (hR : RnC w S t (S 14 1 + 1)) (hB : RnB T S t) (hp : s_pre S 4 = 0) (hf : s_fit 4 a) (hQ : ∀ w', AfC w w' t (s_act S t 4 a) → Q (some (.int (nI (s_act S t 4 a).1))) w') : sm_R X 31 103 [.ref 155, .ref P, .int q0, .ref 4, .int (nI a), .int 0] [] w Q := by
  rw [sd_0 hR.1 (by decide) rfl]
  exact ac_4 hR hB (True.intro) (fun w' h => by
    simp (decide := true) only [r31_139, Option.toList_some, List.cons_append, List.nil_append]
    exact hQ w' h)
theorem ax_5 {X : sm_X} {w : sm_W} {Q : Option Value → sm_W → Prop} {S : sm_S} {T t a P : Nat} {q0 : Int32} (hR : RnC w S t (S 14 1 + 1)) (hB : RnB T S t) (hp : s_pre S 5 = 0) (hf : s_fit 5 a) (hQ : ∀ w', AfC w w' t (s_act S t 5 a) → Q (some (.int (nI (s_act S t 5 a).1))) w') : sm_R X 31 103 [.ref 155, .ref P, .int q0, .ref 5, .int (nI a), .int 0] [] w Q := by
  rw [sd_0 hR.1 (by decide) rfl]
  exact ac_5 hR hB (True.intro) (fun w' h => by
    simp (decide := true) only [r31_139, Option.toList_some, List.cons_append, List.nil_append]
    exact hQ w' h)
theorem ax_6 {X : sm_X} {w : sm_W} {Q : Option Value → sm_W → Prop} {S : sm_S} {T t a P : Nat} {q0 : Int32} (hR : RnC w S t (S 14 1 + 1)) (hB : RnB T S t) (hp : s_pre S 6 = 0) (hf : s_fit 6 a) (hQ : ∀ w', AfC w w' t (s_act S t 6 a) → Q (some (.int (nI (s_act S t 6 a).1))) w') : sm_R X 31 103 [.ref 155, .ref P, .int q0, .ref 6, .int (nI a), .int 0] [] w Q := by
  rw [sd_1 hR.1 (by decide) rfl]
  obtain ⟨p1, p2, p3⟩ := pre_1 hB.2.2.2.2.2.1.2 rfl hp
  have h8 := hB.2.2.2.2.2.1.1
  have h4 : S 10 1 ≤ 4 := hB.2.2.1.1
  have hK := hR.2.2.2.2.2.1
  rw [one_C (S := S) (m := S 14 0 - 1) hR.1 (by omega) (by rw [hK.1]; congr 1; omega), (hK.2 (S 14 0 - 1) (by omega)).1, (hK.2 (S 14 0 - 1) (by omega)).2]
  exact bc_6 (x := S 12 (S 14 0 - 2)) (xs := S 13 (S 14 0 - 2)) (hR.take h4 (by omega)) hB p1 p3 (True.intro) (fun w' h => by
    simp (decide := true) only [r31_147, Option.toList_some, List.cons_append, List.nil_append]
    exact hQ w' (AfC.tr (FrC.set (by decide) (by decide) (by decide)) h))
theorem ax_7 {X : sm_X} {w : sm_W} {Q : Option Value → sm_W → Prop} {S : sm_S} {T t a P : Nat} {q0 : Int32} (hR : RnC w S t (S 14 1 + 1)) (hB : RnB T S t) (hp : s_pre S 7 = 0) (hf : s_fit 7 a) (hQ : ∀ w', AfC w w' t (s_act S t 7 a) → Q (some (.int (nI (s_act S t 7 a).1))) w') : sm_R X 31 103 [.ref 155, .ref P, .int q0, .ref 7, .int (nI a), .int 0] [] w Q := by
  rw [sd_1 hR.1 (by decide) rfl]
  obtain ⟨p1, p2, p3⟩ := pre_1 hB.2.2.2.2.2.1.2 rfl hp
  have h8 := hB.2.2.2.2.2.1.1
  have h4 : S 10 1 ≤ 4 := hB.2.2.1.1
  have hK := hR.2.2.2.2.2.1
  rw [one_C (S := S) (m := S 14 0 - 1) hR.1 (by omega) (by rw [hK.1]; congr 1; omega), (hK.2 (S 14 0 - 1) (by omega)).1, (hK.2 (S 14 0 - 1) (by omega)).2]
  exact bc_7 (x := S 12 (S 14 0 - 2)) (xs := S 13 (S 14 0 - 2)) (hR.take h4 (by omega)) hB p1 p3 (True.intro) (fun w' h => by
    simp (decide := true) only [r31_147, Option.toList_some, List.cons_append, List.nil_append]
    exact hQ w' (AfC.tr (FrC.set (by decide) (by decide) (by decide)) h))
theorem ax_8 {X : sm_X} {w : sm_W} {Q : Option Value → sm_W → Prop} {S : sm_S} {T t a P : Nat} {q0 : Int32} (hR : RnC w S t (S 14 1 + 1)) (hB : RnB T S t) (hp : s_pre S 8 = 0) (hf : s_fit 8 a) (hQ : ∀ w', AfC w w' t (s_act S t 8 a) → Q (some (.int (nI (s_act S t 8 a).1))) w') : sm_R X 31 103 [.ref 155, .ref P, .int q0, .ref 8, .int (nI a), .int 0] [] w Q := by
  rw [sd_2 hR.1 (by decide) rfl]
  obtain ⟨p1, p2, p3, p4, p5, p6⟩ := pre_2 hB.2.2.2.2.2.1.2 rfl hp
  have h8 := hB.2.2.2.2.2.1.1
  have h4 : S 10 1 ≤ 4 := hB.2.2.1.1
  have hK := hR.2.2.2.2.2.1
  have k1 : S 14 0 - 2 + 1 = S 14 0 - 1 := by omega
  rw [two_C (S := S) (m := S 14 0 - 2) hR.1 (by omega) (by rw [hK.1]; congr 1; omega), k1, (hK.2 (S 14 0 - 1) (by omega)).1, (hK.2 (S 14 0 - 1) (by omega)).2, (hK.2 (S 14 0 - 2) (by omega)).1, (hK.2 (S 14 0 - 2) (by omega)).2]
  exact tc_8 (hR.take h4 (by omega)) hB p1 p3 p4 (True.intro) (fun w' h => by
    simp (decide := true) only [r31_155, Option.toList_some, List.cons_append, List.nil_append]
    exact hQ w' (AfC.tr (FrC.set (by decide) (by decide) (by decide)) h))
theorem ax_9 {X : sm_X} {w : sm_W} {Q : Option Value → sm_W → Prop} {S : sm_S} {T t a P : Nat} {q0 : Int32} (hR : RnC w S t (S 14 1 + 1)) (hB : RnB T S t) (hp : s_pre S 9 = 0) (hf : s_fit 9 a) (hQ : ∀ w', AfC w w' t (s_act S t 9 a) → Q (some (.int (nI (s_act S t 9 a).1))) w') : sm_R X 31 103 [.ref 155, .ref P, .int q0, .ref 9, .int (nI a), .int 0] [] w Q := by
  rw [sd_2 hR.1 (by decide) rfl]
  obtain ⟨p1, p2, p3, p4, p5, p6⟩ := pre_2 hB.2.2.2.2.2.1.2 rfl hp
  have h8 := hB.2.2.2.2.2.1.1
  have h4 : S 10 1 ≤ 4 := hB.2.2.1.1
  have hK := hR.2.2.2.2.2.1
  have k1 : S 14 0 - 2 + 1 = S 14 0 - 1 := by omega
  rw [two_C (S := S) (m := S 14 0 - 2) hR.1 (by omega) (by rw [hK.1]; congr 1; omega), k1, (hK.2 (S 14 0 - 1) (by omega)).1, (hK.2 (S 14 0 - 1) (by omega)).2, (hK.2 (S 14 0 - 2) (by omega)).1, (hK.2 (S 14 0 - 2) (by omega)).2]
  exact tc_9 (hR.take h4 (by omega)) hB p1 p3 p4 (True.intro) (fun w' h => by
    simp (decide := true) only [r31_155, Option.toList_some, List.cons_append, List.nil_append]
    exact hQ w' (AfC.tr (FrC.set (by decide) (by decide) (by decide)) h))
theorem ax_10 {X : sm_X} {w : sm_W} {Q : Option Value → sm_W → Prop} {S : sm_S} {T t a P : Nat} {q0 : Int32} (hR : RnC w S t (S 14 1 + 1)) (hB : RnB T S t) (hp : s_pre S 10 = 0) (hf : s_fit 10 a) (hQ : ∀ w', AfC w w' t (s_act S t 10 a) → Q (some (.int (nI (s_act S t 10 a).1))) w') : sm_R X 31 103 [.ref 155, .ref P, .int q0, .ref 10, .int (nI a), .int 0] [] w Q := by
  rw [sd_2 hR.1 (by decide) rfl]
  obtain ⟨p1, p2, p3, p4, p5, p6⟩ := pre_2 hB.2.2.2.2.2.1.2 rfl hp
  have h8 := hB.2.2.2.2.2.1.1
  have h4 : S 10 1 ≤ 4 := hB.2.2.1.1
  have hK := hR.2.2.2.2.2.1
  have k1 : S 14 0 - 2 + 1 = S 14 0 - 1 := by omega
  rw [two_C (S := S) (m := S 14 0 - 2) hR.1 (by omega) (by rw [hK.1]; congr 1; omega), k1, (hK.2 (S 14 0 - 1) (by omega)).1, (hK.2 (S 14 0 - 1) (by omega)).2, (hK.2 (S 14 0 - 2) (by omega)).1, (hK.2 (S 14 0 - 2) (by omega)).2]
  exact tc_10 (hR.take h4 (by omega)) hB p1 p3 p4 (True.intro) (fun w' h => by
    simp (decide := true) only [r31_155, Option.toList_some, List.cons_append, List.nil_append]
    exact hQ w' (AfC.tr (FrC.set (by decide) (by decide) (by decide)) h))
theorem ax_11 {X : sm_X} {w : sm_W} {Q : Option Value → sm_W → Prop} {S : sm_S} {T t a P : Nat} {q0 : Int32} (hR : RnC w S t (S 14 1 + 1)) (hB : RnB T S t) (hp : s_pre S 11 = 0) (hf : s_fit 11 a) (hQ : ∀ w', AfC w w' t (s_act S t 11 a) → Q (some (.int (nI (s_act S t 11 a).1))) w') : sm_R X 31 103 [.ref 155, .ref P, .int q0, .ref 11, .int (nI a), .int 0] [] w Q := by
  rw [sd_2 hR.1 (by decide) rfl]
  obtain ⟨p1, p2, p3, p4, p5, p6⟩ := pre_2 hB.2.2.2.2.2.1.2 rfl hp
  have h8 := hB.2.2.2.2.2.1.1
  have h4 : S 10 1 ≤ 4 := hB.2.2.1.1
  have hK := hR.2.2.2.2.2.1
  have k1 : S 14 0 - 2 + 1 = S 14 0 - 1 := by omega
  rw [two_C (S := S) (m := S 14 0 - 2) hR.1 (by omega) (by rw [hK.1]; congr 1; omega), k1, (hK.2 (S 14 0 - 1) (by omega)).1, (hK.2 (S 14 0 - 1) (by omega)).2, (hK.2 (S 14 0 - 2) (by omega)).1, (hK.2 (S 14 0 - 2) (by omega)).2]
  exact tc_11 (hR.take h4 (by omega)) hB p1 p3 p4 (True.intro) (fun w' h => by
    simp (decide := true) only [r31_155, Option.toList_some, List.cons_append, List.nil_append]
    exact hQ w' (AfC.tr (FrC.set (by decide) (by decide) (by decide)) h))
theorem ax_12 {X : sm_X} {w : sm_W} {Q : Option Value → sm_W → Prop} {S : sm_S} {T t a P : Nat} {q0 : Int32} (hR : RnC w S t (S 14 1 + 1)) (hB : RnB T S t) (hp : s_pre S 12 = 0) (hf : s_fit 12 a) (hQ : ∀ w', AfC w w' t (s_act S t 12 a) → Q (some (.int (nI (s_act S t 12 a).1))) w') : sm_R X 31 103 [.ref 155, .ref P, .int q0, .ref 12, .int (nI a), .int 0] [] w Q := by
  rw [sd_2 hR.1 (by decide) rfl]
  obtain ⟨p1, p2, p3, p4, p5, p6⟩ := pre_2 hB.2.2.2.2.2.1.2 rfl hp
  have h8 := hB.2.2.2.2.2.1.1
  have h4 : S 10 1 ≤ 4 := hB.2.2.1.1
  have hK := hR.2.2.2.2.2.1
  have k1 : S 14 0 - 2 + 1 = S 14 0 - 1 := by omega
  rw [two_C (S := S) (m := S 14 0 - 2) hR.1 (by omega) (by rw [hK.1]; congr 1; omega), k1, (hK.2 (S 14 0 - 1) (by omega)).1, (hK.2 (S 14 0 - 1) (by omega)).2, (hK.2 (S 14 0 - 2) (by omega)).1, (hK.2 (S 14 0 - 2) (by omega)).2]
  exact tc_12 (hR.take h4 (by omega)) hB p1 p3 p4 (True.intro) (fun w' h => by
    simp (decide := true) only [r31_155, Option.toList_some, List.cons_append, List.nil_append]
    exact hQ w' (AfC.tr (FrC.set (by decide) (by decide) (by decide)) h))
theorem ax_13 {X : sm_X} {w : sm_W} {Q : Option Value → sm_W → Prop} {S : sm_S} {T t a P : Nat} {q0 : Int32} (hR : RnC w S t (S 14 1 + 1)) (hB : RnB T S t) (hp : s_pre S 13 = 0) (hf : s_fit 13 a) (hQ : ∀ w', AfC w w' t (s_act S t 13 a) → Q (some (.int (nI (s_act S t 13 a).1))) w') : sm_R X 31 103 [.ref 155, .ref P, .int q0, .ref 13, .int (nI a), .int 0] [] w Q := by
  rw [sd_2 hR.1 (by decide) rfl]
  obtain ⟨p1, p2, p3, p4, p5, p6⟩ := pre_2 hB.2.2.2.2.2.1.2 rfl hp
  have h8 := hB.2.2.2.2.2.1.1
  have h4 : S 10 1 ≤ 4 := hB.2.2.1.1
  have hK := hR.2.2.2.2.2.1
  have k1 : S 14 0 - 2 + 1 = S 14 0 - 1 := by omega
  rw [two_C (S := S) (m := S 14 0 - 2) hR.1 (by omega) (by rw [hK.1]; congr 1; omega), k1, (hK.2 (S 14 0 - 1) (by omega)).1, (hK.2 (S 14 0 - 1) (by omega)).2, (hK.2 (S 14 0 - 2) (by omega)).1, (hK.2 (S 14 0 - 2) (by omega)).2]
  exact tc_13 (hR.take h4 (by omega)) hB p1 p3 p4 p5 p6 (True.intro) (fun w' h => by
    simp (decide := true) only [r31_155, Option.toList_some, List.cons_append, List.nil_append]
    exact hQ w' (AfC.tr (FrC.set (by decide) (by decide) (by decide)) h))
theorem ax_14 {X : sm_X} {w : sm_W} {Q : Option Value → sm_W → Prop} {S : sm_S} {T t a P : Nat} {q0 : Int32} (hR : RnC w S t (S 14 1 + 1)) (hB : RnB T S t) (hp : s_pre S 14 = 0) (hf : s_fit 14 a) (hQ : ∀ w', AfC w w' t (s_act S t 14 a) → Q (some (.int (nI (s_act S t 14 a).1))) w') : sm_R X 31 103 [.ref 155, .ref P, .int q0, .ref 14, .int (nI a), .int 0] [] w Q := by
  rw [sd_1 hR.1 (by decide) rfl]
  obtain ⟨p1, p2, p3⟩ := pre_1 hB.2.2.2.2.2.1.2 rfl hp
  have h8 := hB.2.2.2.2.2.1.1
  have h4 : S 10 1 ≤ 4 := hB.2.2.1.1
  have hK := hR.2.2.2.2.2.1
  rw [one_C (S := S) (m := S 14 0 - 1) hR.1 (by omega) (by rw [hK.1]; congr 1; omega), (hK.2 (S 14 0 - 1) (by omega)).1, (hK.2 (S 14 0 - 1) (by omega)).2]
  exact bc_14 (x := S 12 (S 14 0 - 2)) (xs := S 13 (S 14 0 - 2)) (hR.take h4 (by omega)) hB p1 p3 (True.intro) (fun w' h => by
    simp (decide := true) only [r31_147, Option.toList_some, List.cons_append, List.nil_append]
    exact hQ w' (AfC.tr (FrC.set (by decide) (by decide) (by decide)) h))
theorem ax_15 {X : sm_X} {w : sm_W} {Q : Option Value → sm_W → Prop} {S : sm_S} {T t a P : Nat} {q0 : Int32} (hR : RnC w S t (S 14 1 + 1)) (hB : RnB T S t) (hp : s_pre S 15 = 0) (hf : s_fit 15 a) (hQ : ∀ w', AfC w w' t (s_act S t 15 a) → Q (some (.int (nI (s_act S t 15 a).1))) w') : sm_R X 31 103 [.ref 155, .ref P, .int q0, .ref 15, .int (nI a), .int 0] [] w Q := by
  rw [sd_1 hR.1 (by decide) rfl]
  obtain ⟨p1, p2, p3⟩ := pre_1 hB.2.2.2.2.2.1.2 rfl hp
  have h8 := hB.2.2.2.2.2.1.1
  have h4 : S 10 1 ≤ 4 := hB.2.2.1.1
  have hK := hR.2.2.2.2.2.1
  rw [one_C (S := S) (m := S 14 0 - 1) hR.1 (by omega) (by rw [hK.1]; congr 1; omega), (hK.2 (S 14 0 - 1) (by omega)).1, (hK.2 (S 14 0 - 1) (by omega)).2]
  exact bc_15 (x := S 12 (S 14 0 - 2)) (xs := S 13 (S 14 0 - 2)) (hR.take h4 (by omega)) hB p1 p3 (True.intro) rfl rfl (fun w' h => by
    simp (decide := true) only [r31_147, Option.toList_some, List.cons_append, List.nil_append]
    exact hQ w' (AfC.tr (FrC.set (by decide) (by decide) (by decide)) h))
theorem ax_16 {X : sm_X} {w : sm_W} {Q : Option Value → sm_W → Prop} {S : sm_S} {T t a P : Nat} {q0 : Int32} (hR : RnC w S t (S 14 1 + 1)) (hB : RnB T S t) (hp : s_pre S 16 = 0) (hf : s_fit 16 a) (hQ : ∀ w', AfC w w' t (s_act S t 16 a) → Q (some (.int (nI (s_act S t 16 a).1))) w') : sm_R X 31 103 [.ref 155, .ref P, .int q0, .ref 16, .int (nI a), .int 0] [] w Q := by
  rw [sd_2 hR.1 (by decide) rfl]
  obtain ⟨p1, p2, p3, p4, p5, p6⟩ := pre_2 hB.2.2.2.2.2.1.2 rfl hp
  have h8 := hB.2.2.2.2.2.1.1
  have h4 : S 10 1 ≤ 4 := hB.2.2.1.1
  have hK := hR.2.2.2.2.2.1
  have k1 : S 14 0 - 2 + 1 = S 14 0 - 1 := by omega
  rw [two_C (S := S) (m := S 14 0 - 2) hR.1 (by omega) (by rw [hK.1]; congr 1; omega), k1, (hK.2 (S 14 0 - 1) (by omega)).1, (hK.2 (S 14 0 - 1) (by omega)).2, (hK.2 (S 14 0 - 2) (by omega)).1, (hK.2 (S 14 0 - 2) (by omega)).2]
  exact tc_16 (hR.take h4 (by omega)) hB p1 p3 p4 (True.intro) (fun w' h => by
    simp (decide := true) only [r31_155, Option.toList_some, List.cons_append, List.nil_append]
    exact hQ w' (AfC.tr (FrC.set (by decide) (by decide) (by decide)) h))
theorem ax_17 {X : sm_X} {w : sm_W} {Q : Option Value → sm_W → Prop} {S : sm_S} {T t a P : Nat} {q0 : Int32} (hR : RnC w S t (S 14 1 + 1)) (hB : RnB T S t) (hp : s_pre S 17 = 0) (hf : s_fit 17 a) (hQ : ∀ w', AfC w w' t (s_act S t 17 a) → Q (some (.int (nI (s_act S t 17 a).1))) w') : sm_R X 31 103 [.ref 155, .ref P, .int q0, .ref 17, .int (nI a), .int 0] [] w Q := by
  rw [sd_1 hR.1 (by decide) rfl]
  obtain ⟨p1, p2, p3⟩ := pre_1 hB.2.2.2.2.2.1.2 rfl hp
  have h8 := hB.2.2.2.2.2.1.1
  have h4 : S 10 1 ≤ 4 := hB.2.2.1.1
  have hK := hR.2.2.2.2.2.1
  rw [one_C (S := S) (m := S 14 0 - 1) hR.1 (by omega) (by rw [hK.1]; congr 1; omega), (hK.2 (S 14 0 - 1) (by omega)).1, (hK.2 (S 14 0 - 1) (by omega)).2]
  exact bc_17 (x := S 12 (S 14 0 - 2)) (xs := S 13 (S 14 0 - 2)) (hR.take h4 (by omega)) hB p1 p3 (True.intro) (fun w' h => by
    simp (decide := true) only [r31_147, Option.toList_some, List.cons_append, List.nil_append]
    exact hQ w' (AfC.tr (FrC.set (by decide) (by decide) (by decide)) h))
theorem ax_18 {X : sm_X} {w : sm_W} {Q : Option Value → sm_W → Prop} {S : sm_S} {T t a P : Nat} {q0 : Int32} (hR : RnC w S t (S 14 1 + 1)) (hB : RnB T S t) (hp : s_pre S 18 = 0) (hf : s_fit 18 a) (hQ : ∀ w', AfC w w' t (s_act S t 18 a) → Q (some (.int (nI (s_act S t 18 a).1))) w') : sm_R X 31 103 [.ref 155, .ref P, .int q0, .ref 18, .int (nI a), .int 0] [] w Q := by
  rw [sd_0 hR.1 (by decide) rfl]
  exact ac_18 hR hB (hf.2.2.2.1 (by decide)) (fun w' h => by
    simp (decide := true) only [r31_139, Option.toList_some, List.cons_append, List.nil_append]
    exact hQ w' h)
theorem ax_19 {X : sm_X} {w : sm_W} {Q : Option Value → sm_W → Prop} {S : sm_S} {T t a P : Nat} {q0 : Int32} (hR : RnC w S t (S 14 1 + 1)) (hB : RnB T S t) (hp : s_pre S 19 = 0) (hf : s_fit 19 a) (hQ : ∀ w', AfC w w' t (s_act S t 19 a) → Q (some (.int (nI (s_act S t 19 a).1))) w') : sm_R X 31 103 [.ref 155, .ref P, .int q0, .ref 19, .int (nI a), .int 0] [] w Q := by
  rw [sd_1 hR.1 (by decide) rfl]
  obtain ⟨p1, p2, p3⟩ := pre_1 hB.2.2.2.2.2.1.2 rfl hp
  have h8 := hB.2.2.2.2.2.1.1
  have h4 : S 10 1 ≤ 4 := hB.2.2.1.1
  have hK := hR.2.2.2.2.2.1
  rw [one_C (S := S) (m := S 14 0 - 1) hR.1 (by omega) (by rw [hK.1]; congr 1; omega), (hK.2 (S 14 0 - 1) (by omega)).1, (hK.2 (S 14 0 - 1) (by omega)).2]
  exact bc_19 (x := S 12 (S 14 0 - 2)) (xs := S 13 (S 14 0 - 2)) (hR.take h4 (by omega)) hB p1 p3 (hf.2.2.2.1 (by decide)) (fun w' h => by
    simp (decide := true) only [r31_147, Option.toList_some, List.cons_append, List.nil_append]
    exact hQ w' (AfC.tr (FrC.set (by decide) (by decide) (by decide)) h))
theorem ax_20 {X : sm_X} {w : sm_W} {Q : Option Value → sm_W → Prop} {S : sm_S} {T t a P : Nat} {q0 : Int32} (hR : RnC w S t (S 14 1 + 1)) (hB : RnB T S t) (hp : s_pre S 20 = 0) (hf : s_fit 20 a) (hQ : ∀ w', AfC w w' t (s_act S t 20 a) → Q (some (.int (nI (s_act S t 20 a).1))) w') : sm_R X 31 103 [.ref 155, .ref P, .int q0, .ref 20, .int (nI a), .int 0] [] w Q := by
  rw [sd_1 hR.1 (by decide) rfl]
  obtain ⟨p1, p2, p3⟩ := pre_1 hB.2.2.2.2.2.1.2 rfl hp
  have h8 := hB.2.2.2.2.2.1.1
  have h4 : S 10 1 ≤ 4 := hB.2.2.1.1
  have hK := hR.2.2.2.2.2.1
  rw [one_C (S := S) (m := S 14 0 - 1) hR.1 (by omega) (by rw [hK.1]; congr 1; omega), (hK.2 (S 14 0 - 1) (by omega)).1, (hK.2 (S 14 0 - 1) (by omega)).2]
  exact bc_20 (x := S 12 (S 14 0 - 2)) (xs := S 13 (S 14 0 - 2)) (hR.take h4 (by omega)) hB p1 p3 (True.intro) (fun w' h => by
    simp (decide := true) only [r31_147, Option.toList_some, List.cons_append, List.nil_append]
    exact hQ w' (AfC.tr (FrC.set (by decide) (by decide) (by decide)) h))
theorem ax_21 {X : sm_X} {w : sm_W} {Q : Option Value → sm_W → Prop} {S : sm_S} {T t a P : Nat} {q0 : Int32} (hR : RnC w S t (S 14 1 + 1)) (hB : RnB T S t) (hp : s_pre S 21 = 0) (hf : s_fit 21 a) (hQ : ∀ w', AfC w w' t (s_act S t 21 a) → Q (some (.int (nI (s_act S t 21 a).1))) w') : sm_R X 31 103 [.ref 155, .ref P, .int q0, .ref 21, .int (nI a), .int 0] [] w Q := by
  rw [sd_0 hR.1 (by decide) rfl]
  exact ac_21 hR hB (hf.2.2.2.2 (by decide)) (fun w' h => by
    simp (decide := true) only [r31_139, Option.toList_some, List.cons_append, List.nil_append]
    exact hQ w' h)
theorem ax_22 {X : sm_X} {w : sm_W} {Q : Option Value → sm_W → Prop} {S : sm_S} {T t a P : Nat} {q0 : Int32} (hR : RnC w S t (S 14 1 + 1)) (hB : RnB T S t) (hp : s_pre S 22 = 0) (hf : s_fit 22 a) (hQ : ∀ w', AfC w w' t (s_act S t 22 a) → Q (some (.int (nI (s_act S t 22 a).1))) w') : sm_R X 31 103 [.ref 155, .ref P, .int q0, .ref 22, .int (nI a), .int 0] [] w Q := by
  rw [sd_1 hR.1 (by decide) rfl]
  obtain ⟨p1, p2, p3⟩ := pre_1 hB.2.2.2.2.2.1.2 rfl hp
  have h8 := hB.2.2.2.2.2.1.1
  have h4 : S 10 1 ≤ 4 := hB.2.2.1.1
  have hK := hR.2.2.2.2.2.1
  rw [one_C (S := S) (m := S 14 0 - 1) hR.1 (by omega) (by rw [hK.1]; congr 1; omega), (hK.2 (S 14 0 - 1) (by omega)).1, (hK.2 (S 14 0 - 1) (by omega)).2]
  exact bc_22 (x := S 12 (S 14 0 - 2)) (xs := S 13 (S 14 0 - 2)) (hR.take h4 (by omega)) hB p1 p3 (hf.2.2.2.2 (by decide)) (fun w' h => by
    simp (decide := true) only [r31_147, Option.toList_some, List.cons_append, List.nil_append]
    exact hQ w' (AfC.tr (FrC.set (by decide) (by decide) (by decide)) h))
theorem ax_23 {X : sm_X} {w : sm_W} {Q : Option Value → sm_W → Prop} {S : sm_S} {T t a P : Nat} {q0 : Int32} (hR : RnC w S t (S 14 1 + 1)) (hB : RnB T S t) (hp : s_pre S 23 = 0) (hf : s_fit 23 a) (hQ : ∀ w', AfC w w' t (s_act S t 23 a) → Q (some (.int (nI (s_act S t 23 a).1))) w') : sm_R X 31 103 [.ref 155, .ref P, .int q0, .ref 23, .int (nI a), .int 0] [] w Q := by
  rw [sd_1 hR.1 (by decide) rfl]
  obtain ⟨p1, p2, p3⟩ := pre_1 hB.2.2.2.2.2.1.2 rfl hp
  have h8 := hB.2.2.2.2.2.1.1
  have h4 : S 10 1 ≤ 4 := hB.2.2.1.1
  have hK := hR.2.2.2.2.2.1
  rw [one_C (S := S) (m := S 14 0 - 1) hR.1 (by omega) (by rw [hK.1]; congr 1; omega), (hK.2 (S 14 0 - 1) (by omega)).1, (hK.2 (S 14 0 - 1) (by omega)).2]
  exact bc_23 (x := S 12 (S 14 0 - 2)) (xs := S 13 (S 14 0 - 2)) (hR.take h4 (by omega)) hB p1 (p2 rfl) (hf.2.2.1 (by decide)) (fun w' h => by
    simp (decide := true) only [r31_147, Option.toList_some, List.cons_append, List.nil_append]
    exact hQ w' (AfC.tr (FrC.set (by decide) (by decide) (by decide)) h))
theorem ax_24 {X : sm_X} {w : sm_W} {Q : Option Value → sm_W → Prop} {S : sm_S} {T t a P : Nat} {q0 : Int32} (hR : RnC w S t (S 14 1 + 1)) (hB : RnB T S t) (hp : s_pre S 24 = 0) (hf : s_fit 24 a) (hQ : ∀ w', AfC w w' t (s_act S t 24 a) → Q (some (.int (nI (s_act S t 24 a).1))) w') : sm_R X 31 103 [.ref 155, .ref P, .int q0, .ref 24, .int (nI a), .int 0] [] w Q := by
  rw [sd_2 hR.1 (by decide) rfl]
  obtain ⟨p1, p2, p3, p4, p5, p6⟩ := pre_2 hB.2.2.2.2.2.1.2 rfl hp
  have h8 := hB.2.2.2.2.2.1.1
  have h4 : S 10 1 ≤ 4 := hB.2.2.1.1
  have hK := hR.2.2.2.2.2.1
  have k1 : S 14 0 - 2 + 1 = S 14 0 - 1 := by omega
  rw [two_C (S := S) (m := S 14 0 - 2) hR.1 (by omega) (by rw [hK.1]; congr 1; omega), k1, (hK.2 (S 14 0 - 1) (by omega)).1, (hK.2 (S 14 0 - 1) (by omega)).2, (hK.2 (S 14 0 - 2) (by omega)).1, (hK.2 (S 14 0 - 2) (by omega)).2]
  exact tc_24 (hR.take h4 (by omega)) hB p1 (p2 rfl) p4 (hf.2.2.1 (by decide)) (fun w' h => by
    simp (decide := true) only [r31_155, Option.toList_some, List.cons_append, List.nil_append]
    exact hQ w' (AfC.tr (FrC.set (by decide) (by decide) (by decide)) h))
theorem ax_25 {X : sm_X} {w : sm_W} {Q : Option Value → sm_W → Prop} {S : sm_S} {T t a P : Nat} {q0 : Int32} (hR : RnC w S t (S 14 1 + 1)) (hB : RnB T S t) (hp : s_pre S 25 = 0) (hf : s_fit 25 a) (hQ : ∀ w', AfC w w' t (s_act S t 25 a) → Q (some (.int (nI (s_act S t 25 a).1))) w') : sm_R X 31 103 [.ref 155, .ref P, .int q0, .ref 25, .int (nI a), .int 0] [] w Q := by
  rw [sd_1 hR.1 (by decide) rfl]
  obtain ⟨p1, p2, p3⟩ := pre_1 hB.2.2.2.2.2.1.2 rfl hp
  have h8 := hB.2.2.2.2.2.1.1
  have h4 : S 10 1 ≤ 4 := hB.2.2.1.1
  have hK := hR.2.2.2.2.2.1
  rw [one_C (S := S) (m := S 14 0 - 1) hR.1 (by omega) (by rw [hK.1]; congr 1; omega), (hK.2 (S 14 0 - 1) (by omega)).1, (hK.2 (S 14 0 - 1) (by omega)).2]
  exact bc_25 (x := S 12 (S 14 0 - 2)) (xs := S 13 (S 14 0 - 2)) (hR.take h4 (by omega)) hB p1 (p2 rfl) (True.intro) (fun w' h => by
    simp (decide := true) only [r31_147, Option.toList_some, List.cons_append, List.nil_append]
    exact hQ w' (AfC.tr (FrC.set (by decide) (by decide) (by decide)) h))
theorem ax_26 {X : sm_X} {w : sm_W} {Q : Option Value → sm_W → Prop} {S : sm_S} {T t a P : Nat} {q0 : Int32} (hR : RnC w S t (S 14 1 + 1)) (hB : RnB T S t) (hp : s_pre S 26 = 0) (hf : s_fit 26 a) (hQ : ∀ w', AfC w w' t (s_act S t 26 a) → Q (some (.int (nI (s_act S t 26 a).1))) w') : sm_R X 31 103 [.ref 155, .ref P, .int q0, .ref 26, .int (nI a), .int 0] [] w Q := by
  rw [sd_0 hR.1 (by decide) rfl]
  exact ac_26 hR hB (hf.2.2.2.2 (by decide)) (fun w' h => by
    simp (decide := true) only [r31_139, Option.toList_some, List.cons_append, List.nil_append]
    exact hQ w' h)
theorem ax_27 {X : sm_X} {w : sm_W} {Q : Option Value → sm_W → Prop} {S : sm_S} {T t a P : Nat} {q0 : Int32} (hR : RnC w S t (S 14 1 + 1)) (hB : RnB T S t) (hp : s_pre S 27 = 0) (hf : s_fit 27 a) (hQ : ∀ w', AfC w w' t (s_act S t 27 a) → Q (some (.int (nI (s_act S t 27 a).1))) w') : sm_R X 31 103 [.ref 155, .ref P, .int q0, .ref 27, .int (nI a), .int 0] [] w Q := by
  rw [sd_1 hR.1 (by decide) rfl]
  obtain ⟨p1, p2, p3⟩ := pre_1 hB.2.2.2.2.2.1.2 rfl hp
  have h8 := hB.2.2.2.2.2.1.1
  have h4 : S 10 1 ≤ 4 := hB.2.2.1.1
  have hK := hR.2.2.2.2.2.1
  rw [one_C (S := S) (m := S 14 0 - 1) hR.1 (by omega) (by rw [hK.1]; congr 1; omega), (hK.2 (S 14 0 - 1) (by omega)).1, (hK.2 (S 14 0 - 1) (by omega)).2]
  exact bc_27 (x := S 12 (S 14 0 - 2)) (xs := S 13 (S 14 0 - 2)) (hR.take h4 (by omega)) hB p1 p3 (hf.2.2.2.2 (by decide)) (fun w' h => by
    simp (decide := true) only [r31_147, Option.toList_some, List.cons_append, List.nil_append]
    exact hQ w' (AfC.tr (FrC.set (by decide) (by decide) (by decide)) h))
theorem ax_28 {X : sm_X} {w : sm_W} {Q : Option Value → sm_W → Prop} {S : sm_S} {T t a P : Nat} {q0 : Int32} (hR : RnC w S t (S 14 1 + 1)) (hB : RnB T S t) (hp : s_pre S 28 = 0) (hf : s_fit 28 a) (hQ : ∀ w', AfC w w' t (s_act S t 28 a) → Q (some (.int (nI (s_act S t 28 a).1))) w') : sm_R X 31 103 [.ref 155, .ref P, .int q0, .ref 28, .int (nI a), .int 0] [] w Q := by
  rw [sd_1 hR.1 (by decide) rfl]
  obtain ⟨p1, p2, p3⟩ := pre_1 hB.2.2.2.2.2.1.2 rfl hp
  have h8 := hB.2.2.2.2.2.1.1
  have h4 : S 10 1 ≤ 4 := hB.2.2.1.1
  have hK := hR.2.2.2.2.2.1
  rw [one_C (S := S) (m := S 14 0 - 1) hR.1 (by omega) (by rw [hK.1]; congr 1; omega), (hK.2 (S 14 0 - 1) (by omega)).1, (hK.2 (S 14 0 - 1) (by omega)).2]
  exact bc_28 (x := S 12 (S 14 0 - 2)) (xs := S 13 (S 14 0 - 2)) (hR.take h4 (by omega)) hB p1 p3 (hf.2.2.2.2 (by decide)) (fun w' h => by
    simp (decide := true) only [r31_147, Option.toList_some, List.cons_append, List.nil_append]
    exact hQ w' (AfC.tr (FrC.set (by decide) (by decide) (by decide)) h))
theorem ax_29 {X : sm_X} {w : sm_W} {Q : Option Value → sm_W → Prop} {S : sm_S} {T t a P : Nat} {q0 : Int32} (hR : RnC w S t (S 14 1 + 1)) (hB : RnB T S t) (hp : s_pre S 29 = 0) (hf : s_fit 29 a) (hQ : ∀ w', AfC w w' t (s_act S t 29 a) → Q (some (.int (nI (s_act S t 29 a).1))) w') : sm_R X 31 103 [.ref 155, .ref P, .int q0, .ref 29, .int (nI a), .int 0] [] w Q := by
  rw [sd_1 hR.1 (by decide) rfl]
  obtain ⟨p1, p2, p3⟩ := pre_1 hB.2.2.2.2.2.1.2 rfl hp
  have h8 := hB.2.2.2.2.2.1.1
  have h4 : S 10 1 ≤ 4 := hB.2.2.1.1
  have hK := hR.2.2.2.2.2.1
  rw [one_C (S := S) (m := S 14 0 - 1) hR.1 (by omega) (by rw [hK.1]; congr 1; omega), (hK.2 (S 14 0 - 1) (by omega)).1, (hK.2 (S 14 0 - 1) (by omega)).2]
  exact bc_29 (x := S 12 (S 14 0 - 2)) (xs := S 13 (S 14 0 - 2)) (hR.take h4 (by omega)) hB p1 p3 (True.intro) (fun w' h => by
    simp (decide := true) only [r31_147, Option.toList_some, List.cons_append, List.nil_append]
    exact hQ w' (AfC.tr (FrC.set (by decide) (by decide) (by decide)) h))
theorem ax_30 {X : sm_X} {w : sm_W} {Q : Option Value → sm_W → Prop} {S : sm_S} {T t a P : Nat} {q0 : Int32} (hR : RnC w S t (S 14 1 + 1)) (hB : RnB T S t) (hp : s_pre S 30 = 0) (hf : s_fit 30 a) (hQ : ∀ w', AfC w w' t (s_act S t 30 a) → Q (some (.int (nI (s_act S t 30 a).1))) w') : sm_R X 31 103 [.ref 155, .ref P, .int q0, .ref 30, .int (nI a), .int 0] [] w Q := by
  rw [sd_1 hR.1 (by decide) rfl]
  obtain ⟨p1, p2, p3⟩ := pre_1 hB.2.2.2.2.2.1.2 rfl hp
  have h8 := hB.2.2.2.2.2.1.1
  have h4 : S 10 1 ≤ 4 := hB.2.2.1.1
  have hK := hR.2.2.2.2.2.1
  rw [one_C (S := S) (m := S 14 0 - 1) hR.1 (by omega) (by rw [hK.1]; congr 1; omega), (hK.2 (S 14 0 - 1) (by omega)).1, (hK.2 (S 14 0 - 1) (by omega)).2]
  exact bc_30 (x := S 12 (S 14 0 - 2)) (xs := S 13 (S 14 0 - 2)) (hR.take h4 (by omega)) hB p1 p3 (True.intro) (fun w' h => by
    simp (decide := true) only [r31_147, Option.toList_some, List.cons_append, List.nil_append]
    exact hQ w' (AfC.tr (FrC.set (by decide) (by decide) (by decide)) h))
theorem act_C {X : sm_X} {w : sm_W} {Q : Option Value → sm_W → Prop} {S : sm_S} {T t a c P : Nat} {q0 : Int32} (hc : c < 31) (hR : RnC w S t (S 14 1 + 1)) (hB : RnB T S t) (hp : s_pre S c = 0) (hf : s_fit c a) (hQ : ∀ w', AfC w w' t (s_act S t c a) → Q (some (.int (nI (s_act S t c a).1))) w') : sm_R X 31 103 [.ref 155, .ref P, .int q0, .ref c, .int (nI a), .int 0] [] w Q := by
  have h : c = 0 ∨ c = 1 ∨ c = 2 ∨ c = 3 ∨ c = 4 ∨ c = 5 ∨ c = 6 ∨ c = 7 ∨ c = 8 ∨ c = 9 ∨ c = 10 ∨ c = 11 ∨ c = 12 ∨ c = 13 ∨ c = 14 ∨ c = 15 ∨ c = 16 ∨ c = 17 ∨ c = 18 ∨ c = 19 ∨ c = 20 ∨ c = 21 ∨ c = 22 ∨ c = 23 ∨ c = 24 ∨ c = 25 ∨ c = 26 ∨ c = 27 ∨ c = 28 ∨ c = 29 ∨ c = 30 := by omega
  rcases h with rfl | rfl | rfl | rfl | rfl | rfl | rfl | rfl | rfl | rfl | rfl | rfl | rfl | rfl | rfl | rfl | rfl | rfl | rfl | rfl | rfl | rfl | rfl | rfl | rfl | rfl | rfl | rfl | rfl | rfl | rfl
  · exact ax_0 hR hB hp hf hQ
  · exact ax_1 hR hB hp hf hQ
  · exact ax_2 hR hB hp hf hQ
  · exact ax_3 hR hB hp hf hQ
  · exact ax_4 hR hB hp hf hQ
  · exact ax_5 hR hB hp hf hQ
  · exact ax_6 hR hB hp hf hQ
  · exact ax_7 hR hB hp hf hQ
  · exact ax_8 hR hB hp hf hQ
  · exact ax_9 hR hB hp hf hQ
  · exact ax_10 hR hB hp hf hQ
  · exact ax_11 hR hB hp hf hQ
  · exact ax_12 hR hB hp hf hQ
  · exact ax_13 hR hB hp hf hQ
  · exact ax_14 hR hB hp hf hQ
  · exact ax_15 hR hB hp hf hQ
  · exact ax_16 hR hB hp hf hQ
  · exact ax_17 hR hB hp hf hQ
  · exact ax_18 hR hB hp hf hQ
  · exact ax_19 hR hB hp hf hQ
  · exact ax_20 hR hB hp hf hQ
  · exact ax_21 hR hB hp hf hQ
  · exact ax_22 hR hB hp hf hQ
  · exact ax_23 hR hB hp hf hQ
  · exact ax_24 hR hB hp hf hQ
  · exact ax_25 hR hB hp hf hQ
  · exact ax_26 hR hB hp hf hQ
  · exact ax_27 hR hB hp hf hQ
  · exact ax_28 hR hB hp hf hQ
  · exact ax_29 hR hB hp hf hQ
  · exact ax_30 hR hB hp hf hQ
theorem g98 {X : sm_X} {w : sm_W} : sm_get X w 98 = some (.inl (5, 31, .inr (.inr (.inr (.inr (fun k => some k)))))) := rfl
theorem RnB.chg {T t c : Nat} {S : sm_S} (h : RnB T S t) (h1 : 1 ≤ s_pr c) (h2 : S 14 4 + s_pr c ≤ S 14 3) : RnB T (s_chg S c) t := by
  obtain ⟨bB, bP, bG, bS, ht, hE, hq32, h80, hcs, hst, hen, hT1, hT2, hT3⟩ := h
  refine ⟨bB, bP, bG, bS, ht, hE, hq32, h80, h2, ?_, hen, hT1, ?_, hT3⟩
  · show S 14 5 + 1 ≤ S 14 4 + s_pr c
    omega
  · show S 10 0 ≤ T + (S 14 4 + s_pr c)
    omega
theorem step_C {X : sm_X} {w : sm_W} {Q : Option Value → sm_W → Prop} {S : sm_S} {T t : Nat} (hR : RnC w S t (S 14 1)) (hB : RnB T S t) (hQ : ∀ w', AfC w w' t (s_step S t) → Q (some (.int (nI (s_step S t).1))) w') : sm_R X 31 0 [.ref 155, .ref (133 + 3 * S 6 t), .int (nI (S 14 1)), sm_J, sm_J, sm_J] [] w Q := by
  have hR' := hR
  have hB' := hB
  obtain ⟨hS, hBk, hPr, hGr, hSc, hSt, hMc, hq⟩ := hR'
  obtain ⟨bB, bP, bG, bS, ⟨ht, hk⟩, ⟨h8, hE⟩, hq32, h80, hcs, hst, hen, hT1, hT2, hT3⟩ := hB'
  have h4 : S 10 1 ≤ 4 := bG.1
  have bt := bG.2 t ht
  have hp : S 6 t < 4 := bt.2.2.2.1 hk
  have hb : s_pb (S 6 t) = 33 + 3 * S 6 t := if_neg (by omega)
  have P0 := hPr (S 6 t) (by omega)
  rw [hb] at P0
  obtain ⟨P1, P2⟩ := P0
  have bp := bP (S 6 t) (by omega)
  have z1 : ¬ (133 + 3 * S 6 t < 100) := by omega
  have z2 : 133 + 3 * S 6 t - 100 = 33 + 3 * S 6 t := by omega
  have z3 := shPr hS hp
  have z4 : ¬ (134 + 3 * S 6 t < 100) := by omega
  have z5 : 134 + 3 * S 6 t - 100 = 34 + 3 * S 6 t := by omega
  have z6 := shPc hS hp
  have z7 : ¬ (135 + 3 * S 6 t < 100) := by omega
  have z8 : 135 + 3 * S 6 t - 100 = 35 + 3 * S 6 t := by omega
  have z9 := shPo hS hp
  by_cases e : S 3 (S 6 t) ≤ S 14 1
  · have e1 : s_step S t = (5, S) := if_pos e
    rw [e1] at hQ
    have y1 : ¬ nI (S 14 1) < nI (S 3 (S 6 t)) := nI_nlt e (by omega)
    simp (decide := true) only [r31_0, r31_1, r31_2, r31_5, r31_8, r31_9, P1, y1, z1, z2, z3, sm_wp_some, sm_wp_none, sm_at, sm_get, sm_fld, sm_pfl, sm_cN, sm_ai, sm_al, sm_si, sm_slg, sm_aa, List.getElem?_cons_zero, List.getElem?_cons_succ, List.set_cons_zero, List.set_cons_succ, List.length_cons, List.length_nil, Option.toList_some, Option.toList_none, List.cons_append, List.nil_append, if_true, if_false, true_and, and_true, Option.some.injEq, gs_o, gs_s, List.length_set, hS.1, pk_us, Nat.reduceLT, Nat.reduceLeDiff, Nat.reduceSub, Nat.reduceEqDiff, Nat.reduceAdd, Int32.reduceLT, Int32.reduceLE, Int32.reduceAdd, Int32.reduceSub, Int32.reduceToNatClampNeg, reduceIte, reduceCtorEq, Nat.lt_irrefl]
    exact hQ w ⟨FrC.rf w, fun h => absurd h (by omega), hR.rf⟩
  · have y1 : nI (S 14 1) < nI (S 3 (S 6 t)) := nI_lt (by omega) (by omega)
    have y2 : sm_in (nI (S 14 1)) 32 = true := sm_in_nI (by omega) (by decide)
    have y3 : (nI (S 14 1)).toNatClampNeg = S 14 1 := nI_clamp (by omega)
    obtain ⟨P3, P4⟩ := P2 (S 14 1) (by omega)
    rw [show 33 + 3 * S 6 t + 1 = 34 + 3 * S 6 t by omega] at P3
    rw [show 33 + 3 * S 6 t + 2 = 35 + 3 * S 6 t by omega] at P4
    obtain ⟨bc, bf⟩ := bp.2 (S 14 1) (by omega)
    have e1 : s_step S t = if S 14 3 < S 14 4 + s_pr (S 2 (S 6 t * 32 + S 14 1)) then (4, S) else if s_pre S (S 2 (S 6 t * 32 + S 14 1)) ≠ 0 then (s_pre S (S 2 (S 6 t * 32 + S 14 1)), s_chg S (S 2 (S 6 t * 32 + S 14 1))) else s_act (s_chg S (S 2 (S 6 t * 32 + S 14 1))) t (S 2 (S 6 t * 32 + S 14 1)) (S 11 (S 6 t * 32 + S 14 1)) := if_neg e
    rw [e1] at hQ
    clear e1
    generalize S 2 (S 6 t * 32 + S 14 1) = c at hQ P3 bc bf
    generalize S 11 (S 6 t * 32 + S 14 1) = a at hQ P4 bf
    obtain ⟨o0, o2, o3, k2, km, kt, kp, kp3⟩ := en_8 c bc
    have c1 : c < 100 := by omega
    have y4 : sm_in (nI c) 31 = true := sm_in_nI bc (by decide)
    have y5 : (nI c).toNatClampNeg = c := nI_clamp (by omega)
    have aa : sm_aa 98 (nI c) (some (.inl (5, 31, .inr (.inr (.inr (.inr (fun k => some k))))))) = some c := by
      show (if sm_in (nI c) 31 = true ∧ 2 ≤ 5 ∧ 5 < 6 ∧ (98 < 100 ∨ 5 < sm_NA) then some (nI c).toNatClampNeg else none) = some c
      rw [if_pos ⟨y4, by decide, by decide, by decide⟩, y5]
    have g1 : sm_get X w (134 + 3 * S 6 t) = some (.inl (0, 32, .inl (wi w (34 + 3 * S 6 t)))) := by
      unfold sm_get
      rw [if_neg z4, z5, z6]
    have g2 : sm_get X w (135 + 3 * S 6 t) = some (.inl (0, 32, .inl (wi w (35 + 3 * S 6 t)))) := by
      unfold sm_get
      rw [if_neg z7, z8, z9]
    have b3 : wn w 55 3 = nI (S 14 3 - S 14 4) := hMc.1
    by_cases f : S 14 3 < S 14 4 + s_pr c
    · rw [if_pos f] at hQ
      have y6 : ¬ nI (s_pr c) ≤ nI (S 14 3 - S 14 4) := nI_ge (by omega) (by omega)
      simp (decide := true) only [r31_0, r31_1, r31_2, r31_5, r31_8, r31_9, r31_10, r31_13, r31_14, r31_17, r31_18, r31_19, r31_20, r31_21, r31_22, r31_25, r31_26, r31_27, r31_29, r31_30, r31_33, r31_34, r31_37, r31_40, r31_41, P1, P3, P4, y1, y2, y3, aa, g98, g1, g2, c1, o0, b3, y6, z1, z2, z3, sh55 hS, sm_wp_some, sm_wp_none, sm_at, sm_fld, sm_pfl, sm_cN, sm_ai, sm_al, sm_si, sm_slg, List.getElem?_cons_zero, List.getElem?_cons_succ, List.set_cons_zero, List.set_cons_succ, List.length_cons, List.length_nil, Option.toList_some, Option.toList_none, List.cons_append, List.nil_append, if_true, if_false, true_and, and_true, Option.some.injEq, gs_o, gs_s, List.length_set, hS.1, pk_us, Nat.reduceLT, Nat.reduceLeDiff, Nat.reduceSub, Nat.reduceEqDiff, Nat.reduceAdd, Int32.reduceLT, Int32.reduceLE, Int32.reduceAdd, Int32.reduceSub, Int32.reduceToNatClampNeg, reduceIte, reduceCtorEq, Nat.lt_irrefl]
      exact hQ w ⟨FrC.rf w, fun h => absurd h (by omega), hR.rf⟩
    · rw [if_neg f] at hQ
      have y6 : nI (s_pr c) ≤ nI (S 14 3 - S 14 4) := nI_le (by omega) (by omega)
      have x1 : nI (S 14 3 - S 14 4) - nI (s_pr c) = nI (S 14 3 - (S 14 4 + s_pr c)) := by
        rw [pk_sub (by omega), Nat.sub_sub]
      have x2 : nI (S 14 4) + nI (s_pr c) = nI (S 14 4 + s_pr c) := nI_add _ _
      have x3 : nI (S 14 5) + 1 = nI (S 14 5 + 1) := nI_1 _
      have x4 : nI (S 14 1) + 1 = nI (S 14 1 + 1) := nI_1 _
      have b4 : wn w 55 4 = nI (S 14 4) := hMc.2.1
      have b5 : wn w 55 5 = nI (S 14 5) := hMc.2.2.1
      simp (decide := true) only [r31_0, r31_1, r31_2, r31_5, r31_8, r31_9, r31_10, r31_13, r31_14, r31_17, r31_18, r31_19, r31_20, r31_21, r31_22, r31_25, r31_26, r31_27, r31_29, r31_30, r31_33, r31_34, r31_37, r31_40, r31_41, r31_42, r31_43, r31_44, r31_47, r31_48, r31_51, r31_52, r31_55, r31_56, r31_57, r31_60, r31_61, r31_64, r31_65, r31_68, r31_69, r31_70, r31_73, r31_74, r31_75, r31_78, r31_79, r31_80, r31_81, r31_82, P1, P3, P4, y1, y2, y3, aa, g98, g1, g2, c1, o0, b3, b4, b5, y6, x1, x2, x3, x4, z1, z2, z3, sh55 hS, List.set_set, sm_wp_some, sm_wp_none, sm_at, sm_fld, sm_pfl, sm_cN, sm_ai, sm_al, sm_si, sm_slg, List.getElem?_cons_zero, List.getElem?_cons_succ, List.set_cons_zero, List.set_cons_succ, List.length_cons, List.length_nil, Option.toList_some, Option.toList_none, List.cons_append, List.nil_append, if_true, if_false, true_and, and_true, Option.some.injEq, gs_o, gs_s, List.length_set, hS.1, pk_us, Nat.reduceLT, Nat.reduceLeDiff, Nat.reduceSub, Nat.reduceEqDiff, Nat.reduceAdd, Int32.reduceLT, Int32.reduceLE, Int32.reduceAdd, Int32.reduceSub, Int32.reduceToNatClampNeg, reduceIte, reduceCtorEq, Nat.lt_irrefl]
      have m := RnC.m55 (S := s_chg S c) (t := t) (q := S 14 1 + 1) (x3 := nI (S 14 3 - (S 14 4 + s_pr c))) (x4 := nI (S 14 4 + s_pr c)) (x5 := nI (S 14 5 + 1)) hS hBk hPr hGr hSc hSt h4 rfl rfl rfl hMc.2.2.2.1 hMc.2.2.2.2.1 hMc.2.2.2.2.2.1 hMc.2.2.2.2.2.2 rfl
      have hF : FrC w (w.set 55 (.inr (2, [.ref 101, .ref 145, .ref 156, .int (nI (S 14 3 - (S 14 4 + s_pr c))), .int (nI (S 14 4 + s_pr c)), .int (nI (S 14 5 + 1)), .int (wn w 55 6), .ref (wr w 55 7), .int (wn w 55 8), .int (nI (S 14 1 + 1)), .int (wn w 55 10)]))) := FrC.set (by decide) (by decide) (by decide)
      generalize w.set 55 (.inr (2, [.ref 101, .ref 145, .ref 156, .int (nI (S 14 3 - (S 14 4 + s_pr c))), .int (nI (S 14 4 + s_pr c)), .int (nI (S 14 5 + 1)), .int (wn w 55 6), .ref (wr w 55 7), .int (wn w 55 8), .int (nI (S 14 1 + 1)), .int (wn w 55 10)])) = w1 at m hF
      have hS1 := m.1
      have hB1 := hB.chg kp (by omega)
      have q0 : s_pre (s_chg S c) c = s_pre S c := rfl
      have hft := fun Q => ft_C (X := X) (Q := Q) hS1 m.2.2.2.2.2.1 h8 hE bc
      simp (decide := true) only [r31_85, r31_86, r31_89, r31_90, r31_93, r31_95, hft, q0, sh55 hS1, sh56 hS1, sm_wp_some, sm_wp_none, sm_at, sm_get, sm_fld, sm_pfl, sm_cN, sm_ai, sm_al, sm_si, sm_slg, sm_aa, List.getElem?_cons_zero, List.getElem?_cons_succ, List.set_cons_zero, List.set_cons_succ, List.length_cons, List.length_nil, Option.toList_some, Option.toList_none, List.cons_append, List.nil_append, if_true, if_false, true_and, and_true, Option.some.injEq, gs_o, gs_s, List.length_set, pk_us, Nat.reduceLT, Nat.reduceLeDiff, Nat.reduceSub, Nat.reduceEqDiff, Nat.reduceAdd, Int32.reduceLT, Int32.reduceLE, Int32.reduceAdd, Int32.reduceSub, Int32.reduceToNatClampNeg, reduceIte, reduceCtorEq, Nat.lt_irrefl]
      by_cases g : s_pre S c = 0
      · rw [if_neg (fun h => h g)] at hQ
        have n0 : nI (s_pre S c) = 0 := by rw [g]; rfl
        simp (decide := true) only [r31_97, n0, if_true]
        exact act_C bc m hB1 g bf (fun w' h => hQ w' (AfC.tr hF h))
      · rw [if_pos g] at hQ
        have n0 : ¬ nI (s_pre S c) = 0 := by
          have : s_pre S c ≤ 2 := by
            unfold s_pre
            repeat' split
            all_goals decide
          exact fun h => g ((nI_z (by omega)).mp h)
        simp (decide := true) only [r31_97, r31_100, r31_102, n0, if_false]
        exact hQ w1 ⟨hF, fun h => absurd h g, m.rf⟩
/-! A STEP KEEPS THE BOUNDS (gen/n9.py) -/
theorem RnB.psh {T t k s v : Nat} {S : sm_S} (h : RnB T S t) (hk : S 14 0 - k < 8) (he : s_ent s v) (hq : S 14 1 < 32) : RnB T (s_psh S k s v) t := by
  obtain ⟨bB, bP, bG, bS, ht, hE, hq32, h80, hcs, hst, hen, hT1, hT2, hT3⟩ := h
  refine ⟨bB, bP, bG, bS, ht, ⟨?_, fun i hi => ?_⟩, ?_, h80, hcs, hst, hen, hT1, hT2, hT3⟩
  · show S 14 0 - k + 1 ≤ 8
    omega
  · have hi : i < S 14 0 - k + 1 := hi
    have e1 : s_psh S k s v 13 i = if i = S 14 0 - k then s else S 13 i := rfl
    have e2 : s_psh S k s v 12 i = if i = S 14 0 - k then v else S 12 i := rfl
    rw [e1, e2]
    by_cases e : i = S 14 0 - k
    · rw [if_pos e, if_pos e]
      exact he
    · rw [if_neg e, if_neg e]
      exact hE.2 i (by omega)
  · show S 14 1 + 1 ≤ 32
    omega
theorem RnB.tke {T t k : Nat} {S : sm_S} (h : RnB T S t) (hq : S 14 1 < 32) : RnB T (s_tke S k) t := by
  obtain ⟨bB, bP, bG, bS, ht, hE, hq32, h80, hcs, hst, hen, hT1, hT2, hT3⟩ := h
  refine ⟨bB, bP, bG, bS, ht, ⟨?_, fun i hi => ?_⟩, ?_, h80, hcs, hst, hen, hT1, hT2, hT3⟩
  · show S 14 0 - k ≤ 8
    omega
  · have hi : i < S 14 0 - k := hi
    exact hE.2 i (by omega)
  · show S 14 1 + 1 ≤ 32
    omega
theorem RnB.jmp {T t a : Nat} {S : sm_S} (h : RnB T S t) (ha : a ≤ 32) : RnB T (s_up S 14 1 a) t := by
  obtain ⟨bB, bP, bG, bS, ht, hE, hq32, h80, hcs, hst, hen, hT1, hT2, hT3⟩ := h
  exact ⟨bB, bP, bG, bS, ht, hE, ha, h80, hcs, hst, hen, hT1, hT2, hT3⟩
theorem RnB.end1 {T t : Nat} {S : sm_S} (h : RnB T S t) : RnB T (s_up S 14 2 1) t := by
  obtain ⟨bB, bP, bG, bS, ht, hE, hq32, h80, hcs, hst, hen, hT1, hT2, hT3⟩ := h
  exact ⟨bB, bP, bG, bS, ht, hE, hq32, h80, hcs, hst, Nat.le_refl 1, hT1, hT2, hT3⟩
theorem RnB.bk {T t j v : Nat} {S : sm_S} (h : RnB T S t) (hv : v < 2 ^ 31) (hj : j < 22 ∨ 46 ≤ j) : RnB T (s_up S 0 j v) t := by
  obtain ⟨bB, bP, bG, bS, ht, hE, hq32, h80, hcs, hst, hen, hT1, hT2, hT3⟩ := h
  exact ⟨bB.up hv (fun _ _ => by omega), bP, bG, bS, ht, hE, hq32, h80, hcs, hst, hen, hT1, hT2, hT3⟩
theorem RnB.scr {T t j v : Nat} {S : sm_S} (h : RnB T S t) (hv : v < 2 ^ 31) : RnB T (s_up S 9 j v) t := by
  obtain ⟨bB, bP, bG, bS, ht, hE, hq32, h80, hcs, hst, hen, hT1, hT2, hT3⟩ := h
  refine ⟨bB, bP, bG, fun i hi => ?_, ht, hE, hq32, h80, hcs, hst, hen, hT1, hT2, hT3⟩
  by_cases e : i = j
  · subst e
    rw [s_up_s]
    exact hv
  · rw [s_up_o (Or.inr e)]
    exact bS i hi
theorem RnB.log {T t v : Nat} {S : sm_S} (h : RnB T S t) (hv : v < 2 ^ 31) (hl : S 10 0 + 1 ≤ T + S 14 4) : RnB T (s_log S v) t := by
  obtain ⟨⟨b1, b2, b3⟩, bP, bG, bS, ht, hE, hq32, h80, hcs, hst, hen, hT1, hT2, hT3⟩ := h
  refine ⟨⟨b1, b2, fun j hj => ?_⟩, bP, bG, bS, ht, hE, hq32, h80, hcs, hst, hen, ?_, hl, hT3⟩
  · have hj : j < S 10 0 + 1 := hj
    have e1 : s_log S v 1 j = if j = S 10 0 then v else S 1 j := rfl
    rw [e1]
    by_cases e : j = S 10 0
    · rw [if_pos e]
      exact hv
    · rw [if_neg e]
      exact b3 j (by omega)
  · show T ≤ S 10 0 + 1
    omega
theorem s_put_B {T t s v : Nat} {S : sm_S} (h : RnB T S t) (he : s_ent s v) (hq : S 14 1 < 32) (h0 : (s_put S s v).1 = 0) : RnB T (s_put S s v).2 t := by
  unfold s_put at h0 ⊢
  by_cases e : 8 ≤ S 14 0
  · rw [if_pos e] at h0
    exact absurd h0 Nat.one_ne_zero
  · rw [if_neg e]
    exact h.psh (by omega) he hq
theorem s_if_B {T t : Nat} {S S' : sm_S} {c : Prop} [Decidable c] (h : c → RnB T S' t) (h0 : (s_if c S S').1 = 0) : RnB T (s_if c S S').2 t := by
  unfold s_if at h0 ⊢
  by_cases e : c
  · rw [if_pos e]
    exact h e
  · rw [if_neg e] at h0
    exact absurd h0 (by show ¬ (3 : Nat) = 0; omega)
theorem ab_0 {T t a : Nat} {S : sm_S} (hB : RnB T S t) (hl : S 10 0 + 1 ≤ T + S 14 4) (hq : S 14 1 < 32) (hp : s_pre S 0 = 0) (hf : s_fit 0 a) (h0 : (s_act S t 0 a).1 = 0) : RnB T (s_act S t 0 a).2 t := by
  have hB' := hB
  obtain ⟨bB, bP, bG, bS, ⟨ht, hk⟩, ⟨h8, hE⟩, hq32, h80, hcs, hst, hen, hT1, hT2, hT3⟩ := hB'
  have h4 : S 10 1 ≤ 4 := bG.1
  have bt := bG.2 t ht
  have hp6 : S 6 t < 4 := bt.2.2.2.1 hk
  exact s_put_B hB (Or.inl ⟨rfl, hf.1 rfl⟩) hq h0
theorem ab_1 {T t a : Nat} {S : sm_S} (hB : RnB T S t) (hl : S 10 0 + 1 ≤ T + S 14 4) (hq : S 14 1 < 32) (hp : s_pre S 1 = 0) (hf : s_fit 1 a) (h0 : (s_act S t 1 a).1 = 0) : RnB T (s_act S t 1 a).2 t := by
  have hB' := hB
  obtain ⟨bB, bP, bG, bS, ⟨ht, hk⟩, ⟨h8, hE⟩, hq32, h80, hcs, hst, hen, hT1, hT2, hT3⟩ := hB'
  have h4 : S 10 1 ≤ 4 := bG.1
  have bt := bG.2 t ht
  have hp6 : S 6 t < 4 := bt.2.2.2.1 hk
  exact s_put_B hB (Or.inr ⟨rfl, hf.2.1 rfl⟩) hq h0
theorem ab_2 {T t a : Nat} {S : sm_S} (hB : RnB T S t) (hl : S 10 0 + 1 ≤ T + S 14 4) (hq : S 14 1 < 32) (hp : s_pre S 2 = 0) (hf : s_fit 2 a) (h0 : (s_act S t 2 a).1 = 0) : RnB T (s_act S t 2 a).2 t := by
  have hB' := hB
  obtain ⟨bB, bP, bG, bS, ⟨ht, hk⟩, ⟨h8, hE⟩, hq32, h80, hcs, hst, hen, hT1, hT2, hT3⟩ := hB'
  have h4 : S 10 1 ≤ 4 := bG.1
  have bt := bG.2 t ht
  have hp6 : S 6 t < 4 := bt.2.2.2.1 hk
  exact s_put_B hB (Or.inl ⟨rfl, by split; exact bt.2.2.2.2.1; exact bt.2.2.2.2.2⟩) hq h0
theorem ab_3 {T t a : Nat} {S : sm_S} (hB : RnB T S t) (hl : S 10 0 + 1 ≤ T + S 14 4) (hq : S 14 1 < 32) (hp : s_pre S 3 = 0) (hf : s_fit 3 a) (h0 : (s_act S t 3 a).1 = 0) : RnB T (s_act S t 3 a).2 t := by
  have hB' := hB
  obtain ⟨bB, bP, bG, bS, ⟨ht, hk⟩, ⟨h8, hE⟩, hq32, h80, hcs, hst, hen, hT1, hT2, hT3⟩ := hB'
  have h4 : S 10 1 ≤ 4 := bG.1
  have bt := bG.2 t ht
  have hp6 : S 6 t < 4 := bt.2.2.2.1 hk
  exact s_put_B hB (Or.inr ⟨rfl, bt.2.1⟩) hq h0
theorem ab_4 {T t a : Nat} {S : sm_S} (hB : RnB T S t) (hl : S 10 0 + 1 ≤ T + S 14 4) (hq : S 14 1 < 32) (hp : s_pre S 4 = 0) (hf : s_fit 4 a) (h0 : (s_act S t 4 a).1 = 0) : RnB T (s_act S t 4 a).2 t := by
  have hB' := hB
  obtain ⟨bB, bP, bG, bS, ⟨ht, hk⟩, ⟨h8, hE⟩, hq32, h80, hcs, hst, hen, hT1, hT2, hT3⟩ := hB'
  have h4 : S 10 1 ≤ 4 := bG.1
  have bt := bG.2 t ht
  have hp6 : S 6 t < 4 := bt.2.2.2.1 hk
  exact s_put_B hB (Or.inl ⟨rfl, by omega⟩) hq h0
theorem ab_5 {T t a : Nat} {S : sm_S} (hB : RnB T S t) (hl : S 10 0 + 1 ≤ T + S 14 4) (hq : S 14 1 < 32) (hp : s_pre S 5 = 0) (hf : s_fit 5 a) (h0 : (s_act S t 5 a).1 = 0) : RnB T (s_act S t 5 a).2 t := by
  have hB' := hB
  obtain ⟨bB, bP, bG, bS, ⟨ht, hk⟩, ⟨h8, hE⟩, hq32, h80, hcs, hst, hen, hT1, hT2, hT3⟩ := hB'
  have h4 : S 10 1 ≤ 4 := bG.1
  have bt := bG.2 t ht
  have hp6 : S 6 t < 4 := bt.2.2.2.1 hk
  exact s_put_B hB (Or.inl ⟨rfl, by omega⟩) hq h0
theorem ab_6 {T t a : Nat} {S : sm_S} (hB : RnB T S t) (hl : S 10 0 + 1 ≤ T + S 14 4) (hq : S 14 1 < 32) (hp : s_pre S 6 = 0) (hf : s_fit 6 a) (h0 : (s_act S t 6 a).1 = 0) : RnB T (s_act S t 6 a).2 t := by
  have hB' := hB
  obtain ⟨bB, bP, bG, bS, ⟨ht, hk⟩, ⟨h8, hE⟩, hq32, h80, hcs, hst, hen, hT1, hT2, hT3⟩ := hB'
  have h4 : S 10 1 ≤ 4 := bG.1
  have bt := bG.2 t ht
  have hp6 : S 6 t < 4 := bt.2.2.2.1 hk
  obtain ⟨p1, p2, p3⟩ := pre_1 hE rfl hp
  exact s_if_B (fun e => hB.psh (by omega) (Or.inl ⟨rfl, (bG.2 _ e.1).2.2.2.2.1⟩) hq) h0
theorem ab_7 {T t a : Nat} {S : sm_S} (hB : RnB T S t) (hl : S 10 0 + 1 ≤ T + S 14 4) (hq : S 14 1 < 32) (hp : s_pre S 7 = 0) (hf : s_fit 7 a) (h0 : (s_act S t 7 a).1 = 0) : RnB T (s_act S t 7 a).2 t := by
  have hB' := hB
  obtain ⟨bB, bP, bG, bS, ⟨ht, hk⟩, ⟨h8, hE⟩, hq32, h80, hcs, hst, hen, hT1, hT2, hT3⟩ := hB'
  have h4 : S 10 1 ≤ 4 := bG.1
  have bt := bG.2 t ht
  have hp6 : S 6 t < 4 := bt.2.2.2.1 hk
  obtain ⟨p1, p2, p3⟩ := pre_1 hE rfl hp
  exact s_if_B (fun e => hB.psh (by omega) (Or.inr ⟨rfl, ((bG.2 _ e.1).2.2.1 e.2).1⟩) hq) h0
theorem ab_8 {T t a : Nat} {S : sm_S} (hB : RnB T S t) (hl : S 10 0 + 1 ≤ T + S 14 4) (hq : S 14 1 < 32) (hp : s_pre S 8 = 0) (hf : s_fit 8 a) (h0 : (s_act S t 8 a).1 = 0) : RnB T (s_act S t 8 a).2 t := by
  have hB' := hB
  obtain ⟨bB, bP, bG, bS, ⟨ht, hk⟩, ⟨h8, hE⟩, hq32, h80, hcs, hst, hen, hT1, hT2, hT3⟩ := hB'
  have h4 : S 10 1 ≤ 4 := bG.1
  have bt := bG.2 t ht
  have hp6 : S 6 t < 4 := bt.2.2.2.1 hk
  obtain ⟨p1, p2, p3, p4, p5, p6⟩ := pre_2 hE rfl hp
  exact s_if_B (fun e => hB.psh (by omega) (Or.inl ⟨rfl, by omega⟩) hq) h0
theorem ab_9 {T t a : Nat} {S : sm_S} (hB : RnB T S t) (hl : S 10 0 + 1 ≤ T + S 14 4) (hq : S 14 1 < 32) (hp : s_pre S 9 = 0) (hf : s_fit 9 a) (h0 : (s_act S t 9 a).1 = 0) : RnB T (s_act S t 9 a).2 t := by
  have hB' := hB
  obtain ⟨bB, bP, bG, bS, ⟨ht, hk⟩, ⟨h8, hE⟩, hq32, h80, hcs, hst, hen, hT1, hT2, hT3⟩ := hB'
  have h4 : S 10 1 ≤ 4 := bG.1
  have bt := bG.2 t ht
  have hp6 : S 6 t < 4 := bt.2.2.2.1 hk
  obtain ⟨p1, p2, p3, p4, p5, p6⟩ := pre_2 hE rfl hp
  exact s_if_B (fun e => hB.psh (by omega) (Or.inl ⟨rfl, by omega⟩) hq) h0
theorem ab_10 {T t a : Nat} {S : sm_S} (hB : RnB T S t) (hl : S 10 0 + 1 ≤ T + S 14 4) (hq : S 14 1 < 32) (hp : s_pre S 10 = 0) (hf : s_fit 10 a) (h0 : (s_act S t 10 a).1 = 0) : RnB T (s_act S t 10 a).2 t := by
  have hB' := hB
  obtain ⟨bB, bP, bG, bS, ⟨ht, hk⟩, ⟨h8, hE⟩, hq32, h80, hcs, hst, hen, hT1, hT2, hT3⟩ := hB'
  have h4 : S 10 1 ≤ 4 := bG.1
  have bt := bG.2 t ht
  have hp6 : S 6 t < 4 := bt.2.2.2.1 hk
  obtain ⟨p1, p2, p3, p4, p5, p6⟩ := pre_2 hE rfl hp
  exact s_if_B (fun e => hB.psh (by omega) (Or.inl ⟨rfl, by omega⟩) hq) h0
theorem ab_11 {T t a : Nat} {S : sm_S} (hB : RnB T S t) (hl : S 10 0 + 1 ≤ T + S 14 4) (hq : S 14 1 < 32) (hp : s_pre S 11 = 0) (hf : s_fit 11 a) (h0 : (s_act S t 11 a).1 = 0) : RnB T (s_act S t 11 a).2 t := by
  have hB' := hB
  obtain ⟨bB, bP, bG, bS, ⟨ht, hk⟩, ⟨h8, hE⟩, hq32, h80, hcs, hst, hen, hT1, hT2, hT3⟩ := hB'
  have h4 : S 10 1 ≤ 4 := bG.1
  have bt := bG.2 t ht
  have hp6 : S 6 t < 4 := bt.2.2.2.1 hk
  obtain ⟨p1, p2, p3, p4, p5, p6⟩ := pre_2 hE rfl hp
  exact s_if_B (fun e => hB.psh (by omega) (Or.inl ⟨rfl, Nat.lt_of_le_of_lt (Nat.div_le_self _ _) p3⟩) hq) h0
theorem ab_12 {T t a : Nat} {S : sm_S} (hB : RnB T S t) (hl : S 10 0 + 1 ≤ T + S 14 4) (hq : S 14 1 < 32) (hp : s_pre S 12 = 0) (hf : s_fit 12 a) (h0 : (s_act S t 12 a).1 = 0) : RnB T (s_act S t 12 a).2 t := by
  have hB' := hB
  obtain ⟨bB, bP, bG, bS, ⟨ht, hk⟩, ⟨h8, hE⟩, hq32, h80, hcs, hst, hen, hT1, hT2, hT3⟩ := hB'
  have h4 : S 10 1 ≤ 4 := bG.1
  have bt := bG.2 t ht
  have hp6 : S 6 t < 4 := bt.2.2.2.1 hk
  obtain ⟨p1, p2, p3, p4, p5, p6⟩ := pre_2 hE rfl hp
  exact hB.psh (by omega) (Or.inl ⟨rfl, by split <;> decide⟩) hq
theorem ab_13 {T t a : Nat} {S : sm_S} (hB : RnB T S t) (hl : S 10 0 + 1 ≤ T + S 14 4) (hq : S 14 1 < 32) (hp : s_pre S 13 = 0) (hf : s_fit 13 a) (h0 : (s_act S t 13 a).1 = 0) : RnB T (s_act S t 13 a).2 t := by
  have hB' := hB
  obtain ⟨bB, bP, bG, bS, ⟨ht, hk⟩, ⟨h8, hE⟩, hq32, h80, hcs, hst, hen, hT1, hT2, hT3⟩ := hB'
  have h4 : S 10 1 ≤ 4 := bG.1
  have bt := bG.2 t ht
  have hp6 : S 6 t < 4 := bt.2.2.2.1 hk
  obtain ⟨p1, p2, p3, p4, p5, p6⟩ := pre_2 hE rfl hp
  exact hB.psh (by omega) (Or.inl ⟨rfl, by split <;> decide⟩) hq
theorem ab_14 {T t a : Nat} {S : sm_S} (hB : RnB T S t) (hl : S 10 0 + 1 ≤ T + S 14 4) (hq : S 14 1 < 32) (hp : s_pre S 14 = 0) (hf : s_fit 14 a) (h0 : (s_act S t 14 a).1 = 0) : RnB T (s_act S t 14 a).2 t := by
  have hB' := hB
  obtain ⟨bB, bP, bG, bS, ⟨ht, hk⟩, ⟨h8, hE⟩, hq32, h80, hcs, hst, hen, hT1, hT2, hT3⟩ := hB'
  have h4 : S 10 1 ≤ 4 := bG.1
  have bt := bG.2 t ht
  have hp6 : S 6 t < 4 := bt.2.2.2.1 hk
  obtain ⟨p1, p2, p3⟩ := pre_1 hE rfl hp
  exact hB.psh (by omega) (Or.inl ⟨rfl, by split <;> decide⟩) hq
theorem ab_15 {T t a : Nat} {S : sm_S} (hB : RnB T S t) (hl : S 10 0 + 1 ≤ T + S 14 4) (hq : S 14 1 < 32) (hp : s_pre S 15 = 0) (hf : s_fit 15 a) (h0 : (s_act S t 15 a).1 = 0) : RnB T (s_act S t 15 a).2 t := by
  have hB' := hB
  obtain ⟨bB, bP, bG, bS, ⟨ht, hk⟩, ⟨h8, hE⟩, hq32, h80, hcs, hst, hen, hT1, hT2, hT3⟩ := hB'
  have h4 : S 10 1 ≤ 4 := bG.1
  have bt := bG.2 t ht
  have hp6 : S 6 t < 4 := bt.2.2.2.1 hk
  obtain ⟨p1, p2, p3⟩ := pre_1 hE rfl hp
  exact s_put_B hB (hE (S 14 0 - 1) (by omega)) hq h0
theorem ab_16 {T t a : Nat} {S : sm_S} (hB : RnB T S t) (hl : S 10 0 + 1 ≤ T + S 14 4) (hq : S 14 1 < 32) (hp : s_pre S 16 = 0) (hf : s_fit 16 a) (h0 : (s_act S t 16 a).1 = 0) : RnB T (s_act S t 16 a).2 t := by
  have hB' := hB
  obtain ⟨bB, bP, bG, bS, ⟨ht, hk⟩, ⟨h8, hE⟩, hq32, h80, hcs, hst, hen, hT1, hT2, hT3⟩ := hB'
  have h4 : S 10 1 ≤ 4 := bG.1
  have bt := bG.2 t ht
  have hp6 : S 6 t < 4 := bt.2.2.2.1 hk
  obtain ⟨p1, p2, p3, p4, p5, p6⟩ := pre_2 hE rfl hp
  have h1 : RnB T (s_up (s_psh S 2 (S 13 (S 14 0 - 1)) (S 12 (S 14 0 - 1))) 14 1 (S 14 1)) t := (hB.psh (k := 2) (by omega) (hE (S 14 0 - 1) (by omega)) hq).jmp (by omega)
  have h2 := h1.psh (k := 0) (s := S 13 (S 14 0 - 2)) (v := S 12 (S 14 0 - 2)) (by show S 14 0 - 2 + 1 - 0 < 8; omega) (hE (S 14 0 - 2) (by omega)) hq
  exact h2.jmp (a := S 14 1 + 1) (by omega)
theorem ab_17 {T t a : Nat} {S : sm_S} (hB : RnB T S t) (hl : S 10 0 + 1 ≤ T + S 14 4) (hq : S 14 1 < 32) (hp : s_pre S 17 = 0) (hf : s_fit 17 a) (h0 : (s_act S t 17 a).1 = 0) : RnB T (s_act S t 17 a).2 t := by
  have hB' := hB
  obtain ⟨bB, bP, bG, bS, ⟨ht, hk⟩, ⟨h8, hE⟩, hq32, h80, hcs, hst, hen, hT1, hT2, hT3⟩ := hB'
  have h4 : S 10 1 ≤ 4 := bG.1
  have bt := bG.2 t ht
  have hp6 : S 6 t < 4 := bt.2.2.2.1 hk
  obtain ⟨p1, p2, p3⟩ := pre_1 hE rfl hp
  exact hB.tke hq
theorem ab_18 {T t a : Nat} {S : sm_S} (hB : RnB T S t) (hl : S 10 0 + 1 ≤ T + S 14 4) (hq : S 14 1 < 32) (hp : s_pre S 18 = 0) (hf : s_fit 18 a) (h0 : (s_act S t 18 a).1 = 0) : RnB T (s_act S t 18 a).2 t := by
  have hB' := hB
  obtain ⟨bB, bP, bG, bS, ⟨ht, hk⟩, ⟨h8, hE⟩, hq32, h80, hcs, hst, hen, hT1, hT2, hT3⟩ := hB'
  have h4 : S 10 1 ≤ 4 := bG.1
  have bt := bG.2 t ht
  have hp6 : S 6 t < 4 := bt.2.2.2.1 hk
  exact hB.jmp (by have := hf.2.2.2.1 (by decide); omega)
theorem ab_19 {T t a : Nat} {S : sm_S} (hB : RnB T S t) (hl : S 10 0 + 1 ≤ T + S 14 4) (hq : S 14 1 < 32) (hp : s_pre S 19 = 0) (hf : s_fit 19 a) (h0 : (s_act S t 19 a).1 = 0) : RnB T (s_act S t 19 a).2 t := by
  have hB' := hB
  obtain ⟨bB, bP, bG, bS, ⟨ht, hk⟩, ⟨h8, hE⟩, hq32, h80, hcs, hst, hen, hT1, hT2, hT3⟩ := hB'
  have h4 : S 10 1 ≤ 4 := bG.1
  have bt := bG.2 t ht
  have hp6 : S 6 t < 4 := bt.2.2.2.1 hk
  obtain ⟨p1, p2, p3⟩ := pre_1 hE rfl hp
  exact (hB.tke hq).jmp (by have := hf.2.2.2.1 (by decide); split <;> omega)
theorem ab_20 {T t a : Nat} {S : sm_S} (hB : RnB T S t) (hl : S 10 0 + 1 ≤ T + S 14 4) (hq : S 14 1 < 32) (hp : s_pre S 20 = 0) (hf : s_fit 20 a) (h0 : (s_act S t 20 a).1 = 0) : RnB T (s_act S t 20 a).2 t := by
  have hB' := hB
  obtain ⟨bB, bP, bG, bS, ⟨ht, hk⟩, ⟨h8, hE⟩, hq32, h80, hcs, hst, hen, hT1, hT2, hT3⟩ := hB'
  have h4 : S 10 1 ≤ 4 := bG.1
  have bt := bG.2 t ht
  have hp6 : S 6 t < 4 := bt.2.2.2.1 hk
  obtain ⟨p1, p2, p3⟩ := pre_1 hE rfl hp
  exact s_if_B (fun e => hB.tke hq) h0
theorem ab_21 {T t a : Nat} {S : sm_S} (hB : RnB T S t) (hl : S 10 0 + 1 ≤ T + S 14 4) (hq : S 14 1 < 32) (hp : s_pre S 21 = 0) (hf : s_fit 21 a) (h0 : (s_act S t 21 a).1 = 0) : RnB T (s_act S t 21 a).2 t := by
  have hB' := hB
  obtain ⟨bB, bP, bG, bS, ⟨ht, hk⟩, ⟨h8, hE⟩, hq32, h80, hcs, hst, hen, hT1, hT2, hT3⟩ := hB'
  have h4 : S 10 1 ≤ 4 := bG.1
  have bt := bG.2 t ht
  have hp6 : S 6 t < 4 := bt.2.2.2.1 hk
  exact s_put_B hB (Or.inl ⟨rfl, bB.1 _ (by have := hf.2.2.2.2 (by decide); omega)⟩) hq h0
theorem ab_22 {T t a : Nat} {S : sm_S} (hB : RnB T S t) (hl : S 10 0 + 1 ≤ T + S 14 4) (hq : S 14 1 < 32) (hp : s_pre S 22 = 0) (hf : s_fit 22 a) (h0 : (s_act S t 22 a).1 = 0) : RnB T (s_act S t 22 a).2 t := by
  have hB' := hB
  obtain ⟨bB, bP, bG, bS, ⟨ht, hk⟩, ⟨h8, hE⟩, hq32, h80, hcs, hst, hen, hT1, hT2, hT3⟩ := hB'
  have h4 : S 10 1 ≤ 4 := bG.1
  have bt := bG.2 t ht
  have hp6 : S 6 t < 4 := bt.2.2.2.1 hk
  obtain ⟨p1, p2, p3⟩ := pre_1 hE rfl hp
  exact (hB.tke hq).bk p3 (by have := hf.2.2.2.2 (by decide); omega)
theorem ab_23 {T t a : Nat} {S : sm_S} (hB : RnB T S t) (hl : S 10 0 + 1 ≤ T + S 14 4) (hq : S 14 1 < 32) (hp : s_pre S 23 = 0) (hf : s_fit 23 a) (h0 : (s_act S t 23 a).1 = 0) : RnB T (s_act S t 23 a).2 t := by
  have hB' := hB
  obtain ⟨bB, bP, bG, bS, ⟨ht, hk⟩, ⟨h8, hE⟩, hq32, h80, hcs, hst, hen, hT1, hT2, hT3⟩ := hB'
  have h4 : S 10 1 ≤ 4 := bG.1
  have bt := bG.2 t ht
  have hp6 : S 6 t < 4 := bt.2.2.2.1 hk
  obtain ⟨p1, p2, p3⟩ := pre_1 hE rfl hp
  exact s_if_B (fun e => hB.psh (by omega) (Or.inl ⟨rfl, bB.1 _ (by have := hf.2.2.1 (by decide); have := p2 rfl; omega)⟩) hq) h0
theorem ab_24 {T t a : Nat} {S : sm_S} (hB : RnB T S t) (hl : S 10 0 + 1 ≤ T + S 14 4) (hq : S 14 1 < 32) (hp : s_pre S 24 = 0) (hf : s_fit 24 a) (h0 : (s_act S t 24 a).1 = 0) : RnB T (s_act S t 24 a).2 t := by
  have hB' := hB
  obtain ⟨bB, bP, bG, bS, ⟨ht, hk⟩, ⟨h8, hE⟩, hq32, h80, hcs, hst, hen, hT1, hT2, hT3⟩ := hB'
  have h4 : S 10 1 ≤ 4 := bG.1
  have bt := bG.2 t ht
  have hp6 : S 6 t < 4 := bt.2.2.2.1 hk
  obtain ⟨p1, p2, p3, p4, p5, p6⟩ := pre_2 hE rfl hp
  exact s_if_B (fun e => (hB.tke hq).bk p4 (by omega)) h0
theorem ab_25 {T t a : Nat} {S : sm_S} (hB : RnB T S t) (hl : S 10 0 + 1 ≤ T + S 14 4) (hq : S 14 1 < 32) (hp : s_pre S 25 = 0) (hf : s_fit 25 a) (h0 : (s_act S t 25 a).1 = 0) : RnB T (s_act S t 25 a).2 t := by
  have hB' := hB
  obtain ⟨bB, bP, bG, bS, ⟨ht, hk⟩, ⟨h8, hE⟩, hq32, h80, hcs, hst, hen, hT1, hT2, hT3⟩ := hB'
  have h4 : S 10 1 ≤ 4 := bG.1
  have bt := bG.2 t ht
  have hp6 : S 6 t < 4 := bt.2.2.2.1 hk
  obtain ⟨p1, p2, p3⟩ := pre_1 hE rfl hp
  exact hB.psh (by omega) (Or.inl ⟨rfl, bB.1 _ (by have := p2 rfl; omega)⟩) hq
theorem ab_26 {T t a : Nat} {S : sm_S} (hB : RnB T S t) (hl : S 10 0 + 1 ≤ T + S 14 4) (hq : S 14 1 < 32) (hp : s_pre S 26 = 0) (hf : s_fit 26 a) (h0 : (s_act S t 26 a).1 = 0) : RnB T (s_act S t 26 a).2 t := by
  have hB' := hB
  obtain ⟨bB, bP, bG, bS, ⟨ht, hk⟩, ⟨h8, hE⟩, hq32, h80, hcs, hst, hen, hT1, hT2, hT3⟩ := hB'
  have h4 : S 10 1 ≤ 4 := bG.1
  have bt := bG.2 t ht
  have hp6 : S 6 t < 4 := bt.2.2.2.1 hk
  exact s_put_B hB (Or.inl ⟨rfl, bS _ (by have := hf.2.2.2.2 (by decide); omega)⟩) hq h0
theorem ab_27 {T t a : Nat} {S : sm_S} (hB : RnB T S t) (hl : S 10 0 + 1 ≤ T + S 14 4) (hq : S 14 1 < 32) (hp : s_pre S 27 = 0) (hf : s_fit 27 a) (h0 : (s_act S t 27 a).1 = 0) : RnB T (s_act S t 27 a).2 t := by
  have hB' := hB
  obtain ⟨bB, bP, bG, bS, ⟨ht, hk⟩, ⟨h8, hE⟩, hq32, h80, hcs, hst, hen, hT1, hT2, hT3⟩ := hB'
  have h4 : S 10 1 ≤ 4 := bG.1
  have bt := bG.2 t ht
  have hp6 : S 6 t < 4 := bt.2.2.2.1 hk
  obtain ⟨p1, p2, p3⟩ := pre_1 hE rfl hp
  exact (hB.tke hq).scr p3
theorem ab_28 {T t a : Nat} {S : sm_S} (hB : RnB T S t) (hl : S 10 0 + 1 ≤ T + S 14 4) (hq : S 14 1 < 32) (hp : s_pre S 28 = 0) (hf : s_fit 28 a) (h0 : (s_act S t 28 a).1 = 0) : RnB T (s_act S t 28 a).2 t := by
  have hB' := hB
  obtain ⟨bB, bP, bG, bS, ⟨ht, hk⟩, ⟨h8, hE⟩, hq32, h80, hcs, hst, hen, hT1, hT2, hT3⟩ := hB'
  have h4 : S 10 1 ≤ 4 := bG.1
  have bt := bG.2 t ht
  have hp6 : S 6 t < 4 := bt.2.2.2.1 hk
  obtain ⟨p1, p2, p3⟩ := pre_1 hE rfl hp
  exact s_if_B (fun e => hB.psh (by omega) (Or.inl ⟨rfl, bS _ (by have := hf.2.2.2.2 (by decide); omega)⟩) hq) h0
theorem ab_29 {T t a : Nat} {S : sm_S} (hB : RnB T S t) (hl : S 10 0 + 1 ≤ T + S 14 4) (hq : S 14 1 < 32) (hp : s_pre S 29 = 0) (hf : s_fit 29 a) (h0 : (s_act S t 29 a).1 = 0) : RnB T (s_act S t 29 a).2 t := by
  have hB' := hB
  obtain ⟨bB, bP, bG, bS, ⟨ht, hk⟩, ⟨h8, hE⟩, hq32, h80, hcs, hst, hen, hT1, hT2, hT3⟩ := hB'
  have h4 : S 10 1 ≤ 4 := bG.1
  have bt := bG.2 t ht
  have hp6 : S 6 t < 4 := bt.2.2.2.1 hk
  obtain ⟨p1, p2, p3⟩ := pre_1 hE rfl hp
  exact (hB.tke (k := 1) hq).log p3 hl
theorem ab_30 {T t a : Nat} {S : sm_S} (hB : RnB T S t) (hl : S 10 0 + 1 ≤ T + S 14 4) (hq : S 14 1 < 32) (hp : s_pre S 30 = 0) (hf : s_fit 30 a) (h0 : (s_act S t 30 a).1 = 0) : RnB T (s_act S t 30 a).2 t := by
  have hB' := hB
  obtain ⟨bB, bP, bG, bS, ⟨ht, hk⟩, ⟨h8, hE⟩, hq32, h80, hcs, hst, hen, hT1, hT2, hT3⟩ := hB'
  have h4 : S 10 1 ≤ 4 := bG.1
  have bt := bG.2 t ht
  have hp6 : S 6 t < 4 := bt.2.2.2.1 hk
  obtain ⟨p1, p2, p3⟩ := pre_1 hE rfl hp
  exact s_if_B (fun e => (hB.tke hq).end1) h0
theorem act_B {T t a c : Nat} {S : sm_S} (hc : c < 31) (hB : RnB T S t) (hl : S 10 0 + 1 ≤ T + S 14 4) (hq : S 14 1 < 32) (hp : s_pre S c = 0) (hf : s_fit c a) (h0 : (s_act S t c a).1 = 0) : RnB T (s_act S t c a).2 t := by
  have h : c = 0 ∨ c = 1 ∨ c = 2 ∨ c = 3 ∨ c = 4 ∨ c = 5 ∨ c = 6 ∨ c = 7 ∨ c = 8 ∨ c = 9 ∨ c = 10 ∨ c = 11 ∨ c = 12 ∨ c = 13 ∨ c = 14 ∨ c = 15 ∨ c = 16 ∨ c = 17 ∨ c = 18 ∨ c = 19 ∨ c = 20 ∨ c = 21 ∨ c = 22 ∨ c = 23 ∨ c = 24 ∨ c = 25 ∨ c = 26 ∨ c = 27 ∨ c = 28 ∨ c = 29 ∨ c = 30 := by omega
  rcases h with rfl | rfl | rfl | rfl | rfl | rfl | rfl | rfl | rfl | rfl | rfl | rfl | rfl | rfl | rfl | rfl | rfl | rfl | rfl | rfl | rfl | rfl | rfl | rfl | rfl | rfl | rfl | rfl | rfl | rfl | rfl
  · exact ab_0 hB hl hq hp hf h0
  · exact ab_1 hB hl hq hp hf h0
  · exact ab_2 hB hl hq hp hf h0
  · exact ab_3 hB hl hq hp hf h0
  · exact ab_4 hB hl hq hp hf h0
  · exact ab_5 hB hl hq hp hf h0
  · exact ab_6 hB hl hq hp hf h0
  · exact ab_7 hB hl hq hp hf h0
  · exact ab_8 hB hl hq hp hf h0
  · exact ab_9 hB hl hq hp hf h0
  · exact ab_10 hB hl hq hp hf h0
  · exact ab_11 hB hl hq hp hf h0
  · exact ab_12 hB hl hq hp hf h0
  · exact ab_13 hB hl hq hp hf h0
  · exact ab_14 hB hl hq hp hf h0
  · exact ab_15 hB hl hq hp hf h0
  · exact ab_16 hB hl hq hp hf h0
  · exact ab_17 hB hl hq hp hf h0
  · exact ab_18 hB hl hq hp hf h0
  · exact ab_19 hB hl hq hp hf h0
  · exact ab_20 hB hl hq hp hf h0
  · exact ab_21 hB hl hq hp hf h0
  · exact ab_22 hB hl hq hp hf h0
  · exact ab_23 hB hl hq hp hf h0
  · exact ab_24 hB hl hq hp hf h0
  · exact ab_25 hB hl hq hp hf h0
  · exact ab_26 hB hl hq hp hf h0
  · exact ab_27 hB hl hq hp hf h0
  · exact ab_28 hB hl hq hp hf h0
  · exact ab_29 hB hl hq hp hf h0
  · exact ab_30 hB hl hq hp hf h0
/-! WHAT A STEP LEAVES, and the run (gen/n10.py) -/
def s_sm (T : Nat) (S S' : sm_S) : Prop := (S' 2 = S 2 ∧ S' 3 = S 3 ∧ S' 4 = S 4 ∧ S' 5 = S 5 ∧ S' 6 = S 6 ∧ S' 7 = S 7 ∧ S' 8 = S 8 ∧ S' 11 = S 11) ∧ (∀ i, i ≠ 0 → i ≠ 5 → S' 10 i = S 10 i) ∧ S' 14 3 = S 14 3 ∧ ∀ j, j < T → S' 1 j = S 1 j
theorem s_sm.rf (T : Nat) (S : sm_S) : s_sm T S S := ⟨⟨rfl, rfl, rfl, rfl, rfl, rfl, rfl, rfl⟩, fun _ _ _ => rfl, rfl, fun _ _ => rfl⟩
theorem s_sm.tr {T : Nat} {S S' S'' : sm_S} (h : s_sm T S S') (g : s_sm T S' S'') : s_sm T S S'' := by
  obtain ⟨⟨a1, a2, a3, a4, a5, a6, a7, a8⟩, b, c, d⟩ := h
  obtain ⟨⟨e1, e2, e3, e4, e5, e6, e7, e8⟩, f, i, j⟩ := g
  exact ⟨⟨e1.trans a1, e2.trans a2, e3.trans a3, e4.trans a4, e5.trans a5, e6.trans a6, e7.trans a7, e8.trans a8⟩, fun k hk h5 => (f k hk h5).trans (b k hk h5), i.trans c, fun k hk => (j k hk).trans (d k hk)⟩
def s_keep (T : Nat) (S S' : sm_S) : Prop := s_sm T S S' ∧ S' 14 4 = S 14 4 ∧ S' 14 5 = S 14 5
theorem s_keep.rf (T : Nat) (S : sm_S) : s_keep T S S := ⟨s_sm.rf T S, rfl, rfl⟩
theorem s_keep.put {T s v : Nat} {S : sm_S} : s_keep T S (s_put S s v).2 := by
  unfold s_put
  split
  · exact s_keep.rf T S
  · exact ⟨⟨⟨rfl, rfl, rfl, rfl, rfl, rfl, rfl, rfl⟩, fun _ _ _ => rfl, rfl, fun _ _ => rfl⟩, rfl, rfl⟩
theorem s_keep.sif {T : Nat} {S S' : sm_S} {c : Prop} [Decidable c] (h : s_keep T S S') : s_keep T S (s_if c S S').2 := by
  unfold s_if
  split
  · exact h
  · exact s_keep.rf T S
theorem ak_0 {T t a : Nat} {S : sm_S} (hT : T ≤ S 10 0) : s_keep T S (s_act S t 0 a).2 := by
  exact s_keep.put
theorem ak_1 {T t a : Nat} {S : sm_S} (hT : T ≤ S 10 0) : s_keep T S (s_act S t 1 a).2 := by
  exact s_keep.put
theorem ak_2 {T t a : Nat} {S : sm_S} (hT : T ≤ S 10 0) : s_keep T S (s_act S t 2 a).2 := by
  exact s_keep.put
theorem ak_3 {T t a : Nat} {S : sm_S} (hT : T ≤ S 10 0) : s_keep T S (s_act S t 3 a).2 := by
  exact s_keep.put
theorem ak_4 {T t a : Nat} {S : sm_S} (hT : T ≤ S 10 0) : s_keep T S (s_act S t 4 a).2 := by
  exact s_keep.put
theorem ak_5 {T t a : Nat} {S : sm_S} (hT : T ≤ S 10 0) : s_keep T S (s_act S t 5 a).2 := by
  exact s_keep.put
theorem ak_6 {T t a : Nat} {S : sm_S} (hT : T ≤ S 10 0) : s_keep T S (s_act S t 6 a).2 := by
  exact s_keep.sif ⟨⟨⟨rfl, rfl, rfl, rfl, rfl, rfl, rfl, rfl⟩, fun _ _ _ => rfl, rfl, fun _ _ => rfl⟩, rfl, rfl⟩
theorem ak_7 {T t a : Nat} {S : sm_S} (hT : T ≤ S 10 0) : s_keep T S (s_act S t 7 a).2 := by
  exact s_keep.sif ⟨⟨⟨rfl, rfl, rfl, rfl, rfl, rfl, rfl, rfl⟩, fun _ _ _ => rfl, rfl, fun _ _ => rfl⟩, rfl, rfl⟩
theorem ak_8 {T t a : Nat} {S : sm_S} (hT : T ≤ S 10 0) : s_keep T S (s_act S t 8 a).2 := by
  exact s_keep.sif ⟨⟨⟨rfl, rfl, rfl, rfl, rfl, rfl, rfl, rfl⟩, fun _ _ _ => rfl, rfl, fun _ _ => rfl⟩, rfl, rfl⟩
theorem ak_9 {T t a : Nat} {S : sm_S} (hT : T ≤ S 10 0) : s_keep T S (s_act S t 9 a).2 := by
  exact s_keep.sif ⟨⟨⟨rfl, rfl, rfl, rfl, rfl, rfl, rfl, rfl⟩, fun _ _ _ => rfl, rfl, fun _ _ => rfl⟩, rfl, rfl⟩
theorem ak_10 {T t a : Nat} {S : sm_S} (hT : T ≤ S 10 0) : s_keep T S (s_act S t 10 a).2 := by
  exact s_keep.sif ⟨⟨⟨rfl, rfl, rfl, rfl, rfl, rfl, rfl, rfl⟩, fun _ _ _ => rfl, rfl, fun _ _ => rfl⟩, rfl, rfl⟩
theorem ak_11 {T t a : Nat} {S : sm_S} (hT : T ≤ S 10 0) : s_keep T S (s_act S t 11 a).2 := by
  exact s_keep.sif ⟨⟨⟨rfl, rfl, rfl, rfl, rfl, rfl, rfl, rfl⟩, fun _ _ _ => rfl, rfl, fun _ _ => rfl⟩, rfl, rfl⟩
theorem ak_12 {T t a : Nat} {S : sm_S} (hT : T ≤ S 10 0) : s_keep T S (s_act S t 12 a).2 := by
  exact ⟨⟨⟨rfl, rfl, rfl, rfl, rfl, rfl, rfl, rfl⟩, fun _ _ _ => rfl, rfl, fun _ _ => rfl⟩, rfl, rfl⟩
theorem ak_13 {T t a : Nat} {S : sm_S} (hT : T ≤ S 10 0) : s_keep T S (s_act S t 13 a).2 := by
  exact ⟨⟨⟨rfl, rfl, rfl, rfl, rfl, rfl, rfl, rfl⟩, fun _ _ _ => rfl, rfl, fun _ _ => rfl⟩, rfl, rfl⟩
theorem ak_14 {T t a : Nat} {S : sm_S} (hT : T ≤ S 10 0) : s_keep T S (s_act S t 14 a).2 := by
  exact ⟨⟨⟨rfl, rfl, rfl, rfl, rfl, rfl, rfl, rfl⟩, fun _ _ _ => rfl, rfl, fun _ _ => rfl⟩, rfl, rfl⟩
theorem ak_15 {T t a : Nat} {S : sm_S} (hT : T ≤ S 10 0) : s_keep T S (s_act S t 15 a).2 := by
  exact s_keep.put
theorem ak_16 {T t a : Nat} {S : sm_S} (hT : T ≤ S 10 0) : s_keep T S (s_act S t 16 a).2 := by
  exact ⟨⟨⟨rfl, rfl, rfl, rfl, rfl, rfl, rfl, rfl⟩, fun _ _ _ => rfl, rfl, fun _ _ => rfl⟩, rfl, rfl⟩
theorem ak_17 {T t a : Nat} {S : sm_S} (hT : T ≤ S 10 0) : s_keep T S (s_act S t 17 a).2 := by
  exact ⟨⟨⟨rfl, rfl, rfl, rfl, rfl, rfl, rfl, rfl⟩, fun _ _ _ => rfl, rfl, fun _ _ => rfl⟩, rfl, rfl⟩
theorem ak_18 {T t a : Nat} {S : sm_S} (hT : T ≤ S 10 0) : s_keep T S (s_act S t 18 a).2 := by
  exact ⟨⟨⟨rfl, rfl, rfl, rfl, rfl, rfl, rfl, rfl⟩, fun _ _ _ => rfl, rfl, fun _ _ => rfl⟩, rfl, rfl⟩
theorem ak_19 {T t a : Nat} {S : sm_S} (hT : T ≤ S 10 0) : s_keep T S (s_act S t 19 a).2 := by
  exact ⟨⟨⟨rfl, rfl, rfl, rfl, rfl, rfl, rfl, rfl⟩, fun _ _ _ => rfl, rfl, fun _ _ => rfl⟩, rfl, rfl⟩
theorem ak_20 {T t a : Nat} {S : sm_S} (hT : T ≤ S 10 0) : s_keep T S (s_act S t 20 a).2 := by
  exact s_keep.sif ⟨⟨⟨rfl, rfl, rfl, rfl, rfl, rfl, rfl, rfl⟩, fun _ _ _ => rfl, rfl, fun _ _ => rfl⟩, rfl, rfl⟩
theorem ak_21 {T t a : Nat} {S : sm_S} (hT : T ≤ S 10 0) : s_keep T S (s_act S t 21 a).2 := by
  exact s_keep.put
theorem ak_22 {T t a : Nat} {S : sm_S} (hT : T ≤ S 10 0) : s_keep T S (s_act S t 22 a).2 := by
  exact ⟨⟨⟨rfl, rfl, rfl, rfl, rfl, rfl, rfl, rfl⟩, fun _ _ _ => rfl, rfl, fun _ _ => rfl⟩, rfl, rfl⟩
theorem ak_23 {T t a : Nat} {S : sm_S} (hT : T ≤ S 10 0) : s_keep T S (s_act S t 23 a).2 := by
  exact s_keep.sif ⟨⟨⟨rfl, rfl, rfl, rfl, rfl, rfl, rfl, rfl⟩, fun _ _ _ => rfl, rfl, fun _ _ => rfl⟩, rfl, rfl⟩
theorem ak_24 {T t a : Nat} {S : sm_S} (hT : T ≤ S 10 0) : s_keep T S (s_act S t 24 a).2 := by
  exact s_keep.sif ⟨⟨⟨rfl, rfl, rfl, rfl, rfl, rfl, rfl, rfl⟩, fun _ _ _ => rfl, rfl, fun _ _ => rfl⟩, rfl, rfl⟩
theorem ak_25 {T t a : Nat} {S : sm_S} (hT : T ≤ S 10 0) : s_keep T S (s_act S t 25 a).2 := by
  exact ⟨⟨⟨rfl, rfl, rfl, rfl, rfl, rfl, rfl, rfl⟩, fun _ _ _ => rfl, rfl, fun _ _ => rfl⟩, rfl, rfl⟩
theorem ak_26 {T t a : Nat} {S : sm_S} (hT : T ≤ S 10 0) : s_keep T S (s_act S t 26 a).2 := by
  exact s_keep.put
theorem ak_27 {T t a : Nat} {S : sm_S} (hT : T ≤ S 10 0) : s_keep T S (s_act S t 27 a).2 := by
  exact ⟨⟨⟨rfl, rfl, rfl, rfl, rfl, rfl, rfl, rfl⟩, fun _ _ _ => rfl, rfl, fun _ _ => rfl⟩, rfl, rfl⟩
theorem ak_28 {T t a : Nat} {S : sm_S} (hT : T ≤ S 10 0) : s_keep T S (s_act S t 28 a).2 := by
  exact s_keep.sif ⟨⟨⟨rfl, rfl, rfl, rfl, rfl, rfl, rfl, rfl⟩, fun _ _ _ => rfl, rfl, fun _ _ => rfl⟩, rfl, rfl⟩
theorem ak_29 {T t a : Nat} {S : sm_S} (hT : T ≤ S 10 0) : s_keep T S (s_act S t 29 a).2 := by
  refine ⟨⟨⟨rfl, rfl, rfl, rfl, rfl, rfl, rfl, rfl⟩, fun i hi _ => ?_, rfl, fun j hj => ?_⟩, rfl, rfl⟩
  · show s_up (s_up (s_tke S 1) 1 (S 10 0) (S 12 (S 14 0 - 1))) 10 0 (S 10 0 + 1) 10 i = S 10 i
    rw [s_up_o (Or.inr hi)]
    rfl
  · show s_up (s_tke S 1) 1 (S 10 0) (S 12 (S 14 0 - 1)) 1 j = S 1 j
    rw [s_up_o (Or.inr (by omega))]
    rfl
theorem ak_30 {T t a : Nat} {S : sm_S} (hT : T ≤ S 10 0) : s_keep T S (s_act S t 30 a).2 := by
  exact s_keep.sif ⟨⟨⟨rfl, rfl, rfl, rfl, rfl, rfl, rfl, rfl⟩, fun _ _ _ => rfl, rfl, fun _ _ => rfl⟩, rfl, rfl⟩
theorem act_K {T t a c : Nat} {S : sm_S} (hc : c < 31) (hT : T ≤ S 10 0) : s_keep T S (s_act S t c a).2 := by
  have h : c = 0 ∨ c = 1 ∨ c = 2 ∨ c = 3 ∨ c = 4 ∨ c = 5 ∨ c = 6 ∨ c = 7 ∨ c = 8 ∨ c = 9 ∨ c = 10 ∨ c = 11 ∨ c = 12 ∨ c = 13 ∨ c = 14 ∨ c = 15 ∨ c = 16 ∨ c = 17 ∨ c = 18 ∨ c = 19 ∨ c = 20 ∨ c = 21 ∨ c = 22 ∨ c = 23 ∨ c = 24 ∨ c = 25 ∨ c = 26 ∨ c = 27 ∨ c = 28 ∨ c = 29 ∨ c = 30 := by omega
  rcases h with rfl | rfl | rfl | rfl | rfl | rfl | rfl | rfl | rfl | rfl | rfl | rfl | rfl | rfl | rfl | rfl | rfl | rfl | rfl | rfl | rfl | rfl | rfl | rfl | rfl | rfl | rfl | rfl | rfl | rfl | rfl
  · exact ak_0 hT
  · exact ak_1 hT
  · exact ak_2 hT
  · exact ak_3 hT
  · exact ak_4 hT
  · exact ak_5 hT
  · exact ak_6 hT
  · exact ak_7 hT
  · exact ak_8 hT
  · exact ak_9 hT
  · exact ak_10 hT
  · exact ak_11 hT
  · exact ak_12 hT
  · exact ak_13 hT
  · exact ak_14 hT
  · exact ak_15 hT
  · exact ak_16 hT
  · exact ak_17 hT
  · exact ak_18 hT
  · exact ak_19 hT
  · exact ak_20 hT
  · exact ak_21 hT
  · exact ak_22 hT
  · exact ak_23 hT
  · exact ak_24 hT
  · exact ak_25 hT
  · exact ak_26 hT
  · exact ak_27 hT
  · exact ak_28 hT
  · exact ak_29 hT
  · exact ak_30 hT
theorem s_put_9 {s v : Nat} {S : sm_S} (h : (s_put S s v).1 ≠ 0) : (s_put S s v).2 = S := by
  unfold s_put at h ⊢
  by_cases e : 8 ≤ S 14 0
  · rw [if_pos e]
  · rw [if_neg e] at h
    exact absurd rfl h
theorem s_if_9 {S S' : sm_S} {c : Prop} [Decidable c] (h : (s_if c S S').1 ≠ 0) : (s_if c S S').2 = S := by
  unfold s_if at h ⊢
  by_cases e : c
  · rw [if_pos e] at h
    exact absurd rfl h
  · rw [if_neg e]
theorem af_0 {t a : Nat} {S : sm_S} (h : (s_act S t 0 a).1 ≠ 0) : (s_act S t 0 a).2 = S := s_put_9 h
theorem af_1 {t a : Nat} {S : sm_S} (h : (s_act S t 1 a).1 ≠ 0) : (s_act S t 1 a).2 = S := s_put_9 h
theorem af_2 {t a : Nat} {S : sm_S} (h : (s_act S t 2 a).1 ≠ 0) : (s_act S t 2 a).2 = S := s_put_9 h
theorem af_3 {t a : Nat} {S : sm_S} (h : (s_act S t 3 a).1 ≠ 0) : (s_act S t 3 a).2 = S := s_put_9 h
theorem af_4 {t a : Nat} {S : sm_S} (h : (s_act S t 4 a).1 ≠ 0) : (s_act S t 4 a).2 = S := s_put_9 h
theorem af_5 {t a : Nat} {S : sm_S} (h : (s_act S t 5 a).1 ≠ 0) : (s_act S t 5 a).2 = S := s_put_9 h
theorem af_6 {t a : Nat} {S : sm_S} (h : (s_act S t 6 a).1 ≠ 0) : (s_act S t 6 a).2 = S := s_if_9 h
theorem af_7 {t a : Nat} {S : sm_S} (h : (s_act S t 7 a).1 ≠ 0) : (s_act S t 7 a).2 = S := s_if_9 h
theorem af_8 {t a : Nat} {S : sm_S} (h : (s_act S t 8 a).1 ≠ 0) : (s_act S t 8 a).2 = S := s_if_9 h
theorem af_9 {t a : Nat} {S : sm_S} (h : (s_act S t 9 a).1 ≠ 0) : (s_act S t 9 a).2 = S := s_if_9 h
theorem af_10 {t a : Nat} {S : sm_S} (h : (s_act S t 10 a).1 ≠ 0) : (s_act S t 10 a).2 = S := s_if_9 h
theorem af_11 {t a : Nat} {S : sm_S} (h : (s_act S t 11 a).1 ≠ 0) : (s_act S t 11 a).2 = S := s_if_9 h
theorem af_12 {t a : Nat} {S : sm_S} (h : (s_act S t 12 a).1 ≠ 0) : (s_act S t 12 a).2 = S := absurd rfl h
theorem af_13 {t a : Nat} {S : sm_S} (h : (s_act S t 13 a).1 ≠ 0) : (s_act S t 13 a).2 = S := absurd rfl h
theorem af_14 {t a : Nat} {S : sm_S} (h : (s_act S t 14 a).1 ≠ 0) : (s_act S t 14 a).2 = S := absurd rfl h
theorem af_15 {t a : Nat} {S : sm_S} (h : (s_act S t 15 a).1 ≠ 0) : (s_act S t 15 a).2 = S := s_put_9 h
theorem af_16 {t a : Nat} {S : sm_S} (h : (s_act S t 16 a).1 ≠ 0) : (s_act S t 16 a).2 = S := absurd rfl h
theorem af_17 {t a : Nat} {S : sm_S} (h : (s_act S t 17 a).1 ≠ 0) : (s_act S t 17 a).2 = S := absurd rfl h
theorem af_18 {t a : Nat} {S : sm_S} (h : (s_act S t 18 a).1 ≠ 0) : (s_act S t 18 a).2 = S := absurd rfl h
theorem af_19 {t a : Nat} {S : sm_S} (h : (s_act S t 19 a).1 ≠ 0) : (s_act S t 19 a).2 = S := absurd rfl h
theorem af_20 {t a : Nat} {S : sm_S} (h : (s_act S t 20 a).1 ≠ 0) : (s_act S t 20 a).2 = S := s_if_9 h
theorem af_21 {t a : Nat} {S : sm_S} (h : (s_act S t 21 a).1 ≠ 0) : (s_act S t 21 a).2 = S := s_put_9 h
theorem af_22 {t a : Nat} {S : sm_S} (h : (s_act S t 22 a).1 ≠ 0) : (s_act S t 22 a).2 = S := absurd rfl h
theorem af_23 {t a : Nat} {S : sm_S} (h : (s_act S t 23 a).1 ≠ 0) : (s_act S t 23 a).2 = S := s_if_9 h
theorem af_24 {t a : Nat} {S : sm_S} (h : (s_act S t 24 a).1 ≠ 0) : (s_act S t 24 a).2 = S := s_if_9 h
theorem af_25 {t a : Nat} {S : sm_S} (h : (s_act S t 25 a).1 ≠ 0) : (s_act S t 25 a).2 = S := absurd rfl h
theorem af_26 {t a : Nat} {S : sm_S} (h : (s_act S t 26 a).1 ≠ 0) : (s_act S t 26 a).2 = S := s_put_9 h
theorem af_27 {t a : Nat} {S : sm_S} (h : (s_act S t 27 a).1 ≠ 0) : (s_act S t 27 a).2 = S := absurd rfl h
theorem af_28 {t a : Nat} {S : sm_S} (h : (s_act S t 28 a).1 ≠ 0) : (s_act S t 28 a).2 = S := s_if_9 h
theorem af_29 {t a : Nat} {S : sm_S} (h : (s_act S t 29 a).1 ≠ 0) : (s_act S t 29 a).2 = S := absurd rfl h
theorem af_30 {t a : Nat} {S : sm_S} (h : (s_act S t 30 a).1 ≠ 0) : (s_act S t 30 a).2 = S := s_if_9 h
theorem act_F {t a c : Nat} {S : sm_S} (hc : c < 31) (h : (s_act S t c a).1 ≠ 0) : (s_act S t c a).2 = S := by
  have g : c = 0 ∨ c = 1 ∨ c = 2 ∨ c = 3 ∨ c = 4 ∨ c = 5 ∨ c = 6 ∨ c = 7 ∨ c = 8 ∨ c = 9 ∨ c = 10 ∨ c = 11 ∨ c = 12 ∨ c = 13 ∨ c = 14 ∨ c = 15 ∨ c = 16 ∨ c = 17 ∨ c = 18 ∨ c = 19 ∨ c = 20 ∨ c = 21 ∨ c = 22 ∨ c = 23 ∨ c = 24 ∨ c = 25 ∨ c = 26 ∨ c = 27 ∨ c = 28 ∨ c = 29 ∨ c = 30 := by omega
  rcases g with rfl | rfl | rfl | rfl | rfl | rfl | rfl | rfl | rfl | rfl | rfl | rfl | rfl | rfl | rfl | rfl | rfl | rfl | rfl | rfl | rfl | rfl | rfl | rfl | rfl | rfl | rfl | rfl | rfl | rfl | rfl
  · exact af_0 h
  · exact af_1 h
  · exact af_2 h
  · exact af_3 h
  · exact af_4 h
  · exact af_5 h
  · exact af_6 h
  · exact af_7 h
  · exact af_8 h
  · exact af_9 h
  · exact af_10 h
  · exact af_11 h
  · exact af_12 h
  · exact af_13 h
  · exact af_14 h
  · exact af_15 h
  · exact af_16 h
  · exact af_17 h
  · exact af_18 h
  · exact af_19 h
  · exact af_20 h
  · exact af_21 h
  · exact af_22 h
  · exact af_23 h
  · exact af_24 h
  · exact af_25 h
  · exact af_26 h
  · exact af_27 h
  · exact af_28 h
  · exact af_29 h
  · exact af_30 h
theorem s_put_5 {s v : Nat} {S : sm_S} : (s_put S s v).2 10 5 = S 10 5 := by
  unfold s_put
  split <;> rfl
theorem s_if_5 {S S' : sm_S} {c : Prop} [Decidable c] (h : S' 10 5 = S 10 5) : (s_if c S S').2 10 5 = S 10 5 := by
  unfold s_if
  split
  · exact h
  · rfl
theorem aq_0 {t a : Nat} {S : sm_S} : (s_act S t 0 a).2 10 5 = S 10 5 := s_put_5
theorem aq_1 {t a : Nat} {S : sm_S} : (s_act S t 1 a).2 10 5 = S 10 5 := s_put_5
theorem aq_2 {t a : Nat} {S : sm_S} : (s_act S t 2 a).2 10 5 = S 10 5 := s_put_5
theorem aq_3 {t a : Nat} {S : sm_S} : (s_act S t 3 a).2 10 5 = S 10 5 := s_put_5
theorem aq_4 {t a : Nat} {S : sm_S} : (s_act S t 4 a).2 10 5 = S 10 5 := s_put_5
theorem aq_5 {t a : Nat} {S : sm_S} : (s_act S t 5 a).2 10 5 = S 10 5 := s_put_5
theorem aq_6 {t a : Nat} {S : sm_S} : (s_act S t 6 a).2 10 5 = S 10 5 := s_if_5 rfl
theorem aq_7 {t a : Nat} {S : sm_S} : (s_act S t 7 a).2 10 5 = S 10 5 := s_if_5 rfl
theorem aq_8 {t a : Nat} {S : sm_S} : (s_act S t 8 a).2 10 5 = S 10 5 := s_if_5 rfl
theorem aq_9 {t a : Nat} {S : sm_S} : (s_act S t 9 a).2 10 5 = S 10 5 := s_if_5 rfl
theorem aq_10 {t a : Nat} {S : sm_S} : (s_act S t 10 a).2 10 5 = S 10 5 := s_if_5 rfl
theorem aq_11 {t a : Nat} {S : sm_S} : (s_act S t 11 a).2 10 5 = S 10 5 := s_if_5 rfl
theorem aq_12 {t a : Nat} {S : sm_S} : (s_act S t 12 a).2 10 5 = S 10 5 := rfl
theorem aq_13 {t a : Nat} {S : sm_S} : (s_act S t 13 a).2 10 5 = S 10 5 := rfl
theorem aq_14 {t a : Nat} {S : sm_S} : (s_act S t 14 a).2 10 5 = S 10 5 := rfl
theorem aq_15 {t a : Nat} {S : sm_S} : (s_act S t 15 a).2 10 5 = S 10 5 := s_put_5
theorem aq_16 {t a : Nat} {S : sm_S} : (s_act S t 16 a).2 10 5 = S 10 5 := rfl
theorem aq_17 {t a : Nat} {S : sm_S} : (s_act S t 17 a).2 10 5 = S 10 5 := rfl
theorem aq_18 {t a : Nat} {S : sm_S} : (s_act S t 18 a).2 10 5 = S 10 5 := rfl
theorem aq_19 {t a : Nat} {S : sm_S} : (s_act S t 19 a).2 10 5 = S 10 5 := rfl
theorem aq_20 {t a : Nat} {S : sm_S} : (s_act S t 20 a).2 10 5 = S 10 5 := s_if_5 rfl
theorem aq_21 {t a : Nat} {S : sm_S} : (s_act S t 21 a).2 10 5 = S 10 5 := s_put_5
theorem aq_22 {t a : Nat} {S : sm_S} : (s_act S t 22 a).2 10 5 = S 10 5 := rfl
theorem aq_23 {t a : Nat} {S : sm_S} : (s_act S t 23 a).2 10 5 = S 10 5 := s_if_5 rfl
theorem aq_24 {t a : Nat} {S : sm_S} : (s_act S t 24 a).2 10 5 = S 10 5 := s_if_5 rfl
theorem aq_25 {t a : Nat} {S : sm_S} : (s_act S t 25 a).2 10 5 = S 10 5 := rfl
theorem aq_26 {t a : Nat} {S : sm_S} : (s_act S t 26 a).2 10 5 = S 10 5 := s_put_5
theorem aq_27 {t a : Nat} {S : sm_S} : (s_act S t 27 a).2 10 5 = S 10 5 := rfl
theorem aq_28 {t a : Nat} {S : sm_S} : (s_act S t 28 a).2 10 5 = S 10 5 := s_if_5 rfl
theorem aq_29 {t a : Nat} {S : sm_S} : (s_act S t 29 a).2 10 5 = S 10 5 := rfl
theorem aq_30 {t a : Nat} {S : sm_S} : (s_act S t 30 a).2 10 5 = S 10 5 := s_if_5 rfl
theorem act_5 {t a c : Nat} {S : sm_S} (hc : c < 31) : (s_act S t c a).2 10 5 = S 10 5 := by
  have h : c = 0 ∨ c = 1 ∨ c = 2 ∨ c = 3 ∨ c = 4 ∨ c = 5 ∨ c = 6 ∨ c = 7 ∨ c = 8 ∨ c = 9 ∨ c = 10 ∨ c = 11 ∨ c = 12 ∨ c = 13 ∨ c = 14 ∨ c = 15 ∨ c = 16 ∨ c = 17 ∨ c = 18 ∨ c = 19 ∨ c = 20 ∨ c = 21 ∨ c = 22 ∨ c = 23 ∨ c = 24 ∨ c = 25 ∨ c = 26 ∨ c = 27 ∨ c = 28 ∨ c = 29 ∨ c = 30 := by omega
  rcases h with rfl | rfl | rfl | rfl | rfl | rfl | rfl | rfl | rfl | rfl | rfl | rfl | rfl | rfl | rfl | rfl | rfl | rfl | rfl | rfl | rfl | rfl | rfl | rfl | rfl | rfl | rfl | rfl | rfl | rfl | rfl
  · exact aq_0
  · exact aq_1
  · exact aq_2
  · exact aq_3
  · exact aq_4
  · exact aq_5
  · exact aq_6
  · exact aq_7
  · exact aq_8
  · exact aq_9
  · exact aq_10
  · exact aq_11
  · exact aq_12
  · exact aq_13
  · exact aq_14
  · exact aq_15
  · exact aq_16
  · exact aq_17
  · exact aq_18
  · exact aq_19
  · exact aq_20
  · exact aq_21
  · exact aq_22
  · exact aq_23
  · exact aq_24
  · exact aq_25
  · exact aq_26
  · exact aq_27
  · exact aq_28
  · exact aq_29
  · exact aq_30
theorem step_105 {T t : Nat} {S : sm_S} (hB : RnB T S t) : (s_step S t).2 10 5 = S 10 5 := by
  obtain ⟨bB, bP, bG, bS, ⟨ht, hk⟩, hE, hq32, h80, hcs, hst, hen, hT1, hT2, hT3⟩ := hB
  have bt := bG.2 t ht
  have hp : S 6 t < 4 := bt.2.2.2.1 hk
  have bp := bP (S 6 t) (by omega)
  unfold s_step
  by_cases e : S 3 (S 6 t) ≤ S 14 1
  · rw [if_pos e]
  · rw [if_neg e]
    obtain ⟨bc, bf⟩ := bp.2 (S 14 1) (by omega)
    split
    · rfl
    · split
      · rfl
      · exact act_5 (S := s_chg S (S 2 (S 6 t * 32 + S 14 1))) bc
def RfB (S : sm_S) : Prop := (∀ i, i < 16 → S 9 i < 2 ^ 31) ∧ S 14 3 ≤ 80 ∧ S 14 4 ≤ S 14 3 ∧ S 14 5 ≤ S 14 4
theorem RnB.rf {T t : Nat} {S : sm_S} (h : RnB T S t) : RfB S := by
  obtain ⟨bB, bP, bG, bS, ht, hE, hq32, h80, hcs, hst, hen, hT1, hT2, hT3⟩ := h
  exact ⟨bS, h80, hcs, hst⟩
theorem step_B {T t : Nat} {S : sm_S} (hB : RnB T S t) : s_sm T S (s_step S t).2 ∧ RfB (s_step S t).2 ∧ ((s_step S t).1 = 0 → RnB T (s_step S t).2 t ∧ S 14 4 < (s_step S t).2 14 4) := by
  have hB' := hB
  obtain ⟨bB, bP, bG, bS, ⟨ht, hk⟩, hE, hq32, h80, hcs, hst, hen, hT1, hT2, hT3⟩ := hB'
  have bt := bG.2 t ht
  have hp : S 6 t < 4 := bt.2.2.2.1 hk
  have bp := bP (S 6 t) (by omega)
  by_cases e : S 3 (S 6 t) ≤ S 14 1
  · have e1 : s_step S t = (5, S) := if_pos e
    rw [e1]
    exact ⟨s_sm.rf T S, hB.rf, fun h => absurd h (by omega)⟩
  · have e1 : s_step S t = if S 14 3 < S 14 4 + s_pr (S 2 (S 6 t * 32 + S 14 1)) then (4, S) else if s_pre S (S 2 (S 6 t * 32 + S 14 1)) ≠ 0 then (s_pre S (S 2 (S 6 t * 32 + S 14 1)), s_chg S (S 2 (S 6 t * 32 + S 14 1))) else s_act (s_chg S (S 2 (S 6 t * 32 + S 14 1))) t (S 2 (S 6 t * 32 + S 14 1)) (S 11 (S 6 t * 32 + S 14 1)) := if_neg e
    obtain ⟨bc, bf⟩ := bp.2 (S 14 1) (by omega)
    rw [e1]
    clear e1
    generalize S 2 (S 6 t * 32 + S 14 1) = c at bc bf
    generalize S 11 (S 6 t * 32 + S 14 1) = a at bf
    obtain ⟨o0, o2, o3, k2, km, kt, kp, kp3⟩ := en_8 c bc
    by_cases f : S 14 3 < S 14 4 + s_pr c
    · rw [if_pos f]
      exact ⟨s_sm.rf T S, hB.rf, fun h => absurd h (by omega)⟩
    · rw [if_neg f]
      have hB1 := hB.chg kp (by omega)
      have hk1 : s_sm T S (s_chg S c) := ⟨⟨rfl, rfl, rfl, rfl, rfl, rfl, rfl, rfl⟩, fun _ _ _ => rfl, rfl, fun _ _ => rfl⟩
      by_cases g : s_pre S c = 0
      · rw [if_neg (fun h => h g)]
        have hk2 := act_K (t := t) (a := a) (S := s_chg S c) bc hT1
        have h44 : (s_act (s_chg S c) t c a).2 14 4 = S 14 4 + s_pr c := hk2.2.1
        have h45 : (s_act (s_chg S c) t c a).2 14 5 = S 14 5 + 1 := hk2.2.2
        have h43 : (s_act (s_chg S c) t c a).2 14 3 = S 14 3 := hk2.1.2.2.1
        refine ⟨hk1.tr hk2.1, ?_, fun h0 => ⟨?_, by omega⟩⟩
        · by_cases h0 : (s_act (s_chg S c) t c a).1 = 0
          · exact (act_B bc hB1 (by show S 10 0 + 1 ≤ T + (S 14 4 + s_pr c); omega) (by show S 14 1 < 32; omega) g bf h0).rf
          · rw [act_F bc h0]
            exact hB1.rf
        · exact act_B bc hB1 (by show S 10 0 + 1 ≤ T + (S 14 4 + s_pr c); omega) (by show S 14 1 < 32; omega) g bf h0
      · rw [if_pos g]
        exact ⟨hk1, hB1.rf, fun h => absurd h g⟩
/-- the run of a program: the fault (0 none) and the state after it; with a fault, register 10 5 has its place -/
def s_run : Nat → sm_S → Nat → Nat × sm_S
  | 0, S, _ => (0, S)
  | n + 1, S, t => if (s_step S t).1 ≠ 0 then ((s_step S t).1, s_up (s_step S t).2 10 5 (S 14 1)) else if (s_step S t).2 14 2 = 1 then (0, (s_step S t).2) else s_run n (s_step S t).2 t
theorem s_run_1 {n t : Nat} {S : sm_S} : s_run (n + 1) S t = if (s_step S t).1 ≠ 0 then ((s_step S t).1, s_up (s_step S t).2 10 5 (S 14 1)) else if (s_step S t).2 14 2 = 1 then (0, (s_step S t).2) else s_run n (s_step S t).2 t := rfl
theorem run_B {T t : Nat} : ∀ (n : Nat) {S : sm_S}, RnB T S t → S 14 3 - S 14 4 < n → s_sm T S (s_run n S t).2 ∧ RfB (s_run n S t).2 ∧ ((s_run n S t).1 = 0 → RnB T (s_run n S t).2 t ∧ (s_run n S t).2 10 5 = S 10 5) := by
  intro n
  induction n with
  | zero => intro S hB hn; exact absurd hn (Nat.not_lt_zero _)
  | succ n ih =>
    intro S hB hn
    obtain ⟨h1, h2, h3⟩ := step_B hB
    rw [s_run_1]
    by_cases e : (s_step S t).1 = 0
    · rw [if_neg (fun h => h e)]
      obtain ⟨h4, h5⟩ := h3 e
      have h14 := h1.2.2.1
      have h105 : (s_step S t).2 10 5 = S 10 5 := step_105 hB
      by_cases f : (s_step S t).2 14 2 = 1
      · rw [if_pos f]
        exact ⟨h1, h2, fun _ => ⟨h4, h105⟩⟩
      · rw [if_neg f]
        have hle := hB.2.2.2.2.2.2.2.2.1
        obtain ⟨i1, i2, i3⟩ := ih h4 (by have := h4.2.2.2.2.2.2.2.2.1; omega)
        exact ⟨h1.tr i1, i2, fun h => ⟨(i3 h).1, (i3 h).2.trans h105⟩⟩
    · rw [if_pos e]
      refine ⟨h1.tr ⟨⟨rfl, rfl, rfl, rfl, rfl, rfl, rfl, rfl⟩, fun i hi h5 => by show s_up (s_step S t).2 10 5 (S 14 1) 10 i = _; rw [s_up_o (Or.inr h5)], rfl, fun _ _ => rfl⟩, h2, fun h => absurd h e⟩
