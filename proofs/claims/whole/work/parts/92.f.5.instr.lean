theorem px_20 {X : sm_X} {w : sm_W} {Q : Option Value → sm_W → Prop} {S : sm_S} {T t a y ys x xs : Nat} (hR : RnM T w S (S 14 1)) (hB : RnB T S t) (hn : 1 ≤ S 14 0) (hy : y < 2 ^ 31) (hf : True) (hQ : ∀ w', AfM T w w' (S 14 1) (s_do S t a y ys x xs 20) → Q (some (.int (nI (s_do S t a y ys x xs 20).1))) w') : sm_R X 75 73 [.ref 159, .int (nI 20), .int (nI a), .int (nI t), .int (nI 1), .long (lN y), sm_J, .long 0, sm_J] [] w Q := by
  have hB' := hB
  obtain ⟨bB, bP, bG, bS, ⟨ht, hk⟩, ⟨h8, hE⟩, hq32, h80, hcs, hst, hen, hT1, hT2, hT3⟩ := hB'
  have h4 : S 10 1 ≤ 4 := bG.1
  have ht4 : t < 4 := by omega
  have bt := bG.2 t ht
  have hp6 : S 6 t < 4 := bt.2.2.2.1 hk
  have v1 : sm_in (nI t) 4 = true := sm_in_nI ht4 (by decide)
  have v2 : (nI t).toNatClampNeg = t := nI_clamp (by omega)
  have hS_w := hR.1
  have t24_w := hR.2.2.2.2.2.2.2.1.1
  have t5_w : wn w 59 5 = nI (S 10 1) := hR.2.2.2.1.1
  have gt_w := hR.2.2.2.1.2 t ht
  have g65_w := gt_w.1
  have g66_w : wi w 66 t = nI (S 5 t) := gt_w.2.1
  have g67_w : wi w 67 t = nI (S 6 t) := gt_w.2.2.1
  have g68_w : wi w 68 t = nI (S 7 t) := gt_w.2.2.2.1
  have g69_w : wi w 69 t = nI (S 8 t) := gt_w.2.2.2.2
  have nw_w : NwM w S := hR.2.1
  have sc_w : ScM w S := hR.2.2.2.2.1
  have pu_w := fun Q => pu_M (X := X) (Q := Q) (c := 20) hS_w (by decide)
  have pv : s_pu 20 = 0 := rfl
  rw [pv] at pu_w
  have ta : nI (S 14 0) - nI 1 = nI (S 14 0 - 1) := pk_sub (b := 1) (by omega)
  by_cases e : y ≠ 0
  · have e5 : s_do S t a y ys x xs 20 = (0, s_tke S 1) := if_pos e
    rw [e5] at hQ
    have d0 : ¬ lg_cmp (lN y) 0 = 0 := fun q => e ((lc_z0 (by omega)).mp q)
    simp (decide := true) only [r75_73, r75_74, r75_75, r75_76, r75_77, r75_79, r75_81, r75_84, r78_0, r78_1, r78_3, r78_6, r78_7, r78_9, r78_12, r78_14, r78_15, r78_18, r78_19, r78_20, r78_23, r78_24, r78_27, r78_29, r78_30, r78_31, r78_34, r78_35, r78_38, r78_39 (s0 := 0) (Or.inl rfl), r78_39 (s0 := 1) (Or.inr rfl), r78_40, r78_41, r78_43, r78_46, r78_48, r78_50, r78_51, r78_54, r78_55, r78_58, r78_59, r78_62, r78_63 (s0 := 0) (Or.inl rfl), r78_63 (s0 := 1) (Or.inr rfl), r78_64, r78_65, r78_67, r78_70, r78_72, r78_74, r78_75, r78_78, r78_79, r78_82, r78_83 (s0 := 0) (Or.inl rfl), r78_83 (s0 := 1) (Or.inr rfl), r78_84, r78_85, r78_87, r78_90, r78_92, r78_94, r78_95, r78_98, r78_99, r78_102, r78_103, r78_106, r78_107 (s0 := 0) (Or.inl rfl), r78_107 (s0 := 1) (Or.inr rfl), r78_108, r78_109, r78_111, r78_114, r78_115, r78_117, r78_120, r78_121, r78_123, r78_126, r78_128, r78_129, r78_130, r78_133, r78_134, r78_137, r78_138 (s0 := 0) (Or.inl rfl), r78_138 (s0 := 1) (Or.inr rfl), r78_139, r78_140, r78_142, r78_145, r78_146, r78_149, r78_150, r78_151, r78_154, r78_155, r78_156, r78_158, r78_161, r78_162, r78_163, r78_164, r78_167, r78_168, r78_171, r78_172 (s0 := 0) (Or.inl rfl), r78_172 (s0 := 1) (Or.inr rfl), r78_173, r78_174, r78_176, r78_179, r78_180, r78_183, r78_184, r78_185, r78_188, r78_189, r78_190, r78_192, r78_195, r78_196, r78_197, r78_198, r78_201, r78_202, r78_205, r78_206 (s0 := 0) (Or.inl rfl), r78_206 (s0 := 1) (Or.inr rfl), r78_207, r78_208, r78_210, r78_213, r78_215, r78_216, r78_217, r78_218, r78_221, r78_222, r78_225, r78_227, r78_228, r78_229, r78_232, r78_233, r78_236, r78_237 (s0 := 0) (Or.inl rfl), r78_237 (s0 := 1) (Or.inr rfl), r79_0, r79_2, r79_3, r79_5, r79_6, r79_7, r79_10, r79_11, r79_12, r79_13, r79_14, d0, t5_w, g66_w, g67_w, g68_w, g69_w, v1, v2, sh59 hS_w, sh60 hS_w, sh65 hS_w, sh66 hS_w, sh67 hS_w, sh68 hS_w, sh69 hS_w, sh70 hS_w, sh72 hS_w, sh73 hS_w, sm_wp_some, sm_wp_none, sm_at, sm_get, sm_fld, sm_pfl, sm_cN, sm_ai, sm_al, sm_si, sm_slg, sm_aa, List.getElem?_cons_zero, List.getElem?_cons_succ, List.set_cons_zero, List.set_cons_succ, List.length_cons, List.length_nil, Option.toList_some, Option.toList_none, List.cons_append, List.nil_append, if_true, if_false, true_and, and_true, Option.some.injEq, gs_o, gs_s, List.length_set, pk_us, Nat.reduceLT, Nat.reduceLeDiff, Nat.reduceSub, Nat.reduceEqDiff, Nat.reduceAdd, Int32.reduceLT, Int32.reduceLE, Int32.reduceAdd, Int32.reduceSub, Int32.reduceToNatClampNeg, ↓reduceIte, reduceCtorEq, Nat.lt_irrefl]
    simp (decide := true) only [r75_89, r75_90, r75_91, r75_94, r75_97, r75_98, r75_101, r75_103, r75_104, r75_105, r75_107, r75_110, r75_111, r75_114, r75_115, r75_116, r75_118, r75_121, r75_122, r75_123, r75_124, r75_125, r75_128, r75_130, r75_131, pu_w, t24_w, ta, sh59 hS_w, sh60 hS_w, sh65 hS_w, sh66 hS_w, sh67 hS_w, sh68 hS_w, sh69 hS_w, sh70 hS_w, sh72 hS_w, sh73 hS_w, sm_wp_some, sm_wp_none, sm_at, sm_get, sm_fld, sm_pfl, sm_cN, sm_ai, sm_al, sm_si, sm_slg, sm_aa, List.getElem?_cons_zero, List.getElem?_cons_succ, List.set_cons_zero, List.set_cons_succ, List.length_cons, List.length_nil, Option.toList_some, Option.toList_none, List.cons_append, List.nil_append, if_true, if_false, true_and, and_true, Option.some.injEq, gs_o, gs_s, List.length_set, pk_us, Nat.reduceLT, Nat.reduceLeDiff, Nat.reduceSub, Nat.reduceEqDiff, Nat.reduceAdd, Int32.reduceLT, Int32.reduceLE, Int32.reduceAdd, Int32.reduceSub, Int32.reduceToNatClampNeg, ↓reduceIte, reduceCtorEq, Nat.lt_irrefl]
    have R1 := hR.top (m := S 14 0 - 1) (by omega)
    have F1 : FrM w (w.set 59 (.inr (7, [.ref 160, .ref 161, .ref 162, .ref 163, .ref 164, .int (wn w 59 5), .ref 165, .ref 166, .ref 167, .ref 168, .ref 169, .ref 170, .int (wn w 59 12), .int (wn w 59 13), .int (wn w 59 14), .int (wn w 59 15), .int (wn w 59 16), .int (wn w 59 17), .int (wn w 59 18), .int (wn w 59 19), .int (wn w 59 20), .ref 171, .ref 172, .ref 173, .int (nI (S 14 0 - 1)), .int (wn w 59 25)]))) := FrM.k59 hS_w
    generalize (w.set 59 (.inr (7, [.ref 160, .ref 161, .ref 162, .ref 163, .ref 164, .int (wn w 59 5), .ref 165, .ref 166, .ref 167, .ref 168, .ref 169, .ref 170, .int (wn w 59 12), .int (wn w 59 13), .int (wn w 59 14), .int (wn w 59 15), .int (wn w 59 16), .int (wn w 59 17), .int (wn w 59 18), .int (wn w 59 19), .int (wn w 59 20), .ref 171, .ref 172, .ref 173, .int (nI (S 14 0 - 1)), .int (wn w 59 25)]))) = w1 at R1 F1
    have hS_w1 := R1.1
    have t24_w1 := R1.2.2.2.2.2.2.2.1.1
    have t5_w1 : wn w1 59 5 = nI (S 10 1) := R1.2.2.2.1.1
    have gt_w1 := R1.2.2.2.1.2 t ht
    have g65_w1 := gt_w1.1
    have g66_w1 : wi w1 66 t = nI (S 5 t) := gt_w1.2.1
    have g67_w1 : wi w1 67 t = nI (S 6 t) := gt_w1.2.2.1
    have g68_w1 : wi w1 68 t = nI (S 7 t) := gt_w1.2.2.2.1
    have g69_w1 : wi w1 69 t = nI (S 8 t) := gt_w1.2.2.2.2
    have nw_w1 : NwM w1 S := R1.2.1
    have sc_w1 : ScM w1 S := R1.2.2.2.2.1
    have pu_w1 := fun Q => pu_M (X := X) (Q := Q) (c := 20) hS_w1 (by decide)
    have pv : s_pu 20 = 0 := rfl
    rw [pv] at pu_w1
    simp (decide := true) only [r75_134, r75_135, r75_136, r75_139, pu_w1, sh59 hS_w1, sm_wp_some, sm_wp_none, sm_at, sm_get, sm_fld, sm_pfl, sm_cN, sm_ai, sm_al, sm_si, sm_slg, sm_aa, List.getElem?_cons_zero, List.getElem?_cons_succ, List.set_cons_zero, List.set_cons_succ, List.length_cons, List.length_nil, Option.toList_some, Option.toList_none, List.cons_append, List.nil_append, if_true, if_false, true_and, and_true, Option.some.injEq, gs_o, gs_s, List.length_set, pk_us, Nat.reduceLT, Nat.reduceLeDiff, Nat.reduceSub, Nat.reduceEqDiff, Nat.reduceAdd, Int32.reduceLT, Int32.reduceLE, Int32.reduceAdd, Int32.reduceSub, Int32.reduceToNatClampNeg, ↓reduceIte, reduceCtorEq, Nat.lt_irrefl]
    have at_w1 : wn w1 59 13 = nI (S 14 1) := R1.2.2.2.2.2.2.2.2
    have a1_w1 : nI (S 14 1) + 1 = nI (S 14 1 + 1) := nI_1 _
    simp (decide := true) only [r75_157, r75_158, r75_160, r75_169, r75_170, r75_172, r75_187, r75_188, r75_189, r75_192, r75_193, r75_194, at_w1, a1_w1, Option.toList_none, sh59 hS_w1, sm_wp_some, sm_wp_none, sm_at, sm_get, sm_fld, sm_pfl, sm_cN, sm_ai, sm_al, sm_si, sm_slg, sm_aa, List.getElem?_cons_zero, List.getElem?_cons_succ, List.set_cons_zero, List.set_cons_succ, List.length_cons, List.length_nil, Option.toList_some, Option.toList_none, List.cons_append, List.nil_append, if_true, if_false, true_and, and_true, Option.some.injEq, gs_o, gs_s, List.length_set, pk_us, Nat.reduceLT, Nat.reduceLeDiff, Nat.reduceSub, Nat.reduceEqDiff, Nat.reduceAdd, Int32.reduceLT, Int32.reduceLE, Int32.reduceAdd, Int32.reduceSub, Int32.reduceToNatClampNeg, ↓reduceIte, reduceCtorEq, Nat.lt_irrefl]
    have R3 := R1.at (q' := S 14 1 + 1)
    have F3 : FrM w1 (w1.set 59 (.inr (7, [.ref 160, .ref 161, .ref 162, .ref 163, .ref 164, .int (wn w1 59 5), .ref 165, .ref 166, .ref 167, .ref 168, .ref 169, .ref 170, .int (wn w1 59 12), .int (nI (S 14 1 + 1)), .int (wn w1 59 14), .int (wn w1 59 15), .int (wn w1 59 16), .int (wn w1 59 17), .int (wn w1 59 18), .int (wn w1 59 19), .int (wn w1 59 20), .ref 171, .ref 172, .ref 173, .int (wn w1 59 24), .int (wn w1 59 25)]))) := FrM.k59 hS_w1
    generalize (w1.set 59 (.inr (7, [.ref 160, .ref 161, .ref 162, .ref 163, .ref 164, .int (wn w1 59 5), .ref 165, .ref 166, .ref 167, .ref 168, .ref 169, .ref 170, .int (wn w1 59 12), .int (nI (S 14 1 + 1)), .int (wn w1 59 14), .int (wn w1 59 15), .int (wn w1 59 16), .int (wn w1 59 17), .int (wn w1 59 18), .int (wn w1 59 19), .int (wn w1 59 20), .ref 171, .ref 172, .ref 173, .int (wn w1 59 24), .int (wn w1 59 25)]))) = w3 at R3 F3
    have hS_w3 := R3.1
    have t24_w3 := R3.2.2.2.2.2.2.2.1.1
    have t5_w3 : wn w3 59 5 = nI (S 10 1) := R3.2.2.2.1.1
    have gt_w3 := R3.2.2.2.1.2 t ht
    have g65_w3 := gt_w3.1
    have g66_w3 : wi w3 66 t = nI (S 5 t) := gt_w3.2.1
    have g67_w3 : wi w3 67 t = nI (S 6 t) := gt_w3.2.2.1
    have g68_w3 : wi w3 68 t = nI (S 7 t) := gt_w3.2.2.2.1
    have g69_w3 : wi w3 69 t = nI (S 8 t) := gt_w3.2.2.2.2
    have nw_w3 : NwM w3 S := R3.2.1
    have sc_w3 : ScM w3 S := R3.2.2.2.2.1
    simp (decide := true) only [r75_197, r75_198, r75_200, r75_203, r75_204, r75_206, r75_209, r75_211, r75_212, r75_213, r75_216, r75_217, r75_218, r75_221, r75_222, r75_224, r75_227, r75_228, r75_231, r75_233, r75_234, r75_237, r75_238, r75_239, r75_240, r75_241, r75_242, r75_243, r75_244, r75_246, r75_247, r75_248, r75_250, r75_253, r75_254, r75_257, r75_258, r75_259, r75_262, r75_263, r75_264, r75_266, r75_267, r75_270, r75_272, r75_273, r75_274, r75_276, r75_279, r75_280, r75_283, r75_284, r75_285, r75_286, r75_287, r75_288, r75_290, r75_291, r75_292, r75_294, r75_297, r75_298, r75_301, r75_302, r75_305, r75_307, r75_308, r75_309, r75_310, r75_313, r75_314, r75_315, r75_318, r75_319, r75_321, r75_324, r75_325, r75_326, r75_329, r75_330, sm_wp_some, sm_wp_none, sm_at, sm_get, sm_fld, sm_pfl, sm_cN, sm_ai, sm_al, sm_si, sm_slg, sm_aa, List.getElem?_cons_zero, List.getElem?_cons_succ, List.set_cons_zero, List.set_cons_succ, List.length_cons, List.length_nil, Option.toList_some, Option.toList_none, List.cons_append, List.nil_append, if_true, if_false, true_and, and_true, Option.some.injEq, gs_o, gs_s, List.length_set, pk_us, Nat.reduceLT, Nat.reduceLeDiff, Nat.reduceSub, Nat.reduceEqDiff, Nat.reduceAdd, Int32.reduceLT, Int32.reduceLE, Int32.reduceAdd, Int32.reduceSub, Int32.reduceToNatClampNeg, ↓reduceIte, reduceCtorEq, Nat.lt_irrefl]
    exact hQ w3 ⟨(F1.tr F3), fun _ => R3, fun h => absurd rfl h⟩
  · have e5 : s_do S t a y ys x xs 20 = (3, S) := if_neg e
    rw [e5] at hQ
    have d0 : lg_cmp (lN y) 0 = 0 := (lc_z0 (by omega)).mpr (by omega)
    simp (decide := true) only [r75_73, r75_74, r75_75, r75_76, r75_77, r75_79, r75_81, r75_84, r75_87, r75_88, r78_0, r78_1, r78_3, r78_6, r78_7, r78_9, r78_12, r78_14, r78_15, r78_18, r78_19, r78_20, r78_23, r78_24, r78_27, r78_29, r78_30, r78_31, r78_34, r78_35, r78_38, r78_39 (s0 := 0) (Or.inl rfl), r78_39 (s0 := 1) (Or.inr rfl), r78_40, r78_41, r78_43, r78_46, r78_48, r78_50, r78_51, r78_54, r78_55, r78_58, r78_59, r78_62, r78_63 (s0 := 0) (Or.inl rfl), r78_63 (s0 := 1) (Or.inr rfl), r78_64, r78_65, r78_67, r78_70, r78_72, r78_74, r78_75, r78_78, r78_79, r78_82, r78_83 (s0 := 0) (Or.inl rfl), r78_83 (s0 := 1) (Or.inr rfl), r78_84, r78_85, r78_87, r78_90, r78_92, r78_94, r78_95, r78_98, r78_99, r78_102, r78_103, r78_106, r78_107 (s0 := 0) (Or.inl rfl), r78_107 (s0 := 1) (Or.inr rfl), r78_108, r78_109, r78_111, r78_114, r78_115, r78_117, r78_120, r78_121, r78_123, r78_126, r78_128, r78_129, r78_130, r78_133, r78_134, r78_137, r78_138 (s0 := 0) (Or.inl rfl), r78_138 (s0 := 1) (Or.inr rfl), r78_139, r78_140, r78_142, r78_145, r78_146, r78_149, r78_150, r78_151, r78_154, r78_155, r78_156, r78_158, r78_161, r78_162, r78_163, r78_164, r78_167, r78_168, r78_171, r78_172 (s0 := 0) (Or.inl rfl), r78_172 (s0 := 1) (Or.inr rfl), r78_173, r78_174, r78_176, r78_179, r78_180, r78_183, r78_184, r78_185, r78_188, r78_189, r78_190, r78_192, r78_195, r78_196, r78_197, r78_198, r78_201, r78_202, r78_205, r78_206 (s0 := 0) (Or.inl rfl), r78_206 (s0 := 1) (Or.inr rfl), r78_207, r78_208, r78_210, r78_213, r78_215, r78_216, r78_217, r78_218, r78_221, r78_222, r78_225, r78_227, r78_228, r78_229, r78_232, r78_233, r78_236, r78_237 (s0 := 0) (Or.inl rfl), r78_237 (s0 := 1) (Or.inr rfl), r79_0, r79_2, r79_3, r79_5, r79_6, r79_7, r79_10, r79_11, r79_12, r79_13, r79_14, pu_w, t24_w, d0, t5_w, g66_w, g67_w, g68_w, g69_w, v1, v2, sh59 hS_w, sh60 hS_w, sh65 hS_w, sh66 hS_w, sh67 hS_w, sh68 hS_w, sh69 hS_w, sh70 hS_w, sh72 hS_w, sh73 hS_w, sm_wp_some, sm_wp_none, sm_at, sm_get, sm_fld, sm_pfl, sm_cN, sm_ai, sm_al, sm_si, sm_slg, sm_aa, List.getElem?_cons_zero, List.getElem?_cons_succ, List.set_cons_zero, List.set_cons_succ, List.length_cons, List.length_nil, Option.toList_some, Option.toList_none, List.cons_append, List.nil_append, if_true, if_false, true_and, and_true, Option.some.injEq, gs_o, gs_s, List.length_set, pk_us, Nat.reduceLT, Nat.reduceLeDiff, Nat.reduceSub, Nat.reduceEqDiff, Nat.reduceAdd, Int32.reduceLT, Int32.reduceLE, Int32.reduceAdd, Int32.reduceSub, Int32.reduceToNatClampNeg, ↓reduceIte, reduceCtorEq, Nat.lt_irrefl]
    exact hQ w ⟨FrM.rf w, fun h => absurd h (by omega), fun _ => ⟨hR.rf, hR.2.2.2.2.2.2.2.2⟩⟩
theorem px_21 {X : sm_X} {w : sm_W} {Q : Option Value → sm_W → Prop} {S : sm_S} {T t a y ys x xs : Nat} (hR : RnM T w S (S 14 1)) (hB : RnB T S t) (hn : 0 ≤ S 14 0) (hf : a < 4) (hQ : ∀ w', AfM T w w' (S 14 1) (s_do S t a y ys x xs 21) → Q (some (.int (nI (s_do S t a y ys x xs 21).1))) w') : sm_R X 75 73 [.ref 159, .int (nI 21), .int (nI a), .int (nI t), .int (nI 0), .long 0, sm_J, .long 0, sm_J] [] w Q := by
  have hB' := hB
  obtain ⟨bB, bP, bG, bS, ⟨ht, hk⟩, ⟨h8, hE⟩, hq32, h80, hcs, hst, hen, hT1, hT2, hT3⟩ := hB'
  have h4 : S 10 1 ≤ 4 := bG.1
  have ht4 : t < 4 := by omega
  have bt := bG.2 t ht
  have hp6 : S 6 t < 4 := bt.2.2.2.1 hk
  have v1 : sm_in (nI t) 4 = true := sm_in_nI ht4 (by decide)
  have v2 : (nI t).toNatClampNeg = t := nI_clamp (by omega)
  have hS_w := hR.1
  have t24_w := hR.2.2.2.2.2.2.2.1.1
  have t5_w : wn w 59 5 = nI (S 10 1) := hR.2.2.2.1.1
  have gt_w := hR.2.2.2.1.2 t ht
  have g65_w := gt_w.1
  have g66_w : wi w 66 t = nI (S 5 t) := gt_w.2.1
  have g67_w : wi w 67 t = nI (S 6 t) := gt_w.2.2.1
  have g68_w : wi w 68 t = nI (S 7 t) := gt_w.2.2.2.1
  have g69_w : wi w 69 t = nI (S 8 t) := gt_w.2.2.2.2
  have nw_w : NwM w S := hR.2.1
  have sc_w : ScM w S := hR.2.2.2.2.1
  have pu_w := fun Q => pu_M (X := X) (Q := Q) (c := 21) hS_w (by decide)
  have pv : s_pu 21 = 1 := rfl
  rw [pv] at pu_w
  have ta : nI (S 14 0) - nI 0 = nI (S 14 0 - 0) := pk_sub (b := 0) (by omega)
  have ha4 : a < 4 := hf
  have p1 : nI (S 6 t) * 4 = nI (S 6 t * 4) := pk_mul _ 4
  have p2 : 6 + nI (S 6 t * 4) = nI (6 + S 6 t * 4) := nI_add 6 _
  have p3 : nI (6 + S 6 t * 4) + nI a = nI (6 + S 6 t * 4 + a) := nI_add _ _
  have p4 : sm_in (nI (6 + S 6 t * 4 + a)) 94 = true := sm_in_nI (by omega) (by decide)
  have p5 : (nI (6 + S 6 t * 4 + a)).toNatClampNeg = 6 + S 6 t * 4 + a := nI_clamp (by omega)
  by_cases e8 : 8 ≤ S 14 0
  · have e5 : s_do S t a y ys x xs 21 = (1, S) := if_pos e8
    rw [e5] at hQ
    have tb : nI (S 14 0 - 0) + 1 = nI (S 14 0 - 0 + 1) := nI_1 _
    have tc : ¬ nI (S 14 0 - 0 + 1) ≤ 8 := nI_ge (a := 8) (by omega) (by omega)
    simp (decide := true) only [r75_73, r75_74, r75_75, r75_76, r75_77, r75_79, r75_81, r75_84, r75_87, r75_88, r75_89, r75_90, r75_91, r75_94, r75_97, r75_98, r75_101, r75_103, r75_104, r75_105, r75_107, r75_110, r75_111, r75_114, r75_115, r75_116, r75_118, r75_121, r75_122, r78_0, r78_1, r78_3, r78_6, r78_7, r78_9, r78_12, r78_14, r78_15, r78_18, r78_19, r78_20, r78_23, r78_24, r78_27, r78_29, r78_30, r78_31, r78_34, r78_35, r78_38, r78_39 (s0 := 0) (Or.inl rfl), r78_39 (s0 := 1) (Or.inr rfl), r78_40, r78_41, r78_43, r78_46, r78_48, r78_50, r78_51, r78_54, r78_55, r78_58, r78_59, r78_62, r78_63 (s0 := 0) (Or.inl rfl), r78_63 (s0 := 1) (Or.inr rfl), r78_64, r78_65, r78_67, r78_70, r78_72, r78_74, r78_75, r78_78, r78_79, r78_82, r78_83 (s0 := 0) (Or.inl rfl), r78_83 (s0 := 1) (Or.inr rfl), r78_84, r78_85, r78_87, r78_90, r78_92, r78_94, r78_95, r78_98, r78_99, r78_102, r78_103, r78_106, r78_107 (s0 := 0) (Or.inl rfl), r78_107 (s0 := 1) (Or.inr rfl), r78_108, r78_109, r78_111, r78_114, r78_115, r78_117, r78_120, r78_121, r78_123, r78_126, r78_128, r78_129, r78_130, r78_133, r78_134, r78_137, r78_138 (s0 := 0) (Or.inl rfl), r78_138 (s0 := 1) (Or.inr rfl), r78_139, r78_140, r78_142, r78_145, r78_146, r78_149, r78_150, r78_151, r78_154, r78_155, r78_156, r78_158, r78_161, r78_162, r78_163, r78_164, r78_167, r78_168, r78_171, r78_172 (s0 := 0) (Or.inl rfl), r78_172 (s0 := 1) (Or.inr rfl), r78_173, r78_174, r78_176, r78_179, r78_180, r78_183, r78_184, r78_185, r78_188, r78_189, r78_190, r78_192, r78_195, r78_196, r78_197, r78_198, r78_201, r78_202, r78_205, r78_206 (s0 := 0) (Or.inl rfl), r78_206 (s0 := 1) (Or.inr rfl), r78_207, r78_208, r78_210, r78_213, r78_215, r78_216, r78_217, r78_218, r78_221, r78_222, r78_225, r78_227, r78_228, r78_229, r78_232, r78_233, r78_236, r78_237 (s0 := 0) (Or.inl rfl), r78_237 (s0 := 1) (Or.inr rfl), r79_0, r79_2, r79_3, r79_5, r79_6, r79_7, r79_10, r79_11, r79_12, r79_13, r79_14, pu_w, t24_w, ta, tb, tc, t5_w, g66_w, g67_w, g68_w, g69_w, v1, v2, sh59 hS_w, sh60 hS_w, sh65 hS_w, sh66 hS_w, sh67 hS_w, sh68 hS_w, sh69 hS_w, sh70 hS_w, sh72 hS_w, sh73 hS_w, sm_wp_some, sm_wp_none, sm_at, sm_get, sm_fld, sm_pfl, sm_cN, sm_ai, sm_al, sm_si, sm_slg, sm_aa, List.getElem?_cons_zero, List.getElem?_cons_succ, List.set_cons_zero, List.set_cons_succ, List.length_cons, List.length_nil, Option.toList_some, Option.toList_none, List.cons_append, List.nil_append, if_true, if_false, true_and, and_true, Option.some.injEq, gs_o, gs_s, List.length_set, pk_us, Nat.reduceLT, Nat.reduceLeDiff, Nat.reduceSub, Nat.reduceEqDiff, Nat.reduceAdd, Int32.reduceLT, Int32.reduceLE, Int32.reduceAdd, Int32.reduceSub, Int32.reduceToNatClampNeg, ↓reduceIte, reduceCtorEq, Nat.lt_irrefl]
    exact hQ w ⟨FrM.rf w, fun h => absurd h (by omega), fun _ => ⟨hR.rf, hR.2.2.2.2.2.2.2.2⟩⟩
  · have e5 : s_do S t a y ys x xs 21 = (0, s_psh S 0 1 (S 0 (6 + S 6 t * 4 + a))) := if_neg e8
    rw [e5] at hQ
    have tb : nI (S 14 0 - 0) + 1 = nI (S 14 0 - 0 + 1) := nI_1 _
    have tc : nI (S 14 0 - 0 + 1) ≤ 8 := nI_le (b := 8) (by omega) (by decide)
    simp (decide := true) only [r75_73, r75_74, r75_75, r75_76, r75_77, r75_79, r75_81, r75_84, r78_0, r78_1, r78_3, r78_6, r78_7, r78_9, r78_12, r78_14, r78_15, r78_18, r78_19, r78_20, r78_23, r78_24, r78_27, r78_29, r78_30, r78_31, r78_34, r78_35, r78_38, r78_39 (s0 := 0) (Or.inl rfl), r78_39 (s0 := 1) (Or.inr rfl), r78_40, r78_41, r78_43, r78_46, r78_48, r78_50, r78_51, r78_54, r78_55, r78_58, r78_59, r78_62, r78_63 (s0 := 0) (Or.inl rfl), r78_63 (s0 := 1) (Or.inr rfl), r78_64, r78_65, r78_67, r78_70, r78_72, r78_74, r78_75, r78_78, r78_79, r78_82, r78_83 (s0 := 0) (Or.inl rfl), r78_83 (s0 := 1) (Or.inr rfl), r78_84, r78_85, r78_87, r78_90, r78_92, r78_94, r78_95, r78_98, r78_99, r78_102, r78_103, r78_106, r78_107 (s0 := 0) (Or.inl rfl), r78_107 (s0 := 1) (Or.inr rfl), r78_108, r78_109, r78_111, r78_114, r78_115, r78_117, r78_120, r78_121, r78_123, r78_126, r78_128, r78_129, r78_130, r78_133, r78_134, r78_137, r78_138 (s0 := 0) (Or.inl rfl), r78_138 (s0 := 1) (Or.inr rfl), r78_139, r78_140, r78_142, r78_145, r78_146, r78_149, r78_150, r78_151, r78_154, r78_155, r78_156, r78_158, r78_161, r78_162, r78_163, r78_164, r78_167, r78_168, r78_171, r78_172 (s0 := 0) (Or.inl rfl), r78_172 (s0 := 1) (Or.inr rfl), r78_173, r78_174, r78_176, r78_179, r78_180, r78_183, r78_184, r78_185, r78_188, r78_189, r78_190, r78_192, r78_195, r78_196, r78_197, r78_198, r78_201, r78_202, r78_205, r78_206 (s0 := 0) (Or.inl rfl), r78_206 (s0 := 1) (Or.inr rfl), r78_207, r78_208, r78_210, r78_213, r78_215, r78_216, r78_217, r78_218, r78_221, r78_222, r78_225, r78_227, r78_228, r78_229, r78_232, r78_233, r78_236, r78_237 (s0 := 0) (Or.inl rfl), r78_237 (s0 := 1) (Or.inr rfl), r79_0, r79_2, r79_3, r79_5, r79_6, r79_7, r79_10, r79_11, r79_12, r79_13, r79_14, t5_w, g66_w, g67_w, g68_w, g69_w, v1, v2, sh59 hS_w, sh60 hS_w, sh65 hS_w, sh66 hS_w, sh67 hS_w, sh68 hS_w, sh69 hS_w, sh70 hS_w, sh72 hS_w, sh73 hS_w, sm_wp_some, sm_wp_none, sm_at, sm_get, sm_fld, sm_pfl, sm_cN, sm_ai, sm_al, sm_si, sm_slg, sm_aa, List.getElem?_cons_zero, List.getElem?_cons_succ, List.set_cons_zero, List.set_cons_succ, List.length_cons, List.length_nil, Option.toList_some, Option.toList_none, List.cons_append, List.nil_append, if_true, if_false, true_and, and_true, Option.some.injEq, gs_o, gs_s, List.length_set, pk_us, Nat.reduceLT, Nat.reduceLeDiff, Nat.reduceSub, Nat.reduceEqDiff, Nat.reduceAdd, Int32.reduceLT, Int32.reduceLE, Int32.reduceAdd, Int32.reduceSub, Int32.reduceToNatClampNeg, ↓reduceIte, reduceCtorEq, Nat.lt_irrefl]
    simp (decide := true) only [r75_89, r75_90, r75_91, r75_94, r75_97, r75_98, r75_101, r75_103, r75_104, r75_105, r75_107, r75_110, r75_111, r75_114, r75_115, r75_116, r75_118, r75_121, r75_122, r75_123, r75_124, r75_125, r75_128, r75_130, r75_131, pu_w, t24_w, ta, tb, tc, sh59 hS_w, sh60 hS_w, sh65 hS_w, sh66 hS_w, sh67 hS_w, sh68 hS_w, sh69 hS_w, sh70 hS_w, sh72 hS_w, sh73 hS_w, sm_wp_some, sm_wp_none, sm_at, sm_get, sm_fld, sm_pfl, sm_cN, sm_ai, sm_al, sm_si, sm_slg, sm_aa, List.getElem?_cons_zero, List.getElem?_cons_succ, List.set_cons_zero, List.set_cons_succ, List.length_cons, List.length_nil, Option.toList_some, Option.toList_none, List.cons_append, List.nil_append, if_true, if_false, true_and, and_true, Option.some.injEq, gs_o, gs_s, List.length_set, pk_us, Nat.reduceLT, Nat.reduceLeDiff, Nat.reduceSub, Nat.reduceEqDiff, Nat.reduceAdd, Int32.reduceLT, Int32.reduceLE, Int32.reduceAdd, Int32.reduceSub, Int32.reduceToNatClampNeg, ↓reduceIte, reduceCtorEq, Nat.lt_irrefl]
    have R1 := hR.top (m := S 14 0 - 0) (by omega)
    have F1 : FrM w (w.set 59 (.inr (7, [.ref 160, .ref 161, .ref 162, .ref 163, .ref 164, .int (wn w 59 5), .ref 165, .ref 166, .ref 167, .ref 168, .ref 169, .ref 170, .int (wn w 59 12), .int (wn w 59 13), .int (wn w 59 14), .int (wn w 59 15), .int (wn w 59 16), .int (wn w 59 17), .int (wn w 59 18), .int (wn w 59 19), .int (wn w 59 20), .ref 171, .ref 172, .ref 173, .int (nI (S 14 0 - 0)), .int (wn w 59 25)]))) := FrM.k59 hS_w
    generalize (w.set 59 (.inr (7, [.ref 160, .ref 161, .ref 162, .ref 163, .ref 164, .int (wn w 59 5), .ref 165, .ref 166, .ref 167, .ref 168, .ref 169, .ref 170, .int (wn w 59 12), .int (wn w 59 13), .int (wn w 59 14), .int (wn w 59 15), .int (wn w 59 16), .int (wn w 59 17), .int (wn w 59 18), .int (wn w 59 19), .int (wn w 59 20), .ref 171, .ref 172, .ref 173, .int (nI (S 14 0 - 0)), .int (wn w 59 25)]))) = w1 at R1 F1
    have hS_w1 := R1.1
    have t24_w1 := R1.2.2.2.2.2.2.2.1.1
    have t5_w1 : wn w1 59 5 = nI (S 10 1) := R1.2.2.2.1.1
    have gt_w1 := R1.2.2.2.1.2 t ht
    have g65_w1 := gt_w1.1
    have g66_w1 : wi w1 66 t = nI (S 5 t) := gt_w1.2.1
    have g67_w1 : wi w1 67 t = nI (S 6 t) := gt_w1.2.2.1
    have g68_w1 : wi w1 68 t = nI (S 7 t) := gt_w1.2.2.2.1
    have g69_w1 : wi w1 69 t = nI (S 8 t) := gt_w1.2.2.2.2
    have nw_w1 : NwM w1 S := R1.2.1
    have sc_w1 : ScM w1 S := R1.2.2.2.2.1
    have pu_w1 := fun Q => pu_M (X := X) (Q := Q) (c := 21) hS_w1 (by decide)
    have pv : s_pu 21 = 1 := rfl
    rw [pv] at pu_w1
    have p6 := nw_w1 (6 + S 6 t * 4 + a) (by omega)
    have vs : sm_sw (nI 21).toInt 0 [124, 127, 132, 154, 164, 170, 173, 183, 195, 201, 207, 213, 230, 244, 258, 271, 336, 336, 336, 336, 336, 274, 336, 293, 336, 312, 325] 336 = 274 := by decide
    simp (decide := true) only [r75_134, r75_135, r75_136, r75_139, r75_142, r75_143, r75_144, r75_145, r75_146, r75_147, r75_149, r75_151, r75_154, r81_0, r81_1, r81_124, r81_125, r81_126, r81_127, r81_128, r81_129, r81_130, r81_131, r81_132, r81_133, r81_136, r81_137, r81_140, r81_141, r81_142, r81_143, r81_146, r81_147, r81_150, r81_151, r81_152, r81_153, r81_154, r81_155, r81_156, r81_159, r81_160, r81_161, r81_162, r81_163, r81_164, r81_165, r81_168, r81_169, r81_170, r81_171, r81_172, r81_173, r81_174, r81_177, r81_179, r81_180, r81_181, r81_182, r81_183, r81_184, r81_185, r81_188, r81_190, r81_191, r81_192, r81_193, r81_194, r81_195, r81_197, r81_199, r81_200, r81_201, r81_203, r81_205, r81_206, r81_207, r81_209, r81_211, r81_212, r81_213, r81_215, r81_216, r81_217, r81_220, r81_221, r81_224, r81_226, r81_228, r81_229, r81_230, r81_232, r81_234, r81_235, r81_238, r81_239, r81_242, r81_243, r81_244, r81_246, r81_248, r81_249, r81_252, r81_253, r81_256, r81_257, r81_258, r81_260, r81_261, r81_262, r81_265, r81_266, r81_269, r81_270, r81_271, r81_273, r81_274, r81_275, r81_278, r81_280, r81_281, r81_284, r81_285, r81_286, r81_287, r81_288, r81_289, r81_290, r81_291, r81_292, r81_293, r81_294, r81_297, r81_298, r81_299, r81_302, r81_303, r81_304, r81_306, r81_307, r81_310, r81_311, r81_312, r81_313, r81_316, r81_319, r81_321, r81_322, r81_323, r81_324, r81_325, r81_326, r81_329, r81_330, r81_331, r81_332, r81_333, r81_334, r81_335, r81_336, r81_337, r81_340, r81_342, r81_343, r81_344, r81_345, r81_346, r81_347, r81_348, r82_0, r82_2, r82_3, r82_5, r82_6, r82_7, r82_10, r82_11, r82_12, r82_13, r82_14, r82_15, r82_16, r82_18, r82_19, pu_w1, vs, p1, p2, p3, p4, p5, p6, t5_w1, g66_w1, g67_w1, g68_w1, g69_w1, v1, v2, sh59 hS_w1, sh60 hS_w1, sh65 hS_w1, sh66 hS_w1, sh67 hS_w1, sh68 hS_w1, sh69 hS_w1, sh70 hS_w1, sh72 hS_w1, sh73 hS_w1, sm_wp_some, sm_wp_none, sm_at, sm_get, sm_fld, sm_pfl, sm_cN, sm_ai, sm_al, sm_si, sm_slg, sm_aa, List.getElem?_cons_zero, List.getElem?_cons_succ, List.set_cons_zero, List.set_cons_succ, List.length_cons, List.length_nil, Option.toList_some, Option.toList_none, List.cons_append, List.nil_append, if_true, if_false, true_and, and_true, Option.some.injEq, gs_o, gs_s, List.length_set, pk_us, Nat.reduceLT, Nat.reduceLeDiff, Nat.reduceSub, Nat.reduceEqDiff, Nat.reduceAdd, Int32.reduceLT, Int32.reduceLE, Int32.reduceAdd, Int32.reduceSub, Int32.reduceToNatClampNeg, ↓reduceIte, reduceCtorEq, Nat.lt_irrefl]
    rw [push_M (S := S) (m := S 14 0 - 0) (v := (lN (S 0 (6 + S 6 t * 4 + a)))) hS_w1 (by omega) t24_w1]
    have R2 : RnM T ((w1.set 73 (.inl (1, 10, .inr (.inl (vp_updL (wl w1 73) (S 14 0 - 0) (lN (S 0 (6 + S 6 t * 4 + a)))))))).set 59 (.inr (7, [.ref 160, .ref 161, .ref 162, .ref 163, .ref 164, .int (wn w1 59 5), .ref 165, .ref 166, .ref 167, .ref 168, .ref 169, .ref 170, .int (wn w1 59 12), .int (wn w1 59 13), .int (wn w1 59 14), .int (wn w1 59 15), .int (wn w1 59 16), .int (wn w1 59 17), .int (wn w1 59 18), .int (wn w1 59 19), .int (wn w1 59 20), .ref 171, .ref 172, .ref 173, .int (nI (S 14 0 - 0 + 1)), .int (wn w1 59 25)]))) (s_psh (s_up S 14 0 (S 14 0 - 0)) 0 1 (S 0 (6 + S 6 t * 4 + a))) (S 14 1) := R1.push rfl rfl
    rw [s_psh_k] at R2
    have F2 : FrM w1 ((w1.set 73 (.inl (1, 10, .inr (.inl (vp_updL (wl w1 73) (S 14 0 - 0) (lN (S 0 (6 + S 6 t * 4 + a)))))))).set 59 (.inr (7, [.ref 160, .ref 161, .ref 162, .ref 163, .ref 164, .int (wn w1 59 5), .ref 165, .ref 166, .ref 167, .ref 168, .ref 169, .ref 170, .int (wn w1 59 12), .int (wn w1 59 13), .int (wn w1 59 14), .int (wn w1 59 15), .int (wn w1 59 16), .int (wn w1 59 17), .int (wn w1 59 18), .int (wn w1 59 19), .int (wn w1 59 20), .ref 171, .ref 172, .ref 173, .int (nI (S 14 0 - 0 + 1)), .int (wn w1 59 25)]))) := FrM.push hS_w1
    generalize ((w1.set 73 (.inl (1, 10, .inr (.inl (vp_updL (wl w1 73) (S 14 0 - 0) (lN (S 0 (6 + S 6 t * 4 + a)))))))).set 59 (.inr (7, [.ref 160, .ref 161, .ref 162, .ref 163, .ref 164, .int (wn w1 59 5), .ref 165, .ref 166, .ref 167, .ref 168, .ref 169, .ref 170, .int (wn w1 59 12), .int (wn w1 59 13), .int (wn w1 59 14), .int (wn w1 59 15), .int (wn w1 59 16), .int (wn w1 59 17), .int (wn w1 59 18), .int (wn w1 59 19), .int (wn w1 59 20), .ref 171, .ref 172, .ref 173, .int (nI (S 14 0 - 0 + 1)), .int (wn w1 59 25)]))) = w2 at R2 F2
    have hS_w2 := R2.1
    have t24_w2 := R2.2.2.2.2.2.2.2.1.1
    have t5_w2 : wn w2 59 5 = nI (S 10 1) := R2.2.2.2.1.1
    have gt_w2 := R2.2.2.2.1.2 t ht
    have g65_w2 := gt_w2.1
    have g66_w2 : wi w2 66 t = nI (S 5 t) := gt_w2.2.1
    have g67_w2 : wi w2 67 t = nI (S 6 t) := gt_w2.2.2.1
    have g68_w2 : wi w2 68 t = nI (S 7 t) := gt_w2.2.2.2.1
    have g69_w2 : wi w2 69 t = nI (S 8 t) := gt_w2.2.2.2.2
    have nw_w2 : NwM w2 S := R2.2.1
    have sc_w2 : ScM w2 S := R2.2.2.2.2.1
    have at_w2 : wn w2 59 13 = nI (S 14 1) := R2.2.2.2.2.2.2.2.2
    have a1_w2 : nI (S 14 1) + 1 = nI (S 14 1 + 1) := nI_1 _
    simp (decide := true) only [r75_157, r75_158, r75_160, r75_169, r75_170, r75_172, r75_187, r75_188, r75_189, r75_192, r75_193, r75_194, at_w2, a1_w2, Option.toList_none, sh59 hS_w2, sm_wp_some, sm_wp_none, sm_at, sm_get, sm_fld, sm_pfl, sm_cN, sm_ai, sm_al, sm_si, sm_slg, sm_aa, List.getElem?_cons_zero, List.getElem?_cons_succ, List.set_cons_zero, List.set_cons_succ, List.length_cons, List.length_nil, Option.toList_some, Option.toList_none, List.cons_append, List.nil_append, if_true, if_false, true_and, and_true, Option.some.injEq, gs_o, gs_s, List.length_set, pk_us, Nat.reduceLT, Nat.reduceLeDiff, Nat.reduceSub, Nat.reduceEqDiff, Nat.reduceAdd, Int32.reduceLT, Int32.reduceLE, Int32.reduceAdd, Int32.reduceSub, Int32.reduceToNatClampNeg, ↓reduceIte, reduceCtorEq, Nat.lt_irrefl]
    have R3 := R2.at (q' := S 14 1 + 1)
    have F3 : FrM w2 (w2.set 59 (.inr (7, [.ref 160, .ref 161, .ref 162, .ref 163, .ref 164, .int (wn w2 59 5), .ref 165, .ref 166, .ref 167, .ref 168, .ref 169, .ref 170, .int (wn w2 59 12), .int (nI (S 14 1 + 1)), .int (wn w2 59 14), .int (wn w2 59 15), .int (wn w2 59 16), .int (wn w2 59 17), .int (wn w2 59 18), .int (wn w2 59 19), .int (wn w2 59 20), .ref 171, .ref 172, .ref 173, .int (wn w2 59 24), .int (wn w2 59 25)]))) := FrM.k59 hS_w2
    generalize (w2.set 59 (.inr (7, [.ref 160, .ref 161, .ref 162, .ref 163, .ref 164, .int (wn w2 59 5), .ref 165, .ref 166, .ref 167, .ref 168, .ref 169, .ref 170, .int (wn w2 59 12), .int (nI (S 14 1 + 1)), .int (wn w2 59 14), .int (wn w2 59 15), .int (wn w2 59 16), .int (wn w2 59 17), .int (wn w2 59 18), .int (wn w2 59 19), .int (wn w2 59 20), .ref 171, .ref 172, .ref 173, .int (wn w2 59 24), .int (wn w2 59 25)]))) = w3 at R3 F3
    have hS_w3 := R3.1
    have t24_w3 := R3.2.2.2.2.2.2.2.1.1
    have t5_w3 : wn w3 59 5 = nI (S 10 1) := R3.2.2.2.1.1
    have gt_w3 := R3.2.2.2.1.2 t ht
    have g65_w3 := gt_w3.1
    have g66_w3 : wi w3 66 t = nI (S 5 t) := gt_w3.2.1
    have g67_w3 : wi w3 67 t = nI (S 6 t) := gt_w3.2.2.1
    have g68_w3 : wi w3 68 t = nI (S 7 t) := gt_w3.2.2.2.1
    have g69_w3 : wi w3 69 t = nI (S 8 t) := gt_w3.2.2.2.2
    have nw_w3 : NwM w3 S := R3.2.1
    have sc_w3 : ScM w3 S := R3.2.2.2.2.1
    simp (decide := true) only [r75_197, r75_198, r75_200, r75_203, r75_204, r75_206, r75_209, r75_211, r75_212, r75_213, r75_216, r75_217, r75_218, r75_221, r75_222, r75_224, r75_227, r75_228, r75_231, r75_233, r75_234, r75_237, r75_238, r75_239, r75_240, r75_241, r75_242, r75_243, r75_244, r75_246, r75_247, r75_248, r75_250, r75_253, r75_254, r75_257, r75_258, r75_259, r75_262, r75_263, r75_264, r75_266, r75_267, r75_270, r75_272, r75_273, r75_274, r75_276, r75_279, r75_280, r75_283, r75_284, r75_285, r75_286, r75_287, r75_288, r75_290, r75_291, r75_292, r75_294, r75_297, r75_298, r75_301, r75_302, r75_305, r75_307, r75_308, r75_309, r75_310, r75_313, r75_314, r75_315, r75_318, r75_319, r75_321, r75_324, r75_325, r75_326, r75_329, r75_330, sm_wp_some, sm_wp_none, sm_at, sm_get, sm_fld, sm_pfl, sm_cN, sm_ai, sm_al, sm_si, sm_slg, sm_aa, List.getElem?_cons_zero, List.getElem?_cons_succ, List.set_cons_zero, List.set_cons_succ, List.length_cons, List.length_nil, Option.toList_some, Option.toList_none, List.cons_append, List.nil_append, if_true, if_false, true_and, and_true, Option.some.injEq, gs_o, gs_s, List.length_set, pk_us, Nat.reduceLT, Nat.reduceLeDiff, Nat.reduceSub, Nat.reduceEqDiff, Nat.reduceAdd, Int32.reduceLT, Int32.reduceLE, Int32.reduceAdd, Int32.reduceSub, Int32.reduceToNatClampNeg, ↓reduceIte, reduceCtorEq, Nat.lt_irrefl]
    exact hQ w3 ⟨((F1.tr F2).tr F3), fun _ => R3, fun h => absurd rfl h⟩
theorem px_22 {X : sm_X} {w : sm_W} {Q : Option Value → sm_W → Prop} {S : sm_S} {T t a y ys x xs : Nat} (hR : RnM T w S (S 14 1)) (hB : RnB T S t) (hn : 1 ≤ S 14 0) (hy : y < 2 ^ 31) (hf : a < 4) (hQ : ∀ w', AfM T w w' (S 14 1) (s_do S t a y ys x xs 22) → Q (some (.int (nI (s_do S t a y ys x xs 22).1))) w') : sm_R X 75 73 [.ref 159, .int (nI 22), .int (nI a), .int (nI t), .int (nI 1), .long (lN y), sm_J, .long 0, sm_J] [] w Q := by
  have hB' := hB
  obtain ⟨bB, bP, bG, bS, ⟨ht, hk⟩, ⟨h8, hE⟩, hq32, h80, hcs, hst, hen, hT1, hT2, hT3⟩ := hB'
  have h4 : S 10 1 ≤ 4 := bG.1
  have ht4 : t < 4 := by omega
  have bt := bG.2 t ht
  have hp6 : S 6 t < 4 := bt.2.2.2.1 hk
  have v1 : sm_in (nI t) 4 = true := sm_in_nI ht4 (by decide)
  have v2 : (nI t).toNatClampNeg = t := nI_clamp (by omega)
  have hS_w := hR.1
  have t24_w := hR.2.2.2.2.2.2.2.1.1
  have t5_w : wn w 59 5 = nI (S 10 1) := hR.2.2.2.1.1
  have gt_w := hR.2.2.2.1.2 t ht
  have g65_w := gt_w.1
  have g66_w : wi w 66 t = nI (S 5 t) := gt_w.2.1
  have g67_w : wi w 67 t = nI (S 6 t) := gt_w.2.2.1
  have g68_w : wi w 68 t = nI (S 7 t) := gt_w.2.2.2.1
  have g69_w : wi w 69 t = nI (S 8 t) := gt_w.2.2.2.2
  have nw_w : NwM w S := hR.2.1
  have sc_w : ScM w S := hR.2.2.2.2.1
  have pu_w := fun Q => pu_M (X := X) (Q := Q) (c := 22) hS_w (by decide)
  have pv : s_pu 22 = 0 := rfl
  rw [pv] at pu_w
  have ta : nI (S 14 0) - nI 1 = nI (S 14 0 - 1) := pk_sub (b := 1) (by omega)
  have ha4 : a < 4 := hf
  have p1 : nI (S 6 t) * 4 = nI (S 6 t * 4) := pk_mul _ 4
  have p2 : 6 + nI (S 6 t * 4) = nI (6 + S 6 t * 4) := nI_add 6 _
  have p3 : nI (6 + S 6 t * 4) + nI a = nI (6 + S 6 t * 4 + a) := nI_add _ _
  have p4 : sm_in (nI (6 + S 6 t * 4 + a)) 94 = true := sm_in_nI (by omega) (by decide)
  have p5 : (nI (6 + S 6 t * 4 + a)).toNatClampNeg = 6 + S 6 t * 4 + a := nI_clamp (by omega)
  simp (decide := true) only [r75_73, r75_74, r75_75, r75_76, r75_77, r75_79, r75_81, r75_84, r78_0, r78_1, r78_3, r78_6, r78_7, r78_9, r78_12, r78_14, r78_15, r78_18, r78_19, r78_20, r78_23, r78_24, r78_27, r78_29, r78_30, r78_31, r78_34, r78_35, r78_38, r78_39 (s0 := 0) (Or.inl rfl), r78_39 (s0 := 1) (Or.inr rfl), r78_40, r78_41, r78_43, r78_46, r78_48, r78_50, r78_51, r78_54, r78_55, r78_58, r78_59, r78_62, r78_63 (s0 := 0) (Or.inl rfl), r78_63 (s0 := 1) (Or.inr rfl), r78_64, r78_65, r78_67, r78_70, r78_72, r78_74, r78_75, r78_78, r78_79, r78_82, r78_83 (s0 := 0) (Or.inl rfl), r78_83 (s0 := 1) (Or.inr rfl), r78_84, r78_85, r78_87, r78_90, r78_92, r78_94, r78_95, r78_98, r78_99, r78_102, r78_103, r78_106, r78_107 (s0 := 0) (Or.inl rfl), r78_107 (s0 := 1) (Or.inr rfl), r78_108, r78_109, r78_111, r78_114, r78_115, r78_117, r78_120, r78_121, r78_123, r78_126, r78_128, r78_129, r78_130, r78_133, r78_134, r78_137, r78_138 (s0 := 0) (Or.inl rfl), r78_138 (s0 := 1) (Or.inr rfl), r78_139, r78_140, r78_142, r78_145, r78_146, r78_149, r78_150, r78_151, r78_154, r78_155, r78_156, r78_158, r78_161, r78_162, r78_163, r78_164, r78_167, r78_168, r78_171, r78_172 (s0 := 0) (Or.inl rfl), r78_172 (s0 := 1) (Or.inr rfl), r78_173, r78_174, r78_176, r78_179, r78_180, r78_183, r78_184, r78_185, r78_188, r78_189, r78_190, r78_192, r78_195, r78_196, r78_197, r78_198, r78_201, r78_202, r78_205, r78_206 (s0 := 0) (Or.inl rfl), r78_206 (s0 := 1) (Or.inr rfl), r78_207, r78_208, r78_210, r78_213, r78_215, r78_216, r78_217, r78_218, r78_221, r78_222, r78_225, r78_227, r78_228, r78_229, r78_232, r78_233, r78_236, r78_237 (s0 := 0) (Or.inl rfl), r78_237 (s0 := 1) (Or.inr rfl), r79_0, r79_2, r79_3, r79_5, r79_6, r79_7, r79_10, r79_11, r79_12, r79_13, r79_14, t5_w, g66_w, g67_w, g68_w, g69_w, v1, v2, sh59 hS_w, sh60 hS_w, sh65 hS_w, sh66 hS_w, sh67 hS_w, sh68 hS_w, sh69 hS_w, sh70 hS_w, sh72 hS_w, sh73 hS_w, sm_wp_some, sm_wp_none, sm_at, sm_get, sm_fld, sm_pfl, sm_cN, sm_ai, sm_al, sm_si, sm_slg, sm_aa, List.getElem?_cons_zero, List.getElem?_cons_succ, List.set_cons_zero, List.set_cons_succ, List.length_cons, List.length_nil, Option.toList_some, Option.toList_none, List.cons_append, List.nil_append, if_true, if_false, true_and, and_true, Option.some.injEq, gs_o, gs_s, List.length_set, pk_us, Nat.reduceLT, Nat.reduceLeDiff, Nat.reduceSub, Nat.reduceEqDiff, Nat.reduceAdd, Int32.reduceLT, Int32.reduceLE, Int32.reduceAdd, Int32.reduceSub, Int32.reduceToNatClampNeg, ↓reduceIte, reduceCtorEq, Nat.lt_irrefl]
  simp (decide := true) only [r75_89, r75_90, r75_91, r75_94, r75_97, r75_98, r75_101, r75_103, r75_104, r75_105, r75_107, r75_110, r75_111, r75_114, r75_115, r75_116, r75_118, r75_121, r75_122, r75_123, r75_124, r75_125, r75_128, r75_130, r75_131, pu_w, t24_w, ta, sh59 hS_w, sh60 hS_w, sh65 hS_w, sh66 hS_w, sh67 hS_w, sh68 hS_w, sh69 hS_w, sh70 hS_w, sh72 hS_w, sh73 hS_w, sm_wp_some, sm_wp_none, sm_at, sm_get, sm_fld, sm_pfl, sm_cN, sm_ai, sm_al, sm_si, sm_slg, sm_aa, List.getElem?_cons_zero, List.getElem?_cons_succ, List.set_cons_zero, List.set_cons_succ, List.length_cons, List.length_nil, Option.toList_some, Option.toList_none, List.cons_append, List.nil_append, if_true, if_false, true_and, and_true, Option.some.injEq, gs_o, gs_s, List.length_set, pk_us, Nat.reduceLT, Nat.reduceLeDiff, Nat.reduceSub, Nat.reduceEqDiff, Nat.reduceAdd, Int32.reduceLT, Int32.reduceLE, Int32.reduceAdd, Int32.reduceSub, Int32.reduceToNatClampNeg, ↓reduceIte, reduceCtorEq, Nat.lt_irrefl]
  have R1 := hR.top (m := S 14 0 - 1) (by omega)
  have F1 : FrM w (w.set 59 (.inr (7, [.ref 160, .ref 161, .ref 162, .ref 163, .ref 164, .int (wn w 59 5), .ref 165, .ref 166, .ref 167, .ref 168, .ref 169, .ref 170, .int (wn w 59 12), .int (wn w 59 13), .int (wn w 59 14), .int (wn w 59 15), .int (wn w 59 16), .int (wn w 59 17), .int (wn w 59 18), .int (wn w 59 19), .int (wn w 59 20), .ref 171, .ref 172, .ref 173, .int (nI (S 14 0 - 1)), .int (wn w 59 25)]))) := FrM.k59 hS_w
  generalize (w.set 59 (.inr (7, [.ref 160, .ref 161, .ref 162, .ref 163, .ref 164, .int (wn w 59 5), .ref 165, .ref 166, .ref 167, .ref 168, .ref 169, .ref 170, .int (wn w 59 12), .int (wn w 59 13), .int (wn w 59 14), .int (wn w 59 15), .int (wn w 59 16), .int (wn w 59 17), .int (wn w 59 18), .int (wn w 59 19), .int (wn w 59 20), .ref 171, .ref 172, .ref 173, .int (nI (S 14 0 - 1)), .int (wn w 59 25)]))) = w1 at R1 F1
  have hS_w1 := R1.1
  have t24_w1 := R1.2.2.2.2.2.2.2.1.1
  have t5_w1 : wn w1 59 5 = nI (S 10 1) := R1.2.2.2.1.1
  have gt_w1 := R1.2.2.2.1.2 t ht
  have g65_w1 := gt_w1.1
  have g66_w1 : wi w1 66 t = nI (S 5 t) := gt_w1.2.1
  have g67_w1 : wi w1 67 t = nI (S 6 t) := gt_w1.2.2.1
  have g68_w1 : wi w1 68 t = nI (S 7 t) := gt_w1.2.2.2.1
  have g69_w1 : wi w1 69 t = nI (S 8 t) := gt_w1.2.2.2.2
  have nw_w1 : NwM w1 S := R1.2.1
  have sc_w1 : ScM w1 S := R1.2.2.2.2.1
  have pu_w1 := fun Q => pu_M (X := X) (Q := Q) (c := 22) hS_w1 (by decide)
  have pv : s_pu 22 = 0 := rfl
  rw [pv] at pu_w1
  simp (decide := true) only [r75_134, r75_135, r75_136, r75_139, pu_w1, sh59 hS_w1, sm_wp_some, sm_wp_none, sm_at, sm_get, sm_fld, sm_pfl, sm_cN, sm_ai, sm_al, sm_si, sm_slg, sm_aa, List.getElem?_cons_zero, List.getElem?_cons_succ, List.set_cons_zero, List.set_cons_succ, List.length_cons, List.length_nil, Option.toList_some, Option.toList_none, List.cons_append, List.nil_append, if_true, if_false, true_and, and_true, Option.some.injEq, gs_o, gs_s, List.length_set, pk_us, Nat.reduceLT, Nat.reduceLeDiff, Nat.reduceSub, Nat.reduceEqDiff, Nat.reduceAdd, Int32.reduceLT, Int32.reduceLE, Int32.reduceAdd, Int32.reduceSub, Int32.reduceToNatClampNeg, ↓reduceIte, reduceCtorEq, Nat.lt_irrefl]
  have at_w1 : wn w1 59 13 = nI (S 14 1) := R1.2.2.2.2.2.2.2.2
  have a1_w1 : nI (S 14 1) + 1 = nI (S 14 1 + 1) := nI_1 _
  simp (decide := true) only [r75_157, r75_158, r75_160, r75_169, r75_170, r75_172, r75_187, r75_188, r75_189, r75_192, r75_193, r75_194, at_w1, a1_w1, Option.toList_none, sh59 hS_w1, sm_wp_some, sm_wp_none, sm_at, sm_get, sm_fld, sm_pfl, sm_cN, sm_ai, sm_al, sm_si, sm_slg, sm_aa, List.getElem?_cons_zero, List.getElem?_cons_succ, List.set_cons_zero, List.set_cons_succ, List.length_cons, List.length_nil, Option.toList_some, Option.toList_none, List.cons_append, List.nil_append, if_true, if_false, true_and, and_true, Option.some.injEq, gs_o, gs_s, List.length_set, pk_us, Nat.reduceLT, Nat.reduceLeDiff, Nat.reduceSub, Nat.reduceEqDiff, Nat.reduceAdd, Int32.reduceLT, Int32.reduceLE, Int32.reduceAdd, Int32.reduceSub, Int32.reduceToNatClampNeg, ↓reduceIte, reduceCtorEq, Nat.lt_irrefl]
  have R3 := R1.at (q' := S 14 1 + 1)
  have F3 : FrM w1 (w1.set 59 (.inr (7, [.ref 160, .ref 161, .ref 162, .ref 163, .ref 164, .int (wn w1 59 5), .ref 165, .ref 166, .ref 167, .ref 168, .ref 169, .ref 170, .int (wn w1 59 12), .int (nI (S 14 1 + 1)), .int (wn w1 59 14), .int (wn w1 59 15), .int (wn w1 59 16), .int (wn w1 59 17), .int (wn w1 59 18), .int (wn w1 59 19), .int (wn w1 59 20), .ref 171, .ref 172, .ref 173, .int (wn w1 59 24), .int (wn w1 59 25)]))) := FrM.k59 hS_w1
  generalize (w1.set 59 (.inr (7, [.ref 160, .ref 161, .ref 162, .ref 163, .ref 164, .int (wn w1 59 5), .ref 165, .ref 166, .ref 167, .ref 168, .ref 169, .ref 170, .int (wn w1 59 12), .int (nI (S 14 1 + 1)), .int (wn w1 59 14), .int (wn w1 59 15), .int (wn w1 59 16), .int (wn w1 59 17), .int (wn w1 59 18), .int (wn w1 59 19), .int (wn w1 59 20), .ref 171, .ref 172, .ref 173, .int (wn w1 59 24), .int (wn w1 59 25)]))) = w3 at R3 F3
  have hS_w3 := R3.1
  have t24_w3 := R3.2.2.2.2.2.2.2.1.1
  have t5_w3 : wn w3 59 5 = nI (S 10 1) := R3.2.2.2.1.1
  have gt_w3 := R3.2.2.2.1.2 t ht
  have g65_w3 := gt_w3.1
  have g66_w3 : wi w3 66 t = nI (S 5 t) := gt_w3.2.1
  have g67_w3 : wi w3 67 t = nI (S 6 t) := gt_w3.2.2.1
  have g68_w3 : wi w3 68 t = nI (S 7 t) := gt_w3.2.2.2.1
  have g69_w3 : wi w3 69 t = nI (S 8 t) := gt_w3.2.2.2.2
  have nw_w3 : NwM w3 S := R3.2.1
  have sc_w3 : ScM w3 S := R3.2.2.2.2.1
  simp (decide := true) only [r75_197, r75_198, r75_200, r75_203, r75_204, r75_206, r75_209, r75_211, r75_212, r75_213, r75_216, r75_217, r75_218, r75_221, r75_222, r75_224, r75_227, r75_228, r75_231, r75_233, r75_234, r75_237, r75_238, r75_239, r75_240, r75_241, r75_242, r75_243, r75_244, r75_246, r75_247, r75_248, r75_250, r75_253, r75_254, r75_257, r75_258, r75_259, r75_262, r75_263, r75_264, r75_266, r75_267, r75_270, r75_272, r75_273, r75_274, r75_276, r75_279, r75_280, r75_283, r75_284, r75_285, r75_286, r75_287, r75_288, r75_290, r75_291, r75_292, r75_294, r75_297, r75_298, r75_301, r75_302, r75_305, r75_307, r75_308, r75_309, r75_310, r75_313, r75_314, r75_315, r75_318, r75_319, r75_321, r75_324, r75_325, r75_326, r75_329, r75_330, p1, p2, p3, p4, p5, g66_w3, g67_w3, g68_w3, g69_w3, v1, v2, sh59 hS_w3, sh60 hS_w3, sh67 hS_w3, sm_wp_some, sm_wp_none, sm_at, sm_get, sm_fld, sm_pfl, sm_cN, sm_ai, sm_al, sm_si, sm_slg, sm_aa, List.getElem?_cons_zero, List.getElem?_cons_succ, List.set_cons_zero, List.set_cons_succ, List.length_cons, List.length_nil, Option.toList_some, Option.toList_none, List.cons_append, List.nil_append, if_true, if_false, true_and, and_true, Option.some.injEq, gs_o, gs_s, List.length_set, pk_us, Nat.reduceLT, Nat.reduceLeDiff, Nat.reduceSub, Nat.reduceEqDiff, Nat.reduceAdd, Int32.reduceLT, Int32.reduceLE, Int32.reduceAdd, Int32.reduceSub, Int32.reduceToNatClampNeg, ↓reduceIte, reduceCtorEq, Nat.lt_irrefl]
  have R4 := R3.now (j := 6 + S 6 t * 4 + a) (v := y)
  exact hQ _ ⟨(F1.tr F3).tr (FrM.set (by decide)), fun _ => R4, fun h => absurd rfl h⟩
theorem px_23 {X : sm_X} {w : sm_W} {Q : Option Value → sm_W → Prop} {S : sm_S} {T t a y ys x xs : Nat} (hR : RnM T w S (S 14 1)) (hB : RnB T S t) (hn : 1 ≤ S 14 0) (hy : y < 6) (hf : a < 2) (hQ : ∀ w', AfM T w w' (S 14 1) (s_do S t a y ys x xs 23) → Q (some (.int (nI (s_do S t a y ys x xs 23).1))) w') : sm_R X 75 73 [.ref 159, .int (nI 23), .int (nI a), .int (nI t), .int (nI 1), .long (-1 - lN y), sm_J, .long 0, sm_J] [] w Q := by
  have hB' := hB
  obtain ⟨bB, bP, bG, bS, ⟨ht, hk⟩, ⟨h8, hE⟩, hq32, h80, hcs, hst, hen, hT1, hT2, hT3⟩ := hB'
  have h4 : S 10 1 ≤ 4 := bG.1
  have ht4 : t < 4 := by omega
  have bt := bG.2 t ht
  have hp6 : S 6 t < 4 := bt.2.2.2.1 hk
  have v1 : sm_in (nI t) 4 = true := sm_in_nI ht4 (by decide)
  have v2 : (nI t).toNatClampNeg = t := nI_clamp (by omega)
  have hS_w := hR.1
  have t24_w := hR.2.2.2.2.2.2.2.1.1
  have t5_w : wn w 59 5 = nI (S 10 1) := hR.2.2.2.1.1
  have gt_w := hR.2.2.2.1.2 t ht
  have g65_w := gt_w.1
  have g66_w : wi w 66 t = nI (S 5 t) := gt_w.2.1
  have g67_w : wi w 67 t = nI (S 6 t) := gt_w.2.2.1
  have g68_w : wi w 68 t = nI (S 7 t) := gt_w.2.2.2.1
  have g69_w : wi w 69 t = nI (S 8 t) := gt_w.2.2.2.2
  have nw_w : NwM w S := hR.2.1
  have sc_w : ScM w S := hR.2.2.2.2.1
  have pu_w := fun Q => pu_M (X := X) (Q := Q) (c := 23) hS_w (by decide)
  have pv : s_pu 23 = 1 := rfl
  rw [pv] at pu_w
  have ta : nI (S 14 0) - nI 1 = nI (S 14 0 - 1) := pk_sub (b := 1) (by omega)
  have ha2 : a < 2 := hf
  have m1 : nI (S 6 t) * 6 = nI (S 6 t * 6) := pk_mul _ 6
  have m2 : 22 + nI (S 6 t * 6) = nI (22 + S 6 t * 6) := nI_add 22 _
  have m3 : (-1 - (-1 - lN y)).toInt32 = nI y := lA_i hy
  have m4 : nI (22 + S 6 t * 6) + nI y = nI (22 + S 6 t * 6 + y) := nI_add _ _
  have m5 : sm_in (nI (22 + S 6 t * 6 + y)) 94 = true := sm_in_nI (by omega) (by decide)
  have m6 : (nI (22 + S 6 t * 6 + y)).toNatClampNeg = 22 + S 6 t * 6 + y := nI_clamp (by omega)
  have m7 := nw_w (22 + S 6 t * 6 + y) (by omega)
  have m8 : lg_cmp (lN (S 0 (22 + S 6 t * 6 + y))) 1 = 0 ↔ S 0 (22 + S 6 t * 6 + y) = 1 := lc_eq (b := 1) (by have := bB.1 (22 + S 6 t * 6 + y) (by omega); omega) (by decide)
  by_cases e : S 0 (22 + S 6 t * 6 + y) = 1
  · have e5 : s_do S t a y ys x xs 23 = (0, s_psh S 1 1 (S 0 (46 + S 6 t * 12 + (y * 2 + a)))) := if_pos e
    rw [e5] at hQ
    have d1 := m8.mpr e
    have tb : nI (S 14 0 - 1) + 1 = nI (S 14 0 - 1 + 1) := nI_1 _
    have tc : nI (S 14 0 - 1 + 1) ≤ 8 := nI_le (b := 8) (by omega) (by decide)
    simp (decide := true) only [r75_73, r75_74, r75_75, r75_76, r75_77, r75_79, r75_81, r75_84, r78_0, r78_1, r78_3, r78_6, r78_7, r78_9, r78_12, r78_14, r78_15, r78_18, r78_19, r78_20, r78_23, r78_24, r78_27, r78_29, r78_30, r78_31, r78_34, r78_35, r78_38, r78_39 (s0 := 0) (Or.inl rfl), r78_39 (s0 := 1) (Or.inr rfl), r78_40, r78_41, r78_43, r78_46, r78_48, r78_50, r78_51, r78_54, r78_55, r78_58, r78_59, r78_62, r78_63 (s0 := 0) (Or.inl rfl), r78_63 (s0 := 1) (Or.inr rfl), r78_64, r78_65, r78_67, r78_70, r78_72, r78_74, r78_75, r78_78, r78_79, r78_82, r78_83 (s0 := 0) (Or.inl rfl), r78_83 (s0 := 1) (Or.inr rfl), r78_84, r78_85, r78_87, r78_90, r78_92, r78_94, r78_95, r78_98, r78_99, r78_102, r78_103, r78_106, r78_107 (s0 := 0) (Or.inl rfl), r78_107 (s0 := 1) (Or.inr rfl), r78_108, r78_109, r78_111, r78_114, r78_115, r78_117, r78_120, r78_121, r78_123, r78_126, r78_128, r78_129, r78_130, r78_133, r78_134, r78_137, r78_138 (s0 := 0) (Or.inl rfl), r78_138 (s0 := 1) (Or.inr rfl), r78_139, r78_140, r78_142, r78_145, r78_146, r78_149, r78_150, r78_151, r78_154, r78_155, r78_156, r78_158, r78_161, r78_162, r78_163, r78_164, r78_167, r78_168, r78_171, r78_172 (s0 := 0) (Or.inl rfl), r78_172 (s0 := 1) (Or.inr rfl), r78_173, r78_174, r78_176, r78_179, r78_180, r78_183, r78_184, r78_185, r78_188, r78_189, r78_190, r78_192, r78_195, r78_196, r78_197, r78_198, r78_201, r78_202, r78_205, r78_206 (s0 := 0) (Or.inl rfl), r78_206 (s0 := 1) (Or.inr rfl), r78_207, r78_208, r78_210, r78_213, r78_215, r78_216, r78_217, r78_218, r78_221, r78_222, r78_225, r78_227, r78_228, r78_229, r78_232, r78_233, r78_236, r78_237 (s0 := 0) (Or.inl rfl), r78_237 (s0 := 1) (Or.inr rfl), r79_0, r79_2, r79_3, r79_5, r79_6, r79_7, r79_10, r79_11, r79_12, r79_13, r79_14, m1, m2, m3, m4, m5, m6, m7, d1, t5_w, g66_w, g67_w, g68_w, g69_w, v1, v2, sh59 hS_w, sh60 hS_w, sh65 hS_w, sh66 hS_w, sh67 hS_w, sh68 hS_w, sh69 hS_w, sh70 hS_w, sh72 hS_w, sh73 hS_w, sm_wp_some, sm_wp_none, sm_at, sm_get, sm_fld, sm_pfl, sm_cN, sm_ai, sm_al, sm_si, sm_slg, sm_aa, List.getElem?_cons_zero, List.getElem?_cons_succ, List.set_cons_zero, List.set_cons_succ, List.length_cons, List.length_nil, Option.toList_some, Option.toList_none, List.cons_append, List.nil_append, if_true, if_false, true_and, and_true, Option.some.injEq, gs_o, gs_s, List.length_set, pk_us, Nat.reduceLT, Nat.reduceLeDiff, Nat.reduceSub, Nat.reduceEqDiff, Nat.reduceAdd, Int32.reduceLT, Int32.reduceLE, Int32.reduceAdd, Int32.reduceSub, Int32.reduceToNatClampNeg, ↓reduceIte, reduceCtorEq, Nat.lt_irrefl]
    simp (decide := true) only [r75_89, r75_90, r75_91, r75_94, r75_97, r75_98, r75_101, r75_103, r75_104, r75_105, r75_107, r75_110, r75_111, r75_114, r75_115, r75_116, r75_118, r75_121, r75_122, r75_123, r75_124, r75_125, r75_128, r75_130, r75_131, pu_w, t24_w, ta, tb, tc, sh59 hS_w, sh60 hS_w, sh65 hS_w, sh66 hS_w, sh67 hS_w, sh68 hS_w, sh69 hS_w, sh70 hS_w, sh72 hS_w, sh73 hS_w, sm_wp_some, sm_wp_none, sm_at, sm_get, sm_fld, sm_pfl, sm_cN, sm_ai, sm_al, sm_si, sm_slg, sm_aa, List.getElem?_cons_zero, List.getElem?_cons_succ, List.set_cons_zero, List.set_cons_succ, List.length_cons, List.length_nil, Option.toList_some, Option.toList_none, List.cons_append, List.nil_append, if_true, if_false, true_and, and_true, Option.some.injEq, gs_o, gs_s, List.length_set, pk_us, Nat.reduceLT, Nat.reduceLeDiff, Nat.reduceSub, Nat.reduceEqDiff, Nat.reduceAdd, Int32.reduceLT, Int32.reduceLE, Int32.reduceAdd, Int32.reduceSub, Int32.reduceToNatClampNeg, ↓reduceIte, reduceCtorEq, Nat.lt_irrefl]
    have R1 := hR.top (m := S 14 0 - 1) (by omega)
    have F1 : FrM w (w.set 59 (.inr (7, [.ref 160, .ref 161, .ref 162, .ref 163, .ref 164, .int (wn w 59 5), .ref 165, .ref 166, .ref 167, .ref 168, .ref 169, .ref 170, .int (wn w 59 12), .int (wn w 59 13), .int (wn w 59 14), .int (wn w 59 15), .int (wn w 59 16), .int (wn w 59 17), .int (wn w 59 18), .int (wn w 59 19), .int (wn w 59 20), .ref 171, .ref 172, .ref 173, .int (nI (S 14 0 - 1)), .int (wn w 59 25)]))) := FrM.k59 hS_w
    generalize (w.set 59 (.inr (7, [.ref 160, .ref 161, .ref 162, .ref 163, .ref 164, .int (wn w 59 5), .ref 165, .ref 166, .ref 167, .ref 168, .ref 169, .ref 170, .int (wn w 59 12), .int (wn w 59 13), .int (wn w 59 14), .int (wn w 59 15), .int (wn w 59 16), .int (wn w 59 17), .int (wn w 59 18), .int (wn w 59 19), .int (wn w 59 20), .ref 171, .ref 172, .ref 173, .int (nI (S 14 0 - 1)), .int (wn w 59 25)]))) = w1 at R1 F1
    have hS_w1 := R1.1
    have t24_w1 := R1.2.2.2.2.2.2.2.1.1
    have t5_w1 : wn w1 59 5 = nI (S 10 1) := R1.2.2.2.1.1
    have gt_w1 := R1.2.2.2.1.2 t ht
    have g65_w1 := gt_w1.1
    have g66_w1 : wi w1 66 t = nI (S 5 t) := gt_w1.2.1
    have g67_w1 : wi w1 67 t = nI (S 6 t) := gt_w1.2.2.1
    have g68_w1 : wi w1 68 t = nI (S 7 t) := gt_w1.2.2.2.1
    have g69_w1 : wi w1 69 t = nI (S 8 t) := gt_w1.2.2.2.2
    have nw_w1 : NwM w1 S := R1.2.1
    have sc_w1 : ScM w1 S := R1.2.2.2.2.1
    have pu_w1 := fun Q => pu_M (X := X) (Q := Q) (c := 23) hS_w1 (by decide)
    have pv : s_pu 23 = 1 := rfl
    rw [pv] at pu_w1
    have l1 : nI (S 6 t) * 12 = nI (S 6 t * 12) := pk_mul _ 12
    have l2 : 46 + nI (S 6 t * 12) = nI (46 + S 6 t * 12) := nI_add 46 _
    have l3 : nI y * 2 = nI (y * 2) := pk_mul _ 2
    have l4 : nI (46 + S 6 t * 12) + nI (y * 2) = nI (46 + S 6 t * 12 + y * 2) := nI_add _ _
    have l5 : nI (46 + S 6 t * 12 + y * 2) + nI a = nI (46 + S 6 t * 12 + (y * 2 + a)) := by rw [nI_add, Nat.add_assoc (46 + S 6 t * 12)]
    have l6 : sm_in (nI (46 + S 6 t * 12 + (y * 2 + a))) 94 = true := sm_in_nI (by omega) (by decide)
    have l7 : (nI (46 + S 6 t * 12 + (y * 2 + a))).toNatClampNeg = 46 + S 6 t * 12 + (y * 2 + a) := nI_clamp (by omega)
    have l8 := nw_w1 (46 + S 6 t * 12 + (y * 2 + a)) (by omega)
    have vs : sm_sw (nI 23).toInt 0 [124, 127, 132, 154, 164, 170, 173, 183, 195, 201, 207, 213, 230, 244, 258, 271, 336, 336, 336, 336, 336, 274, 336, 293, 336, 312, 325] 336 = 293 := by decide
    simp (decide := true) only [r75_134, r75_135, r75_136, r75_139, r75_142, r75_143, r75_144, r75_145, r75_146, r75_147, r75_149, r75_151, r75_154, r81_0, r81_1, r81_124, r81_125, r81_126, r81_127, r81_128, r81_129, r81_130, r81_131, r81_132, r81_133, r81_136, r81_137, r81_140, r81_141, r81_142, r81_143, r81_146, r81_147, r81_150, r81_151, r81_152, r81_153, r81_154, r81_155, r81_156, r81_159, r81_160, r81_161, r81_162, r81_163, r81_164, r81_165, r81_168, r81_169, r81_170, r81_171, r81_172, r81_173, r81_174, r81_177, r81_179, r81_180, r81_181, r81_182, r81_183, r81_184, r81_185, r81_188, r81_190, r81_191, r81_192, r81_193, r81_194, r81_195, r81_197, r81_199, r81_200, r81_201, r81_203, r81_205, r81_206, r81_207, r81_209, r81_211, r81_212, r81_213, r81_215, r81_216, r81_217, r81_220, r81_221, r81_224, r81_226, r81_228, r81_229, r81_230, r81_232, r81_234, r81_235, r81_238, r81_239, r81_242, r81_243, r81_244, r81_246, r81_248, r81_249, r81_252, r81_253, r81_256, r81_257, r81_258, r81_260, r81_261, r81_262, r81_265, r81_266, r81_269, r81_270, r81_271, r81_273, r81_274, r81_275, r81_278, r81_280, r81_281, r81_284, r81_285, r81_286, r81_287, r81_288, r81_289, r81_290, r81_291, r81_292, r81_293, r81_294, r81_297, r81_298, r81_299, r81_302, r81_303, r81_304, r81_306, r81_307, r81_310, r81_311, r81_312, r81_313, r81_316, r81_319, r81_321, r81_322, r81_323, r81_324, r81_325, r81_326, r81_329, r81_330, r81_331, r81_332, r81_333, r81_334, r81_335, r81_336, r81_337, r81_340, r81_342, r81_343, r81_344, r81_345, r81_346, r81_347, r81_348, r82_0, r82_2, r82_3, r82_5, r82_6, r82_7, r82_10, r82_11, r82_12, r82_13, r82_14, r82_15, r82_16, r82_18, r82_19, pu_w1, vs, m3, l1, l2, l3, l4, l5, l6, l7, l8, t5_w1, g66_w1, g67_w1, g68_w1, g69_w1, v1, v2, sh59 hS_w1, sh60 hS_w1, sh65 hS_w1, sh66 hS_w1, sh67 hS_w1, sh68 hS_w1, sh69 hS_w1, sh70 hS_w1, sh72 hS_w1, sh73 hS_w1, sm_wp_some, sm_wp_none, sm_at, sm_get, sm_fld, sm_pfl, sm_cN, sm_ai, sm_al, sm_si, sm_slg, sm_aa, List.getElem?_cons_zero, List.getElem?_cons_succ, List.set_cons_zero, List.set_cons_succ, List.length_cons, List.length_nil, Option.toList_some, Option.toList_none, List.cons_append, List.nil_append, if_true, if_false, true_and, and_true, Option.some.injEq, gs_o, gs_s, List.length_set, pk_us, Nat.reduceLT, Nat.reduceLeDiff, Nat.reduceSub, Nat.reduceEqDiff, Nat.reduceAdd, Int32.reduceLT, Int32.reduceLE, Int32.reduceAdd, Int32.reduceSub, Int32.reduceToNatClampNeg, ↓reduceIte, reduceCtorEq, Nat.lt_irrefl]
    rw [push_M (S := S) (m := S 14 0 - 1) (v := (lN (S 0 (46 + S 6 t * 12 + (y * 2 + a))))) hS_w1 (by omega) t24_w1]
    have R2 : RnM T ((w1.set 73 (.inl (1, 10, .inr (.inl (vp_updL (wl w1 73) (S 14 0 - 1) (lN (S 0 (46 + S 6 t * 12 + (y * 2 + a))))))))).set 59 (.inr (7, [.ref 160, .ref 161, .ref 162, .ref 163, .ref 164, .int (wn w1 59 5), .ref 165, .ref 166, .ref 167, .ref 168, .ref 169, .ref 170, .int (wn w1 59 12), .int (wn w1 59 13), .int (wn w1 59 14), .int (wn w1 59 15), .int (wn w1 59 16), .int (wn w1 59 17), .int (wn w1 59 18), .int (wn w1 59 19), .int (wn w1 59 20), .ref 171, .ref 172, .ref 173, .int (nI (S 14 0 - 1 + 1)), .int (wn w1 59 25)]))) (s_psh (s_up S 14 0 (S 14 0 - 1)) 0 1 (S 0 (46 + S 6 t * 12 + (y * 2 + a)))) (S 14 1) := R1.push rfl rfl
    rw [s_psh_k] at R2
    have F2 : FrM w1 ((w1.set 73 (.inl (1, 10, .inr (.inl (vp_updL (wl w1 73) (S 14 0 - 1) (lN (S 0 (46 + S 6 t * 12 + (y * 2 + a))))))))).set 59 (.inr (7, [.ref 160, .ref 161, .ref 162, .ref 163, .ref 164, .int (wn w1 59 5), .ref 165, .ref 166, .ref 167, .ref 168, .ref 169, .ref 170, .int (wn w1 59 12), .int (wn w1 59 13), .int (wn w1 59 14), .int (wn w1 59 15), .int (wn w1 59 16), .int (wn w1 59 17), .int (wn w1 59 18), .int (wn w1 59 19), .int (wn w1 59 20), .ref 171, .ref 172, .ref 173, .int (nI (S 14 0 - 1 + 1)), .int (wn w1 59 25)]))) := FrM.push hS_w1
    generalize ((w1.set 73 (.inl (1, 10, .inr (.inl (vp_updL (wl w1 73) (S 14 0 - 1) (lN (S 0 (46 + S 6 t * 12 + (y * 2 + a))))))))).set 59 (.inr (7, [.ref 160, .ref 161, .ref 162, .ref 163, .ref 164, .int (wn w1 59 5), .ref 165, .ref 166, .ref 167, .ref 168, .ref 169, .ref 170, .int (wn w1 59 12), .int (wn w1 59 13), .int (wn w1 59 14), .int (wn w1 59 15), .int (wn w1 59 16), .int (wn w1 59 17), .int (wn w1 59 18), .int (wn w1 59 19), .int (wn w1 59 20), .ref 171, .ref 172, .ref 173, .int (nI (S 14 0 - 1 + 1)), .int (wn w1 59 25)]))) = w2 at R2 F2
    have hS_w2 := R2.1
    have t24_w2 := R2.2.2.2.2.2.2.2.1.1
    have t5_w2 : wn w2 59 5 = nI (S 10 1) := R2.2.2.2.1.1
    have gt_w2 := R2.2.2.2.1.2 t ht
    have g65_w2 := gt_w2.1
    have g66_w2 : wi w2 66 t = nI (S 5 t) := gt_w2.2.1
    have g67_w2 : wi w2 67 t = nI (S 6 t) := gt_w2.2.2.1
    have g68_w2 : wi w2 68 t = nI (S 7 t) := gt_w2.2.2.2.1
    have g69_w2 : wi w2 69 t = nI (S 8 t) := gt_w2.2.2.2.2
    have nw_w2 : NwM w2 S := R2.2.1
    have sc_w2 : ScM w2 S := R2.2.2.2.2.1
    have at_w2 : wn w2 59 13 = nI (S 14 1) := R2.2.2.2.2.2.2.2.2
    have a1_w2 : nI (S 14 1) + 1 = nI (S 14 1 + 1) := nI_1 _
    simp (decide := true) only [r75_157, r75_158, r75_160, r75_169, r75_170, r75_172, r75_187, r75_188, r75_189, r75_192, r75_193, r75_194, at_w2, a1_w2, Option.toList_none, sh59 hS_w2, sm_wp_some, sm_wp_none, sm_at, sm_get, sm_fld, sm_pfl, sm_cN, sm_ai, sm_al, sm_si, sm_slg, sm_aa, List.getElem?_cons_zero, List.getElem?_cons_succ, List.set_cons_zero, List.set_cons_succ, List.length_cons, List.length_nil, Option.toList_some, Option.toList_none, List.cons_append, List.nil_append, if_true, if_false, true_and, and_true, Option.some.injEq, gs_o, gs_s, List.length_set, pk_us, Nat.reduceLT, Nat.reduceLeDiff, Nat.reduceSub, Nat.reduceEqDiff, Nat.reduceAdd, Int32.reduceLT, Int32.reduceLE, Int32.reduceAdd, Int32.reduceSub, Int32.reduceToNatClampNeg, ↓reduceIte, reduceCtorEq, Nat.lt_irrefl]
    have R3 := R2.at (q' := S 14 1 + 1)
    have F3 : FrM w2 (w2.set 59 (.inr (7, [.ref 160, .ref 161, .ref 162, .ref 163, .ref 164, .int (wn w2 59 5), .ref 165, .ref 166, .ref 167, .ref 168, .ref 169, .ref 170, .int (wn w2 59 12), .int (nI (S 14 1 + 1)), .int (wn w2 59 14), .int (wn w2 59 15), .int (wn w2 59 16), .int (wn w2 59 17), .int (wn w2 59 18), .int (wn w2 59 19), .int (wn w2 59 20), .ref 171, .ref 172, .ref 173, .int (wn w2 59 24), .int (wn w2 59 25)]))) := FrM.k59 hS_w2
    generalize (w2.set 59 (.inr (7, [.ref 160, .ref 161, .ref 162, .ref 163, .ref 164, .int (wn w2 59 5), .ref 165, .ref 166, .ref 167, .ref 168, .ref 169, .ref 170, .int (wn w2 59 12), .int (nI (S 14 1 + 1)), .int (wn w2 59 14), .int (wn w2 59 15), .int (wn w2 59 16), .int (wn w2 59 17), .int (wn w2 59 18), .int (wn w2 59 19), .int (wn w2 59 20), .ref 171, .ref 172, .ref 173, .int (wn w2 59 24), .int (wn w2 59 25)]))) = w3 at R3 F3
    have hS_w3 := R3.1
    have t24_w3 := R3.2.2.2.2.2.2.2.1.1
    have t5_w3 : wn w3 59 5 = nI (S 10 1) := R3.2.2.2.1.1
    have gt_w3 := R3.2.2.2.1.2 t ht
    have g65_w3 := gt_w3.1
    have g66_w3 : wi w3 66 t = nI (S 5 t) := gt_w3.2.1
    have g67_w3 : wi w3 67 t = nI (S 6 t) := gt_w3.2.2.1
    have g68_w3 : wi w3 68 t = nI (S 7 t) := gt_w3.2.2.2.1
    have g69_w3 : wi w3 69 t = nI (S 8 t) := gt_w3.2.2.2.2
    have nw_w3 : NwM w3 S := R3.2.1
    have sc_w3 : ScM w3 S := R3.2.2.2.2.1
    simp (decide := true) only [r75_197, r75_198, r75_200, r75_203, r75_204, r75_206, r75_209, r75_211, r75_212, r75_213, r75_216, r75_217, r75_218, r75_221, r75_222, r75_224, r75_227, r75_228, r75_231, r75_233, r75_234, r75_237, r75_238, r75_239, r75_240, r75_241, r75_242, r75_243, r75_244, r75_246, r75_247, r75_248, r75_250, r75_253, r75_254, r75_257, r75_258, r75_259, r75_262, r75_263, r75_264, r75_266, r75_267, r75_270, r75_272, r75_273, r75_274, r75_276, r75_279, r75_280, r75_283, r75_284, r75_285, r75_286, r75_287, r75_288, r75_290, r75_291, r75_292, r75_294, r75_297, r75_298, r75_301, r75_302, r75_305, r75_307, r75_308, r75_309, r75_310, r75_313, r75_314, r75_315, r75_318, r75_319, r75_321, r75_324, r75_325, r75_326, r75_329, r75_330, sm_wp_some, sm_wp_none, sm_at, sm_get, sm_fld, sm_pfl, sm_cN, sm_ai, sm_al, sm_si, sm_slg, sm_aa, List.getElem?_cons_zero, List.getElem?_cons_succ, List.set_cons_zero, List.set_cons_succ, List.length_cons, List.length_nil, Option.toList_some, Option.toList_none, List.cons_append, List.nil_append, if_true, if_false, true_and, and_true, Option.some.injEq, gs_o, gs_s, List.length_set, pk_us, Nat.reduceLT, Nat.reduceLeDiff, Nat.reduceSub, Nat.reduceEqDiff, Nat.reduceAdd, Int32.reduceLT, Int32.reduceLE, Int32.reduceAdd, Int32.reduceSub, Int32.reduceToNatClampNeg, ↓reduceIte, reduceCtorEq, Nat.lt_irrefl]
    exact hQ w3 ⟨((F1.tr F2).tr F3), fun _ => R3, fun h => absurd rfl h⟩
  · have e5 : s_do S t a y ys x xs 23 = (3, S) := if_neg e
    rw [e5] at hQ
    have d1 : ¬ lg_cmp (lN (S 0 (22 + S 6 t * 6 + y))) 1 = 0 := fun q => e (m8.mp q)
    simp (decide := true) only [r75_73, r75_74, r75_75, r75_76, r75_77, r75_79, r75_81, r75_84, r75_87, r75_88, r78_0, r78_1, r78_3, r78_6, r78_7, r78_9, r78_12, r78_14, r78_15, r78_18, r78_19, r78_20, r78_23, r78_24, r78_27, r78_29, r78_30, r78_31, r78_34, r78_35, r78_38, r78_39 (s0 := 0) (Or.inl rfl), r78_39 (s0 := 1) (Or.inr rfl), r78_40, r78_41, r78_43, r78_46, r78_48, r78_50, r78_51, r78_54, r78_55, r78_58, r78_59, r78_62, r78_63 (s0 := 0) (Or.inl rfl), r78_63 (s0 := 1) (Or.inr rfl), r78_64, r78_65, r78_67, r78_70, r78_72, r78_74, r78_75, r78_78, r78_79, r78_82, r78_83 (s0 := 0) (Or.inl rfl), r78_83 (s0 := 1) (Or.inr rfl), r78_84, r78_85, r78_87, r78_90, r78_92, r78_94, r78_95, r78_98, r78_99, r78_102, r78_103, r78_106, r78_107 (s0 := 0) (Or.inl rfl), r78_107 (s0 := 1) (Or.inr rfl), r78_108, r78_109, r78_111, r78_114, r78_115, r78_117, r78_120, r78_121, r78_123, r78_126, r78_128, r78_129, r78_130, r78_133, r78_134, r78_137, r78_138 (s0 := 0) (Or.inl rfl), r78_138 (s0 := 1) (Or.inr rfl), r78_139, r78_140, r78_142, r78_145, r78_146, r78_149, r78_150, r78_151, r78_154, r78_155, r78_156, r78_158, r78_161, r78_162, r78_163, r78_164, r78_167, r78_168, r78_171, r78_172 (s0 := 0) (Or.inl rfl), r78_172 (s0 := 1) (Or.inr rfl), r78_173, r78_174, r78_176, r78_179, r78_180, r78_183, r78_184, r78_185, r78_188, r78_189, r78_190, r78_192, r78_195, r78_196, r78_197, r78_198, r78_201, r78_202, r78_205, r78_206 (s0 := 0) (Or.inl rfl), r78_206 (s0 := 1) (Or.inr rfl), r78_207, r78_208, r78_210, r78_213, r78_215, r78_216, r78_217, r78_218, r78_221, r78_222, r78_225, r78_227, r78_228, r78_229, r78_232, r78_233, r78_236, r78_237 (s0 := 0) (Or.inl rfl), r78_237 (s0 := 1) (Or.inr rfl), r79_0, r79_2, r79_3, r79_5, r79_6, r79_7, r79_10, r79_11, r79_12, r79_13, r79_14, pu_w, t24_w, m1, m2, m3, m4, m5, m6, m7, d1, t5_w, g66_w, g67_w, g68_w, g69_w, v1, v2, sh59 hS_w, sh60 hS_w, sh65 hS_w, sh66 hS_w, sh67 hS_w, sh68 hS_w, sh69 hS_w, sh70 hS_w, sh72 hS_w, sh73 hS_w, sm_wp_some, sm_wp_none, sm_at, sm_get, sm_fld, sm_pfl, sm_cN, sm_ai, sm_al, sm_si, sm_slg, sm_aa, List.getElem?_cons_zero, List.getElem?_cons_succ, List.set_cons_zero, List.set_cons_succ, List.length_cons, List.length_nil, Option.toList_some, Option.toList_none, List.cons_append, List.nil_append, if_true, if_false, true_and, and_true, Option.some.injEq, gs_o, gs_s, List.length_set, pk_us, Nat.reduceLT, Nat.reduceLeDiff, Nat.reduceSub, Nat.reduceEqDiff, Nat.reduceAdd, Int32.reduceLT, Int32.reduceLE, Int32.reduceAdd, Int32.reduceSub, Int32.reduceToNatClampNeg, ↓reduceIte, reduceCtorEq, Nat.lt_irrefl]
    exact hQ w ⟨FrM.rf w, fun h => absurd h (by omega), fun _ => ⟨hR.rf, hR.2.2.2.2.2.2.2.2⟩⟩
theorem px_24 {X : sm_X} {w : sm_W} {Q : Option Value → sm_W → Prop} {S : sm_S} {T t a y ys x xs : Nat} (hR : RnM T w S (S 14 1)) (hB : RnB T S t) (hn : 2 ≤ S 14 0) (hy : y < 2 ^ 31) (hx : x < 6) (hf : a < 2) (hQ : ∀ w', AfM T w w' (S 14 1) (s_do S t a y ys x xs 24) → Q (some (.int (nI (s_do S t a y ys x xs 24).1))) w') : sm_R X 75 73 [.ref 159, .int (nI 24), .int (nI a), .int (nI t), .int (nI 2), .long (lN y), sm_J, .long (-1 - lN x), sm_J] [] w Q := by
  have hB' := hB
  obtain ⟨bB, bP, bG, bS, ⟨ht, hk⟩, ⟨h8, hE⟩, hq32, h80, hcs, hst, hen, hT1, hT2, hT3⟩ := hB'
  have h4 : S 10 1 ≤ 4 := bG.1
  have ht4 : t < 4 := by omega
  have bt := bG.2 t ht
  have hp6 : S 6 t < 4 := bt.2.2.2.1 hk
  have v1 : sm_in (nI t) 4 = true := sm_in_nI ht4 (by decide)
  have v2 : (nI t).toNatClampNeg = t := nI_clamp (by omega)
  have hS_w := hR.1
  have t24_w := hR.2.2.2.2.2.2.2.1.1
  have t5_w : wn w 59 5 = nI (S 10 1) := hR.2.2.2.1.1
  have gt_w := hR.2.2.2.1.2 t ht
  have g65_w := gt_w.1
  have g66_w : wi w 66 t = nI (S 5 t) := gt_w.2.1
  have g67_w : wi w 67 t = nI (S 6 t) := gt_w.2.2.1
  have g68_w : wi w 68 t = nI (S 7 t) := gt_w.2.2.2.1
  have g69_w : wi w 69 t = nI (S 8 t) := gt_w.2.2.2.2
  have nw_w : NwM w S := hR.2.1
  have sc_w : ScM w S := hR.2.2.2.2.1
  have pu_w := fun Q => pu_M (X := X) (Q := Q) (c := 24) hS_w (by decide)
  have pv : s_pu 24 = 0 := rfl
  rw [pv] at pu_w
  have ta : nI (S 14 0) - nI 2 = nI (S 14 0 - 2) := pk_sub (b := 2) (by omega)
  have ha2 : a < 2 := hf
  have m1 : nI (S 6 t) * 6 = nI (S 6 t * 6) := pk_mul _ 6
  have m2 : 22 + nI (S 6 t * 6) = nI (22 + S 6 t * 6) := nI_add 22 _
  have m3 : (-1 - (-1 - lN x)).toInt32 = nI x := lA_i hx
  have m4 : nI (22 + S 6 t * 6) + nI x = nI (22 + S 6 t * 6 + x) := nI_add _ _
  have m5 : sm_in (nI (22 + S 6 t * 6 + x)) 94 = true := sm_in_nI (by omega) (by decide)
  have m6 : (nI (22 + S 6 t * 6 + x)).toNatClampNeg = 22 + S 6 t * 6 + x := nI_clamp (by omega)
  have m7 := nw_w (22 + S 6 t * 6 + x) (by omega)
  have m8 : lg_cmp (lN (S 0 (22 + S 6 t * 6 + x))) 1 = 0 ↔ S 0 (22 + S 6 t * 6 + x) = 1 := lc_eq (b := 1) (by have := bB.1 (22 + S 6 t * 6 + x) (by omega); omega) (by decide)
  by_cases e : S 0 (22 + S 6 t * 6 + x) = 1
  · have e5 : s_do S t a y ys x xs 24 = (0, s_up (s_tke S 2) 0 (46 + S 6 t * 12 + (x * 2 + a)) y) := if_pos e
    rw [e5] at hQ
    have d1 := m8.mpr e
    simp (decide := true) only [r75_73, r75_74, r75_75, r75_76, r75_77, r75_79, r75_81, r75_84, r78_0, r78_1, r78_3, r78_6, r78_7, r78_9, r78_12, r78_14, r78_15, r78_18, r78_19, r78_20, r78_23, r78_24, r78_27, r78_29, r78_30, r78_31, r78_34, r78_35, r78_38, r78_39 (s0 := 0) (Or.inl rfl), r78_39 (s0 := 1) (Or.inr rfl), r78_40, r78_41, r78_43, r78_46, r78_48, r78_50, r78_51, r78_54, r78_55, r78_58, r78_59, r78_62, r78_63 (s0 := 0) (Or.inl rfl), r78_63 (s0 := 1) (Or.inr rfl), r78_64, r78_65, r78_67, r78_70, r78_72, r78_74, r78_75, r78_78, r78_79, r78_82, r78_83 (s0 := 0) (Or.inl rfl), r78_83 (s0 := 1) (Or.inr rfl), r78_84, r78_85, r78_87, r78_90, r78_92, r78_94, r78_95, r78_98, r78_99, r78_102, r78_103, r78_106, r78_107 (s0 := 0) (Or.inl rfl), r78_107 (s0 := 1) (Or.inr rfl), r78_108, r78_109, r78_111, r78_114, r78_115, r78_117, r78_120, r78_121, r78_123, r78_126, r78_128, r78_129, r78_130, r78_133, r78_134, r78_137, r78_138 (s0 := 0) (Or.inl rfl), r78_138 (s0 := 1) (Or.inr rfl), r78_139, r78_140, r78_142, r78_145, r78_146, r78_149, r78_150, r78_151, r78_154, r78_155, r78_156, r78_158, r78_161, r78_162, r78_163, r78_164, r78_167, r78_168, r78_171, r78_172 (s0 := 0) (Or.inl rfl), r78_172 (s0 := 1) (Or.inr rfl), r78_173, r78_174, r78_176, r78_179, r78_180, r78_183, r78_184, r78_185, r78_188, r78_189, r78_190, r78_192, r78_195, r78_196, r78_197, r78_198, r78_201, r78_202, r78_205, r78_206 (s0 := 0) (Or.inl rfl), r78_206 (s0 := 1) (Or.inr rfl), r78_207, r78_208, r78_210, r78_213, r78_215, r78_216, r78_217, r78_218, r78_221, r78_222, r78_225, r78_227, r78_228, r78_229, r78_232, r78_233, r78_236, r78_237 (s0 := 0) (Or.inl rfl), r78_237 (s0 := 1) (Or.inr rfl), r79_0, r79_2, r79_3, r79_5, r79_6, r79_7, r79_10, r79_11, r79_12, r79_13, r79_14, m1, m2, m3, m4, m5, m6, m7, d1, t5_w, g66_w, g67_w, g68_w, g69_w, v1, v2, sh59 hS_w, sh60 hS_w, sh65 hS_w, sh66 hS_w, sh67 hS_w, sh68 hS_w, sh69 hS_w, sh70 hS_w, sh72 hS_w, sh73 hS_w, sm_wp_some, sm_wp_none, sm_at, sm_get, sm_fld, sm_pfl, sm_cN, sm_ai, sm_al, sm_si, sm_slg, sm_aa, List.getElem?_cons_zero, List.getElem?_cons_succ, List.set_cons_zero, List.set_cons_succ, List.length_cons, List.length_nil, Option.toList_some, Option.toList_none, List.cons_append, List.nil_append, if_true, if_false, true_and, and_true, Option.some.injEq, gs_o, gs_s, List.length_set, pk_us, Nat.reduceLT, Nat.reduceLeDiff, Nat.reduceSub, Nat.reduceEqDiff, Nat.reduceAdd, Int32.reduceLT, Int32.reduceLE, Int32.reduceAdd, Int32.reduceSub, Int32.reduceToNatClampNeg, ↓reduceIte, reduceCtorEq, Nat.lt_irrefl]
    simp (decide := true) only [r75_89, r75_90, r75_91, r75_94, r75_97, r75_98, r75_101, r75_103, r75_104, r75_105, r75_107, r75_110, r75_111, r75_114, r75_115, r75_116, r75_118, r75_121, r75_122, r75_123, r75_124, r75_125, r75_128, r75_130, r75_131, pu_w, t24_w, ta, sh59 hS_w, sh60 hS_w, sh65 hS_w, sh66 hS_w, sh67 hS_w, sh68 hS_w, sh69 hS_w, sh70 hS_w, sh72 hS_w, sh73 hS_w, sm_wp_some, sm_wp_none, sm_at, sm_get, sm_fld, sm_pfl, sm_cN, sm_ai, sm_al, sm_si, sm_slg, sm_aa, List.getElem?_cons_zero, List.getElem?_cons_succ, List.set_cons_zero, List.set_cons_succ, List.length_cons, List.length_nil, Option.toList_some, Option.toList_none, List.cons_append, List.nil_append, if_true, if_false, true_and, and_true, Option.some.injEq, gs_o, gs_s, List.length_set, pk_us, Nat.reduceLT, Nat.reduceLeDiff, Nat.reduceSub, Nat.reduceEqDiff, Nat.reduceAdd, Int32.reduceLT, Int32.reduceLE, Int32.reduceAdd, Int32.reduceSub, Int32.reduceToNatClampNeg, ↓reduceIte, reduceCtorEq, Nat.lt_irrefl]
    have R1 := hR.top (m := S 14 0 - 2) (by omega)
    have F1 : FrM w (w.set 59 (.inr (7, [.ref 160, .ref 161, .ref 162, .ref 163, .ref 164, .int (wn w 59 5), .ref 165, .ref 166, .ref 167, .ref 168, .ref 169, .ref 170, .int (wn w 59 12), .int (wn w 59 13), .int (wn w 59 14), .int (wn w 59 15), .int (wn w 59 16), .int (wn w 59 17), .int (wn w 59 18), .int (wn w 59 19), .int (wn w 59 20), .ref 171, .ref 172, .ref 173, .int (nI (S 14 0 - 2)), .int (wn w 59 25)]))) := FrM.k59 hS_w
    generalize (w.set 59 (.inr (7, [.ref 160, .ref 161, .ref 162, .ref 163, .ref 164, .int (wn w 59 5), .ref 165, .ref 166, .ref 167, .ref 168, .ref 169, .ref 170, .int (wn w 59 12), .int (wn w 59 13), .int (wn w 59 14), .int (wn w 59 15), .int (wn w 59 16), .int (wn w 59 17), .int (wn w 59 18), .int (wn w 59 19), .int (wn w 59 20), .ref 171, .ref 172, .ref 173, .int (nI (S 14 0 - 2)), .int (wn w 59 25)]))) = w1 at R1 F1
    have hS_w1 := R1.1
    have t24_w1 := R1.2.2.2.2.2.2.2.1.1
    have t5_w1 : wn w1 59 5 = nI (S 10 1) := R1.2.2.2.1.1
    have gt_w1 := R1.2.2.2.1.2 t ht
    have g65_w1 := gt_w1.1
    have g66_w1 : wi w1 66 t = nI (S 5 t) := gt_w1.2.1
    have g67_w1 : wi w1 67 t = nI (S 6 t) := gt_w1.2.2.1
    have g68_w1 : wi w1 68 t = nI (S 7 t) := gt_w1.2.2.2.1
    have g69_w1 : wi w1 69 t = nI (S 8 t) := gt_w1.2.2.2.2
    have nw_w1 : NwM w1 S := R1.2.1
    have sc_w1 : ScM w1 S := R1.2.2.2.2.1
    have pu_w1 := fun Q => pu_M (X := X) (Q := Q) (c := 24) hS_w1 (by decide)
    have pv : s_pu 24 = 0 := rfl
    rw [pv] at pu_w1
    simp (decide := true) only [r75_134, r75_135, r75_136, r75_139, pu_w1, sh59 hS_w1, sm_wp_some, sm_wp_none, sm_at, sm_get, sm_fld, sm_pfl, sm_cN, sm_ai, sm_al, sm_si, sm_slg, sm_aa, List.getElem?_cons_zero, List.getElem?_cons_succ, List.set_cons_zero, List.set_cons_succ, List.length_cons, List.length_nil, Option.toList_some, Option.toList_none, List.cons_append, List.nil_append, if_true, if_false, true_and, and_true, Option.some.injEq, gs_o, gs_s, List.length_set, pk_us, Nat.reduceLT, Nat.reduceLeDiff, Nat.reduceSub, Nat.reduceEqDiff, Nat.reduceAdd, Int32.reduceLT, Int32.reduceLE, Int32.reduceAdd, Int32.reduceSub, Int32.reduceToNatClampNeg, ↓reduceIte, reduceCtorEq, Nat.lt_irrefl]
    have at_w1 : wn w1 59 13 = nI (S 14 1) := R1.2.2.2.2.2.2.2.2
    have a1_w1 : nI (S 14 1) + 1 = nI (S 14 1 + 1) := nI_1 _
    simp (decide := true) only [r75_157, r75_158, r75_160, r75_169, r75_170, r75_172, r75_187, r75_188, r75_189, r75_192, r75_193, r75_194, at_w1, a1_w1, Option.toList_none, sh59 hS_w1, sm_wp_some, sm_wp_none, sm_at, sm_get, sm_fld, sm_pfl, sm_cN, sm_ai, sm_al, sm_si, sm_slg, sm_aa, List.getElem?_cons_zero, List.getElem?_cons_succ, List.set_cons_zero, List.set_cons_succ, List.length_cons, List.length_nil, Option.toList_some, Option.toList_none, List.cons_append, List.nil_append, if_true, if_false, true_and, and_true, Option.some.injEq, gs_o, gs_s, List.length_set, pk_us, Nat.reduceLT, Nat.reduceLeDiff, Nat.reduceSub, Nat.reduceEqDiff, Nat.reduceAdd, Int32.reduceLT, Int32.reduceLE, Int32.reduceAdd, Int32.reduceSub, Int32.reduceToNatClampNeg, ↓reduceIte, reduceCtorEq, Nat.lt_irrefl]
    have R3 := R1.at (q' := S 14 1 + 1)
    have F3 : FrM w1 (w1.set 59 (.inr (7, [.ref 160, .ref 161, .ref 162, .ref 163, .ref 164, .int (wn w1 59 5), .ref 165, .ref 166, .ref 167, .ref 168, .ref 169, .ref 170, .int (wn w1 59 12), .int (nI (S 14 1 + 1)), .int (wn w1 59 14), .int (wn w1 59 15), .int (wn w1 59 16), .int (wn w1 59 17), .int (wn w1 59 18), .int (wn w1 59 19), .int (wn w1 59 20), .ref 171, .ref 172, .ref 173, .int (wn w1 59 24), .int (wn w1 59 25)]))) := FrM.k59 hS_w1
    generalize (w1.set 59 (.inr (7, [.ref 160, .ref 161, .ref 162, .ref 163, .ref 164, .int (wn w1 59 5), .ref 165, .ref 166, .ref 167, .ref 168, .ref 169, .ref 170, .int (wn w1 59 12), .int (nI (S 14 1 + 1)), .int (wn w1 59 14), .int (wn w1 59 15), .int (wn w1 59 16), .int (wn w1 59 17), .int (wn w1 59 18), .int (wn w1 59 19), .int (wn w1 59 20), .ref 171, .ref 172, .ref 173, .int (wn w1 59 24), .int (wn w1 59 25)]))) = w3 at R3 F3
    have hS_w3 := R3.1
    have t24_w3 := R3.2.2.2.2.2.2.2.1.1
    have t5_w3 : wn w3 59 5 = nI (S 10 1) := R3.2.2.2.1.1
    have gt_w3 := R3.2.2.2.1.2 t ht
    have g65_w3 := gt_w3.1
    have g66_w3 : wi w3 66 t = nI (S 5 t) := gt_w3.2.1
    have g67_w3 : wi w3 67 t = nI (S 6 t) := gt_w3.2.2.1
    have g68_w3 : wi w3 68 t = nI (S 7 t) := gt_w3.2.2.2.1
    have g69_w3 : wi w3 69 t = nI (S 8 t) := gt_w3.2.2.2.2
    have nw_w3 : NwM w3 S := R3.2.1
    have sc_w3 : ScM w3 S := R3.2.2.2.2.1
    have l1 : nI (S 6 t) * 12 = nI (S 6 t * 12) := pk_mul _ 12
    have l2 : 46 + nI (S 6 t * 12) = nI (46 + S 6 t * 12) := nI_add 46 _
    have l3 : nI x * 2 = nI (x * 2) := pk_mul _ 2
    have l4 : nI (46 + S 6 t * 12) + nI (x * 2) = nI (46 + S 6 t * 12 + x * 2) := nI_add _ _
    have l5 : nI (46 + S 6 t * 12 + x * 2) + nI a = nI (46 + S 6 t * 12 + (x * 2 + a)) := by rw [nI_add, Nat.add_assoc (46 + S 6 t * 12)]
    have l6 : sm_in (nI (46 + S 6 t * 12 + (x * 2 + a))) 94 = true := sm_in_nI (by omega) (by decide)
    have l7 : (nI (46 + S 6 t * 12 + (x * 2 + a))).toNatClampNeg = 46 + S 6 t * 12 + (x * 2 + a) := nI_clamp (by omega)
    simp (decide := true) only [r75_197, r75_198, r75_200, r75_203, r75_204, r75_206, r75_209, r75_211, r75_212, r75_213, r75_216, r75_217, r75_218, r75_221, r75_222, r75_224, r75_227, r75_228, r75_231, r75_233, r75_234, r75_237, r75_238, r75_239, r75_240, r75_241, r75_242, r75_243, r75_244, r75_246, r75_247, r75_248, r75_250, r75_253, r75_254, r75_257, r75_258, r75_259, r75_262, r75_263, r75_264, r75_266, r75_267, r75_270, r75_272, r75_273, r75_274, r75_276, r75_279, r75_280, r75_283, r75_284, r75_285, r75_286, r75_287, r75_288, r75_290, r75_291, r75_292, r75_294, r75_297, r75_298, r75_301, r75_302, r75_305, r75_307, r75_308, r75_309, r75_310, r75_313, r75_314, r75_315, r75_318, r75_319, r75_321, r75_324, r75_325, r75_326, r75_329, r75_330, r82_0, r82_2, r82_3, r82_5, r82_6, r82_7, r82_10, r82_11, r82_12, r82_13, r82_14, r82_15, r82_16, r82_18, r82_19, m3, l1, l2, l3, l4, l5, l6, l7, g66_w3, g67_w3, g68_w3, g69_w3, v1, v2, sh59 hS_w3, sh60 hS_w3, sh67 hS_w3, sm_wp_some, sm_wp_none, sm_at, sm_get, sm_fld, sm_pfl, sm_cN, sm_ai, sm_al, sm_si, sm_slg, sm_aa, List.getElem?_cons_zero, List.getElem?_cons_succ, List.set_cons_zero, List.set_cons_succ, List.length_cons, List.length_nil, Option.toList_some, Option.toList_none, List.cons_append, List.nil_append, if_true, if_false, true_and, and_true, Option.some.injEq, gs_o, gs_s, List.length_set, pk_us, Nat.reduceLT, Nat.reduceLeDiff, Nat.reduceSub, Nat.reduceEqDiff, Nat.reduceAdd, Int32.reduceLT, Int32.reduceLE, Int32.reduceAdd, Int32.reduceSub, Int32.reduceToNatClampNeg, ↓reduceIte, reduceCtorEq, Nat.lt_irrefl]
    have R4 := R3.now (j := 46 + S 6 t * 12 + (x * 2 + a)) (v := y)
    exact hQ _ ⟨(F1.tr F3).tr (FrM.set (by decide)), fun _ => R4, fun h => absurd rfl h⟩
  · have e5 : s_do S t a y ys x xs 24 = (3, S) := if_neg e
    rw [e5] at hQ
    have d1 : ¬ lg_cmp (lN (S 0 (22 + S 6 t * 6 + x))) 1 = 0 := fun q => e (m8.mp q)
    simp (decide := true) only [r75_73, r75_74, r75_75, r75_76, r75_77, r75_79, r75_81, r75_84, r75_87, r75_88, r78_0, r78_1, r78_3, r78_6, r78_7, r78_9, r78_12, r78_14, r78_15, r78_18, r78_19, r78_20, r78_23, r78_24, r78_27, r78_29, r78_30, r78_31, r78_34, r78_35, r78_38, r78_39 (s0 := 0) (Or.inl rfl), r78_39 (s0 := 1) (Or.inr rfl), r78_40, r78_41, r78_43, r78_46, r78_48, r78_50, r78_51, r78_54, r78_55, r78_58, r78_59, r78_62, r78_63 (s0 := 0) (Or.inl rfl), r78_63 (s0 := 1) (Or.inr rfl), r78_64, r78_65, r78_67, r78_70, r78_72, r78_74, r78_75, r78_78, r78_79, r78_82, r78_83 (s0 := 0) (Or.inl rfl), r78_83 (s0 := 1) (Or.inr rfl), r78_84, r78_85, r78_87, r78_90, r78_92, r78_94, r78_95, r78_98, r78_99, r78_102, r78_103, r78_106, r78_107 (s0 := 0) (Or.inl rfl), r78_107 (s0 := 1) (Or.inr rfl), r78_108, r78_109, r78_111, r78_114, r78_115, r78_117, r78_120, r78_121, r78_123, r78_126, r78_128, r78_129, r78_130, r78_133, r78_134, r78_137, r78_138 (s0 := 0) (Or.inl rfl), r78_138 (s0 := 1) (Or.inr rfl), r78_139, r78_140, r78_142, r78_145, r78_146, r78_149, r78_150, r78_151, r78_154, r78_155, r78_156, r78_158, r78_161, r78_162, r78_163, r78_164, r78_167, r78_168, r78_171, r78_172 (s0 := 0) (Or.inl rfl), r78_172 (s0 := 1) (Or.inr rfl), r78_173, r78_174, r78_176, r78_179, r78_180, r78_183, r78_184, r78_185, r78_188, r78_189, r78_190, r78_192, r78_195, r78_196, r78_197, r78_198, r78_201, r78_202, r78_205, r78_206 (s0 := 0) (Or.inl rfl), r78_206 (s0 := 1) (Or.inr rfl), r78_207, r78_208, r78_210, r78_213, r78_215, r78_216, r78_217, r78_218, r78_221, r78_222, r78_225, r78_227, r78_228, r78_229, r78_232, r78_233, r78_236, r78_237 (s0 := 0) (Or.inl rfl), r78_237 (s0 := 1) (Or.inr rfl), r79_0, r79_2, r79_3, r79_5, r79_6, r79_7, r79_10, r79_11, r79_12, r79_13, r79_14, pu_w, t24_w, m1, m2, m3, m4, m5, m6, m7, d1, t5_w, g66_w, g67_w, g68_w, g69_w, v1, v2, sh59 hS_w, sh60 hS_w, sh65 hS_w, sh66 hS_w, sh67 hS_w, sh68 hS_w, sh69 hS_w, sh70 hS_w, sh72 hS_w, sh73 hS_w, sm_wp_some, sm_wp_none, sm_at, sm_get, sm_fld, sm_pfl, sm_cN, sm_ai, sm_al, sm_si, sm_slg, sm_aa, List.getElem?_cons_zero, List.getElem?_cons_succ, List.set_cons_zero, List.set_cons_succ, List.length_cons, List.length_nil, Option.toList_some, Option.toList_none, List.cons_append, List.nil_append, if_true, if_false, true_and, and_true, Option.some.injEq, gs_o, gs_s, List.length_set, pk_us, Nat.reduceLT, Nat.reduceLeDiff, Nat.reduceSub, Nat.reduceEqDiff, Nat.reduceAdd, Int32.reduceLT, Int32.reduceLE, Int32.reduceAdd, Int32.reduceSub, Int32.reduceToNatClampNeg, ↓reduceIte, reduceCtorEq, Nat.lt_irrefl]
    exact hQ w ⟨FrM.rf w, fun h => absurd h (by omega), fun _ => ⟨hR.rf, hR.2.2.2.2.2.2.2.2⟩⟩
