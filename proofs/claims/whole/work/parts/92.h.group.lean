/-! THE GROUP, described purely, and the loop of the class over it (gen/n17.py) -/
def s_start (S : sm_S) : sm_S := s_up (s_up (s_up (s_up S 14 3 (20 * s_calls S (S 10 1))) 14 4 0) 14 5 0) 10 5 4294967293
/-- m transactions from place i on: the fault, its place, and the state after it -/
def s_grp : Nat → Nat → sm_S → Nat × Nat × sm_S
  | 0, _, S => (0, 4294967293, S)
  | m + 1, i, S => if (s_tx S i).1 ≠ 0 then ((s_tx S i).1, i, (s_tx S i).2) else s_grp m (i + 1) (s_tx S i).2
theorem s_grp_1 {m i : Nat} {S : sm_S} : s_grp (m + 1) i S = if (s_tx S i).1 ≠ 0 then ((s_tx S i).1, i, (s_tx S i).2) else s_grp m (i + 1) (s_tx S i).2 := rfl
def s_fin (S0 : sm_S) (r : Nat × Nat × sm_S) : sm_S := fun k => if k = 10 then (fun i => if i = 0 then (if r.1 = 0 then r.2.2 10 0 else S0 10 0) else if i = 1 then 0 else if i = 2 then (if r.1 = 0 then S0 10 2 + 1 else S0 10 2) else if i = 3 then (if r.1 = 0 then S0 10 3 else S0 10 3 + 1) else if i = 4 then r.2.1 else if i = 5 then r.2.2 10 5 else if i = 6 then r.2.2 14 4 else r.2.2 14 5) else if k = 0 then (if r.1 = 0 then r.2.2 0 else S0 0) else if k = 1 then (if r.1 = 0 then r.2.2 1 else S0 1) else r.2.2 k
theorem grp_B {T : Nat} : ∀ (m : Nat) {i : Nat} {S : sm_S}, i + m = S 10 1 → TxB T S → s_sm T S (s_grp m i S).2.2 ∧ RfB (s_grp m i S).2.2 ∧ (s_grp m i S).1 ≤ 10 ∧ ((s_grp m i S).1 = 0 → TxB T (s_grp m i S).2.2) := by
  intro m
  induction m with
  | zero => intro i S hi hB; exact ⟨s_sm.rf T S, hB.rf, Nat.zero_le 10, fun _ => hB⟩
  | succ m ih =>
    intro i S hi hB
    obtain ⟨a, b, c, d⟩ := s_tx_B hB (t := i) (by omega)
    rw [s_grp_1]
    by_cases e : (s_tx S i).1 = 0
    · rw [if_neg (fun h => h e)]
      obtain ⟨a', b', c', d'⟩ := ih (i := i + 1) (by rw [a.2.1 1 (by decide) (by decide)]; omega) (d e)
      exact ⟨a.tr a', b', c', d'⟩
    · rw [if_pos e]
      exact ⟨a, b, c, fun h => absurd h e⟩
def AgC (w w' : sm_W) (r : Nat × Nat × sm_S) : Prop := (∀ k, (15 ≤ k ∧ k ≤ 28) ∨ 59 ≤ k → w'[k]? = w[k]?) ∧ wn w' 0 7 = wn w 0 7 ∧ wn w' 0 8 = wn w 0 8 ∧ wn w' 0 6 = nI r.2.1 ∧ (r.1 = 0 → BtC w' r.2.2) ∧ (r.1 ≠ 0 → RgC w' r.2.2 ∧ wn w' 55 6 = nI (r.2.2 10 5))
theorem gl_C {X : sm_X} {Q : Option Value → sm_W → Prop} {T : Nat} : ∀ (m : Nat) {i : Nat} {S : sm_S} {w : sm_W}, i + m = S 10 1 → BtC w S → TxB T S → wn w 0 6 = -3 → (∀ w' z, AgC w w' (s_grp m i S) → sm_R X 20 76 [.ref 100, .int (nI (s_grp m i S).1), .int z] [] w' Q) → sm_R X 20 40 [.ref 100, .int 0, .int (nI i)] [] w Q := by
  intro m
  induction m with
  | zero =>
    intro i S w hi hT hB h6 hQ
    have hS := hT.1
    have h4 : S 10 1 ≤ 4 := hB.2.2.1.1
    have g1 : wn w 45 1 = nI (S 10 1) := hT.2.2.2.1.1
    have y1 : nI (S 10 1) ≤ nI i := nI_le (by omega) (by omega)
    simp (decide := true) only [r20_40, r20_41, r20_42, r20_45, r20_48, g1, y1, sh0 hS, sh45 hS, sm_wp_some, sm_wp_none, sm_at, sm_get, sm_fld, sm_pfl, sm_cN, sm_ai, sm_al, sm_si, sm_slg, sm_aa, List.getElem?_cons_zero, List.getElem?_cons_succ, List.set_cons_zero, List.set_cons_succ, List.length_cons, List.length_nil, Option.toList_some, Option.toList_none, List.cons_append, List.nil_append, if_true, if_false, true_and, and_true, Option.some.injEq, gs_o, gs_s, List.length_set, hS.1, pk_us, Nat.reduceLT, Nat.reduceLeDiff, Nat.reduceSub, Nat.reduceEqDiff, Nat.reduceAdd, Int32.reduceLT, Int32.reduceLE, Int32.reduceAdd, Int32.reduceSub, Int32.reduceToNatClampNeg, ↓reduceIte, reduceCtorEq, Nat.lt_irrefl]
    exact hQ w _ ⟨fun _ _ => rfl, rfl, rfl, by rw [h6]; rfl, fun _ => hT, fun h => absurd rfl h⟩
  | succ m ih =>
    intro i S w hi hT hB h6 hQ
    have hS := hT.1
    have h4 : S 10 1 ≤ 4 := hB.2.2.1.1
    have g1 : wn w 45 1 = nI (S 10 1) := hT.2.2.2.1.1
    have y1 : ¬ nI (S 10 1) ≤ nI i := nI_ge (by omega) (by omega)
    rw [r20_40]
    simp (decide := true) only [r20_41, r20_42, r20_45, r20_48, r20_51, r20_52, r20_55, r20_56, r20_57, g1, y1, sh0 hS, sh45 hS, sm_wp_some, sm_wp_none, sm_at, sm_get, sm_fld, sm_pfl, sm_cN, sm_ai, sm_al, sm_si, sm_slg, sm_aa, List.getElem?_cons_zero, List.getElem?_cons_succ, List.set_cons_zero, List.set_cons_succ, List.length_cons, List.length_nil, Option.toList_some, Option.toList_none, List.cons_append, List.nil_append, if_true, if_false, true_and, and_true, Option.some.injEq, gs_o, gs_s, List.length_set, hS.1, pk_us, Nat.reduceLT, Nat.reduceLeDiff, Nat.reduceSub, Nat.reduceEqDiff, Nat.reduceAdd, Int32.reduceLT, Int32.reduceLE, Int32.reduceAdd, Int32.reduceSub, Int32.reduceToNatClampNeg, ↓reduceIte, reduceCtorEq, Nat.lt_irrefl]
    obtain ⟨a, b, c, d⟩ := s_tx_B hB (t := i) (by omega)
    refine tx_C hT hB (by omega) (fun w' hA => ?_)
    obtain ⟨a1, a2, a3⟩ := hA
    rw [s_grp_1] at hQ
    have i1 : nI i + 1 = nI (i + 1) := nI_1 i
    have c0 := a1 0 (Or.inl rfl)
    by_cases e : (s_tx S i).1 = 0
    · rw [if_neg (fun h => h e)] at hQ
      have n0 : nI (s_tx S i).1 = 0 := by rw [e]; rfl
      simp (decide := true) only [r20_60, r20_61, r20_62, r20_70, r20_73, n0, i1, sm_wp_some, sm_wp_none, sm_at, sm_get, sm_fld, sm_pfl, sm_cN, sm_ai, sm_al, sm_si, sm_slg, sm_aa, List.getElem?_cons_zero, List.getElem?_cons_succ, List.set_cons_zero, List.set_cons_succ, List.length_cons, List.length_nil, Option.toList_some, Option.toList_none, List.cons_append, List.nil_append, if_true, if_false, true_and, and_true, Option.some.injEq, gs_o, gs_s, List.length_set, pk_us, Nat.reduceLT, Nat.reduceLeDiff, Nat.reduceSub, Nat.reduceEqDiff, Nat.reduceAdd, Int32.reduceLT, Int32.reduceLE, Int32.reduceAdd, Int32.reduceSub, Int32.reduceToNatClampNeg, ↓reduceIte, reduceCtorEq, Nat.lt_irrefl]
      refine ih (by rw [a.2.1 1 (by decide) (by decide)]; omega) (a2 e) (d e) (by rw [wn_c c0]; exact h6) (fun w'' z hA => hQ w'' z ?_)
      obtain ⟨b1, b2, b3, b4, b5, b6⟩ := hA
      exact ⟨fun k hk => (b1 k hk).trans (a1 k (by omega)), b2.trans (wn_c c0), b3.trans (wn_c c0), b4, b5, b6⟩
    · rw [if_pos e] at hQ
      obtain ⟨q, q7⟩ := a3 e
      have hS' := q.1
      have n0 : ¬ nI (s_tx S i).1 = 0 := fun h => e ((nI_z (by omega)).mp h)
      have key : ∀ z, sm_R X 20 76 [.ref 100, .int (nI (s_tx S i).1), .int z] [] (w'.set 0 (.inr (6, [.ref 101, .ref 115, .ref 129, .ref 132, .ref 145, .ref 155, .int (nI i), .int (wn w' 0 7), .int (wn w' 0 8)]))) Q := by
        intro z
        obtain ⟨q1, q2, q3, q4, q5, q6⟩ := q
        have h4' : (s_tx S i).2 10 1 ≤ 4 := by rw [a.2.1 1 (by decide) (by decide)]; exact h4
        refine hQ _ z ⟨fun k hk => (gs_o (by omega)).trans (a1 k (by omega)), ?_, ?_, ?_, fun h => absurd h e, fun _ => ⟨⟨q1.p0, q2.o (by omega), q3.o h4' (by omega), q4.o (by omega), ?_, ?_⟩, ?_⟩⟩
        · rw [wn0_7 q1.1]; exact wn_c c0
        · rw [wn0_8 q1.1]; exact wn_c c0
        · rw [wn0_6 q1.1]
        · rw [wn_o (by decide)]; exact q5
        · rw [wn_o (by decide)]; exact q6
        · rw [wn_o (by decide)]; exact q7
      have g1' : wn w' 45 1 = nI (S 10 1) := by
        rw [q.2.2.1.1, a.2.1 1 (by decide) (by decide)]
      by_cases y2 : nI (S 10 1) ≤ nI (i + 1)
      · simp (decide := true) only [r20_40, r20_41, r20_42, r20_45, r20_48, r20_51, r20_52, r20_60, r20_61, r20_62, r20_65, r20_66, r20_67, r20_70, r20_73, n0, i1, y2, g1', sh0 hS', sh45 hS', sm_wp_some, sm_wp_none, sm_at, sm_get, sm_fld, sm_pfl, sm_cN, sm_ai, sm_al, sm_si, sm_slg, sm_aa, List.getElem?_cons_zero, List.getElem?_cons_succ, List.set_cons_zero, List.set_cons_succ, List.length_cons, List.length_nil, Option.toList_some, Option.toList_none, List.cons_append, List.nil_append, if_true, if_false, true_and, and_true, Option.some.injEq, gs_o, gs_s, List.length_set, pk_us, Nat.reduceLT, Nat.reduceLeDiff, Nat.reduceSub, Nat.reduceEqDiff, Nat.reduceAdd, Int32.reduceLT, Int32.reduceLE, Int32.reduceAdd, Int32.reduceSub, Int32.reduceToNatClampNeg, ↓reduceIte, reduceCtorEq, Nat.lt_irrefl, hS'.1]
        exact key _
      · simp (decide := true) only [r20_40, r20_41, r20_42, r20_45, r20_48, r20_51, r20_52, r20_60, r20_61, r20_62, r20_65, r20_66, r20_67, r20_70, r20_73, n0, i1, y2, g1', sh0 hS', sh45 hS', sm_wp_some, sm_wp_none, sm_at, sm_get, sm_fld, sm_pfl, sm_cN, sm_ai, sm_al, sm_si, sm_slg, sm_aa, List.getElem?_cons_zero, List.getElem?_cons_succ, List.set_cons_zero, List.set_cons_succ, List.length_cons, List.length_nil, Option.toList_some, Option.toList_none, List.cons_append, List.nil_append, if_true, if_false, true_and, and_true, Option.some.injEq, gs_o, gs_s, List.length_set, pk_us, Nat.reduceLT, Nat.reduceLeDiff, Nat.reduceSub, Nat.reduceEqDiff, Nat.reduceAdd, Int32.reduceLT, Int32.reduceLE, Int32.reduceAdd, Int32.reduceSub, Int32.reduceToNatClampNeg, ↓reduceIte, reduceCtorEq, Nat.lt_irrefl, hS'.1]
        exact key _
/-! submit of the class (gen/n18.py) -/
theorem pp_C {X : sm_X} {w : sm_W} {Q : Option Value → sm_W → Prop} {S : sm_S} (hS : Sh w) (hG : GrC w S) (h4 : S 10 1 ≤ 4) : sm_R X 22 0 [.ref 155] [] w Q ↔ Q none (w.set 55 (.inr (2, [.ref 101, .ref 145, .ref 156, .int (nI (20 * s_calls S (S 10 1))), .int 0, .int 0, .int (-3), .ref (wr w 55 7), .int (wn w 55 8), .int (wn w 55 9), .int (wn w 55 10)]))) := by
  have c1 : 20 * nI (s_calls S (S 10 1)) = nI (20 * s_calls S (S 10 1)) := pk_mul 20 _
  have cc := fun Q => calls_C (X := X) (Q := Q) hS hG h4
  simp (decide := true) only [r22_0, r22_1, r22_3, r22_4, r22_7, r22_10, r22_11, r22_14, r22_15, r22_16, r22_19, r22_20, r22_21, r22_24, r22_25, r22_27, r22_30, cc, c1, sh45 hS, sh55 hS, List.set_set, sm_wp_some, sm_wp_none, sm_at, sm_get, sm_fld, sm_pfl, sm_cN, sm_ai, sm_al, sm_si, sm_slg, sm_aa, List.getElem?_cons_zero, List.getElem?_cons_succ, List.set_cons_zero, List.set_cons_succ, List.length_cons, List.length_nil, Option.toList_some, Option.toList_none, List.cons_append, List.nil_append, if_true, if_false, true_and, and_true, Option.some.injEq, gs_o, gs_s, List.length_set, hS.1, pk_us, Nat.reduceLT, Nat.reduceLeDiff, Nat.reduceSub, Nat.reduceEqDiff, Nat.reduceAdd, Int32.reduceLT, Int32.reduceLE, Int32.reduceAdd, Int32.reduceSub, Int32.reduceToNatClampNeg, ↓reduceIte, reduceCtorEq, Nat.lt_irrefl]
theorem TxB.start {n : Nat} {S : sm_S} (hB : Bd n S) (hn : n < 512) : TxB (S 10 0) (s_start S) := by
  obtain ⟨b1, b2, b3, b4, r1, r2, r3⟩ := hB
  have hc := s_calls_le (S := S) (S 10 1)
  have h4 := b3.1
  refine ⟨b1, b2, b3, b4, ?_, Nat.zero_le _, Nat.le_refl 0, Nat.le_refl _, Nat.le_refl _, by omega, rfl⟩
  show 20 * s_calls S (S 10 1) ≤ 80
  omega
theorem sub_C {X : sm_X} {w : sm_W} {Q : Option Value → sm_W → Prop} {S : sm_S} {n : Nat} (hS : Sh w) (hP : PicC w S) (hB : Bd n S) (hn : n < 512) (h0 : S 10 1 ≠ 0) (hQ : ∀ w', Sh w' → PicC w' (s_fin S (s_grp (S 10 1) 0 (s_start S))) → (∀ k, 59 ≤ k → w'[k]? = w[k]?) → Q (some (.int (nI (s_grp (S 10 1) 0 (s_start S)).1))) w') : sm_R X 20 0 [.ref 100, sm_J, sm_J] [] w Q := by
  have h4 : S 10 1 ≤ 4 := hB.2.2.1.1
  obtain ⟨hBk, hPr, hGr, hSc, hRp⟩ := hP
  have g1 : wn w 45 1 = nI (S 10 1) := hGr.1
  have y0 : ¬ nI (S 10 1) = 0 := fun h => h0 ((nI_z (by omega)).mp h)
  simp (decide := true) only [r20_0, r20_1, r20_4, r20_7, r20_12, r20_13, r20_16, r20_17, r20_20, g1, y0, sh0 hS, sh15 hS, sh45 hS, sm_wp_some, sm_wp_none, sm_at, sm_get, sm_fld, sm_pfl, sm_cN, sm_ai, sm_al, sm_si, sm_slg, sm_aa, List.getElem?_cons_zero, List.getElem?_cons_succ, List.set_cons_zero, List.set_cons_succ, List.length_cons, List.length_nil, Option.toList_some, Option.toList_none, List.cons_append, List.nil_append, if_true, if_false, true_and, and_true, Option.some.injEq, gs_o, gs_s, List.length_set, hS.1, pk_us, Nat.reduceLT, Nat.reduceLeDiff, Nat.reduceSub, Nat.reduceEqDiff, Nat.reduceAdd, Int32.reduceLT, Int32.reduceLE, Int32.reduceAdd, Int32.reduceSub, Int32.reduceToNatClampNeg, ↓reduceIte, reduceCtorEq, Nat.lt_irrefl]
  refine cp15 hS hBk (fun w1 s1 k15 f1 => ?_)
  have G1 : GrC w1 S := hGr.c h4 (f1 45 (by omega)) (fun t _ => f1 _ (by omega))
  have pp := fun Q => pp_C (X := X) (Q := Q) s1 G1 h4
  have hc := s_calls_le (S := S) (S 10 1)
  simp (decide := true) only [r20_23, r20_24, r20_27, r20_30, r20_31, r20_33, r20_36, r20_37, r20_38, r20_39, pp, Option.toList_none, sh0 s1, sh55 s1, sm_wp_some, sm_wp_none, sm_at, sm_get, sm_fld, sm_pfl, sm_cN, sm_ai, sm_al, sm_si, sm_slg, sm_aa, List.getElem?_cons_zero, List.getElem?_cons_succ, List.set_cons_zero, List.set_cons_succ, List.length_cons, List.length_nil, Option.toList_some, Option.toList_none, List.cons_append, List.nil_append, if_true, if_false, true_and, and_true, Option.some.injEq, gs_o, gs_s, List.length_set, pk_us, Nat.reduceLT, Nat.reduceLeDiff, Nat.reduceSub, Nat.reduceEqDiff, Nat.reduceAdd, Int32.reduceLT, Int32.reduceLE, Int32.reduceAdd, Int32.reduceSub, Int32.reduceToNatClampNeg, ↓reduceIte, reduceCtorEq, Nat.lt_irrefl, s1.1]
  have c0 := f1 0 (by omega)
  have c55 := f1 55 (by omega)
  have T2 : BtC ((w1.set 55 (.inr (2, [.ref 101, .ref 145, .ref 156, .int (nI (20 * s_calls S (S 10 1))), .int 0, .int 0, .int (-3), .ref (wr w1 55 7), .int (wn w1 55 8), .int (wn w1 55 9), .int (wn w1 55 10)]))).set 0 (.inr (6, [.ref 101, .ref 115, .ref 129, .ref 132, .ref 145, .ref 155, .int (-3), .int (wn w1 0 7), .int (wn w1 0 8)]))) (s_start S) := by
    refine ⟨s1.p55.p0, (BkC.o (k := 55) (BkC.c (w := w) (S := s_start S) hBk (fun k _ _ => f1 k (by omega))) (by omega)).o (by omega), (PrC.o (k := 55) (PrC.c (w := w) (S := s_start S) hPr (fun k h1 h2 => f1 k (by omega))) (by omega)).o (by omega), (GrC.o (k := 55) (S := s_start S) G1 h4 (by omega)).o h4 (by omega), (ScC.o (k := 55) (ScC.c (w := w) (S := s_start S) hSc (fun t _ => f1 _ (by omega))) (by omega)).o (by omega), ?_, ?_, ?_, ?_⟩
    · rw [wn_o (by decide), wn55_3 s1.1]; rfl
    · rw [wn_o (by decide), wn55_4 s1.1]; rfl
    · rw [wn_o (by decide), wn55_5 s1.1]; rfl
    · rw [wn_o (by decide), wn55_6 s1.1]
  have e6 : wn ((w1.set 55 (.inr (2, [.ref 101, .ref 145, .ref 156, .int (nI (20 * s_calls S (S 10 1))), .int 0, .int 0, .int (-3), .ref (wr w1 55 7), .int (wn w1 55 8), .int (wn w1 55 9), .int (wn w1 55 10)]))).set 0 (.inr (6, [.ref 101, .ref 115, .ref 129, .ref 132, .ref 145, .ref 155, .int (-3), .int (wn w1 0 7), .int (wn w1 0 8)]))) 0 6 = -3 := wn0_6 s1.p55.1
  have e7 : wn ((w1.set 55 (.inr (2, [.ref 101, .ref 145, .ref 156, .int (nI (20 * s_calls S (S 10 1))), .int 0, .int 0, .int (-3), .ref (wr w1 55 7), .int (wn w1 55 8), .int (wn w1 55 9), .int (wn w1 55 10)]))).set 0 (.inr (6, [.ref 101, .ref 115, .ref 129, .ref 132, .ref 145, .ref 155, .int (-3), .int (wn w1 0 7), .int (wn w1 0 8)]))) 0 7 = nI (S 10 2) := by rw [wn0_7 s1.p55.1, wn_c c0]; exact hRp.2.2.1
  have e8 : wn ((w1.set 55 (.inr (2, [.ref 101, .ref 145, .ref 156, .int (nI (20 * s_calls S (S 10 1))), .int 0, .int 0, .int (-3), .ref (wr w1 55 7), .int (wn w1 55 8), .int (wn w1 55 9), .int (wn w1 55 10)]))).set 0 (.inr (6, [.ref 101, .ref 115, .ref 129, .ref 132, .ref 145, .ref 155, .int (-3), .int (wn w1 0 7), .int (wn w1 0 8)]))) 0 8 = nI (S 10 3) := by rw [wn0_8 s1.p55.1, wn_c c0]; exact hRp.2.2.2.1
  have K2 : BkC 15 ((w1.set 55 (.inr (2, [.ref 101, .ref 145, .ref 156, .int (nI (20 * s_calls S (S 10 1))), .int 0, .int 0, .int (-3), .ref (wr w1 55 7), .int (wn w1 55 8), .int (wn w1 55 9), .int (wn w1 55 10)]))).set 0 (.inr (6, [.ref 101, .ref 115, .ref 129, .ref 132, .ref 145, .ref 155, .int (-3), .int (wn w1 0 7), .int (wn w1 0 8)]))) S := (k15.o (by omega)).o (by omega)
  have F2 : ∀ k, 59 ≤ k → ((w1.set 55 (.inr (2, [.ref 101, .ref 145, .ref 156, .int (nI (20 * s_calls S (S 10 1))), .int 0, .int 0, .int (-3), .ref (wr w1 55 7), .int (wn w1 55 8), .int (wn w1 55 9), .int (wn w1 55 10)]))).set 0 (.inr (6, [.ref 101, .ref 115, .ref 129, .ref 132, .ref 145, .ref 155, .int (-3), .int (wn w1 0 7), .int (wn w1 0 8)])))[k]? = w[k]? := fun k hk => ((gs_o (by omega)).trans (gs_o (by omega))).trans (f1 k (by omega))
  generalize ((w1.set 55 (.inr (2, [.ref 101, .ref 145, .ref 156, .int (nI (20 * s_calls S (S 10 1))), .int 0, .int 0, .int (-3), .ref (wr w1 55 7), .int (wn w1 55 8), .int (wn w1 55 9), .int (wn w1 55 10)]))).set 0 (.inr (6, [.ref 101, .ref 115, .ref 129, .ref 132, .ref 145, .ref 155, .int (-3), .int (wn w1 0 7), .int (wn w1 0 8)]))) = w2 at T2 e6 e7 e8 K2 F2
  have hB2 := TxB.start hB hn
  refine gl_C (T := S 10 0) (S := s_start S) (i := 0) (S 10 1) (Nat.zero_add _) T2 hB2 e6 (fun w3 z hA => ?_)
  obtain ⟨b1, b2, b3, b4, b5, b6⟩ := hA
  obtain ⟨a, b, c, d⟩ := grp_B (T := S 10 0) (S 10 1) (i := 0) (S := s_start S) (Nat.zero_add _) hB2
  have bR := hB.2.2.2.2
  generalize s_grp (S 10 1) 0 (s_start S) = r at *
  have r101 : r.2.2 10 1 = S 10 1 := a.2.1 1 (by decide) (by decide)
  have h4' : r.2.2 10 1 ≤ 4 := by rw [r101]; exact h4
  by_cases e : r.1 = 0
  · have n0 : nI r.1 = 0 := by rw [e]; rfl
    have T3 := b5 e
    have hS3 := T3.1
    have x1 : wn w3 0 7 + 1 = nI (S 10 2 + 1) := by rw [b2, e7]; exact nI_1 _
    have x8 : wn w3 0 8 = nI (S 10 3) := b3.trans e8
    simp (decide := true) only [r20_76, r20_77, r20_80, r20_81, r20_82, r20_85, r20_86, r20_87, r20_90, r20_114, r20_115, r20_118, r20_119, r20_122, r20_123, n0, x1, sh0 hS3, sh45 hS3, sm_wp_some, sm_wp_none, sm_at, sm_get, sm_fld, sm_pfl, sm_cN, sm_ai, sm_al, sm_si, sm_slg, sm_aa, List.getElem?_cons_zero, List.getElem?_cons_succ, List.set_cons_zero, List.set_cons_succ, List.length_cons, List.length_nil, Option.toList_some, Option.toList_none, List.cons_append, List.nil_append, if_true, if_false, true_and, and_true, Option.some.injEq, gs_o, gs_s, List.length_set, pk_us, Nat.reduceLT, Nat.reduceLeDiff, Nat.reduceSub, Nat.reduceEqDiff, Nat.reduceAdd, Int32.reduceLT, Int32.reduceLE, Int32.reduceAdd, Int32.reduceSub, Int32.reduceToNatClampNeg, ↓reduceIte, reduceCtorEq, Nat.lt_irrefl, hS3.1]
    rw [n0] at hQ
    refine hQ _ hS3.p0.p45 ⟨?_, ?_, ⟨?_, fun t ht => absurd ht (Nat.not_lt_zero _)⟩, ?_, ?_, ?_, ?_, ?_, ?_⟩ (fun k hk => ((gs_o (by omega)).trans (gs_o (by omega))).trans ((b1 k (by omega)).trans (F2 k hk)))
    · have q := (T3.2.1.o (k := 0) (c := (.inr (6, [.ref 101, .ref 115, .ref 129, .ref 132, .ref 145, .ref 155, .int (wn w3 0 6), .int (nI (S 10 2 + 1)), .int (wn w3 0 8)]))) (by omega)).o (k := 45) (c := .inr (1, [.ref 146, .int 0])) (by omega)
      have f0 : s_fin S r 0 = r.2.2 0 := if_pos e
      have f1 : s_fin S r 1 = r.2.2 1 := if_pos e
      have f10 : s_fin S r 10 0 = r.2.2 10 0 := if_pos e
      unfold BkC s_ob
      rw [f0, f1, f10]
      exact q
    · exact (T3.2.2.1.o (by omega)).o (by omega)
    · rw [wn45_1 hS3.p0.1]; rfl
    · exact (T3.2.2.2.2.1.o (by omega)).o (by omega)
    · rw [wn_o (by decide), wn0_6 hS3.1]; exact b4
    · rw [wn_o (by decide), wn_o (by decide), T3.2.2.2.2.2.2.2.2]
      show _ = nI (r.2.2 10 5)
      rw [(d e).2.2.2.2.2.2.2.2.2.2]
      rfl
    · rw [wn_o (by decide), wn0_7 hS3.1]
      have f2 : s_fin S r 10 2 = S 10 2 + 1 := if_pos e
      rw [f2]
    · rw [wn_o (by decide), wn0_8 hS3.1, x8]
      have f3 : s_fin S r 10 3 = S 10 3 := if_pos e
      rw [f3]
    · intro _
      rw [wn_o (by decide), wn_o (by decide), wn_o (by decide), wn_o (by decide)]
      exact ⟨T3.2.2.2.2.2.2.1, T3.2.2.2.2.2.2.2.1⟩
  · have n0 : ¬ nI r.1 = 0 := fun h => e ((nI_z (by omega)).mp h)
    obtain ⟨q, q7⟩ := b6 e
    have hS3 := q.1
    simp (decide := true) only [r20_76, r20_77, r20_93, r20_94, r20_97, r20_98, r20_101, n0, sh0 hS3, sh1 hS3, sm_wp_some, sm_wp_none, sm_at, sm_get, sm_fld, sm_pfl, sm_cN, sm_ai, sm_al, sm_si, sm_slg, sm_aa, List.getElem?_cons_zero, List.getElem?_cons_succ, List.set_cons_zero, List.set_cons_succ, List.length_cons, List.length_nil, Option.toList_some, Option.toList_none, List.cons_append, List.nil_append, if_true, if_false, true_and, and_true, Option.some.injEq, gs_o, gs_s, List.length_set, pk_us, Nat.reduceLT, Nat.reduceLeDiff, Nat.reduceSub, Nat.reduceEqDiff, Nat.reduceAdd, Int32.reduceLT, Int32.reduceLE, Int32.reduceAdd, Int32.reduceSub, Int32.reduceToNatClampNeg, ↓reduceIte, reduceCtorEq, Nat.lt_irrefl]
    have K3 : BkC 15 w3 S := K2.c (fun k h1 h2 => b1 k (by omega))
    refine cp1 hS3 K3 (fun w4 s4 k4 f4 => ?_)
    have c0' := f4 0 (by omega)
    have x1 : wn w4 0 8 + 1 = nI (S 10 3 + 1) := by rw [wn_c c0', b3, e8]; exact nI_1 _
    have x7 : wn w4 0 7 = nI (S 10 2) := by rw [wn_c c0', b2, e7]
    simp (decide := true) only [r20_104, r20_105, r20_106, r20_109, r20_110, r20_111, r20_114, r20_115, r20_118, r20_119, r20_122, r20_123, x1, Option.toList_none, sh0 s4, sh45 s4, sm_wp_some, sm_wp_none, sm_at, sm_get, sm_fld, sm_pfl, sm_cN, sm_ai, sm_al, sm_si, sm_slg, sm_aa, List.getElem?_cons_zero, List.getElem?_cons_succ, List.set_cons_zero, List.set_cons_succ, List.length_cons, List.length_nil, Option.toList_some, Option.toList_none, List.cons_append, List.nil_append, if_true, if_false, true_and, and_true, Option.some.injEq, gs_o, gs_s, List.length_set, pk_us, Nat.reduceLT, Nat.reduceLeDiff, Nat.reduceSub, Nat.reduceEqDiff, Nat.reduceAdd, Int32.reduceLT, Int32.reduceLE, Int32.reduceAdd, Int32.reduceSub, Int32.reduceToNatClampNeg, ↓reduceIte, reduceCtorEq, Nat.lt_irrefl, s4.1]
    refine hQ _ s4.p0.p45 ⟨?_, ?_, ⟨?_, fun t ht => absurd ht (Nat.not_lt_zero _)⟩, ?_, ?_, ?_, ?_, ?_, ?_⟩ (fun k hk => ((gs_o (by omega)).trans (gs_o (by omega))).trans ((f4 k (by omega)).trans ((b1 k (by omega)).trans (F2 k hk))))
    · have q := (k4.o (k := 0) (c := (.inr (6, [.ref 101, .ref 115, .ref 129, .ref 132, .ref 145, .ref 155, .int (wn w4 0 6), .int (wn w4 0 7), .int (nI (S 10 3 + 1))]))) (by omega)).o (k := 45) (c := .inr (1, [.ref 146, .int 0])) (by omega)
      have f0 : s_fin S r 0 = S 0 := if_neg e
      have f1 : s_fin S r 1 = S 1 := if_neg e
      have f10 : s_fin S r 10 0 = S 10 0 := if_neg e
      unfold BkC s_ob
      rw [f0, f1, f10]
      exact q
    · exact ((q.2.1.c (fun k _ _ => f4 k (by omega))).o (by omega)).o (by omega)
    · rw [wn45_1 s4.p0.1]; rfl
    · exact ((q.2.2.2.1.c (fun t _ => f4 _ (by omega))).o (by omega)).o (by omega)
    · rw [wn_o (by decide), wn0_6 s4.1, wn_c c0']; exact b4
    · rw [wn_o (by decide), wn_o (by decide), wn_c (f4 55 (by omega))]; exact q7
    · rw [wn_o (by decide), wn0_7 s4.1, x7]
      have f2 : s_fin S r 10 2 = S 10 2 := if_neg e
      rw [f2]
    · rw [wn_o (by decide), wn0_8 s4.1]
      have f3 : s_fin S r 10 3 = S 10 3 + 1 := if_neg e
      rw [f3]
    · intro _
      rw [wn_o (by decide), wn_o (by decide), wn_o (by decide), wn_o (by decide), wn_c (f4 55 (by omega)), wn_c (f4 55 (by omega))]
      exact ⟨q.2.2.2.2.1, q.2.2.2.2.2⟩
