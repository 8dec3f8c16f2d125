/-! THE RUN of the class (gen/n11.py) -/
theorem s_put_l {s v : Nat} {S : sm_S} : (s_put S s v).1 ≤ 3 := by
  unfold s_put
  split
  · show 1 ≤ 3; decide
  · show 0 ≤ 3; decide
theorem s_if_l {S S' : sm_S} {c : Prop} [Decidable c] : (s_if c S S').1 ≤ 3 := by
  unfold s_if
  split
  · show 0 ≤ 3; decide
  · show 3 ≤ 3; decide
theorem act_l {t a c : Nat} {S : sm_S} (hc : c < 31) : (s_act S t c a).1 ≤ 3 := by
  have h : c = 0 ∨ c = 1 ∨ c = 2 ∨ c = 3 ∨ c = 4 ∨ c = 5 ∨ c = 6 ∨ c = 7 ∨ c = 8 ∨ c = 9 ∨ c = 10 ∨ c = 11 ∨ c = 12 ∨ c = 13 ∨ c = 14 ∨ c = 15 ∨ c = 16 ∨ c = 17 ∨ c = 18 ∨ c = 19 ∨ c = 20 ∨ c = 21 ∨ c = 22 ∨ c = 23 ∨ c = 24 ∨ c = 25 ∨ c = 26 ∨ c = 27 ∨ c = 28 ∨ c = 29 ∨ c = 30 := by omega
  rcases h with rfl | rfl | rfl | rfl | rfl | rfl | rfl | rfl | rfl | rfl | rfl | rfl | rfl | rfl | rfl | rfl | rfl | rfl | rfl | rfl | rfl | rfl | rfl | rfl | rfl | rfl | rfl | rfl | rfl | rfl | rfl
  · exact s_put_l
  · exact s_put_l
  · exact s_put_l
  · exact s_put_l
  · exact s_put_l
  · exact s_put_l
  · exact s_if_l
  · exact s_if_l
  · exact s_if_l
  · exact s_if_l
  · exact s_if_l
  · exact s_if_l
  · exact Nat.zero_le 3
  · exact Nat.zero_le 3
  · exact Nat.zero_le 3
  · exact s_put_l
  · exact Nat.zero_le 3
  · exact Nat.zero_le 3
  · exact Nat.zero_le 3
  · exact Nat.zero_le 3
  · exact s_if_l
  · exact s_put_l
  · exact Nat.zero_le 3
  · exact s_if_l
  · exact s_if_l
  · exact Nat.zero_le 3
  · exact s_put_l
  · exact Nat.zero_le 3
  · exact s_if_l
  · exact Nat.zero_le 3
  · exact s_if_l
theorem step_l {T t : Nat} {S : sm_S} (hB : RnB T S t) : (s_step S t).1 ≤ 5 := by
  obtain ⟨bB, bP, bG, bS, ⟨ht, hk⟩, hE, hq32, h80, hcs, hst, hen, hT1, hT2, hT3⟩ := hB
  have bt := bG.2 t ht
  have hp : S 6 t < 4 := bt.2.2.2.1 hk
  have bp := bP (S 6 t) (by omega)
  unfold s_step
  by_cases e : S 3 (S 6 t) ≤ S 14 1
  · rw [if_pos e]; show 5 ≤ 5; decide
  · rw [if_neg e]
    obtain ⟨bc, bf⟩ := bp.2 (S 14 1) (by omega)
    split
    · show 4 ≤ 5; decide
    · split
      · show s_pre S (S 2 (S 6 t * 32 + S 14 1)) ≤ 5
        unfold s_pre
        repeat' split
        all_goals decide
      · exact Nat.le_trans (act_l bc) (by decide)
theorem run_l {T t : Nat} : ∀ (n : Nat) {S : sm_S}, RnB T S t → S 14 3 - S 14 4 < n → (s_run n S t).1 ≤ 5 := by
  intro n
  induction n with
  | zero => intro S hB hn; exact absurd hn (Nat.not_lt_zero _)
  | succ n ih =>
    intro S hB hn
    obtain ⟨h1, h2, h3⟩ := step_B hB
    rw [s_run_1]
    by_cases e : (s_step S t).1 = 0
    · rw [if_neg (fun h => h e)]
      obtain ⟨h4, h5⟩ := h3 e
      have h14 := h1.2.2.1
      split
      · exact Nat.zero_le 5
      · exact ih h4 (by have := h4.2.2.2.2.2.2.2.2.1; omega)
    · rw [if_pos e]
      exact step_l hB
def RgC (w : sm_W) (S : sm_S) : Prop := Sh w ∧ PrC w S ∧ GrC w S ∧ ScC w S ∧ wn w 55 4 = nI (S 14 4) ∧ wn w 55 5 = nI (S 14 5)
def ArC (w w' : sm_W) (t : Nat) (r : Nat × sm_S) : Prop := FrC w w' ∧ (r.1 = 0 → RnC w' r.2 t (r.2 14 1)) ∧ (r.1 ≠ 0 → RgC w' r.2 ∧ wn w' 55 6 = nI (r.2 10 5))
theorem ArC.tr {w w' w'' : sm_W} {t : Nat} {r : Nat × sm_S} (h : FrC w w') (h2 : ArC w' w'' t r) : ArC w w'' t r := ⟨h.tr h2.1, h2.2⟩
theorem rl_C {X : sm_X} {Q : Option Value → sm_W → Prop} {T t M P : Nat} {pl : Int32} (hM : M < 1000) : ∀ (n : Nat) {S : sm_S} {w : sm_W} {i : Nat} {a : Int32}, RnC w S t (S 14 1) → RnB T S t → P = 133 + 3 * S 6 t → S 14 2 = 0 → S 14 3 - S 14 4 < n → i + (S 14 3 - S 14 4) + 1 ≤ M → (∀ w', ArC w w' t (s_run n S t) → Q (some (.int (nI (s_run n S t).1))) w') → sm_R X 29 59 [.ref 155, .ref P, .int pl, .int a, .int 0, .int (nI M), .int (nI i)] [] w Q := by
  intro n
  induction n with
  | zero => intro S w i a hR hB hP hz hn hi hQ; exact absurd hn (Nat.not_lt_zero _)
  | succ n ih =>
    intro S w i a hR hB hP hz hn hi hQ
    have hS := hR.1
    have e10 : wn w 55 10 = 0 := by
      rw [hR.2.2.2.2.2.2.1.2.2.2.2.2.2, hz]
      rfl
    have e9 : wn w 55 9 = nI (S 14 1) := hR.2.2.2.2.2.2.2
    have y1 : ¬ nI M ≤ nI i := nI_ge (by omega) (by omega)
    rw [r29_59]
    simp (decide := true) only [r29_61, r29_63, r29_66, r29_68, r29_71, r29_72, r29_75, r29_78, r29_79, r29_82, r29_83, r29_84, r29_85, r29_86, e9, e10, y1, sh55 hS, sm_wp_some, sm_wp_none, sm_at, sm_get, sm_fld, sm_pfl, sm_cN, sm_ai, sm_al, sm_si, sm_slg, sm_aa, List.getElem?_cons_zero, List.getElem?_cons_succ, List.set_cons_zero, List.set_cons_succ, List.length_cons, List.length_nil, Option.toList_some, Option.toList_none, List.cons_append, List.nil_append, if_true, if_false, true_and, and_true, Option.some.injEq, gs_o, gs_s, List.length_set, hS.1, pk_us, Nat.reduceLT, Nat.reduceLeDiff, Nat.reduceSub, Nat.reduceEqDiff, Nat.reduceAdd, Int32.reduceLT, Int32.reduceLE, Int32.reduceAdd, Int32.reduceSub, Int32.reduceToNatClampNeg, reduceIte, reduceCtorEq, Nat.lt_irrefl]
    subst hP
    refine step_C hR hB (fun w' hA => ?_)
    obtain ⟨a1, a2, a3⟩ := hA
    obtain ⟨h1, h2, h3⟩ := step_B hB
    have hl := step_l hB
    have hle := hB.2.2.2.2.2.2.2.2.1
    have hS' := a3.1
    have nz : nI (s_step S t).1 = 0 ↔ (s_step S t).1 = 0 := nI_z (by omega)
    have i1 : nI i + 1 = nI (i + 1) := nI_1 i
    rw [s_run_1] at hQ
    by_cases e : (s_step S t).1 = 0
    · rw [if_neg (fun h => h e)] at hQ
      obtain ⟨h4, h5⟩ := h3 e
      have hR' := a2 e
      have h14 := h1.2.2.1
      have h6 : (s_step S t).2 6 = S 6 := h1.1.2.2.2.2.1
      have hle' := h4.2.2.2.2.2.2.2.2.1
      have n0 : nI (s_step S t).1 = 0 := nz.mpr e
      by_cases f : (s_step S t).2 14 2 = 1
      · rw [if_pos f] at hQ
        have y2 : ¬ nI M ≤ nI (i + 1) := nI_ge (by omega) (by omega)
        have e10 : wn w' 55 10 = 1 := by
          rw [hR'.2.2.2.2.2.2.1.2.2.2.2.2.2, f]
          rfl
        simp (decide := true) only [r29_59, r29_61, r29_63, r29_66, r29_68, r29_71, r29_72, r29_75, r29_89, r29_91, r29_94, r29_97, r29_99, r29_102, r29_103, r29_104, r29_107, r29_109, n0, y2, i1, e10, sh55 hS', sm_wp_some, sm_wp_none, sm_at, sm_get, sm_fld, sm_pfl, sm_cN, sm_ai, sm_al, sm_si, sm_slg, sm_aa, List.getElem?_cons_zero, List.getElem?_cons_succ, List.set_cons_zero, List.set_cons_succ, List.length_cons, List.length_nil, Option.toList_some, Option.toList_none, List.cons_append, List.nil_append, if_true, if_false, true_and, and_true, Option.some.injEq, gs_o, gs_s, List.length_set, pk_us, Nat.reduceLT, Nat.reduceLeDiff, Nat.reduceSub, Nat.reduceEqDiff, Nat.reduceAdd, Int32.reduceLT, Int32.reduceLE, Int32.reduceAdd, Int32.reduceSub, Int32.reduceToNatClampNeg, reduceIte, reduceCtorEq, Nat.lt_irrefl]
        exact hQ w' ⟨a1, fun _ => hR', fun h => absurd rfl h⟩
      · rw [if_neg f] at hQ
        have f0 : (s_step S t).2 14 2 = 0 := by
          have := h4.2.2.2.2.2.2.2.2.2.2.1
          omega
        simp (decide := true) only [r29_89, r29_91, r29_94, n0, i1, sm_wp_some, sm_wp_none, sm_at, sm_get, sm_fld, sm_pfl, sm_cN, sm_ai, sm_al, sm_si, sm_slg, sm_aa, List.getElem?_cons_zero, List.getElem?_cons_succ, List.set_cons_zero, List.set_cons_succ, List.length_cons, List.length_nil, Option.toList_some, Option.toList_none, List.cons_append, List.nil_append, if_true, if_false, true_and, and_true, Option.some.injEq, gs_o, gs_s, List.length_set, pk_us, Nat.reduceLT, Nat.reduceLeDiff, Nat.reduceSub, Nat.reduceEqDiff, Nat.reduceAdd, Int32.reduceLT, Int32.reduceLE, Int32.reduceAdd, Int32.reduceSub, Int32.reduceToNatClampNeg, reduceIte, reduceCtorEq, Nat.lt_irrefl]
        exact ih hR' h4 (by rw [h6]) f0 (by omega) (by omega) (fun w'' hA => hQ w'' (ArC.tr a1 hA))
    · rw [if_pos e] at hQ
      have n0 : ¬ nI (s_step S t).1 = 0 := fun h => e (nz.mp h)
      have m : ∀ c, (c = .inr (2, [.ref 101, .ref 145, .ref 156, .int (wn w' 55 3), .int (wn w' 55 4), .int (wn w' 55 5), .int (nI (S 14 1)), .ref (wr w' 55 7), .int (wn w' 55 8), .int (wn w' 55 9), .int (wn w' 55 10)])) → Q (some (.int (nI (s_step S t).1))) (w'.set 55 c) := by
        intro c hc
        subst hc
        obtain ⟨q1, q2, q3, q4, q5, q6, q7⟩ := a3
        have h4' : (s_step S t).2 10 1 ≤ 4 := by
          rw [h1.2.1 1 (by decide) (by decide)]
          exact hB.2.2.1.1
        refine hQ _ ⟨a1.tr (FrC.set (by decide) (by decide) (by decide)), fun h => absurd h e, fun _ => ⟨⟨q1.p55, q2.o (by omega), q3.o h4' (by omega), q4.o (by omega), ?_, ?_⟩, ?_⟩⟩
        · rw [wn55_4 q1.1]; exact q5
        · rw [wn55_5 q1.1]; exact q6
        · rw [wn55_6 q1.1]; rfl
      by_cases y2 : nI M ≤ nI (i + 1)
      · simp (decide := true) only [r29_59, r29_61, r29_63, r29_66, r29_68, r29_71, r29_72, r29_75, r29_89, r29_91, r29_94, r29_97, r29_99, r29_102, r29_103, r29_104, r29_107, r29_109, n0, y2, i1, sh55 hS', sm_wp_some, sm_wp_none, sm_at, sm_get, sm_fld, sm_pfl, sm_cN, sm_ai, sm_al, sm_si, sm_slg, sm_aa, List.getElem?_cons_zero, List.getElem?_cons_succ, List.set_cons_zero, List.set_cons_succ, List.length_cons, List.length_nil, Option.toList_some, Option.toList_none, List.cons_append, List.nil_append, if_true, if_false, true_and, and_true, Option.some.injEq, gs_o, gs_s, List.length_set, pk_us, Nat.reduceLT, Nat.reduceLeDiff, Nat.reduceSub, Nat.reduceEqDiff, Nat.reduceAdd, Int32.reduceLT, Int32.reduceLE, Int32.reduceAdd, Int32.reduceSub, Int32.reduceToNatClampNeg, reduceIte, reduceCtorEq, Nat.lt_irrefl]
        exact m _ rfl
      · simp (decide := true) only [r29_59, r29_61, r29_63, r29_66, r29_68, r29_71, r29_72, r29_75, r29_89, r29_91, r29_94, r29_97, r29_99, r29_102, r29_103, r29_104, r29_107, r29_109, n0, y2, i1, sh55 hS', sm_wp_some, sm_wp_none, sm_at, sm_get, sm_fld, sm_pfl, sm_cN, sm_ai, sm_al, sm_si, sm_slg, sm_aa, List.getElem?_cons_zero, List.getElem?_cons_succ, List.set_cons_zero, List.set_cons_succ, List.length_cons, List.length_nil, Option.toList_some, Option.toList_none, List.cons_append, List.nil_append, if_true, if_false, true_and, and_true, Option.some.injEq, gs_o, gs_s, List.length_set, pk_us, Nat.reduceLT, Nat.reduceLeDiff, Nat.reduceSub, Nat.reduceEqDiff, Nat.reduceAdd, Int32.reduceLT, Int32.reduceLE, Int32.reduceAdd, Int32.reduceSub, Int32.reduceToNatClampNeg, reduceIte, reduceCtorEq, Nat.lt_irrefl]
        exact m _ rfl
/-! THE BEGIN of a run of the class (gen/n12.py) -/
theorem cs_it {X : sm_X} {w : sm_W} {Q : Option Value → sm_W → Prop} {t i : Nat} (hS : Sh w) (ht : t < 4) (hi : i < 4) : sm_R X 30 2 [.ref (147 + 2 * t), .int (nI i)] [] w Q ↔ sm_R X 30 2 [.ref (147 + 2 * t), .int (nI (i + 1))] [] (w.set (48 + 2 * t) (.inl (0, 4, .inl (upd (wi w (48 + 2 * t)) i 0)))) Q := by
  have z2 : ¬ (147 + 2 * t < 100) := by omega
  have z3 : 147 + 2 * t - 100 = 47 + 2 * t := by omega
  have z4 := shTr hS ht
  have z5 : ¬ (148 + 2 * t < 100) := by omega
  have z6 : 148 + 2 * t - 100 = 48 + 2 * t := by omega
  have z7 := shSc hS ht
  have y1 : ¬ 4 ≤ nI i := nI_ge (b := 4) hi (by decide)
  have y2 : sm_in (nI i) 4 = true := sm_in_nI hi (by decide)
  have y3 : (nI i).toNatClampNeg = i := nI_clamp (by omega)
  have y4 : nI i + 1 = nI (i + 1) := nI_1 i
  rw [r30_2]
  simp (decide := true) only [r30_3, r30_4, r30_7, r30_8, r30_11, r30_12, r30_13, r30_14, r30_17, y1, y2, y3, y4, z2, z3, z4, z5, z6, z7, sm_wp_some, sm_wp_none, sm_at, sm_get, sm_fld, sm_pfl, sm_cN, sm_ai, sm_al, sm_si, sm_slg, sm_aa, List.getElem?_cons_zero, List.getElem?_cons_succ, List.set_cons_zero, List.set_cons_succ, List.length_cons, List.length_nil, Option.toList_some, Option.toList_none, List.cons_append, List.nil_append, if_true, if_false, true_and, and_true, Option.some.injEq, gs_o, gs_s, List.length_set, hS.1, pk_us, Nat.reduceLT, Nat.reduceLeDiff, Nat.reduceSub, Nat.reduceEqDiff, Nat.reduceAdd, Int32.reduceLT, Int32.reduceLE, Int32.reduceAdd, Int32.reduceSub, Int32.reduceToNatClampNeg, reduceIte, reduceCtorEq, Nat.lt_irrefl]
theorem cs_lp {X : sm_X} {Q : Option Value → sm_W → Prop} {t : Nat} (ht : t < 4) : ∀ (m : Nat) {i : Nat} {w : sm_W}, i + m = 4 → Sh w → (∀ k, k < i → wi w (48 + 2 * t) k = 0) → (∀ w', Sh w' → (∀ k, k < 4 → wi w' (48 + 2 * t) k = 0) → (∀ j, j ≠ 48 + 2 * t → w'[j]? = w[j]?) → Q none w') → sm_R X 30 2 [.ref (147 + 2 * t), .int (nI i)] [] w Q := by
  intro m
  induction m with
  | zero =>
    intro i w hi hS hk hQ
    have e : i = 4 := by omega
    subst e
    have n4 : nI 4 = 4 := rfl
    rw [n4]
    simp (decide := true) only [r30_2, r30_3, r30_4, r30_20, sm_wp_some, sm_wp_none, sm_at, sm_get, sm_fld, sm_pfl, sm_cN, sm_ai, sm_al, sm_si, sm_slg, sm_aa, List.getElem?_cons_zero, List.getElem?_cons_succ, List.set_cons_zero, List.set_cons_succ, List.length_cons, List.length_nil, Option.toList_some, Option.toList_none, List.cons_append, List.nil_append, if_true, if_false, true_and, and_true, Option.some.injEq, gs_o, gs_s, List.length_set, hS.1, pk_us, Nat.reduceLT, Nat.reduceLeDiff, Nat.reduceSub, Nat.reduceEqDiff, Nat.reduceAdd, Int32.reduceLT, Int32.reduceLE, Int32.reduceAdd, Int32.reduceSub, Int32.reduceToNatClampNeg, reduceIte, reduceCtorEq, Nat.lt_irrefl]
    exact hQ w hS hk (fun _ _ => rfl)
  | succ m ih =>
    intro i w hi hS hk hQ
    rw [cs_it hS ht (by omega)]
    refine ih (by omega) (hS.sc ht) (fun k hk2 => ?_) (fun w' h1 h2 h3 => hQ w' h1 h2 (fun j hj => (h3 j hj).trans (gs_o (by omega))))
    rw [wi_s (by rw [hS.1]; omega)]
    by_cases e : k = i
    · subst e
      exact pk_us
    · rw [pk_un e]
      exact hk k (by omega)
theorem cs_C {X : sm_X} {w : sm_W} {Q : Option Value → sm_W → Prop} {t : Nat} (hS : Sh w) (ht : t < 4) (hQ : ∀ w', Sh w' → (∀ k, k < 4 → wi w' (48 + 2 * t) k = 0) → (∀ j, j ≠ 48 + 2 * t → w'[j]? = w[j]?) → Q none w') : sm_R X 30 0 [.ref (147 + 2 * t), sm_J] [] w Q := by
  simp only [r30_0, r30_1]
  exact cs_lp ht 4 (i := 0) rfl hS (fun k hk => absurd hk (Nat.not_lt_zero _)) hQ
def s_clr (S : sm_S) (t : Nat) : sm_S := fun r => if r = 9 then (fun i => if t * 4 ≤ i ∧ i < t * 4 + 4 then 0 else S 9 i) else S r
def s_beg (S : sm_S) (t : Nat) : sm_S := s_up (s_up (s_up (s_clr S t) 14 0 0) 14 1 0) 14 2 0
def BtC (w : sm_W) (S : sm_S) : Prop := Sh w ∧ BkC 1 w S ∧ PrC w S ∧ GrC w S ∧ ScC w S ∧ wn w 55 3 = nI (S 14 3 - S 14 4) ∧ wn w 55 4 = nI (S 14 4) ∧ wn w 55 5 = nI (S 14 5) ∧ wn w 55 6 = -3
theorem run_C {X : sm_X} {w : sm_W} {Q : Option Value → sm_W → Prop} {S : sm_S} {T t : Nat} (hT : BtC w S) (hB : RnB T (s_beg S t) t) (hQ : ∀ w', ArC w w' t (s_run 100 (s_beg S t) t) → Q (some (.int (nI (s_run 100 (s_beg S t) t).1))) w') : sm_R X 29 0 [.ref 155, .ref (133 + 3 * S 6 t), .int (nI t), sm_J, sm_J, sm_J, sm_J] [] w Q := by
  obtain ⟨hS, hBk, hPr, hGr, hSc, m3, m4, m5, m6⟩ := hT
  have h4 : S 10 1 ≤ 4 := hB.2.2.1.1
  have ht : t < S 10 1 := hB.2.2.2.2.1.1
  have ht4 : t < 4 := by omega
  have h80 : S 14 3 ≤ 80 := hB.2.2.2.2.2.2.2.1
  have y1 : sm_in (nI t) 4 = true := sm_in_nI ht4 (by decide)
  have y2 : (nI t).toNatClampNeg = t := nI_clamp (by omega)
  have y3 := zr46_p ht4
  have z2 : ¬ (147 + 2 * t < 100) := by omega
  have z3 : 147 + 2 * t - 100 = 47 + 2 * t := by omega
  have z4 := shTr hS ht4
  have z5 : ¬ 55 = 47 + 2 * t := by omega
  have hS1 : Sh (w.set 55 (.inr (2, [.ref 101, .ref 145, .ref 156, .int (wn w 55 3), .int (wn w 55 4), .int (wn w 55 5), .int (wn w 55 6), .ref (147 + 2 * t), .int (wn w 55 8), .int (wn w 55 9), .int (wn w 55 10)]))) := hS.p55
  simp (decide := true) only [r29_0, r29_1, r29_2, r29_5, r29_8, r29_9, r29_10, r29_13, r29_14, r29_17, y1, y2, y3, z2, z3, z4, z5, sh45 hS, sh46 hS, sh55 hS, sm_wp_some, sm_wp_none, sm_at, sm_get, sm_fld, sm_pfl, sm_cN, sm_ai, sm_al, sm_si, sm_slg, sm_aa, List.getElem?_cons_zero, List.getElem?_cons_succ, List.set_cons_zero, List.set_cons_succ, List.length_cons, List.length_nil, Option.toList_some, Option.toList_none, List.cons_append, List.nil_append, if_true, if_false, true_and, and_true, Option.some.injEq, gs_o, gs_s, List.length_set, hS.1, pk_us, Nat.reduceLT, Nat.reduceLeDiff, Nat.reduceSub, Nat.reduceEqDiff, Nat.reduceAdd, Int32.reduceLT, Int32.reduceLE, Int32.reduceAdd, Int32.reduceSub, Int32.reduceToNatClampNeg, reduceIte, reduceCtorEq, Nat.lt_irrefl]
  refine cs_C hS1 ht4 (fun w2 s1 s2 s3 => ?_)
  have c55 := s3 55 (by omega)
  have n3 : wn w2 55 3 = nI (S 14 3 - S 14 4) := by rw [wn_c c55, wn55_3 hS.1]; exact m3
  have n4 : wn w2 55 4 = nI (S 14 4) := by rw [wn_c c55, wn55_4 hS.1]; exact m4
  have n5 : wn w2 55 5 = nI (S 14 5) := by rw [wn_c c55, wn55_5 hS.1]; exact m5
  have n6 : wn w2 55 6 = -3 := by rw [wn_c c55, wn55_6 hS.1]; exact m6
  have c55' := c55.trans (gs_s (by rw [hS.1]; decide))
  have b1 : nI (S 14 3 - S 14 4) + 1 = nI (S 14 3 - S 14 4 + 1) := nI_1 _
  simp (decide := true) only [r29_20, r29_21, r29_22, r29_25, r29_26, r29_27, r29_30, r29_31, r29_32 (s0 := 0) (Or.inl rfl), r29_32 (s0 := 1) (Or.inr rfl), r29_35, r29_36, r29_39, r29_40, r29_43, r29_44, r29_45, r29_46, r29_48, r29_49, r29_52, r29_53, r29_54, r29_56, r29_57, c55', sh56 s1, b1, m3, Option.toList_none, List.nil_append, sm_wp_some, sm_wp_none, sm_at, sm_get, sm_fld, sm_pfl, sm_cN, sm_ai, sm_al, sm_si, sm_slg, sm_aa, List.getElem?_cons_zero, List.getElem?_cons_succ, List.set_cons_zero, List.set_cons_succ, List.length_cons, List.length_nil, Option.toList_some, Option.toList_none, List.cons_append, List.nil_append, if_true, if_false, true_and, and_true, Option.some.injEq, gs_o, gs_s, List.length_set, s1.1, pk_us, Nat.reduceLT, Nat.reduceLeDiff, Nat.reduceSub, Nat.reduceEqDiff, Nat.reduceAdd, Int32.reduceLT, Int32.reduceLE, Int32.reduceAdd, Int32.reduceSub, Int32.reduceToNatClampNeg, reduceIte, reduceCtorEq, Nat.lt_irrefl, List.set_set]
  have hF : FrC w w2 := fun j hj => (s3 j (by omega)).trans (gs_o (by omega))
  have hBk2 : BkC 1 w2 (s_beg S t) := BkC.c (w := w) (S := s_beg S t) hBk (fun k _ _ => (s3 k (by omega)).trans (gs_o (by omega)))
  have hPr2 : PrC w2 (s_beg S t) := PrC.c (w := w) (S := s_beg S t) hPr (fun k _ _ => (s3 k (by omega)).trans (gs_o (by omega)))
  have hGr2 : GrC w2 (s_beg S t) := GrC.c (w := w) (S := s_beg S t) hGr h4 ((s3 45 (by omega)).trans (gs_o (by omega))) (fun k hk => (s3 _ (by omega)).trans (gs_o (by have : k < S 10 1 := hk; omega)))
  have hSc2 : ScC w2 (s_beg S t) := by
    intro t' ht' k hk
    have e9 : s_beg S t 9 (t' * 4 + k) = if t * 4 ≤ t' * 4 + k ∧ t' * 4 + k < t * 4 + 4 then 0 else S 9 (t' * 4 + k) := rfl
    rw [e9]
    by_cases e : t' = t
    · subst e
      rw [if_pos (by omega), s2 k hk]
      rfl
    · rw [if_neg (by omega), wi_c (s3 _ (by omega)), wi_o (by omega)]
      exact hSc t' ht' k hk
  have key : ∀ c5 c6, c5 = .inr (2, [.ref 101, .ref 145, .ref 156, .int (wn w 55 3), .int (wn w 55 4), .int (wn w 55 5), .int (wn w 55 6), .ref (147 + 2 * t), .int (nI t), .int 0, .int 0]) → c6 = .inr (4, [.ref 157, .ref 158, .int 0]) → RnC ((w2.set 55 c5).set 56 c6) (s_beg S t) t 0 := by
    intro c5 c6 h5 h6
    subst h5 h6
    refine ⟨s1.p55.p56, (hBk2.o (by omega)).o (by omega), (hPr2.o (by omega)).o (by omega), (hGr2.o h4 (by omega)).o h4 (by omega), (hSc2.o (by omega)).o (by omega), ⟨wn56_2 s1.p55.1, fun i hi => absurd hi (Nat.not_lt_zero _)⟩, ⟨?_, ?_, ?_, ?_, ?_, ?_, ?_⟩, ?_⟩
    · rw [wn_o (by decide), wn55_3 s1.1]; exact m3
    · rw [wn_o (by decide), wn55_4 s1.1]; exact m4
    · rw [wn_o (by decide), wn55_5 s1.1]; exact m5
    · rw [wn_o (by decide), wn55_6 s1.1]; exact m6
    · rw [wr_o (by decide), wr55_7 s1.1]
    · rw [wn_o (by decide), wn55_8 s1.1]
    · rw [wn_o (by decide), wn55_10 s1.1]; rfl
    · rw [wn_o (by decide), wn55_9 s1.1]; rfl
  have hM : S 14 3 - S 14 4 + 1 < 1000 := by omega
  exact rl_C (S := s_beg S t) (i := 0) (T := T) hM 100 (key _ _ (by rw [m3]) rfl) hB rfl rfl (by show S 14 3 - S 14 4 < 100; omega) (by show 0 + (S 14 3 - S 14 4) + 1 ≤ _; omega) (fun w' hA => hQ w' (ArC.tr ((hF.tr (FrC.set (by decide) (by decide) (by decide))).tr (FrC.set (by decide) (by decide) (by decide))) hA))
/-! OPTING IN AND OUT, the least balance, a payment: the class (gen/n13.py) -/
theorem ob_or {x0 x1 x2 x3 p : Nat} (h0 : x0 ≤ 1) (h1 : x1 ≤ 1) (h2 : x2 ≤ 1) (h3 : x3 ≤ 1) (hp : p < 4) : nI (x0 + 2 * x1 + 4 * x2 + 8 * x3) ||| 1 <<< (nI p &&& 31) = nI ((if p = 0 then 1 else x0) + 2 * (if p = 1 then 1 else x1) + 4 * (if p = 2 then 1 else x2) + 8 * (if p = 3 then 1 else x3)) := by
  have c0 : x0 = 0 ∨ x0 = 1 := by omega
  have c1 : x1 = 0 ∨ x1 = 1 := by omega
  have c2 : x2 = 0 ∨ x2 = 1 := by omega
  have c3 : x3 = 0 ∨ x3 = 1 := by omega
  match p, hp with
  | 0, _ => rcases c0 with e0 | e0 <;> rcases c1 with e1 | e1 <;> rcases c2 with e2 | e2 <;> rcases c3 with e3 | e3 <;> rw [e0, e1, e2, e3] <;> decide
  | 1, _ => rcases c0 with e0 | e0 <;> rcases c1 with e1 | e1 <;> rcases c2 with e2 | e2 <;> rcases c3 with e3 | e3 <;> rw [e0, e1, e2, e3] <;> decide
  | 2, _ => rcases c0 with e0 | e0 <;> rcases c1 with e1 | e1 <;> rcases c2 with e2 | e2 <;> rcases c3 with e3 | e3 <;> rw [e0, e1, e2, e3] <;> decide
  | 3, _ => rcases c0 with e0 | e0 <;> rcases c1 with e1 | e1 <;> rcases c2 with e2 | e2 <;> rcases c3 with e3 | e3 <;> rw [e0, e1, e2, e3] <;> decide
theorem ob_and {x0 x1 x2 x3 p : Nat} (h0 : x0 ≤ 1) (h1 : x1 ≤ 1) (h2 : x2 ≤ 1) (h3 : x3 ≤ 1) (hp : p < 4) : nI (x0 + 2 * x1 + 4 * x2 + 8 * x3) &&& (1 <<< (nI p &&& 31) ^^^ -1) = nI ((if p = 0 then 0 else x0) + 2 * (if p = 1 then 0 else x1) + 4 * (if p = 2 then 0 else x2) + 8 * (if p = 3 then 0 else x3)) := by
  have c0 : x0 = 0 ∨ x0 = 1 := by omega
  have c1 : x1 = 0 ∨ x1 = 1 := by omega
  have c2 : x2 = 0 ∨ x2 = 1 := by omega
  have c3 : x3 = 0 ∨ x3 = 1 := by omega
  match p, hp with
  | 0, _ => rcases c0 with e0 | e0 <;> rcases c1 with e1 | e1 <;> rcases c2 with e2 | e2 <;> rcases c3 with e3 | e3 <;> rw [e0, e1, e2, e3] <;> decide
  | 1, _ => rcases c0 with e0 | e0 <;> rcases c1 with e1 | e1 <;> rcases c2 with e2 | e2 <;> rcases c3 with e3 | e3 <;> rw [e0, e1, e2, e3] <;> decide
  | 2, _ => rcases c0 with e0 | e0 <;> rcases c1 with e1 | e1 <;> rcases c2 with e2 | e2 <;> rcases c3 with e3 | e3 <;> rw [e0, e1, e2, e3] <;> decide
  | 3, _ => rcases c0 with e0 | e0 <;> rcases c1 with e1 | e1 <;> rcases c2 with e2 | e2 <;> rcases c3 with e3 | e3 <;> rw [e0, e1, e2, e3] <;> decide
theorem s_ob_up {S : sm_S} {p a a' v : Nat} (hp : p < 4) (ha : a < 6) (ha' : a' < 6) : s_ob (s_up S 0 (22 + p * 6 + a) v) a' = if a' = a then (if p = 0 then v else S 0 (22 + a)) + 2 * (if p = 1 then v else S 0 (28 + a)) + 4 * (if p = 2 then v else S 0 (34 + a)) + 8 * (if p = 3 then v else S 0 (40 + a)) else s_ob S a' := by
  unfold s_ob
  simp only [s_up_if, if_true]
  by_cases e : a' = a
  · subst e
    rw [if_pos rfl]
    match p, hp with
    | 0, _ =>
      rw [if_pos (by omega), if_neg (by omega), if_neg (by omega), if_neg (by omega)]
      rfl
    | 1, _ =>
      rw [if_neg (by omega), if_pos (by omega), if_neg (by omega), if_neg (by omega)]
      rfl
    | 2, _ =>
      rw [if_neg (by omega), if_neg (by omega), if_pos (by omega), if_neg (by omega)]
      rfl
    | 3, _ =>
      rw [if_neg (by omega), if_neg (by omega), if_neg (by omega), if_pos (by omega)]
      rfl
  · rw [if_neg e, if_neg (by omega), if_neg (by omega), if_neg (by omega), if_neg (by omega)]
theorem BkC.opt {w : sm_W} {S : sm_S} {p a v : Nat} (h : BkC 1 w S) (hl : w.length = 74) (hp : p < 4) (ha : a < 6) : BkC 1 (w.set 13 (.inl (0, 6, .inl (upd (wi w 13) a (nI (s_ob (s_up S 0 (22 + p * 6 + a) v) a)))))) (s_up S 0 (22 + p * 6 + a) v) := by
  obtain ⟨b1, b2, b3, b4, b5, b6⟩ := h
  refine ⟨fun a' h => ?_, fun p' hp' k' hk' => ?_, fun a' h => ?_, fun p' hp' i hi => ?_, ?_, fun i hi h8 => ?_⟩
  · rw [wi_o (by omega), s_up_o (Or.inr (by omega))]; exact b1 a' h
  · rw [wi_o (by omega), s_up_o (Or.inr (by omega))]; exact b2 p' hp' k' hk'
  · rw [wi_s (by omega)]
    by_cases e : a' = a
    · subst e
      exact pk_us
    · rw [pk_un e, s_ob_up hp ha h, if_neg e]
      exact b3 a' h
  · rw [wi_o (by omega), s_up_o (Or.inr (by omega))]; exact b4 p' hp' i hi
  · rw [wn_o (by omega)]; exact b5
  · rw [wi_o (by omega)]; exact b6 i hi h8
def s_in (S : sm_S) (p a : Nat) : sm_S := s_up (s_up (s_up S 0 (22 + p * 6 + a) 1) 0 (46 + p * 12 + (a * 2 + 0)) 0) 0 (46 + p * 12 + (a * 2 + 1)) 0
theorem oi_it {X : sm_X} {w : sm_W} {Q : Option Value → sm_W → Prop} {p a i : Nat} (hS : Sh w) (hp : p < 4) (ha : a < 6) (hi : i < 2) : sm_R X 28 14 [.ref 101, .int (nI p), .int (nI a), .int (nI i)] [] w Q ↔ sm_R X 28 14 [.ref 101, .int (nI p), .int (nI a), .int (nI (i + 1))] [] (w.set (9 + p) (.inl (0, 12, .inl (upd (wi w (9 + p)) (a * 2 + i) (nI 0))))) Q := by
  have n0 : nI 0 = 0 := rfl
  have y0 : ¬ 2 ≤ nI i := nI_ge (b := 2) hi (by decide)
  have y1 : nI a * 2 = nI (a * 2) := pk_mul a 2
  have y2 : nI (a * 2) + nI i = nI (a * 2 + i) := nI_add _ _
  have y3 : sm_in (nI (a * 2 + i)) 12 = true := sm_in_nI (by omega) (by decide)
  have y4 : (nI (a * 2 + i)).toNatClampNeg = a * 2 + i := nI_clamp (by omega)
  have y5 : nI i + 1 = nI (i + 1) := nI_1 i
  have z8 : sm_in (nI p) 4 = true := sm_in_nI hp (by decide)
  have z9 : (nI p).toNatClampNeg = p := nI_clamp (by omega)
  have z14 := zr8_p hp
  have z15 : ¬ (109 + p < 100) := by omega
  have z16 : 109 + p - 100 = 9 + p := by omega
  have z17 := shLo hS hp
  rw [r28_14]
  simp (decide := true) only [r28_15, r28_16, r28_19, r28_20, r28_23, r28_24, r28_25, r28_26, r28_27, r28_28, r28_29, r28_30, r28_31, r28_32, r28_35, n0, y0, y1, y2, y3, y4, y5, z8, z9, z14, z15, z16, z17, sh1 hS, sh8 hS, sm_wp_some, sm_wp_none, sm_at, sm_get, sm_fld, sm_pfl, sm_cN, sm_ai, sm_al, sm_si, sm_slg, sm_aa, List.getElem?_cons_zero, List.getElem?_cons_succ, List.set_cons_zero, List.set_cons_succ, List.length_cons, List.length_nil, Option.toList_some, Option.toList_none, List.cons_append, List.nil_append, if_true, if_false, true_and, and_true, Option.some.injEq, gs_o, gs_s, List.length_set, hS.1, pk_us, Nat.reduceLT, Nat.reduceLeDiff, Nat.reduceSub, Nat.reduceEqDiff, Nat.reduceAdd, Int32.reduceLT, Int32.reduceLE, Int32.reduceAdd, Int32.reduceSub, Int32.reduceToNatClampNeg, reduceIte, reduceCtorEq, Nat.lt_irrefl]
theorem oi_C {X : sm_X} {w : sm_W} {Q : Option Value → sm_W → Prop} {S : sm_S} {p a : Nat} (hS : Sh w) (hBk : BkC 1 w S) (ho : ∀ i, 22 ≤ i → i < 46 → S 0 i ≤ 1) (hp : p < 4) (ha : a < 6) (hQ : ∀ w', Sh w' → BkC 1 w' (s_in S p a) → (∀ j, j < 1 ∨ 14 < j → w'[j]? = w[j]?) → Q none w') : sm_R X 28 0 [.ref 101, .int (nI p), .int (nI a), sm_J] [] w Q := by
  have z1 : sm_in (nI a) 6 = true := sm_in_nI ha (by decide)
  have z2 : (nI a).toNatClampNeg = a := nI_clamp (by omega)
  have h2 : wi w 13 a = nI (s_ob S a) := hBk.2.2.1 a ha
  have z3 : nI (s_ob S a) ||| 1 <<< (nI p &&& 31) = nI (s_ob (s_up S 0 (22 + p * 6 + a) 1) a) := by
    rw [s_ob_up hp ha ha, if_pos rfl]
    exact ob_or (ho _ (by omega) (by omega)) (ho _ (by omega) (by omega)) (ho _ (by omega) (by omega)) (ho _ (by omega) (by omega)) hp
  simp (decide := true) only [r28_0, r28_1, r28_4, r28_5, r28_6, r28_7, r28_8, r28_9, r28_10, r28_11, r28_12, r28_13, h2, z1, z2, z3, sh1 hS, sh13 hS, sm_wp_some, sm_wp_none, sm_at, sm_get, sm_fld, sm_pfl, sm_cN, sm_ai, sm_al, sm_si, sm_slg, sm_aa, List.getElem?_cons_zero, List.getElem?_cons_succ, List.set_cons_zero, List.set_cons_succ, List.length_cons, List.length_nil, Option.toList_some, Option.toList_none, List.cons_append, List.nil_append, if_true, if_false, true_and, and_true, Option.some.injEq, gs_o, gs_s, List.length_set, hS.1, pk_us, Nat.reduceLT, Nat.reduceLeDiff, Nat.reduceSub, Nat.reduceEqDiff, Nat.reduceAdd, Int32.reduceLT, Int32.reduceLE, Int32.reduceAdd, Int32.reduceSub, Int32.reduceToNatClampNeg, reduceIte, reduceCtorEq, Nat.lt_irrefl]
  have m1 := hBk.opt (v := 1) hS.1 hp ha
  have s1 := hS.p13 (f := upd (wi w 13) a (nI (s_ob (s_up S 0 (22 + p * 6 + a) 1) a)))
  have f1 : ∀ j, j < 1 ∨ 14 < j → (w.set 13 (.inl (0, 6, .inl (upd (wi w 13) a (nI (s_ob (s_up S 0 (22 + p * 6 + a) 1) a))))))[j]? = w[j]? := fun j hj => gs_o (by omega)
  generalize w.set 13 (.inl (0, 6, .inl (upd (wi w 13) a (nI (s_ob (s_up S 0 (22 + p * 6 + a) 1) a))))) = w1 at m1 s1 f1
  show sm_R X 28 14 [.ref 101, .int (nI p), .int (nI a), .int (nI 0)] [] w1 Q
  rw [oi_it s1 hp ha (by decide)]
  have m2 := m1.lo (p := p) (k := a * 2 + 0) (v := 0) s1.1 hp (by omega)
  have s2 := s1.lo (p := p) (f := upd (wi w1 (9 + p)) (a * 2 + 0) (nI 0)) hp
  have f2 : ∀ j, j < 1 ∨ 14 < j → (w1.set (9 + p) (.inl (0, 12, .inl (upd (wi w1 (9 + p)) (a * 2 + 0) (nI 0)))))[j]? = w[j]? := fun j hj => (gs_o (by omega)).trans (f1 j hj)
  generalize w1.set (9 + p) (.inl (0, 12, .inl (upd (wi w1 (9 + p)) (a * 2 + 0) (nI 0)))) = w2 at m2 s2 f2
  show sm_R X 28 14 [.ref 101, .int (nI p), .int (nI a), .int (nI 1)] [] w2 Q
  rw [oi_it s2 hp ha (by decide)]
  have m3 := m2.lo (p := p) (k := a * 2 + 1) (v := 0) s2.1 hp (by omega)
  have s3 := s2.lo (p := p) (f := upd (wi w2 (9 + p)) (a * 2 + 1) (nI 0)) hp
  have f3 : ∀ j, j < 1 ∨ 14 < j → (w2.set (9 + p) (.inl (0, 12, .inl (upd (wi w2 (9 + p)) (a * 2 + 1) (nI 0)))))[j]? = w[j]? := fun j hj => (gs_o (by omega)).trans (f2 j hj)
  generalize w2.set (9 + p) (.inl (0, 12, .inl (upd (wi w2 (9 + p)) (a * 2 + 1) (nI 0)))) = w3 at m3 s3 f3
  have n2 : nI (1 + 1) = 2 := rfl
  simp (decide := true) only [r28_14, r28_15, r28_16, r28_38, n2, if_true]
  exact hQ w3 s3 m3 f3
theorem oo_C {X : sm_X} {w : sm_W} {Q : Option Value → sm_W → Prop} {S : sm_S} {p a : Nat} (hS : Sh w) (h2 : wi w 13 a = nI (s_ob S a)) (ho : ∀ i, 22 ≤ i → i < 46 → S 0 i ≤ 1) (hp : p < 4) (ha : a < 6) : sm_R X 47 0 [.ref 101, .int (nI p), .int (nI a)] [] w Q ↔ Q none (w.set 13 (.inl (0, 6, .inl (upd (wi w 13) a (nI (s_ob (s_up S 0 (22 + p * 6 + a) 0) a)))))) := by
  have z1 : sm_in (nI a) 6 = true := sm_in_nI ha (by decide)
  have z2 : (nI a).toNatClampNeg = a := nI_clamp (by omega)
  have z3 : nI (s_ob S a) &&& (1 <<< (nI p &&& 31) ^^^ -1) = nI (s_ob (s_up S 0 (22 + p * 6 + a) 0) a) := by
    rw [s_ob_up hp ha ha, if_pos rfl]
    exact ob_and (ho _ (by omega) (by omega)) (ho _ (by omega) (by omega)) (ho _ (by omega) (by omega)) (ho _ (by omega) (by omega)) hp
  simp (decide := true) only [r47_0, r47_1, r47_4, r47_5, r47_6, r47_7, r47_8, r47_9, r47_10, r47_11, r47_12, r47_13, r47_14, h2, z1, z2, z3, sh1 hS, sh13 hS, sm_wp_some, sm_wp_none, sm_at, sm_get, sm_fld, sm_pfl, sm_cN, sm_ai, sm_al, sm_si, sm_slg, sm_aa, List.getElem?_cons_zero, List.getElem?_cons_succ, List.set_cons_zero, List.set_cons_succ, List.length_cons, List.length_nil, Option.toList_some, Option.toList_none, List.cons_append, List.nil_append, if_true, if_false, true_and, and_true, Option.some.injEq, gs_o, gs_s, List.length_set, hS.1, pk_us, Nat.reduceLT, Nat.reduceLeDiff, Nat.reduceSub, Nat.reduceEqDiff, Nat.reduceAdd, Int32.reduceLT, Int32.reduceLE, Int32.reduceAdd, Int32.reduceSub, Int32.reduceToNatClampNeg, reduceIte, reduceCtorEq, Nat.lt_irrefl]
theorem oo_F {X : sm_X} {w : sm_W} {Q : Option Value → sm_W → Prop} {p a : Nat} (hS : Sh w) (ha : a < 6) (hQ : ∀ f, Q none (w.set 13 (.inl (0, 6, .inl f)))) : sm_R X 47 0 [.ref 101, .int (nI p), .int (nI a)] [] w Q := by
  have z1 : sm_in (nI a) 6 = true := sm_in_nI ha (by decide)
  simp (decide := true) only [r47_0, r47_1, r47_4, r47_5, r47_6, r47_7, r47_8, r47_9, r47_10, r47_11, r47_12, r47_13, r47_14, z1, sh1 hS, sh13 hS, sm_wp_some, sm_wp_none, sm_at, sm_get, sm_fld, sm_pfl, sm_cN, sm_ai, sm_al, sm_si, sm_slg, sm_aa, List.getElem?_cons_zero, List.getElem?_cons_succ, List.set_cons_zero, List.set_cons_succ, List.length_cons, List.length_nil, Option.toList_some, Option.toList_none, List.cons_append, List.nil_append, if_true, if_false, true_and, and_true, Option.some.injEq, gs_o, gs_s, List.length_set, hS.1, pk_us, Nat.reduceLT, Nat.reduceLeDiff, Nat.reduceSub, Nat.reduceEqDiff, Nat.reduceAdd, Int32.reduceLT, Int32.reduceLE, Int32.reduceAdd, Int32.reduceSub, Int32.reduceToNatClampNeg, reduceIte, reduceCtorEq, Nat.lt_irrefl]
  exact hQ _
theorem cnt_le {S : sm_S} {a : Nat} (ho : ∀ i, 22 ≤ i → i < 46 → S 0 i ≤ 1) (ha : a < 6) : s_least S a ≤ 30 := by
  have h0 := ho (22 + a) (by omega) (by omega)
  have h1 := ho (28 + a) (by omega) (by omega)
  have h2 := ho (34 + a) (by omega) (by omega)
  have h3 := ho (40 + a) (by omega) (by omega)
  unfold s_least s_cnt
  split <;> omega
theorem bl_C {X : sm_X} {w : sm_W} {Q : Option Value → sm_W → Prop} {S : sm_S} {a : Nat} (hS : Sh w) (hBk : BkC 1 w S) (hB : BdB S) (ha : a < 6) : sm_R X 48 0 [.ref 101, .int (nI a)] [] w Q ↔ Q (some (.int (if S 0 a < s_least S a then 1 else 0))) w := by
  have z1 : sm_in (nI a) 6 = true := sm_in_nI ha (by decide)
  have z2 : (nI a).toNatClampNeg = a := nI_clamp (by omega)
  have h1 : wi w 2 a = nI (S 0 a) := hBk.1 a ha
  have h3 := hB.1 a (by omega)
  have h4 := cnt_le hB.2.1 ha
  have hl := fun Q => least_C (X := X) (Q := Q) hS ha h1 (hBk.2.2.1 a ha) hB.1 hB.2.1
  by_cases e : S 0 a < s_least S a
  · have y : ¬ nI (s_least S a) ≤ nI (S 0 a) := nI_ge e (by omega)
    rw [if_pos e]
    simp (decide := true) only [r48_0, r48_1, r48_4, r48_5, r48_6, r48_7, r48_8, r48_11, r48_14, r48_15, r48_18, r48_19 (s0 := 0) (Or.inl rfl), r48_19 (s0 := 1) (Or.inr rfl), hl, h1, y, z1, z2, sh1 hS, sh2 hS, sm_wp_some, sm_wp_none, sm_at, sm_get, sm_fld, sm_pfl, sm_cN, sm_ai, sm_al, sm_si, sm_slg, sm_aa, List.getElem?_cons_zero, List.getElem?_cons_succ, List.set_cons_zero, List.set_cons_succ, List.length_cons, List.length_nil, Option.toList_some, Option.toList_none, List.cons_append, List.nil_append, if_true, if_false, true_and, and_true, Option.some.injEq, gs_o, gs_s, List.length_set, hS.1, pk_us, Nat.reduceLT, Nat.reduceLeDiff, Nat.reduceSub, Nat.reduceEqDiff, Nat.reduceAdd, Int32.reduceLT, Int32.reduceLE, Int32.reduceAdd, Int32.reduceSub, Int32.reduceToNatClampNeg, reduceIte, reduceCtorEq, Nat.lt_irrefl]
  · have y : nI (s_least S a) ≤ nI (S 0 a) := nI_le (by omega) (by omega)
    rw [if_neg e]
    simp (decide := true) only [r48_0, r48_1, r48_4, r48_5, r48_6, r48_7, r48_8, r48_11, r48_14, r48_15, r48_18, r48_19 (s0 := 0) (Or.inl rfl), r48_19 (s0 := 1) (Or.inr rfl), hl, h1, y, z1, z2, sh1 hS, sh2 hS, sm_wp_some, sm_wp_none, sm_at, sm_get, sm_fld, sm_pfl, sm_cN, sm_ai, sm_al, sm_si, sm_slg, sm_aa, List.getElem?_cons_zero, List.getElem?_cons_succ, List.set_cons_zero, List.set_cons_succ, List.length_cons, List.length_nil, Option.toList_some, Option.toList_none, List.cons_append, List.nil_append, if_true, if_false, true_and, and_true, Option.some.injEq, gs_o, gs_s, List.length_set, hS.1, pk_us, Nat.reduceLT, Nat.reduceLeDiff, Nat.reduceSub, Nat.reduceEqDiff, Nat.reduceAdd, Int32.reduceLT, Int32.reduceLE, Int32.reduceAdd, Int32.reduceSub, Int32.reduceToNatClampNeg, reduceIte, reduceCtorEq, Nat.lt_irrefl]
/-! A TRANSACTION, described purely, and its bounds -/
def s_pay (S : sm_S) (t : Nat) : Nat × sm_S := if S 0 (S 5 t) < S 7 t then (6, S) else if S 5 t ≠ S 6 t ∧ 2147483647 < S 0 (S 6 t) + S 7 t then (7, S) else (0, s_up (s_up S 0 (S 5 t) (S 0 (S 5 t) - S 7 t)) 0 (S 6 t) (s_up S 0 (S 5 t) (S 0 (S 5 t) - S 7 t) 0 (S 6 t) + S 7 t))
def s_op (S : sm_S) (t : Nat) : sm_S := if S 4 t = 1 then s_in S (S 6 t) (S 5 t) else S
def s_cl (S S' : sm_S) (t : Nat) : sm_S := if S 4 t = 2 then s_up S' 0 (22 + S 6 t * 6 + S 5 t) 0 else S'
def s_call (S : sm_S) (t : Nat) : Nat × sm_S := if (S 4 t = 1 ∧ S 0 (22 + S 6 t * 6 + S 5 t) = 1) ∨ (S 4 t = 2 ∧ ¬ S 0 (22 + S 6 t * 6 + S 5 t) = 1) then (8, S) else if S 3 (S 6 t) = 0 then (9, S) else if (s_run 100 (s_beg (s_op S t) t) t).1 ≠ 0 then s_run 100 (s_beg (s_op S t) t) t else (0, s_cl S (s_run 100 (s_beg (s_op S t) t) t).2 t)
def s_low (S : sm_S) (t : Nat) (S' : sm_S) : Bool := decide (S' 0 (S 5 t) < s_least S' (S 5 t) ∨ (S 4 t = 3 ∧ S' 0 (S 6 t) < s_least S' (S 6 t)))
def s_fee (S : sm_S) (t : Nat) : sm_S := s_up S 0 (S 5 t) (S 0 (S 5 t) - 1)
def s_body (S : sm_S) (t : Nat) : Nat × sm_S := if S 4 t = 3 then s_pay (s_fee S t) t else s_call (s_fee S t) t
def s_tx (S : sm_S) (t : Nat) : Nat × sm_S := if S 0 (S 5 t) < 1 then (6, S) else if (s_body S t).1 ≠ 0 then s_body S t else if s_low S t (s_body S t).2 = true then (10, (s_body S t).2) else (0, (s_body S t).2)
def TxB (T : Nat) (S : sm_S) : Prop := BdB S ∧ BdP S ∧ BdG S ∧ (∀ i, i < 16 → S 9 i < 2 ^ 31) ∧ S 14 3 ≤ 80 ∧ S 14 4 ≤ S 14 3 ∧ S 14 5 ≤ S 14 4 ∧ T ≤ S 10 0 ∧ S 10 0 ≤ T + S 14 4 ∧ T ≤ 300000 ∧ S 10 5 = 4294967293
theorem TxB.bk {T j v : Nat} {S : sm_S} (h : TxB T S) (hv : v < 2 ^ 31) (ho : 22 ≤ j → j < 46 → v ≤ 1) : TxB T (s_up S 0 j v) := by
  obtain ⟨h1, h2, h3, h4, h5, h6, h7, h8, h9, h10, h11⟩ := h
  exact ⟨h1.up hv ho, h2, h3, h4, h5, h6, h7, h8, h9, h10, h11⟩
theorem TxB.rf {T : Nat} {S : sm_S} (h : TxB T S) : RfB S := by
  obtain ⟨h1, h2, h3, h4, h5, h6, h7, h8, h9, h10, h11⟩ := h
  exact ⟨h4, h5, h6, h7⟩
theorem TxB.beg {T t : Nat} {S : sm_S} (h : TxB T S) (ht : t < S 10 1) (hk : S 4 t ≠ 3) : RnB T (s_beg S t) t := by
  obtain ⟨h1, h2, h3, h4, h5, h6, h7, h8, h9, h10, h11⟩ := h
  refine ⟨h1, h2, h3, fun i hi => ?_, ⟨ht, hk⟩, ⟨Nat.zero_le 8, fun i hi => absurd hi (Nat.not_lt_zero _)⟩, Nat.zero_le 32, h5, h6, h7, Nat.zero_le 1, h8, h9, h10⟩
  have e9 : s_beg S t 9 i = if t * 4 ≤ i ∧ i < t * 4 + 4 then 0 else S 9 i := rfl
  rw [e9]
  split
  · decide
  · exact h4 i hi
theorem RnB.tx {T t : Nat} {S : sm_S} (h : RnB T S t) (h5 : S 10 5 = 4294967293) : TxB T S := by
  obtain ⟨bB, bP, bG, bS, ht, hE, hq32, h80, hcs, hst, hen, hT1, hT2, hT3⟩ := h
  exact ⟨bB, bP, bG, bS, h80, hcs, hst, hT1, hT2, hT3, h5⟩
theorem s_sm.bk {T j v : Nat} {S : sm_S} : s_sm T S (s_up S 0 j v) := ⟨⟨rfl, rfl, rfl, rfl, rfl, rfl, rfl, rfl⟩, fun _ _ _ => rfl, rfl, fun _ _ => rfl⟩
/-- what a transaction, or a piece of it, leaves -/
def TxR (T : Nat) (S : sm_S) (r : Nat × sm_S) : Prop := s_sm T S r.2 ∧ RfB r.2 ∧ r.1 ≤ 10 ∧ (r.1 = 0 → TxB T r.2)
theorem TxR.flt {T f : Nat} {S : sm_S} (h : TxB T S) (hf : f ≤ 10) (h0 : f ≠ 0) : TxR T S (f, S) := ⟨s_sm.rf T S, h.rf, hf, fun h => absurd h h0⟩
theorem s_pay_B {T t : Nat} {S : sm_S} (h : TxB T S) (ht : t < S 10 1) (hk : S 4 t = 3) : TxR T S (s_pay S t) := by
  have bt := h.2.2.1.2 t ht
  have hf : S 5 t < 6 := bt.2.1
  have ho : S 6 t < 6 := (bt.2.2.1 hk).1
  have b5 := h.1.1 (S 5 t) (by omega)
  have b6 := h.1.1 (S 6 t) (by omega)
  unfold s_pay
  by_cases e : S 0 (S 5 t) < S 7 t
  · rw [if_pos e]
    exact TxR.flt h (by decide) (by decide)
  · rw [if_neg e]
    by_cases f : S 5 t ≠ S 6 t ∧ 2147483647 < S 0 (S 6 t) + S 7 t
    · rw [if_pos f]
      exact TxR.flt h (by decide) (by decide)
    · rw [if_neg f]
      have h1 := h.bk (j := S 5 t) (v := S 0 (S 5 t) - S 7 t) (by omega) (fun _ _ => by omega)
      have hv : s_up S 0 (S 5 t) (S 0 (S 5 t) - S 7 t) 0 (S 6 t) + S 7 t < 2 ^ 31 := by
        by_cases g : S 6 t = S 5 t
        · rw [g, s_up_s]
          omega
        · rw [s_up_o (Or.inr g)]
          omega
      have h2 := h1.bk (j := S 6 t) (v := s_up S 0 (S 5 t) (S 0 (S 5 t) - S 7 t) 0 (S 6 t) + S 7 t) hv (fun _ _ => by omega)
      exact ⟨s_sm.tr s_sm.bk s_sm.bk, h2.rf, Nat.zero_le 10, fun _ => h2⟩
theorem TxB.op {T t : Nat} {S : sm_S} (h : TxB T S) (ht : t < S 10 1) (hk : S 4 t ≠ 3) : TxB T (s_op S t) ∧ s_sm T S (s_op S t) := by
  have bt := h.2.2.1.2 t ht
  have hf : S 5 t < 6 := bt.2.1
  have hp : S 6 t < 4 := bt.2.2.2.1 hk
  unfold s_op
  split
  · unfold s_in
    exact ⟨((h.bk (by decide) (fun _ _ => by decide)).bk (by decide) (fun _ _ => by decide)).bk (by decide) (fun _ _ => by decide), (s_sm.tr s_sm.bk s_sm.bk).tr s_sm.bk⟩
  · exact ⟨h, s_sm.rf T S⟩
theorem s_sm.beg {T t : Nat} {S : sm_S} : s_sm T S (s_beg S t) := ⟨⟨rfl, rfl, rfl, rfl, rfl, rfl, rfl, rfl⟩, fun _ _ _ => rfl, rfl, fun _ _ => rfl⟩
theorem s_call_B {T t : Nat} {S : sm_S} (h : TxB T S) (ht : t < S 10 1) (hk : S 4 t ≠ 3) : TxR T S (s_call S t) := by
  unfold s_call
  split
  · exact TxR.flt h (by decide) (by decide)
  · split
    · exact TxR.flt h (by decide) (by decide)
    · obtain ⟨h1, h2⟩ := h.op ht hk
      have ht1 : t < s_op S t 10 1 := by
        rw [h2.2.1 1 (by decide) (by decide)]
        exact ht
      have hk1 : s_op S t 4 t ≠ 3 := by
        rw [h2.1.2.2.1]
        exact hk
      have h3 := h1.beg ht1 hk1
      have hn : s_beg (s_op S t) t 14 3 - s_beg (s_op S t) t 14 4 < 100 := by
        have : s_beg (s_op S t) t 14 3 ≤ 80 := h1.2.2.2.2.1
        omega
      obtain ⟨r1, r2, r3⟩ := run_B 100 h3 hn
      have rl := run_l 100 h3 hn
      have hs := (h2.tr s_sm.beg).tr r1
      by_cases e : (s_run 100 (s_beg (s_op S t) t) t).1 = 0
      · rw [if_neg (fun h => h e)]
        obtain ⟨r4, r5⟩ := r3 e
        have r6 := r4.tx (r5.trans h1.2.2.2.2.2.2.2.2.2.2)
        have r7 : TxB T (s_cl S (s_run 100 (s_beg (s_op S t) t) t).2 t) ∧ s_sm T S (s_cl S (s_run 100 (s_beg (s_op S t) t) t).2 t) := by
          unfold s_cl
          split
          · exact ⟨r6.bk (by decide) (fun _ _ => by decide), hs.tr s_sm.bk⟩
          · exact ⟨r6, hs⟩
        exact ⟨r7.2, r7.1.rf, Nat.zero_le 10, fun _ => r7.1⟩
      · rw [if_pos e]
        exact ⟨hs, r2, by omega, fun h => absurd h e⟩
theorem TxB.fee {T t : Nat} {S : sm_S} (h : TxB T S) (ht : t < S 10 1) : TxB T (s_fee S t) := by
  have bt := h.2.2.1.2 t ht
  have hf : S 5 t < 6 := bt.2.1
  have b5 := h.1.1 (S 5 t) (by omega)
  exact h.bk (by omega) (fun _ _ => by omega)
theorem s_body_B {T t : Nat} {S : sm_S} (h : TxB T S) (ht : t < S 10 1) : TxR T S (s_body S t) := by
  have h1 := h.fee ht
  unfold s_body
  split
  next e =>
    obtain ⟨a, b, c, d⟩ := s_pay_B h1 ht e
    exact ⟨s_sm.tr s_sm.bk a, b, c, d⟩
  next e =>
    obtain ⟨a, b, c, d⟩ := s_call_B h1 ht e
    exact ⟨s_sm.tr s_sm.bk a, b, c, d⟩
theorem s_tx_B {T t : Nat} {S : sm_S} (h : TxB T S) (ht : t < S 10 1) : TxR T S (s_tx S t) := by
  obtain ⟨a, b, c, d⟩ := s_body_B h ht
  unfold s_tx
  split
  · exact TxR.flt h (by decide) (by decide)
  · by_cases e : (s_body S t).1 = 0
    · rw [if_neg (fun h => h e)]
      split
      · exact ⟨a, b, Nat.le_refl 10, fun h => absurd h (by omega)⟩
      · exact ⟨a, b, Nat.zero_le 10, fun _ => d e⟩
    · rw [if_pos e]
      exact ⟨a, b, c, d⟩
/-! A TRANSACTION of the class (gen/n15.py) -/
def AtC (w w' : sm_W) (r : Nat × sm_S) : Prop := FrC w w' ∧ (r.1 = 0 → BtC w' r.2) ∧ (r.1 ≠ 0 → RgC w' r.2 ∧ wn w' 55 6 = nI (r.2 10 5))
theorem AtC.tr {w w' w'' : sm_W} {r : Nat × sm_S} (h : FrC w w') (h2 : AtC w' w'' r) : AtC w w'' r := ⟨h.tr h2.1, h2.2⟩
theorem BtC.rg {w : sm_W} {S : sm_S} (h : BtC w S) (h5 : S 10 5 = 4294967293) : RgC w S ∧ wn w 55 6 = nI (S 10 5) := by
  obtain ⟨h1, h2, h3, hg, hc, m3, m4, m5, m6⟩ := h
  refine ⟨⟨h1, h3, hg, hc, m4, m5⟩, ?_⟩
  rw [m6, h5]
  rfl
theorem RnC.bt {w : sm_W} {S : sm_S} {t q : Nat} (h : RnC w S t q) : BtC w S := by
  obtain ⟨h1, h2, h3, h4, h5, h6, h7, h8⟩ := h
  exact ⟨h1, h2, h3, h4, h5, h7.1, h7.2.1, h7.2.2.1, h7.2.2.2.1⟩
theorem BtC.bk {w w' : sm_W} {S S' : sm_S} (h : BtC w S) (h4 : S 10 1 ≤ 4) (hS : Sh w') (hB : BkC 1 w' S') (hf : ∀ j, j < 1 ∨ 14 < j → w'[j]? = w[j]?) (hr : ∀ r, r ≠ 0 → S' r = S r) : BtC w' S' := by
  obtain ⟨h1, h2, h3, hg, hc, m3, m4, m5, m6⟩ := h
  have e2 := hr 2 (by decide)
  have e3 := hr 3 (by decide)
  have e11 := hr 11 (by decide)
  have e4 := hr 4 (by decide)
  have e5 := hr 5 (by decide)
  have e6 := hr 6 (by decide)
  have e7 := hr 7 (by decide)
  have e8 := hr 8 (by decide)
  have e9 := hr 9 (by decide)
  have e10 := hr 10 (by decide)
  have e14 := hr 14 (by decide)
  have p1 := h3.c (w' := w') (fun k _ _ => hf k (by omega))
  have p2 := hg.c (w' := w') h4 (hf 45 (by omega)) (fun t _ => hf _ (by omega))
  have p3 := hc.c (w' := w') (fun t _ => hf _ (by omega))
  have c55 := hf 55 (by omega)
  refine ⟨hS, hB, ?_, ?_, ?_, ?_, ?_, ?_, ?_⟩
  · unfold PrC
    rw [e2, e3, e11]
    exact p1
  · unfold GrC
    rw [e4, e5, e6, e7, e8, e10]
    exact p2
  · unfold ScC
    rw [e9]
    exact p3
  · rw [wn_c c55, e14]; exact m3
  · rw [wn_c c55, e14]; exact m4
  · rw [wn_c c55, e14]; exact m5
  · rw [wn_c c55]; exact m6
theorem s_up_r {S : sm_S} {j v : Nat} : ∀ r, r ≠ 0 → s_up S 0 j v r = S r := fun r hr => if_neg hr
theorem FrC.bk {w w' : sm_W} (hf : ∀ j, j < 1 ∨ 14 < j → w'[j]? = w[j]?) : FrC w w' := fun k hk => hf k (by omega)
theorem BtC.bal {w : sm_W} {S : sm_S} {j v : Nat} (h : BtC w S) (h4 : S 10 1 ≤ 4) (hj : j < 6) : BtC (w.set 2 (.inl (0, 6, .inl (upd (wi w 2) j (nI v))))) (s_up S 0 j v) :=
  h.bk h4 h.1.p2 (BkC.bal (b := 1) h.2.1 (by rw [h.1.1]; decide) hj rfl) (fun i hi => gs_o (by omega)) s_up_r
theorem pay_C {X : sm_X} {w : sm_W} {Q : Option Value → sm_W → Prop} {S : sm_S} {T t : Nat} (hT : BtC w S) (hB : TxB T S) (ht : t < S 10 1) (hk : S 4 t = 3) (hQ : ∀ w', AtC w w' (s_pay S t) → Q (some (.int (nI (s_pay S t).1))) w') : sm_R X 25 0 [.ref 100, .ref (147 + 2 * t)] [] w Q := by
  have h4 : S 10 1 ≤ 4 := hB.2.2.1.1
  have h5 := hB.2.2.2.2.2.2.2.2.2.2
  have bt := hB.2.2.1.2 t ht
  have hf : S 5 t < 6 := bt.2.1
  have ho : S 6 t < 6 := (bt.2.2.1 hk).1
  have hv : S 7 t < 2 ^ 31 := bt.2.2.2.2.1
  have b5 := hB.1.1 (S 5 t) (by omega)
  have b6 := hB.1.1 (S 6 t) (by omega)
  have hS := hT.1
  have ht4 : t < 4 := by omega
  have z2 : ¬ (147 + 2 * t < 100) := by omega
  have z3 : 147 + 2 * t - 100 = 47 + 2 * t := by omega
  have z4 := shTr hS ht4
  have gt := hT.2.2.2.1.2 t ht
  have g1 : wn w (47 + 2 * t) 1 = nI (S 5 t) := gt.2.2
  have g3 : wn w (47 + 2 * t) 3 = nI (S 7 t) := (gt.1 hk).2.2
  have y1 : sm_in (nI (S 5 t)) 6 = true := sm_in_nI hf (by decide)
  have y2 : (nI (S 5 t)).toNatClampNeg = S 5 t := nI_clamp (by omega)
  have y3 : wi w 2 (S 5 t) = nI (S 0 (S 5 t)) := hT.2.1.1 _ hf
  by_cases e : S 0 (S 5 t) < S 7 t
  · have e1 : s_pay S t = (6, S) := if_pos e
    rw [e1] at hQ
    have x1 : ¬ nI (S 7 t) ≤ nI (S 0 (S 5 t)) := nI_ge e hv
    simp (decide := true) only [r25_0, r25_1, r25_4, r25_7, r25_8, r25_11, r25_12, r25_13, r25_16, r25_19, r25_21, g1, g3, y1, y2, y3, x1, z2, z3, z4, sh0 hS, sh1 hS, sh2 hS, sm_wp_some, sm_wp_none, sm_at, sm_get, sm_fld, sm_pfl, sm_cN, sm_ai, sm_al, sm_si, sm_slg, sm_aa, List.getElem?_cons_zero, List.getElem?_cons_succ, List.set_cons_zero, List.set_cons_succ, List.length_cons, List.length_nil, Option.toList_some, Option.toList_none, List.cons_append, List.nil_append, if_true, if_false, true_and, and_true, Option.some.injEq, gs_o, gs_s, List.length_set, hS.1, pk_us, Nat.reduceLT, Nat.reduceLeDiff, Nat.reduceSub, Nat.reduceEqDiff, Nat.reduceAdd, Int32.reduceLT, Int32.reduceLE, Int32.reduceAdd, Int32.reduceSub, Int32.reduceToNatClampNeg, reduceIte, reduceCtorEq, Nat.lt_irrefl]
    exact hQ w ⟨FrC.rf w, fun h => absurd h (by omega), fun _ => hT.rg h5⟩
  · have x1 : nI (S 7 t) ≤ nI (S 0 (S 5 t)) := nI_le (by omega) b5
    have x2 : nI (S 0 (S 5 t)) - nI (S 7 t) = nI (S 0 (S 5 t) - S 7 t) := pk_sub (by omega)
    simp (decide := true) only [r25_0, r25_1, r25_4, r25_7, r25_8, r25_11, r25_12, r25_13, r25_16, r25_22, r25_23, r25_26, r25_29, r25_30, r25_33, r25_34, r25_35, r25_36, r25_39, r25_40, g1, g3, y1, y2, y3, x1, x2, z2, z3, z4, sh0 hS, sh1 hS, sh2 hS, sm_wp_some, sm_wp_none, sm_at, sm_get, sm_fld, sm_pfl, sm_cN, sm_ai, sm_al, sm_si, sm_slg, sm_aa, List.getElem?_cons_zero, List.getElem?_cons_succ, List.set_cons_zero, List.set_cons_succ, List.length_cons, List.length_nil, Option.toList_some, Option.toList_none, List.cons_append, List.nil_append, if_true, if_false, true_and, and_true, Option.some.injEq, gs_o, gs_s, List.length_set, hS.1, pk_us, Nat.reduceLT, Nat.reduceLeDiff, Nat.reduceSub, Nat.reduceEqDiff, Nat.reduceAdd, Int32.reduceLT, Int32.reduceLE, Int32.reduceAdd, Int32.reduceSub, Int32.reduceToNatClampNeg, reduceIte, reduceCtorEq, Nat.lt_irrefl]
    have m1 := hT.bal (j := S 5 t) (v := S 0 (S 5 t) - S 7 t) h4 hf
    have f1 : FrC w (w.set 2 (.inl (0, 6, .inl (upd (wi w 2) (S 5 t) (nI (S 0 (S 5 t) - S 7 t)))))) := FrC.set (by decide) (by decide) (by decide)
    have d0 : s_pay S t = if S 5 t ≠ S 6 t ∧ 2147483647 < S 0 (S 6 t) + S 7 t then (7, S) else (0, s_up (s_up S 0 (S 5 t) (S 0 (S 5 t) - S 7 t)) 0 (S 6 t) (s_up S 0 (S 5 t) (S 0 (S 5 t) - S 7 t) 0 (S 6 t) + S 7 t)) := if_neg e
    generalize w.set 2 (.inl (0, 6, .inl (upd (wi w 2) (S 5 t) (nI (S 0 (S 5 t) - S 7 t))))) = w1 at m1 f1
    have hS1 := m1.1
    have z41 := shTr hS1 ht4
    have gt1 := m1.2.2.2.1.2 t ht
    have g2 : wn w1 (47 + 2 * t) 2 = nI (S 6 t) := (gt1.1 hk).2.1
    have g31 : wn w1 (47 + 2 * t) 3 = nI (S 7 t) := (gt1.1 hk).2.2
    have y11 : sm_in (nI (S 6 t)) 6 = true := sm_in_nI ho (by decide)
    have y21 : (nI (S 6 t)).toNatClampNeg = S 6 t := nI_clamp (by omega)
    have y31 := m1.2.1.1 _ ho
    have sv : (S 6 t = S 5 t ∧ s_up S 0 (S 5 t) (S 0 (S 5 t) - S 7 t) 0 (S 6 t) = S 0 (S 5 t) - S 7 t) ∨ (S 6 t ≠ S 5 t ∧ s_up S 0 (S 5 t) (S 0 (S 5 t) - S 7 t) 0 (S 6 t) = S 0 (S 6 t)) := by
      by_cases g : S 6 t = S 5 t
      · refine Or.inl ⟨g, ?_⟩
        rw [g, s_up_s]
      · exact Or.inr ⟨g, s_up_o (Or.inr g)⟩
    rw [d0] at hQ
    clear d0
    generalize hu : s_up S 0 (S 5 t) (S 0 (S 5 t) - S 7 t) 0 (S 6 t) = u at sv hQ y31
    have y31 : wi w1 2 (S 6 t) = nI u := y31
    have x3 : 2147483647 - nI (S 7 t) = nI (2147483647 - S 7 t) := pk_sub (a := 2147483647) (by omega)
    by_cases f : S 5 t ≠ S 6 t ∧ 2147483647 < S 0 (S 6 t) + S 7 t
    · rw [if_pos f] at hQ
      have x4 : nI (2147483647 - S 7 t) < nI u := nI_lt (by omega) (by omega)
      have x5 : ¬ nI u ≤ nI (2147483647 - S 7 t) := nI_ge (by omega) (by omega)
      simp (decide := true) only [r25_41, r25_42, r25_45, r25_46, r25_49, r25_50, r25_53, r25_56, r25_59, r25_61, r9_0, r9_1, r9_4, r9_5, r9_6, r9_8, r9_9, r9_10, r9_13, r9_14, r9_17, r9_18 (s0 := 0) (Or.inl rfl), r9_18 (s0 := 1) (Or.inr rfl), g2, g31, y11, y21, y31, x3, x4, x5, z2, z3, z41, sh0 hS1, sh1 hS1, sh2 hS1, sm_wp_some, sm_wp_none, sm_at, sm_get, sm_fld, sm_pfl, sm_cN, sm_ai, sm_al, sm_si, sm_slg, sm_aa, List.getElem?_cons_zero, List.getElem?_cons_succ, List.set_cons_zero, List.set_cons_succ, List.length_cons, List.length_nil, Option.toList_some, Option.toList_none, List.cons_append, List.nil_append, if_true, if_false, true_and, and_true, Option.some.injEq, gs_o, gs_s, List.length_set, pk_us, Nat.reduceLT, Nat.reduceLeDiff, Nat.reduceSub, Nat.reduceEqDiff, Nat.reduceAdd, Int32.reduceLT, Int32.reduceLE, Int32.reduceAdd, Int32.reduceSub, Int32.reduceToNatClampNeg, reduceIte, reduceCtorEq, Nat.lt_irrefl]
      exact hQ w1 ⟨f1, fun h => absurd h (by omega), fun _ => m1.rg h5⟩
    · rw [if_neg f] at hQ
      have x4 : ¬ nI (2147483647 - S 7 t) < nI u := nI_nlt (by omega) (by omega)
      have x5 : nI u ≤ nI (2147483647 - S 7 t) := nI_le (by omega) (by omega)
      have x6 : nI u + nI (S 7 t) = nI (u + S 7 t) := nI_add _ _
      simp (decide := true) only [r25_41, r25_42, r25_45, r25_46, r25_49, r25_50, r25_53, r25_56, r25_62, r25_63, r25_66, r25_69, r25_70, r25_73, r25_74, r25_75, r25_76, r25_79, r25_80, r25_81, r25_82, r9_0, r9_1, r9_4, r9_5, r9_6, r9_8, r9_9, r9_10, r9_13, r9_14, r9_17, r9_18 (s0 := 0) (Or.inl rfl), r9_18 (s0 := 1) (Or.inr rfl), g2, g31, y11, y21, y31, x3, x4, x5, x6, z2, z3, z41, sh0 hS1, sh1 hS1, sh2 hS1, sm_wp_some, sm_wp_none, sm_at, sm_get, sm_fld, sm_pfl, sm_cN, sm_ai, sm_al, sm_si, sm_slg, sm_aa, List.getElem?_cons_zero, List.getElem?_cons_succ, List.set_cons_zero, List.set_cons_succ, List.length_cons, List.length_nil, Option.toList_some, Option.toList_none, List.cons_append, List.nil_append, if_true, if_false, true_and, and_true, Option.some.injEq, gs_o, gs_s, List.length_set, pk_us, Nat.reduceLT, Nat.reduceLeDiff, Nat.reduceSub, Nat.reduceEqDiff, Nat.reduceAdd, Int32.reduceLT, Int32.reduceLE, Int32.reduceAdd, Int32.reduceSub, Int32.reduceToNatClampNeg, reduceIte, reduceCtorEq, Nat.lt_irrefl]
      have m2 := m1.bal (j := S 6 t) (v := u + S 7 t) h4 ho
      exact hQ _ ⟨f1.tr (FrC.set (by decide) (by decide) (by decide)), fun _ => m2, fun h => absurd rfl h⟩
theorem call_C2 {X : sm_X} {w : sm_W} {Q : Option Value → sm_W → Prop} {S : sm_S} {T t : Nat} {x3 : Int32} {S0 : sm_S} (hT : BtC w S) (hB : TxB T S) (ht : t < S 10 1) (hk : S 4 t ≠ 3) (h3 : S 3 (S 6 t) ≠ 0) (hQ : ∀ w', AtC w w' (if (s_run 100 (s_beg S t) t).1 ≠ 0 then s_run 100 (s_beg S t) t else (0, s_cl S (s_run 100 (s_beg S t) t).2 t)) → Q (some (.int (nI (if (s_run 100 (s_beg S t) t).1 ≠ 0 then s_run 100 (s_beg S t) t else (0, s_cl S (s_run 100 (s_beg S t) t).2 t)).1))) w') : sm_R X 26 66 [.ref 100, .ref (147 + 2 * t), .int (nI t), .int x3, sm_J, sm_J] [] w Q := by
  have h4 : S 10 1 ≤ 4 := hB.2.2.1.1
  have h5 := hB.2.2.2.2.2.2.2.2.2.2
  have bt := hB.2.2.1.2 t ht
  have hf : S 5 t < 6 := bt.2.1
  have hp : S 6 t < 4 := bt.2.2.2.1 hk
  have k3 : S 4 t ≤ 3 := bt.1
  have hS := hT.1
  have ht4 : t < 4 := by omega
  have z2 : ¬ (147 + 2 * t < 100) := by omega
  have z3 : 147 + 2 * t - 100 = 47 + 2 * t := by omega
  have z4 := shTr hS ht4
  have gt := hT.2.2.2.1.2 t ht
  have g4 : wn w (47 + 2 * t) 4 = nI (S 6 t) := (gt.2.1 hk).2.1
  have z8 : sm_in (nI (S 6 t)) 4 = true := sm_in_nI hp (by decide)
  have z9 : (nI (S 6 t)).toNatClampNeg = S 6 t := nI_clamp (by omega)
  have z10 := zr32_p hp
  have hb : s_pb (S 6 t) = 33 + 3 * S 6 t := if_neg (by omega)
  have P0 := hT.2.2.1 (S 6 t) (by omega)
  rw [hb] at P0
  have P1 := P0.1
  have bp := hB.2.1 (S 6 t) (by omega)
  have w1 : ¬ (133 + 3 * S 6 t < 100) := by omega
  have w2 : 133 + 3 * S 6 t - 100 = 33 + 3 * S 6 t := by omega
  have w3 := shPr hS hp
  have n3 : ¬ nI (S 3 (S 6 t)) = 0 := fun h => h3 ((nI_z (by omega)).mp h)
  simp (decide := true) only [r26_66, r26_67, r26_70, r26_71, r26_74, r26_75, r26_77, r26_79, r26_82, r26_88, r26_89, r26_92, r26_94, r26_95, g4, P1, n3, z2, z3, z4, z8, z9, z10, w1, w2, w3, sh0 hS, sh32 hS, sh55 hS, sm_wp_some, sm_wp_none, sm_at, sm_get, sm_fld, sm_pfl, sm_cN, sm_ai, sm_al, sm_si, sm_slg, sm_aa, List.getElem?_cons_zero, List.getElem?_cons_succ, List.set_cons_zero, List.set_cons_succ, List.length_cons, List.length_nil, Option.toList_some, Option.toList_none, List.cons_append, List.nil_append, if_true, if_false, true_and, and_true, Option.some.injEq, gs_o, gs_s, List.length_set, hS.1, pk_us, Nat.reduceLT, Nat.reduceLeDiff, Nat.reduceSub, Nat.reduceEqDiff, Nat.reduceAdd, Int32.reduceLT, Int32.reduceLE, Int32.reduceAdd, Int32.reduceSub, Int32.reduceToNatClampNeg, reduceIte, reduceCtorEq, Nat.lt_irrefl]
  have hb1 := hB.beg ht hk
  have hn : s_beg S t 14 3 - s_beg S t 14 4 < 100 := by
    have : s_beg S t 14 3 ≤ 80 := hB.2.2.2.2.1
    omega
  obtain ⟨r1, r2, r3⟩ := run_B 100 hb1 hn
  have rl := run_l 100 hb1 hn
  refine run_C hT hb1 (fun w' hA => ?_)
  obtain ⟨a1, a2, a3⟩ := hA
  have hs := s_sm.tr (T := T) (s_sm.beg (S := S) (t := t)) r1
  have hS' : Sh w' := by
    by_cases e : (s_run 100 (s_beg S t) t).1 = 0
    · exact (a2 e).1
    · exact (a3 e).1.1
  have hG' : GrC w' (s_run 100 (s_beg S t) t).2 := by
    by_cases e : (s_run 100 (s_beg S t) t).1 = 0
    · exact (a2 e).2.2.2.1
    · exact (a3 e).1.2.2.1
  generalize hr : s_run 100 (s_beg S t) t = r at *
  have r101 : r.2 10 1 = S 10 1 := hs.2.1 1 (by decide) (by decide)
  have r4 : r.2 4 = S 4 := hs.1.2.2.1
  have r5 : r.2 5 = S 5 := hs.1.2.2.2.1
  have r6 : r.2 6 = S 6 := hs.1.2.2.2.2.1
  have gt' := hG'.2 t (by rw [r101]; exact ht)
  rw [r4, r5, r6] at gt'
  have g1' : wn w' (47 + 2 * t) 1 = nI (S 5 t) := gt'.2.2
  have g4' : wn w' (47 + 2 * t) 4 = nI (S 6 t) := (gt'.2.1 hk).2.1
  have g5' : wn w' (47 + 2 * t) 5 = nI (S 4 t) := (gt'.2.1 hk).2.2.1
  have z4' := shTr hS' ht4
  by_cases k2 : S 4 t = 2
  · have n2 : nI (S 4 t) = 2 := by rw [k2]; rfl
    by_cases e : r.1 = 0
    · rw [if_neg (fun h => h e)] at hQ
      have hR := a2 e
      have hB' := (r3 e).1
      have o1 := fun Q => oo_C (X := X) (Q := Q) (p := S 6 t) hR.1 (hR.2.1.2.2.1 (S 5 t) hf) hB'.1.2.1 hp hf
      simp (decide := true) only [r26_98, r26_100, r26_101, r26_104, r26_105, r26_108, r26_109, r26_112, r26_113, r26_116, r26_117, r26_120, r26_123, r26_125, g1', g4', g5', n2, o1, z2, z3, z4', sh0 hS', sh1 hS', sm_wp_some, sm_wp_none, sm_at, sm_get, sm_fld, sm_pfl, sm_cN, sm_ai, sm_al, sm_si, sm_slg, sm_aa, List.getElem?_cons_zero, List.getElem?_cons_succ, List.set_cons_zero, List.set_cons_succ, List.length_cons, List.length_nil, Option.toList_some, Option.toList_none, List.cons_append, List.nil_append, if_true, if_false, true_and, and_true, Option.some.injEq, gs_o, gs_s, List.length_set, pk_us, Nat.reduceLT, Nat.reduceLeDiff, Nat.reduceSub, Nat.reduceEqDiff, Nat.reduceAdd, Int32.reduceLT, Int32.reduceLE, Int32.reduceAdd, Int32.reduceSub, Int32.reduceToNatClampNeg, reduceIte, reduceCtorEq, Nat.lt_irrefl]
      have m := BtC.bk (S' := s_up r.2 0 (22 + S 6 t * 6 + S 5 t) 0) hR.bt (by rw [r101]; exact h4) (hR.1.p13 (f := upd (wi w' 13) (S 5 t) (nI (s_ob (s_up r.2 0 (22 + S 6 t * 6 + S 5 t) 0) (S 5 t))))) (hR.2.1.opt hR.1.1 hp hf) (fun j hj => gs_o (by omega)) s_up_r
      have c1 : s_cl S r.2 t = s_up r.2 0 (22 + S 6 t * 6 + S 5 t) 0 := if_pos k2
      rw [c1] at hQ
      have n0 : nI r.1 = nI 0 := by rw [e]
      rw [n0]
      exact hQ _ ⟨a1.tr (FrC.set (by decide) (by decide) (by decide)), fun _ => m, fun h => absurd rfl h⟩
    · rw [if_pos e] at hQ
      obtain ⟨⟨q1, q2, q3, q4, q5, q6⟩, q7⟩ := a3 e
      simp (decide := true) only [r26_98, r26_100, r26_101, r26_104, r26_105, r26_108, r26_109, r26_112, r26_113, r26_116, r26_117, r26_120, g1', g4', g5', n2, z2, z3, z4', sh0 hS', sh1 hS', sm_wp_some, sm_wp_none, sm_at, sm_get, sm_fld, sm_pfl, sm_cN, sm_ai, sm_al, sm_si, sm_slg, sm_aa, List.getElem?_cons_zero, List.getElem?_cons_succ, List.set_cons_zero, List.set_cons_succ, List.length_cons, List.length_nil, Option.toList_some, Option.toList_none, List.cons_append, List.nil_append, if_true, if_false, true_and, and_true, Option.some.injEq, gs_o, gs_s, List.length_set, pk_us, Nat.reduceLT, Nat.reduceLeDiff, Nat.reduceSub, Nat.reduceEqDiff, Nat.reduceAdd, Int32.reduceLT, Int32.reduceLE, Int32.reduceAdd, Int32.reduceSub, Int32.reduceToNatClampNeg, reduceIte, reduceCtorEq, Nat.lt_irrefl]
      refine oo_F hS' hf (fun f => ?_)
      simp (decide := true) only [r26_123, r26_125, Option.toList_none, List.nil_append]
      have h4' : r.2 10 1 ≤ 4 := by rw [r101]; exact h4
      refine hQ _ ⟨a1.tr (FrC.set (by decide) (by decide) (by decide)), fun h => absurd h e, fun _ => ⟨⟨q1.p13, q2.o (by omega), q3.o h4' (by omega), q4.o (by omega), ?_, ?_⟩, ?_⟩⟩
      · rw [wn_o (by decide)]; exact q5
      · rw [wn_o (by decide)]; exact q6
      · rw [wn_o (by decide)]; exact q7
  · have n2 : ¬ nI (S 4 t) = 2 := fun h => k2 ((nI_eq (b := 2) (by omega) (by decide)).mp h)
    simp (decide := true) only [r26_98, r26_100, r26_101, r26_104, r26_105, r26_108, r26_109, r26_112, r26_113, r26_116, r26_117, r26_120, r26_123, r26_125, g1', g4', g5', n2, z2, z3, z4', sh0 hS', sh1 hS', sm_wp_some, sm_wp_none, sm_at, sm_get, sm_fld, sm_pfl, sm_cN, sm_ai, sm_al, sm_si, sm_slg, sm_aa, List.getElem?_cons_zero, List.getElem?_cons_succ, List.set_cons_zero, List.set_cons_succ, List.length_cons, List.length_nil, Option.toList_some, Option.toList_none, List.cons_append, List.nil_append, if_true, if_false, true_and, and_true, Option.some.injEq, gs_o, gs_s, List.length_set, pk_us, Nat.reduceLT, Nat.reduceLeDiff, Nat.reduceSub, Nat.reduceEqDiff, Nat.reduceAdd, Int32.reduceLT, Int32.reduceLE, Int32.reduceAdd, Int32.reduceSub, Int32.reduceToNatClampNeg, reduceIte, reduceCtorEq, Nat.lt_irrefl]
    by_cases e : r.1 = 0
    · rw [if_neg (fun h => h e)] at hQ
      have c1 : s_cl S r.2 t = r.2 := if_neg k2
      rw [c1] at hQ
      have n0 : nI r.1 = nI 0 := by rw [e]
      rw [n0]
      exact hQ _ ⟨a1, fun _ => (a2 e).bt, fun h => absurd rfl h⟩
    · rw [if_pos e] at hQ
      exact hQ w' ⟨a1, fun h => absurd h e, fun _ => a3 e⟩
theorem call_C {X : sm_X} {w : sm_W} {Q : Option Value → sm_W → Prop} {S : sm_S} {T t : Nat} (hT : BtC w S) (hB : TxB T S) (ht : t < S 10 1) (hk : S 4 t ≠ 3) (hQ : ∀ w', AtC w w' (s_call S t) → Q (some (.int (nI (s_call S t).1))) w') : sm_R X 26 0 [.ref 100, .ref (147 + 2 * t), .int (nI t), sm_J, sm_J, sm_J] [] w Q := by
  have h4 : S 10 1 ≤ 4 := hB.2.2.1.1
  have h5 := hB.2.2.2.2.2.2.2.2.2.2
  have bt := hB.2.2.1.2 t ht
  have hf : S 5 t < 6 := bt.2.1
  have hp : S 6 t < 4 := bt.2.2.2.1 hk
  have k3 : S 4 t ≤ 3 := bt.1
  have hS := hT.1
  have ht4 : t < 4 := by omega
  have z2 : ¬ (147 + 2 * t < 100) := by omega
  have z3 : 147 + 2 * t - 100 = 47 + 2 * t := by omega
  have z4 := shTr hS ht4
  have gt := hT.2.2.2.1.2 t ht
  have g1 : wn w (47 + 2 * t) 1 = nI (S 5 t) := gt.2.2
  have g4 : wn w (47 + 2 * t) 4 = nI (S 6 t) := (gt.2.1 hk).2.1
  have g5 : wn w (47 + 2 * t) 5 = nI (S 4 t) := (gt.2.1 hk).2.2.1
  have z8 : sm_in (nI (S 6 t)) 4 = true := sm_in_nI hp (by decide)
  have z9 : (nI (S 6 t)).toNatClampNeg = S 6 t := nI_clamp (by omega)
  have z10 := zr32_p hp
  have hb : s_pb (S 6 t) = 33 + 3 * S 6 t := if_neg (by omega)
  have P0 := hT.2.2.1 (S 6 t) (by omega)
  rw [hb] at P0
  have P1 := P0.1
  have bp := hB.2.1 (S 6 t) (by omega)
  have w1 : ¬ (133 + 3 * S 6 t < 100) := by omega
  have w2 : 133 + 3 * S 6 t - 100 = 33 + 3 * S 6 t := by omega
  have w3 := shPr hS hp
  have i1 := fun Q => io_C (X := X) (Q := Q) (p := S 6 t) hS (hT.2.1.2.2.1 (S 5 t) hf) hB.1.2.1 hp hf
  have kc : S 4 t = 0 ∨ S 4 t = 1 ∨ S 4 t = 2 := by omega
  rcases kc with k | k | k
  · have n : nI (S 4 t) = 0 := by rw [k]; rfl
    have d : s_call S t = if S 3 (S 6 t) = 0 then (9, S) else if (s_run 100 (s_beg (s_op S t) t) t).1 ≠ 0 then s_run 100 (s_beg (s_op S t) t) t else (0, s_cl S (s_run 100 (s_beg (s_op S t) t) t).2 t) := if_neg (fun q => by omega)
    have dop : s_op S t = S := if_neg (by omega)
    rw [d, dop] at hQ
    simp (decide := true) only [r26_0, r26_1, r26_4, r26_5, r26_8, r26_9, r26_12, r26_15, r26_16, r26_17, r26_20, r26_21, r26_24, r26_25, r26_28, r26_29, r26_32, r26_33, r26_36, r26_37, r26_43, r26_44, r26_47, r26_48, g1, g4, g5, i1, n, z2, z3, z4, sh0 hS, sh1 hS, sm_wp_some, sm_wp_none, sm_at, sm_get, sm_fld, sm_pfl, sm_cN, sm_ai, sm_al, sm_si, sm_slg, sm_aa, List.getElem?_cons_zero, List.getElem?_cons_succ, List.set_cons_zero, List.set_cons_succ, List.length_cons, List.length_nil, Option.toList_some, Option.toList_none, List.cons_append, List.nil_append, if_true, if_false, true_and, and_true, Option.some.injEq, gs_o, gs_s, List.length_set, hS.1, pk_us, Nat.reduceLT, Nat.reduceLeDiff, Nat.reduceSub, Nat.reduceEqDiff, Nat.reduceAdd, Int32.reduceLT, Int32.reduceLE, Int32.reduceAdd, Int32.reduceSub, Int32.reduceToNatClampNeg, reduceIte, reduceCtorEq, Nat.lt_irrefl]
    by_cases e3 : S 3 (S 6 t) = 0
    · rw [if_pos e3] at hQ
      have n3 : nI (S 3 (S 6 t)) = 0 := by rw [e3]; rfl
      simp (decide := true) only [r26_66, r26_67, r26_70, r26_71, r26_74, r26_75, r26_77, r26_79, r26_82, r26_85, r26_87, g4, P1, n3, z2, z3, z4, z8, z9, z10, w1, w2, w3, sh0 hS, sh32 hS, sh55 hS, sm_wp_some, sm_wp_none, sm_at, sm_get, sm_fld, sm_pfl, sm_cN, sm_ai, sm_al, sm_si, sm_slg, sm_aa, List.getElem?_cons_zero, List.getElem?_cons_succ, List.set_cons_zero, List.set_cons_succ, List.length_cons, List.length_nil, Option.toList_some, Option.toList_none, List.cons_append, List.nil_append, if_true, if_false, true_and, and_true, Option.some.injEq, gs_o, gs_s, List.length_set, hS.1, pk_us, Nat.reduceLT, Nat.reduceLeDiff, Nat.reduceSub, Nat.reduceEqDiff, Nat.reduceAdd, Int32.reduceLT, Int32.reduceLE, Int32.reduceAdd, Int32.reduceSub, Int32.reduceToNatClampNeg, reduceIte, reduceCtorEq, Nat.lt_irrefl]
      exact hQ w ⟨FrC.rf w, fun h => absurd h (by omega), fun _ => hT.rg h5⟩
    · rw [if_neg e3] at hQ
      exact call_C2 (S0 := S) hT hB ht hk e3 hQ
  · have n : nI (S 4 t) = 1 := by rw [k]; rfl
    by_cases o : S 0 (22 + S 6 t * 6 + S 5 t) = 1
    · have d : s_call S t = (8, S) := if_pos (Or.inl ⟨k, o⟩)
      rw [d] at hQ
      simp (decide := true) only [r26_0, r26_1, r26_4, r26_5, r26_8, r26_9, r26_12, r26_15, r26_16, r26_17, r26_20, r26_21, r26_24, r26_25, r26_28, r26_29, r26_32, r26_33, r26_36, r26_37, r26_40, r26_42, g1, g4, g5, i1, if_pos o, n, z2, z3, z4, sh0 hS, sh1 hS, sm_wp_some, sm_wp_none, sm_at, sm_get, sm_fld, sm_pfl, sm_cN, sm_ai, sm_al, sm_si, sm_slg, sm_aa, List.getElem?_cons_zero, List.getElem?_cons_succ, List.set_cons_zero, List.set_cons_succ, List.length_cons, List.length_nil, Option.toList_some, Option.toList_none, List.cons_append, List.nil_append, if_true, if_false, true_and, and_true, Option.some.injEq, gs_o, gs_s, List.length_set, hS.1, pk_us, Nat.reduceLT, Nat.reduceLeDiff, Nat.reduceSub, Nat.reduceEqDiff, Nat.reduceAdd, Int32.reduceLT, Int32.reduceLE, Int32.reduceAdd, Int32.reduceSub, Int32.reduceToNatClampNeg, reduceIte, reduceCtorEq, Nat.lt_irrefl]
      exact hQ w ⟨FrC.rf w, fun h => absurd h (by omega), fun _ => hT.rg h5⟩
    · have d : s_call S t = if S 3 (S 6 t) = 0 then (9, S) else if (s_run 100 (s_beg (s_op S t) t) t).1 ≠ 0 then s_run 100 (s_beg (s_op S t) t) t else (0, s_cl S (s_run 100 (s_beg (s_op S t) t) t).2 t) := if_neg (fun q => by omega)
      have dop : s_op S t = s_in S (S 6 t) (S 5 t) := if_pos k
      have hB1 := (hB.op ht hk).1
      rw [dop] at hB1
      rw [d, dop] at hQ
      simp (decide := true) only [r26_0, r26_1, r26_4, r26_5, r26_8, r26_9, r26_12, r26_15, r26_16, r26_17, r26_20, r26_21, r26_24, r26_25, r26_28, r26_29, r26_32, r26_33, r26_36, r26_37, r26_43, r26_44, r26_47, r26_48, r26_51, r26_52, r26_55, r26_56, r26_59, r26_60, r26_63, g1, g4, g5, i1, if_neg o, n, z2, z3, z4, sh0 hS, sh1 hS, sm_wp_some, sm_wp_none, sm_at, sm_get, sm_fld, sm_pfl, sm_cN, sm_ai, sm_al, sm_si, sm_slg, sm_aa, List.getElem?_cons_zero, List.getElem?_cons_succ, List.set_cons_zero, List.set_cons_succ, List.length_cons, List.length_nil, Option.toList_some, Option.toList_none, List.cons_append, List.nil_append, if_true, if_false, true_and, and_true, Option.some.injEq, gs_o, gs_s, List.length_set, hS.1, pk_us, Nat.reduceLT, Nat.reduceLeDiff, Nat.reduceSub, Nat.reduceEqDiff, Nat.reduceAdd, Int32.reduceLT, Int32.reduceLE, Int32.reduceAdd, Int32.reduceSub, Int32.reduceToNatClampNeg, reduceIte, reduceCtorEq, Nat.lt_irrefl]
      refine oi_C hS hT.2.1 hB.1.2.1 hp hf (fun w' s1 s2 s3 => ?_)
      have hT1 : BtC w' (s_in S (S 6 t) (S 5 t)) := hT.bk h4 s1 s2 s3 (fun r hr => ((s_up_r r hr).trans (s_up_r r hr)).trans (s_up_r r hr))
      have F1 := FrC.bk s3
      show sm_R X 26 66 [.ref 100, .ref (147 + 2 * t), .int (nI t), .int 0, sm_J, sm_J] [] w' Q
      by_cases e3 : S 3 (S 6 t) = 0
      · rw [if_pos e3] at hQ
        have n3 : nI (S 3 (S 6 t)) = 0 := by rw [e3]; rfl
        have gt' := hT1.2.2.2.1.2 t ht
        have g4' : wn w' (47 + 2 * t) 4 = nI (S 6 t) := (gt'.2.1 hk).2.1
        have P0' := hT1.2.2.1 (S 6 t) (by omega)
        rw [hb] at P0'
        have P1' : wn w' (33 + 3 * S 6 t) 2 = nI (S 3 (S 6 t)) := P0'.1
        have z4' := shTr s1 ht4
        have w3' := shPr s1 hp
        simp (decide := true) only [r26_66, r26_67, r26_70, r26_71, r26_74, r26_75, r26_77, r26_79, r26_82, r26_85, r26_87, g4', P1', n3, z2, z3, z4', z8, z9, z10, w1, w2, w3', sh0 s1, sh32 s1, sm_wp_some, sm_wp_none, sm_at, sm_get, sm_fld, sm_pfl, sm_cN, sm_ai, sm_al, sm_si, sm_slg, sm_aa, List.getElem?_cons_zero, List.getElem?_cons_succ, List.set_cons_zero, List.set_cons_succ, List.length_cons, List.length_nil, Option.toList_some, Option.toList_none, List.cons_append, List.nil_append, if_true, if_false, true_and, and_true, Option.some.injEq, gs_o, gs_s, List.length_set, pk_us, Nat.reduceLT, Nat.reduceLeDiff, Nat.reduceSub, Nat.reduceEqDiff, Nat.reduceAdd, Int32.reduceLT, Int32.reduceLE, Int32.reduceAdd, Int32.reduceSub, Int32.reduceToNatClampNeg, reduceIte, reduceCtorEq, Nat.lt_irrefl]
        have q := hT1.rg h5
        exact hQ w' ⟨F1, fun h => absurd h (by omega), fun _ => q⟩
      · rw [if_neg e3] at hQ
        have dcl : ∀ S', s_cl (s_in S (S 6 t) (S 5 t)) S' t = s_cl S S' t := fun _ => rfl
        refine call_C2 (S0 := S) (S := s_in S (S 6 t) (S 5 t)) hT1 hB1 ht hk e3 (fun w'' hA => ?_)
        simp only [dcl] at hA ⊢
        exact hQ w'' (AtC.tr F1 hA)
  · have n : nI (S 4 t) = 2 := by rw [k]; rfl
    by_cases o : S 0 (22 + S 6 t * 6 + S 5 t) = 1
    · have d : s_call S t = if S 3 (S 6 t) = 0 then (9, S) else if (s_run 100 (s_beg (s_op S t) t) t).1 ≠ 0 then s_run 100 (s_beg (s_op S t) t) t else (0, s_cl S (s_run 100 (s_beg (s_op S t) t) t).2 t) := if_neg (fun q => by omega)
      have dop : s_op S t = S := if_neg (by omega)
      rw [d, dop] at hQ
      simp (decide := true) only [r26_0, r26_1, r26_4, r26_5, r26_8, r26_9, r26_12, r26_15, r26_16, r26_17, r26_20, r26_21, r26_24, r26_25, r26_28, r26_29, r26_32, r26_33, r26_36, r26_37, r26_43, r26_44, r26_47, r26_48, g1, g4, g5, i1, if_pos o, n, z2, z3, z4, sh0 hS, sh1 hS, sm_wp_some, sm_wp_none, sm_at, sm_get, sm_fld, sm_pfl, sm_cN, sm_ai, sm_al, sm_si, sm_slg, sm_aa, List.getElem?_cons_zero, List.getElem?_cons_succ, List.set_cons_zero, List.set_cons_succ, List.length_cons, List.length_nil, Option.toList_some, Option.toList_none, List.cons_append, List.nil_append, if_true, if_false, true_and, and_true, Option.some.injEq, gs_o, gs_s, List.length_set, hS.1, pk_us, Nat.reduceLT, Nat.reduceLeDiff, Nat.reduceSub, Nat.reduceEqDiff, Nat.reduceAdd, Int32.reduceLT, Int32.reduceLE, Int32.reduceAdd, Int32.reduceSub, Int32.reduceToNatClampNeg, reduceIte, reduceCtorEq, Nat.lt_irrefl]
      by_cases e3 : S 3 (S 6 t) = 0
      · rw [if_pos e3] at hQ
        have n3 : nI (S 3 (S 6 t)) = 0 := by rw [e3]; rfl
        simp (decide := true) only [r26_66, r26_67, r26_70, r26_71, r26_74, r26_75, r26_77, r26_79, r26_82, r26_85, r26_87, g4, P1, n3, z2, z3, z4, z8, z9, z10, w1, w2, w3, sh0 hS, sh32 hS, sh55 hS, sm_wp_some, sm_wp_none, sm_at, sm_get, sm_fld, sm_pfl, sm_cN, sm_ai, sm_al, sm_si, sm_slg, sm_aa, List.getElem?_cons_zero, List.getElem?_cons_succ, List.set_cons_zero, List.set_cons_succ, List.length_cons, List.length_nil, Option.toList_some, Option.toList_none, List.cons_append, List.nil_append, if_true, if_false, true_and, and_true, Option.some.injEq, gs_o, gs_s, List.length_set, hS.1, pk_us, Nat.reduceLT, Nat.reduceLeDiff, Nat.reduceSub, Nat.reduceEqDiff, Nat.reduceAdd, Int32.reduceLT, Int32.reduceLE, Int32.reduceAdd, Int32.reduceSub, Int32.reduceToNatClampNeg, reduceIte, reduceCtorEq, Nat.lt_irrefl]
        exact hQ w ⟨FrC.rf w, fun h => absurd h (by omega), fun _ => hT.rg h5⟩
      · rw [if_neg e3] at hQ
        exact call_C2 (S0 := S) hT hB ht hk e3 hQ
    · have d : s_call S t = (8, S) := if_pos (Or.inr ⟨k, o⟩)
      rw [d] at hQ
      simp (decide := true) only [r26_0, r26_1, r26_4, r26_5, r26_8, r26_9, r26_12, r26_15, r26_16, r26_17, r26_20, r26_21, r26_24, r26_25, r26_28, r26_29, r26_32, r26_33, r26_36, r26_37, r26_40, r26_42, g1, g4, g5, i1, if_neg o, n, z2, z3, z4, sh0 hS, sh1 hS, sm_wp_some, sm_wp_none, sm_at, sm_get, sm_fld, sm_pfl, sm_cN, sm_ai, sm_al, sm_si, sm_slg, sm_aa, List.getElem?_cons_zero, List.getElem?_cons_succ, List.set_cons_zero, List.set_cons_succ, List.length_cons, List.length_nil, Option.toList_some, Option.toList_none, List.cons_append, List.nil_append, if_true, if_false, true_and, and_true, Option.some.injEq, gs_o, gs_s, List.length_set, hS.1, pk_us, Nat.reduceLT, Nat.reduceLeDiff, Nat.reduceSub, Nat.reduceEqDiff, Nat.reduceAdd, Int32.reduceLT, Int32.reduceLE, Int32.reduceAdd, Int32.reduceSub, Int32.reduceToNatClampNeg, reduceIte, reduceCtorEq, Nat.lt_irrefl]
      exact hQ w ⟨FrC.rf w, fun h => absurd h (by omega), fun _ => hT.rg h5⟩
/-! carryOut (gen/n16.py) -/
theorem tx_e {X : sm_X} {w : sm_W} {Q : Option Value → sm_W → Prop} {S : sm_S} {T t : Nat} {x3 : Int32} {S' : sm_S} (hT : BtC w S') (hB : TxB T S') (hs : s_sm T S S') (ht : t < S 10 1) (bG : BdG S) (hQ : Q (some (.int (if s_low S t S' = true then 10 else 0))) w) : sm_R X 24 73 [.ref 100, .int (nI t), .ref (147 + 2 * t), .int x3, sm_J] [] w Q := by
  have h4 : S 10 1 ≤ 4 := bG.1
  have bt := bG.2 t ht
  have hf : S 5 t < 6 := bt.2.1
  have hS := hT.1
  have ht4 : t < 4 := by omega
  have z2 : ¬ (147 + 2 * t < 100) := by omega
  have z3 : 147 + 2 * t - 100 = 47 + 2 * t := by omega
  have z4 := shTr hS ht4
  have r101 : S' 10 1 = S 10 1 := hs.2.1 1 (by decide) (by decide)
  have gt := hT.2.2.2.1.2 t (by rw [r101]; exact ht)
  rw [hs.1.2.2.1, hs.1.2.2.2.1, hs.1.2.2.2.2.1, hs.1.2.2.2.2.2.1] at gt
  have g1 : wn w (47 + 2 * t) 1 = nI (S 5 t) := gt.2.2
  have b1 := fun Q => bl_C (X := X) (Q := Q) hS hT.2.1 hB.1 hf
  by_cases e : S' 0 (S 5 t) < s_least S' (S 5 t)
  · have l : s_low S t S' = true := decide_eq_true (Or.inl e)
    rw [if_pos l] at hQ
    simp (decide := true) only [r24_73, r24_74, r24_77, r24_78, r24_81, r24_84, r24_108, r24_109, r24_112, r24_113, r24_115, r24_117, r24_120, r24_122, r24_125, r24_126, g1, b1, if_pos e, z2, z3, z4, sh0 hS, sh1 hS, sm_wp_some, sm_wp_none, sm_at, sm_get, sm_fld, sm_pfl, sm_cN, sm_ai, sm_al, sm_si, sm_slg, sm_aa, List.getElem?_cons_zero, List.getElem?_cons_succ, List.set_cons_zero, List.set_cons_succ, List.length_cons, List.length_nil, Option.toList_some, Option.toList_none, List.cons_append, List.nil_append, if_true, if_false, true_and, and_true, Option.some.injEq, gs_o, gs_s, List.length_set, hS.1, pk_us, Nat.reduceLT, Nat.reduceLeDiff, Nat.reduceSub, Nat.reduceEqDiff, Nat.reduceAdd, Int32.reduceLT, Int32.reduceLE, Int32.reduceAdd, Int32.reduceSub, Int32.reduceToNatClampNeg, reduceIte, reduceCtorEq, Nat.lt_irrefl]
    exact hQ
  · by_cases k : S 4 t = 3
    · have g0 : wn w (47 + 2 * t) 0 = 1 := (gt.1 k).1
      have g2 : wn w (47 + 2 * t) 2 = nI (S 6 t) := (gt.1 k).2.1
      have ho : S 6 t < 6 := (bt.2.2.1 k).1
      have b2 := fun Q => bl_C (X := X) (Q := Q) hS hT.2.1 hB.1 ho
      by_cases e2 : S' 0 (S 6 t) < s_least S' (S 6 t)
      · have l : s_low S t S' = true := decide_eq_true (Or.inr ⟨k, e2⟩)
        rw [if_pos l] at hQ
        simp (decide := true) only [r24_73, r24_74, r24_77, r24_78, r24_81, r24_84, r24_87, r24_88, r24_91, r24_94, r24_95, r24_98, r24_99, r24_102, r24_105, r24_108, r24_109, r24_112, r24_113, r24_115, r24_117, r24_120, r24_122, r24_125, r24_126, g0, g1, g2, b1, b2, if_neg e, if_pos e2, z2, z3, z4, sh0 hS, sh1 hS, sm_wp_some, sm_wp_none, sm_at, sm_get, sm_fld, sm_pfl, sm_cN, sm_ai, sm_al, sm_si, sm_slg, sm_aa, List.getElem?_cons_zero, List.getElem?_cons_succ, List.set_cons_zero, List.set_cons_succ, List.length_cons, List.length_nil, Option.toList_some, Option.toList_none, List.cons_append, List.nil_append, if_true, if_false, true_and, and_true, Option.some.injEq, gs_o, gs_s, List.length_set, hS.1, pk_us, Nat.reduceLT, Nat.reduceLeDiff, Nat.reduceSub, Nat.reduceEqDiff, Nat.reduceAdd, Int32.reduceLT, Int32.reduceLE, Int32.reduceAdd, Int32.reduceSub, Int32.reduceToNatClampNeg, reduceIte, reduceCtorEq, Nat.lt_irrefl]
        exact hQ
      · have l : ¬ s_low S t S' = true := fun h => by
          rcases of_decide_eq_true h with q | q
          · exact e q
          · exact e2 q.2
        rw [if_neg l] at hQ
        simp (decide := true) only [r24_73, r24_74, r24_77, r24_78, r24_81, r24_84, r24_87, r24_88, r24_91, r24_94, r24_95, r24_98, r24_99, r24_102, r24_105, r24_108, r24_109, r24_112, r24_113, r24_115, r24_117, r24_120, r24_122, r24_125, r24_126, g0, g1, g2, b1, b2, if_neg e, if_neg e2, z2, z3, z4, sh0 hS, sh1 hS, sm_wp_some, sm_wp_none, sm_at, sm_get, sm_fld, sm_pfl, sm_cN, sm_ai, sm_al, sm_si, sm_slg, sm_aa, List.getElem?_cons_zero, List.getElem?_cons_succ, List.set_cons_zero, List.set_cons_succ, List.length_cons, List.length_nil, Option.toList_some, Option.toList_none, List.cons_append, List.nil_append, if_true, if_false, true_and, and_true, Option.some.injEq, gs_o, gs_s, List.length_set, hS.1, pk_us, Nat.reduceLT, Nat.reduceLeDiff, Nat.reduceSub, Nat.reduceEqDiff, Nat.reduceAdd, Int32.reduceLT, Int32.reduceLE, Int32.reduceAdd, Int32.reduceSub, Int32.reduceToNatClampNeg, reduceIte, reduceCtorEq, Nat.lt_irrefl]
        exact hQ
    · have g0 : wn w (47 + 2 * t) 0 = 0 := (gt.2.1 k).1
      have l : ¬ s_low S t S' = true := fun h => by
        rcases of_decide_eq_true h with q | q
        · exact e q
        · exact k q.1
      rw [if_neg l] at hQ
      simp (decide := true) only [r24_73, r24_74, r24_77, r24_78, r24_81, r24_84, r24_87, r24_88, r24_91, r24_94, r24_95, r24_98, r24_99, r24_102, r24_105, r24_108, r24_109, r24_112, r24_113, r24_115, r24_117, r24_120, r24_122, r24_125, r24_126, g0, g1, b1, if_neg e, z2, z3, z4, sh0 hS, sh1 hS, sm_wp_some, sm_wp_none, sm_at, sm_get, sm_fld, sm_pfl, sm_cN, sm_ai, sm_al, sm_si, sm_slg, sm_aa, List.getElem?_cons_zero, List.getElem?_cons_succ, List.set_cons_zero, List.set_cons_succ, List.length_cons, List.length_nil, Option.toList_some, Option.toList_none, List.cons_append, List.nil_append, if_true, if_false, true_and, and_true, Option.some.injEq, gs_o, gs_s, List.length_set, hS.1, pk_us, Nat.reduceLT, Nat.reduceLeDiff, Nat.reduceSub, Nat.reduceEqDiff, Nat.reduceAdd, Int32.reduceLT, Int32.reduceLE, Int32.reduceAdd, Int32.reduceSub, Int32.reduceToNatClampNeg, reduceIte, reduceCtorEq, Nat.lt_irrefl]
      exact hQ
theorem tx_C {X : sm_X} {w : sm_W} {Q : Option Value → sm_W → Prop} {S : sm_S} {T t : Nat} (hT : BtC w S) (hB : TxB T S) (ht : t < S 10 1) (hQ : ∀ w', AtC w w' (s_tx S t) → Q (some (.int (nI (s_tx S t).1))) w') : sm_R X 24 0 [.ref 100, .int (nI t), sm_J, sm_J, sm_J] [] w Q := by
  have h4 : S 10 1 ≤ 4 := hB.2.2.1.1
  have h5 := hB.2.2.2.2.2.2.2.2.2.2
  have bt := hB.2.2.1.2 t ht
  have hf : S 5 t < 6 := bt.2.1
  have hS := hT.1
  have ht4 : t < 4 := by omega
  have z2 : ¬ (147 + 2 * t < 100) := by omega
  have z3 : 147 + 2 * t - 100 = 47 + 2 * t := by omega
  have z4 := shTr hS ht4
  have gt := hT.2.2.2.1.2 t ht
  have g1 : wn w (47 + 2 * t) 1 = nI (S 5 t) := gt.2.2
  have v1 : sm_in (nI t) 4 = true := sm_in_nI ht4 (by decide)
  have v2 : (nI t).toNatClampNeg = t := nI_clamp (by omega)
  have v3 := zr46_p ht4
  have y1 : sm_in (nI (S 5 t)) 6 = true := sm_in_nI hf (by decide)
  have y2 : (nI (S 5 t)).toNatClampNeg = S 5 t := nI_clamp (by omega)
  have y3 : wi w 2 (S 5 t) = nI (S 0 (S 5 t)) := hT.2.1.1 _ hf
  have b5 := hB.1.1 (S 5 t) (by omega)
  by_cases e : S 0 (S 5 t) < 1
  · have d : s_tx S t = (6, S) := if_pos e
    rw [d] at hQ
    have x1 : ¬ 1 ≤ nI (S 0 (S 5 t)) := nI_ge (b := 1) e (by decide)
    simp (decide := true) only [r24_0, r24_1, r24_4, r24_7, r24_8, r24_9, r24_10, r24_11, r24_14, r24_17, r24_18, r24_21, r24_22, r24_23, r24_26, r24_28, g1, v1, v2, v3, y1, y2, y3, x1, z2, z3, z4, sh0 hS, sh1 hS, sh2 hS, sh45 hS, sh46 hS, sm_wp_some, sm_wp_none, sm_at, sm_get, sm_fld, sm_pfl, sm_cN, sm_ai, sm_al, sm_si, sm_slg, sm_aa, List.getElem?_cons_zero, List.getElem?_cons_succ, List.set_cons_zero, List.set_cons_succ, List.length_cons, List.length_nil, Option.toList_some, Option.toList_none, List.cons_append, List.nil_append, if_true, if_false, true_and, and_true, Option.some.injEq, gs_o, gs_s, List.length_set, hS.1, pk_us, Nat.reduceLT, Nat.reduceLeDiff, Nat.reduceSub, Nat.reduceEqDiff, Nat.reduceAdd, Int32.reduceLT, Int32.reduceLE, Int32.reduceAdd, Int32.reduceSub, Int32.reduceToNatClampNeg, reduceIte, reduceCtorEq, Nat.lt_irrefl]
    exact hQ w ⟨FrC.rf w, fun h => absurd h (by omega), fun _ => hT.rg h5⟩
  · have x1 : 1 ≤ nI (S 0 (S 5 t)) := nI_le (a := 1) (by omega) b5
    have x2 : nI (S 0 (S 5 t)) - 1 = nI (S 0 (S 5 t) - 1) := pk_sub (b := 1) (by omega)
    simp (decide := true) only [r24_0, r24_1, r24_4, r24_7, r24_8, r24_9, r24_10, r24_11, r24_14, r24_17, r24_18, r24_21, r24_22, r24_23, r24_29, r24_30, r24_33, r24_36, r24_37, r24_40, r24_41, r24_42, r24_43, r24_44, g1, v1, v2, v3, y1, y2, y3, x1, x2, z2, z3, z4, sh0 hS, sh1 hS, sh2 hS, sh45 hS, sh46 hS, sm_wp_some, sm_wp_none, sm_at, sm_get, sm_fld, sm_pfl, sm_cN, sm_ai, sm_al, sm_si, sm_slg, sm_aa, List.getElem?_cons_zero, List.getElem?_cons_succ, List.set_cons_zero, List.set_cons_succ, List.length_cons, List.length_nil, Option.toList_some, Option.toList_none, List.cons_append, List.nil_append, if_true, if_false, true_and, and_true, Option.some.injEq, gs_o, gs_s, List.length_set, hS.1, pk_us, Nat.reduceLT, Nat.reduceLeDiff, Nat.reduceSub, Nat.reduceEqDiff, Nat.reduceAdd, Int32.reduceLT, Int32.reduceLE, Int32.reduceAdd, Int32.reduceSub, Int32.reduceToNatClampNeg, reduceIte, reduceCtorEq, Nat.lt_irrefl]
    have m1 : BtC _ (s_fee S t) := hT.bal (j := S 5 t) (v := S 0 (S 5 t) - 1) h4 hf
    have f1 : FrC w (w.set 2 (.inl (0, 6, .inl (upd (wi w 2) (S 5 t) (nI (S 0 (S 5 t) - 1)))))) := FrC.set (by decide) (by decide) (by decide)
    have hB1 := hB.fee ht
    have d : s_tx S t = if (s_body S t).1 ≠ 0 then s_body S t else if s_low S t (s_body S t).2 = true then (10, (s_body S t).2) else (0, (s_body S t).2) := if_neg e
    rw [d] at hQ
    obtain ⟨c1, c2, c3, c4⟩ := s_body_B hB ht
    generalize w.set 2 (.inl (0, 6, .inl (upd (wi w 2) (S 5 t) (nI (S 0 (S 5 t) - 1))))) = w1 at m1 f1
    have hS1 := m1.1
    have z41 := shTr hS1 ht4
    have gt1 := m1.2.2.2.1.2 t ht
    have fin : ∀ w', AtC w1 w' (s_body S t) → sm_R X 24 66 [.ref 100, .int (nI t), .ref (147 + 2 * t), sm_J, sm_J] [.int (nI (s_body S t).1)] w' Q := by
      intro w' hA
      obtain ⟨a1, a2, a3⟩ := hA
      by_cases f : (s_body S t).1 = 0
      · rw [if_neg (fun h => h f)] at hQ
        have n0 : nI (s_body S t).1 = 0 := by rw [f]; rfl
        simp (decide := true) only [r24_66, r24_67, r24_68, n0, if_true]
        refine tx_e (a2 f) (c4 f) c1 ht hB.2.2.1 ?_
        by_cases l : s_low S t (s_body S t).2 = true
        · rw [if_pos l] at hQ ⊢
          exact hQ w' ⟨f1.tr a1, fun h => absurd h (by omega), fun _ => (a2 f).rg (c4 f).2.2.2.2.2.2.2.2.2.2⟩
        · rw [if_neg l] at hQ ⊢
          exact hQ w' ⟨f1.tr a1, fun _ => a2 f, fun h => absurd rfl h⟩
      · rw [if_pos f] at hQ
        have n0 : ¬ nI (s_body S t).1 = 0 := fun h => f ((nI_z (by omega)).mp h)
        simp (decide := true) only [r24_66, r24_67, r24_68, r24_71, r24_72, n0, if_false]
        exact hQ w' ⟨f1.tr a1, fun h => absurd h f, fun _ => a3 f⟩
    by_cases k : S 4 t = 3
    · have g0 : wn w1 (47 + 2 * t) 0 = 1 := (gt1.1 k).1
      have db : s_body S t = s_pay (s_fee S t) t := if_pos k
      simp (decide := true) only [r24_45, r24_46, r24_49, r24_52, r24_53, r24_54, g0, z2, z3, z41, sh0 hS1, sm_wp_some, sm_wp_none, sm_at, sm_get, sm_fld, sm_pfl, sm_cN, sm_ai, sm_al, sm_si, sm_slg, sm_aa, List.getElem?_cons_zero, List.getElem?_cons_succ, List.set_cons_zero, List.set_cons_succ, List.length_cons, List.length_nil, Option.toList_some, Option.toList_none, List.cons_append, List.nil_append, if_true, if_false, true_and, and_true, Option.some.injEq, gs_o, gs_s, List.length_set, pk_us, Nat.reduceLT, Nat.reduceLeDiff, Nat.reduceSub, Nat.reduceEqDiff, Nat.reduceAdd, Int32.reduceLT, Int32.reduceLE, Int32.reduceAdd, Int32.reduceSub, Int32.reduceToNatClampNeg, reduceIte, reduceCtorEq, Nat.lt_irrefl]
      refine pay_C m1 hB1 ht k (fun w' hA => ?_)
      rw [← db] at hA ⊢
      simp (decide := true) only [r24_57, Option.toList_some, List.cons_append, List.nil_append]
      exact fin w' hA
    · have g0 : wn w1 (47 + 2 * t) 0 = 0 := (gt1.2.1 k).1
      have db : s_body S t = s_call (s_fee S t) t := if_neg k
      simp (decide := true) only [r24_45, r24_46, r24_49, r24_60, r24_61, r24_62, r24_63, g0, z2, z3, z41, sh0 hS1, sm_wp_some, sm_wp_none, sm_at, sm_get, sm_fld, sm_pfl, sm_cN, sm_ai, sm_al, sm_si, sm_slg, sm_aa, List.getElem?_cons_zero, List.getElem?_cons_succ, List.set_cons_zero, List.set_cons_succ, List.length_cons, List.length_nil, Option.toList_some, Option.toList_none, List.cons_append, List.nil_append, if_true, if_false, true_and, and_true, Option.some.injEq, gs_o, gs_s, List.length_set, pk_us, Nat.reduceLT, Nat.reduceLeDiff, Nat.reduceSub, Nat.reduceEqDiff, Nat.reduceAdd, Int32.reduceLT, Int32.reduceLE, Int32.reduceAdd, Int32.reduceSub, Int32.reduceToNatClampNeg, reduceIte, reduceCtorEq, Nat.lt_irrefl]
      refine call_C m1 hB1 ht k (fun w' hA => ?_)
      rw [← db] at hA ⊢
      exact fin w' hA
