/-! THE CLASS IN A RUN: its picture, and what a step leaves -/
def StC (w : sm_W) (S : sm_S) : Prop := wn w 56 2 = nI (S 14 0) ∧ ∀ i, i < S 14 0 → wi w 57 i = nI (S 13 i) ∧ wi w 58 i = nI (S 12 i)
def McC (w : sm_W) (S : sm_S) (t : Nat) : Prop := wn w 55 3 = nI (S 14 3 - S 14 4) ∧ wn w 55 4 = nI (S 14 4) ∧ wn w 55 5 = nI (S 14 5) ∧ wn w 55 6 = -3 ∧ wr w 55 7 = 147 + 2 * t ∧ wn w 55 8 = nI t ∧ wn w 55 10 = nI (S 14 2)
def RnC (w : sm_W) (S : sm_S) (t q : Nat) : Prop := Sh w ∧ BkC 1 w S ∧ PrC w S ∧ GrC w S ∧ ScC w S ∧ StC w S ∧ McC w S t ∧ wn w 55 9 = nI q
def RfC (w : sm_W) (S : sm_S) : Prop := Sh w ∧ PrC w S ∧ GrC w S ∧ ScC w S ∧ wn w 55 4 = nI (S 14 4) ∧ wn w 55 5 = nI (S 14 5) ∧ wn w 55 6 = -3
def FrC (w w' : sm_W) : Prop := ∀ k, k = 0 ∨ (15 ≤ k ∧ k ≤ 28) ∨ 59 ≤ k → w'[k]? = w[k]?
def AfC (w w' : sm_W) (t : Nat) (r : Nat × sm_S) : Prop := FrC w w' ∧ (r.1 = 0 → RnC w' r.2 t (r.2 14 1)) ∧ RfC w' r.2
theorem RnC.rf {w : sm_W} {S : sm_S} {t q : Nat} (h : RnC w S t q) : RfC w S := by
  obtain ⟨h1, h2, h3, h4, h5, h6, h7, h8⟩ := h
  exact ⟨h1, h3, h4, h5, h7.2.1, h7.2.2.1, h7.2.2.2.1⟩
theorem FrC.set {w : sm_W} {k : Nat} {c : sm_C} (h : k ≠ 0) (h2 : k < 15 ∨ 28 < k) (h3 : k < 59) : FrC w (w.set k c) := fun j hj => gs_o (by omega)
theorem FrC.tr {w w' w'' : sm_W} (h : FrC w w') (h2 : FrC w' w'') : FrC w w'' := fun j hj => (h2 j hj).trans (h j hj)
theorem FrC.rf (w : sm_W) : FrC w w := fun _ _ => rfl
theorem AfC.tr {w w' w'' : sm_W} {t : Nat} {r : Nat × sm_S} (h : FrC w w') (h2 : AfC w' w'' t r) : AfC w w'' t r := ⟨h.tr h2.1, h2.2⟩
/-- what an account or a number on the stack is -/
def s_ent (s v : Nat) : Prop := (s = 1 ∧ v < 2 ^ 31) ∨ (s = 2 ∧ v < 6)
def RnB (T : Nat) (S : sm_S) (t : Nat) : Prop := BdB S ∧ BdP S ∧ BdG S ∧ (∀ i, i < 16 → S 9 i < 2 ^ 31) ∧ (t < S 10 1 ∧ S 4 t ≠ 3) ∧ (S 14 0 ≤ 8 ∧ ∀ i, i < S 14 0 → s_ent (S 13 i) (S 12 i)) ∧ S 14 1 ≤ 32 ∧ S 14 3 ≤ 80 ∧ S 14 4 ≤ S 14 3 ∧ S 14 5 ≤ S 14 4 ∧ S 14 2 ≤ 1 ∧ T ≤ S 10 0 ∧ S 10 0 ≤ T + S 14 4 ∧ T ≤ 300000
theorem StC.o {w : sm_W} {S : sm_S} {k : Nat} {c : sm_C} (h : StC w S) (hk : k < 56 ∨ 58 < k) : StC (w.set k c) S := by
  refine ⟨?_, fun i hi => ⟨?_, ?_⟩⟩
  · rw [wn_o (by omega)]; exact h.1
  · rw [wi_o (by omega)]; exact (h.2 i hi).1
  · rw [wi_o (by omega)]; exact (h.2 i hi).2
theorem McC.o {w : sm_W} {S : sm_S} {t k : Nat} {c : sm_C} (h : McC w S t) (hk : k ≠ 55) : McC (w.set k c) S t := by
  unfold McC
  simp only [wn_o hk, wr_o hk]
  exact h
theorem RnC.take {w : sm_W} {S : sm_S} {t q m : Nat} (h : RnC w S t q) (h4 : S 10 1 ≤ 4) (hm : m ≤ S 14 0) : RnC (w.set 56 (.inr (4, [.ref 157, .ref 158, .int (nI m)]))) (s_up S 14 0 m) t q := by
  obtain ⟨h1, h2, h3, hg, h5, h6, h7, h8⟩ := h
  refine ⟨h1.p56, h2.o (by omega), h3.o (by omega), hg.o h4 (by omega), h5.o (by omega), ⟨wn56_2 h1.1, fun i hi => ?_⟩, h7.o (by decide), ?_⟩
  · rw [wi_o (by decide), wi_o (by decide)]
    exact h6.2 i (Nat.lt_of_lt_of_le hi hm)
  · rw [wn_o (by decide)]
    exact h8
theorem RnC.put {w : sm_W} {S : sm_S} {t q s v : Nat} (h : RnC w S t q) (h4 : S 10 1 ≤ 4) : RnC (((w.set 57 (.inl (0, 8, .inl (upd (wi w 57) (S 14 0) (nI s))))).set 58 (.inl (0, 8, .inl (upd (wi w 58) (S 14 0) (nI v))))).set 56 (.inr (4, [.ref 157, .ref 158, .int (nI (S 14 0 + 1))]))) (s_psh S 0 s v) t q := by
  obtain ⟨h1, h2, h3, hg, h5, h6, h7, h8⟩ := h
  refine ⟨h1.p57.p58.p56, ((h2.o (by omega)).o (by omega)).o (by omega), ((h3.o (by omega)).o (by omega)).o (by omega), ((hg.o h4 (by omega)).o h4 (by omega)).o h4 (by omega), ((h5.o (by omega)).o (by omega)).o (by omega), ⟨wn56_2 h1.p57.p58.1, fun i hi => ?_⟩, ((h7.o (by decide)).o (by decide)).o (by decide), ?_⟩
  · have hi : i < S 14 0 + 1 := hi
    rw [wi_o (by decide), wi_o (by decide), wi57_s h1.1, wi_o (by decide), wi58_s h1.p57.1]
    have e1 : s_psh S 0 s v 13 i = if i = S 14 0 then s else S 13 i := rfl
    have e2 : s_psh S 0 s v 12 i = if i = S 14 0 then v else S 12 i := rfl
    rw [e1, e2]
    by_cases e : i = S 14 0
    · subst e
      rw [if_pos rfl, if_pos rfl, pk_us, pk_us]
      exact ⟨rfl, rfl⟩
    · rw [if_neg e, if_neg e, pk_un e, pk_un e]
      exact h6.2 i (by omega)
  · rw [wn_o (by decide), wn_o (by decide), wn_o (by decide)]
    exact h8
theorem s_up_if (S : sm_S) (k i v k' i' : Nat) : s_up S k i v k' i' = if k' = k then (if i' = i then v else S k i') else S k' i' := by
  unfold s_up
  split <;> rfl
theorem s_psh_k {S : sm_S} {k s v : Nat} : s_psh (s_up S 14 0 (S 14 0 - k)) 0 s v = s_psh S k s v := by
  funext k' i'
  unfold s_psh
  simp only [s_up_if, if_true, Nat.sub_zero, Nat.reduceEqDiff, if_false]
  repeat' split
  all_goals first | rfl | omega
theorem put_ok {X : sm_X} {w : sm_W} {Q : Option Value → sm_W → Prop} {S : sm_S} {t s v : Nat} (hR : RnC w S t (S 14 1 + 1)) (h4 : S 10 1 ≤ 4) (h8 : S 14 0 ≤ 8) (hQ : ∀ w', AfC w w' t (s_put S s v) → Q (some (.int (nI (s_put S s v).1))) w') : sm_R X 36 0 [.ref 156, .int (nI s), .int (nI v)] [] w Q := by
  by_cases e : 8 ≤ S 14 0
  · have e8 : S 14 0 = 8 := by omega
    rw [put_F hR.1 (by rw [hR.2.2.2.2.2.1.1, e8])]
    have e2 : s_put S s v = (1, S) := if_pos e
    rw [e2] at hQ
    exact hQ w ⟨FrC.rf w, fun h => absurd h Nat.one_ne_zero, hR.rf⟩
  · rw [put_C hR.1 (by omega) hR.2.2.2.2.2.1.1]
    have e2 : s_put S s v = (0, s_psh S 0 s v) := if_neg e
    rw [e2] at hQ
    have h := hR.put (s := s) (v := v) h4
    exact hQ _ ⟨((FrC.set (by decide) (by decide) (by decide)).tr (FrC.set (by decide) (by decide) (by decide))).tr (FrC.set (by decide) (by decide) (by decide)), fun _ => h, h.rf⟩
/-- after k were taken -/
theorem put_k {X : sm_X} {w : sm_W} {Q : Option Value → sm_W → Prop} {S : sm_S} {t k s v : Nat} (hR : RnC w (s_up S 14 0 (S 14 0 - k)) t (S 14 1 + 1)) (h4 : S 10 1 ≤ 4) (h8 : S 14 0 ≤ 8) (hk : 1 ≤ k) (hk2 : k ≤ S 14 0) (hQ : ∀ w', AfC w w' t (0, s_psh S k s v) → Q (some (.int 0)) w') : sm_R X 36 0 [.ref 156, .int (nI s), .int (nI v)] [] w Q := by
  have e1 : s_up S 14 0 (S 14 0 - k) 14 0 = S 14 0 - k := rfl
  refine put_ok hR h4 (by rw [e1]; omega) ?_
  have e2 : s_put (s_up S 14 0 (S 14 0 - k)) s v = (0, s_psh S k s v) := by
    unfold s_put
    rw [e1, if_neg (by omega), s_psh_k]
  rw [e2]
  exact hQ
theorem RnC.m55 {w : sm_W} {S : sm_S} {t q : Nat} {x3 x4 x5 x6 x8 x9 x10 : Int32} {x7 : Nat} (hS : Sh w) (hB : BkC 1 w S) (hP : PrC w S) (hG : GrC w S) (hC : ScC w S) (hK : StC w S) (h4 : S 10 1 ≤ 4) (e3 : x3 = nI (S 14 3 - S 14 4)) (e4 : x4 = nI (S 14 4)) (e5 : x5 = nI (S 14 5)) (e6 : x6 = -3) (e7 : x7 = 147 + 2 * t) (e8 : x8 = nI t) (e10 : x10 = nI (S 14 2)) (e9 : x9 = nI q) : RnC (w.set 55 (.inr (2, [.ref 101, .ref 145, .ref 156, .int x3, .int x4, .int x5, .int x6, .ref x7, .int x8, .int x9, .int x10]))) S t q := by
  subst e3 e4 e5 e6 e7 e8 e9 e10
  exact ⟨hS.p55, hB.o (by omega), hP.o (by omega), hG.o h4 (by omega), hC.o (by omega), hK.o (by omega), ⟨wn55_3 hS.1, wn55_4 hS.1, wn55_5 hS.1, wn55_6 hS.1, wr55_7 hS.1, wn55_8 hS.1, wn55_10 hS.1⟩, wn55_9 hS.1⟩
/-! ACTS of the class that take nothing (gen/acts.py, gen/n2.py) -/
theorem g97 {X : sm_X} {w : sm_W} : sm_get X w 97 = some (.inl (0, 31, .inl sm_swm)) := rfl
theorem ac_0 {X : sm_X} {w : sm_W} {Q : Option Value → sm_W → Prop} {S : sm_S} {T t a : Nat} (hR : RnC w S t (S 14 1 + 1)) (hB : RnB T S t) (hf : a < 2 ^ 31) (hQ : ∀ w', AfC w w' t (s_act S t 0 a) → Q (some (.int (nI (s_act S t 0 a).1))) w') : sm_R X 34 0 [.ref 155, .ref 0, .int (nI a)] [] w Q := by
  have hR' := hR
  have hB' := hB
  obtain ⟨hS, hBk, hPr, hGr, hSc, hSt, hMc, hq⟩ := hR'
  obtain ⟨bB, bP, bG, bS, ⟨ht, hk⟩, ⟨h8, hE⟩, hq32, h80, hcs, hst, hen, hT1, hT2, hT3⟩ := hB'
  have h4 : S 10 1 ≤ 4 := bG.1
  have ht4 : t < 4 := by omega
  have gt := hGr.2 t ht
  have bt := bG.2 t ht
  have hp : S 6 t < 4 := bt.2.2.2.1 hk
  have g4 : wn w (47 + 2 * t) 4 = nI (S 6 t) := (gt.2.1 hk).2.1
  have g6 : wn w (47 + 2 * t) 6 = nI (S 7 t) := (gt.2.1 hk).2.2.2.1
  have g7 : wn w (47 + 2 * t) 7 = nI (S 8 t) := (gt.2.1 hk).2.2.2.2
  have g1 : wn w (47 + 2 * t) 1 = nI (S 5 t) := gt.2.2
  have z1 : wr w 55 7 = 147 + 2 * t := hMc.2.2.2.2.1
  have z2 : ¬ (147 + 2 * t < 100) := by omega
  have z3 : 147 + 2 * t - 100 = 47 + 2 * t := by omega
  have z4 := shTr hS ht4
  have z5 : ¬ (148 + 2 * t < 100) := by omega
  have z6 : 148 + 2 * t - 100 = 48 + 2 * t := by omega
  have z7 := shSc hS ht4
  have z8 : sm_in (nI (S 6 t)) 4 = true := sm_in_nI hp (by decide)
  have z9 : (nI (S 6 t)).toNatClampNeg = S 6 t := nI_clamp (by omega)
  have z10 := zr3_p hp
  have z11 : ¬ (104 + S 6 t < 100) := by omega
  have z12 : 104 + S 6 t - 100 = 4 + S 6 t := by omega
  have z13 := shGl hS hp
  have z14 := zr8_p hp
  have z15 : ¬ (109 + S 6 t < 100) := by omega
  have z16 : 109 + S 6 t - 100 = 9 + S 6 t := by omega
  have z17 := shLo hS hp
  have z18 : wn w 55 8 = nI t := hMc.2.2.2.2.2.1
  have z19 : wn w 45 1 = nI (S 10 1) := hGr.1
  have gl : ∀ a, a < 4 → wi w (4 + S 6 t) a = nI (S 0 (6 + S 6 t * 4 + a)) := fun a ha => by
    have := hBk.2.1 (S 6 t) hp a ha
    rw [show 1 + 3 + S 6 t = 4 + S 6 t by omega] at this
    exact this
  have lo : ∀ i, i < 12 → wi w (9 + S 6 t) i = nI (S 0 (46 + S 6 t * 12 + i)) := fun i hi => by
    have := hBk.2.2.2.1 (S 6 t) hp i hi
    rw [show 1 + 8 + S 6 t = 9 + S 6 t by omega] at this
    exact this
  have e1 : sm_enF 9 0 0 = some 0 := rfl
  have e2 : sm_ai 0 (some (.inl (0, 31, .inl sm_swm))) = some 1 := rfl
  have e3 : sm_sw (Int32.toInt 1) 1 [56, 66, 76, 106, 122, 138, 151, 177] 195 = 56 := by decide
  simp (decide := true) only [r34_0, r34_3, r34_4, r34_7, r34_8, r35_0, r35_1, r35_4, g97, e1, e2, e3, sm_wp_some, Option.toList_some, List.cons_append, List.nil_append]
  simp (decide := true) only [r34_56, r34_57, r34_60, r34_61, r34_62, r34_65, g4, g6, g7, g1, z1, z2, z3, z4, z5, z6, z7, z8, z9, z10, z11, z12, z13, z14, z15, z16, z17, z18, z19, hq, sh1 hS, sh3 hS, sh45 hS, sh55 hS, sh56 hS, sm_wp_some, sm_wp_none, sm_at, sm_get, sm_fld, sm_pfl, sm_cN, sm_ai, sm_al, sm_si, sm_slg, sm_aa, List.getElem?_cons_zero, List.getElem?_cons_succ, List.set_cons_zero, List.set_cons_succ, List.length_cons, List.length_nil, Option.toList_some, Option.toList_none, List.cons_append, List.nil_append, if_true, if_false, true_and, and_true, Option.some.injEq, gs_o, gs_s, List.length_set, hS.1, pk_us, Nat.reduceLT, Nat.reduceLeDiff, Nat.reduceSub, Nat.reduceEqDiff, Nat.reduceAdd, Int32.reduceLT, Int32.reduceLE, Int32.reduceAdd, Int32.reduceSub, Int32.reduceToNatClampNeg, reduceIte, reduceCtorEq, Nat.lt_irrefl]
  exact put_ok hR h4 h8 (fun w' h => by
    simp (decide := true) only [r34_56, r34_57, r34_60, r34_61, r34_62, r34_65, Option.toList_some, List.cons_append, List.nil_append]
    exact hQ w' h)
theorem ac_1 {X : sm_X} {w : sm_W} {Q : Option Value → sm_W → Prop} {S : sm_S} {T t a : Nat} (hR : RnC w S t (S 14 1 + 1)) (hB : RnB T S t) (hf : a < 6) (hQ : ∀ w', AfC w w' t (s_act S t 1 a) → Q (some (.int (nI (s_act S t 1 a).1))) w') : sm_R X 34 0 [.ref 155, .ref 1, .int (nI a)] [] w Q := by
  have hR' := hR
  have hB' := hB
  obtain ⟨hS, hBk, hPr, hGr, hSc, hSt, hMc, hq⟩ := hR'
  obtain ⟨bB, bP, bG, bS, ⟨ht, hk⟩, ⟨h8, hE⟩, hq32, h80, hcs, hst, hen, hT1, hT2, hT3⟩ := hB'
  have h4 : S 10 1 ≤ 4 := bG.1
  have ht4 : t < 4 := by omega
  have gt := hGr.2 t ht
  have bt := bG.2 t ht
  have hp : S 6 t < 4 := bt.2.2.2.1 hk
  have g4 : wn w (47 + 2 * t) 4 = nI (S 6 t) := (gt.2.1 hk).2.1
  have g6 : wn w (47 + 2 * t) 6 = nI (S 7 t) := (gt.2.1 hk).2.2.2.1
  have g7 : wn w (47 + 2 * t) 7 = nI (S 8 t) := (gt.2.1 hk).2.2.2.2
  have g1 : wn w (47 + 2 * t) 1 = nI (S 5 t) := gt.2.2
  have z1 : wr w 55 7 = 147 + 2 * t := hMc.2.2.2.2.1
  have z2 : ¬ (147 + 2 * t < 100) := by omega
  have z3 : 147 + 2 * t - 100 = 47 + 2 * t := by omega
  have z4 := shTr hS ht4
  have z5 : ¬ (148 + 2 * t < 100) := by omega
  have z6 : 148 + 2 * t - 100 = 48 + 2 * t := by omega
  have z7 := shSc hS ht4
  have z8 : sm_in (nI (S 6 t)) 4 = true := sm_in_nI hp (by decide)
  have z9 : (nI (S 6 t)).toNatClampNeg = S 6 t := nI_clamp (by omega)
  have z10 := zr3_p hp
  have z11 : ¬ (104 + S 6 t < 100) := by omega
  have z12 : 104 + S 6 t - 100 = 4 + S 6 t := by omega
  have z13 := shGl hS hp
  have z14 := zr8_p hp
  have z15 : ¬ (109 + S 6 t < 100) := by omega
  have z16 : 109 + S 6 t - 100 = 9 + S 6 t := by omega
  have z17 := shLo hS hp
  have z18 : wn w 55 8 = nI t := hMc.2.2.2.2.2.1
  have z19 : wn w 45 1 = nI (S 10 1) := hGr.1
  have gl : ∀ a, a < 4 → wi w (4 + S 6 t) a = nI (S 0 (6 + S 6 t * 4 + a)) := fun a ha => by
    have := hBk.2.1 (S 6 t) hp a ha
    rw [show 1 + 3 + S 6 t = 4 + S 6 t by omega] at this
    exact this
  have lo : ∀ i, i < 12 → wi w (9 + S 6 t) i = nI (S 0 (46 + S 6 t * 12 + i)) := fun i hi => by
    have := hBk.2.2.2.1 (S 6 t) hp i hi
    rw [show 1 + 8 + S 6 t = 9 + S 6 t by omega] at this
    exact this
  have e1 : sm_enF 9 0 1 = some 1 := rfl
  have e2 : sm_ai 1 (some (.inl (0, 31, .inl sm_swm))) = some 2 := rfl
  have e3 : sm_sw (Int32.toInt 2) 1 [56, 66, 76, 106, 122, 138, 151, 177] 195 = 66 := by decide
  simp (decide := true) only [r34_0, r34_3, r34_4, r34_7, r34_8, r35_0, r35_1, r35_4, g97, e1, e2, e3, sm_wp_some, Option.toList_some, List.cons_append, List.nil_append]
  simp (decide := true) only [r34_66, r34_67, r34_70, r34_71, r34_72, r34_75, g4, g6, g7, g1, z1, z2, z3, z4, z5, z6, z7, z8, z9, z10, z11, z12, z13, z14, z15, z16, z17, z18, z19, hq, sh1 hS, sh3 hS, sh45 hS, sh55 hS, sh56 hS, sm_wp_some, sm_wp_none, sm_at, sm_get, sm_fld, sm_pfl, sm_cN, sm_ai, sm_al, sm_si, sm_slg, sm_aa, List.getElem?_cons_zero, List.getElem?_cons_succ, List.set_cons_zero, List.set_cons_succ, List.length_cons, List.length_nil, Option.toList_some, Option.toList_none, List.cons_append, List.nil_append, if_true, if_false, true_and, and_true, Option.some.injEq, gs_o, gs_s, List.length_set, hS.1, pk_us, Nat.reduceLT, Nat.reduceLeDiff, Nat.reduceSub, Nat.reduceEqDiff, Nat.reduceAdd, Int32.reduceLT, Int32.reduceLE, Int32.reduceAdd, Int32.reduceSub, Int32.reduceToNatClampNeg, reduceIte, reduceCtorEq, Nat.lt_irrefl]
  exact put_ok hR h4 h8 (fun w' h => by
    simp (decide := true) only [r34_66, r34_67, r34_70, r34_71, r34_72, r34_75, Option.toList_some, List.cons_append, List.nil_append]
    exact hQ w' h)
theorem ac_2 {X : sm_X} {w : sm_W} {Q : Option Value → sm_W → Prop} {S : sm_S} {T t a : Nat} (hR : RnC w S t (S 14 1 + 1)) (hB : RnB T S t) (hf : a < 2) (hQ : ∀ w', AfC w w' t (s_act S t 2 a) → Q (some (.int (nI (s_act S t 2 a).1))) w') : sm_R X 34 0 [.ref 155, .ref 2, .int (nI a)] [] w Q := by
  have hR' := hR
  have hB' := hB
  obtain ⟨hS, hBk, hPr, hGr, hSc, hSt, hMc, hq⟩ := hR'
  obtain ⟨bB, bP, bG, bS, ⟨ht, hk⟩, ⟨h8, hE⟩, hq32, h80, hcs, hst, hen, hT1, hT2, hT3⟩ := hB'
  have h4 : S 10 1 ≤ 4 := bG.1
  have ht4 : t < 4 := by omega
  have gt := hGr.2 t ht
  have bt := bG.2 t ht
  have hp : S 6 t < 4 := bt.2.2.2.1 hk
  have g4 : wn w (47 + 2 * t) 4 = nI (S 6 t) := (gt.2.1 hk).2.1
  have g6 : wn w (47 + 2 * t) 6 = nI (S 7 t) := (gt.2.1 hk).2.2.2.1
  have g7 : wn w (47 + 2 * t) 7 = nI (S 8 t) := (gt.2.1 hk).2.2.2.2
  have g1 : wn w (47 + 2 * t) 1 = nI (S 5 t) := gt.2.2
  have z1 : wr w 55 7 = 147 + 2 * t := hMc.2.2.2.2.1
  have z2 : ¬ (147 + 2 * t < 100) := by omega
  have z3 : 147 + 2 * t - 100 = 47 + 2 * t := by omega
  have z4 := shTr hS ht4
  have z5 : ¬ (148 + 2 * t < 100) := by omega
  have z6 : 148 + 2 * t - 100 = 48 + 2 * t := by omega
  have z7 := shSc hS ht4
  have z8 : sm_in (nI (S 6 t)) 4 = true := sm_in_nI hp (by decide)
  have z9 : (nI (S 6 t)).toNatClampNeg = S 6 t := nI_clamp (by omega)
  have z10 := zr3_p hp
  have z11 : ¬ (104 + S 6 t < 100) := by omega
  have z12 : 104 + S 6 t - 100 = 4 + S 6 t := by omega
  have z13 := shGl hS hp
  have z14 := zr8_p hp
  have z15 : ¬ (109 + S 6 t < 100) := by omega
  have z16 : 109 + S 6 t - 100 = 9 + S 6 t := by omega
  have z17 := shLo hS hp
  have z18 : wn w 55 8 = nI t := hMc.2.2.2.2.2.1
  have z19 : wn w 45 1 = nI (S 10 1) := hGr.1
  have gl : ∀ a, a < 4 → wi w (4 + S 6 t) a = nI (S 0 (6 + S 6 t * 4 + a)) := fun a ha => by
    have := hBk.2.1 (S 6 t) hp a ha
    rw [show 1 + 3 + S 6 t = 4 + S 6 t by omega] at this
    exact this
  have lo : ∀ i, i < 12 → wi w (9 + S 6 t) i = nI (S 0 (46 + S 6 t * 12 + i)) := fun i hi => by
    have := hBk.2.2.2.1 (S 6 t) hp i hi
    rw [show 1 + 8 + S 6 t = 9 + S 6 t by omega] at this
    exact this
  have e1 : sm_enF 9 0 2 = some 2 := rfl
  have e2 : sm_ai 2 (some (.inl (0, 31, .inl sm_swm))) = some 3 := rfl
  have e3 : sm_sw (Int32.toInt 3) 1 [56, 66, 76, 106, 122, 138, 151, 177] 195 = 76 := by decide
  simp (decide := true) only [r34_0, r34_3, r34_4, r34_7, r34_8, r35_0, r35_1, r35_4, g97, e1, e2, e3, sm_wp_some, Option.toList_some, List.cons_append, List.nil_append]
  have ha : nI a = 0 ↔ a = 0 := nI_z (by omega)
  by_cases e : a = 0
  · have e5 : s_act S t 2 a = s_put S 1 (S 7 t) := by
      show s_put S 1 (if a = 0 then S 7 t else S 8 t) = _
      rw [if_pos e]
    rw [e5] at hQ
    have ha' : nI a = 0 := ha.mpr e
    simp (decide := true) only [r34_76, r34_77, r34_80, r34_81, r34_82, r34_85, r34_86, r34_89, r34_92, r34_95, r34_96, r34_99, r34_102, r34_105, g4, g6, g7, g1, z1, z2, z3, z4, z5, z6, z7, z8, z9, z10, z11, z12, z13, z14, z15, z16, z17, z18, z19, hq, sh1 hS, sh3 hS, sh45 hS, sh55 hS, sh56 hS, ha', sm_wp_some, sm_wp_none, sm_at, sm_get, sm_fld, sm_pfl, sm_cN, sm_ai, sm_al, sm_si, sm_slg, sm_aa, List.getElem?_cons_zero, List.getElem?_cons_succ, List.set_cons_zero, List.set_cons_succ, List.length_cons, List.length_nil, Option.toList_some, Option.toList_none, List.cons_append, List.nil_append, if_true, if_false, true_and, and_true, Option.some.injEq, gs_o, gs_s, List.length_set, hS.1, pk_us, Nat.reduceLT, Nat.reduceLeDiff, Nat.reduceSub, Nat.reduceEqDiff, Nat.reduceAdd, Int32.reduceLT, Int32.reduceLE, Int32.reduceAdd, Int32.reduceSub, Int32.reduceToNatClampNeg, reduceIte, reduceCtorEq, Nat.lt_irrefl]
    exact put_ok hR h4 h8 (fun w' h => by
      simp (decide := true) only [r34_76, r34_77, r34_80, r34_81, r34_82, r34_85, r34_86, r34_89, r34_92, r34_95, r34_96, r34_99, r34_102, r34_105, Option.toList_some, List.cons_append, List.nil_append]
      exact hQ w' h)
  · have e5 : s_act S t 2 a = s_put S 1 (S 8 t) := by
      show s_put S 1 (if a = 0 then S 7 t else S 8 t) = _
      rw [if_neg e]
    rw [e5] at hQ
    have ha' : ¬ nI a = 0 := fun q => e (ha.mp q)
    simp (decide := true) only [r34_76, r34_77, r34_80, r34_81, r34_82, r34_85, r34_86, r34_89, r34_92, r34_95, r34_96, r34_99, r34_102, r34_105, g4, g6, g7, g1, z1, z2, z3, z4, z5, z6, z7, z8, z9, z10, z11, z12, z13, z14, z15, z16, z17, z18, z19, hq, sh1 hS, sh3 hS, sh45 hS, sh55 hS, sh56 hS, ha', sm_wp_some, sm_wp_none, sm_at, sm_get, sm_fld, sm_pfl, sm_cN, sm_ai, sm_al, sm_si, sm_slg, sm_aa, List.getElem?_cons_zero, List.getElem?_cons_succ, List.set_cons_zero, List.set_cons_succ, List.length_cons, List.length_nil, Option.toList_some, Option.toList_none, List.cons_append, List.nil_append, if_true, if_false, true_and, and_true, Option.some.injEq, gs_o, gs_s, List.length_set, hS.1, pk_us, Nat.reduceLT, Nat.reduceLeDiff, Nat.reduceSub, Nat.reduceEqDiff, Nat.reduceAdd, Int32.reduceLT, Int32.reduceLE, Int32.reduceAdd, Int32.reduceSub, Int32.reduceToNatClampNeg, reduceIte, reduceCtorEq, Nat.lt_irrefl]
    exact put_ok hR h4 h8 (fun w' h => by
      simp (decide := true) only [r34_76, r34_77, r34_80, r34_81, r34_82, r34_85, r34_86, r34_89, r34_92, r34_95, r34_96, r34_99, r34_102, r34_105, Option.toList_some, List.cons_append, List.nil_append]
      exact hQ w' h)
theorem ac_3 {X : sm_X} {w : sm_W} {Q : Option Value → sm_W → Prop} {S : sm_S} {T t a : Nat} (hR : RnC w S t (S 14 1 + 1)) (hB : RnB T S t) (hf : True) (hQ : ∀ w', AfC w w' t (s_act S t 3 a) → Q (some (.int (nI (s_act S t 3 a).1))) w') : sm_R X 34 0 [.ref 155, .ref 3, .int (nI a)] [] w Q := by
  have hR' := hR
  have hB' := hB
  obtain ⟨hS, hBk, hPr, hGr, hSc, hSt, hMc, hq⟩ := hR'
  obtain ⟨bB, bP, bG, bS, ⟨ht, hk⟩, ⟨h8, hE⟩, hq32, h80, hcs, hst, hen, hT1, hT2, hT3⟩ := hB'
  have h4 : S 10 1 ≤ 4 := bG.1
  have ht4 : t < 4 := by omega
  have gt := hGr.2 t ht
  have bt := bG.2 t ht
  have hp : S 6 t < 4 := bt.2.2.2.1 hk
  have g4 : wn w (47 + 2 * t) 4 = nI (S 6 t) := (gt.2.1 hk).2.1
  have g6 : wn w (47 + 2 * t) 6 = nI (S 7 t) := (gt.2.1 hk).2.2.2.1
  have g7 : wn w (47 + 2 * t) 7 = nI (S 8 t) := (gt.2.1 hk).2.2.2.2
  have g1 : wn w (47 + 2 * t) 1 = nI (S 5 t) := gt.2.2
  have z1 : wr w 55 7 = 147 + 2 * t := hMc.2.2.2.2.1
  have z2 : ¬ (147 + 2 * t < 100) := by omega
  have z3 : 147 + 2 * t - 100 = 47 + 2 * t := by omega
  have z4 := shTr hS ht4
  have z5 : ¬ (148 + 2 * t < 100) := by omega
  have z6 : 148 + 2 * t - 100 = 48 + 2 * t := by omega
  have z7 := shSc hS ht4
  have z8 : sm_in (nI (S 6 t)) 4 = true := sm_in_nI hp (by decide)
  have z9 : (nI (S 6 t)).toNatClampNeg = S 6 t := nI_clamp (by omega)
  have z10 := zr3_p hp
  have z11 : ¬ (104 + S 6 t < 100) := by omega
  have z12 : 104 + S 6 t - 100 = 4 + S 6 t := by omega
  have z13 := shGl hS hp
  have z14 := zr8_p hp
  have z15 : ¬ (109 + S 6 t < 100) := by omega
  have z16 : 109 + S 6 t - 100 = 9 + S 6 t := by omega
  have z17 := shLo hS hp
  have z18 : wn w 55 8 = nI t := hMc.2.2.2.2.2.1
  have z19 : wn w 45 1 = nI (S 10 1) := hGr.1
  have gl : ∀ a, a < 4 → wi w (4 + S 6 t) a = nI (S 0 (6 + S 6 t * 4 + a)) := fun a ha => by
    have := hBk.2.1 (S 6 t) hp a ha
    rw [show 1 + 3 + S 6 t = 4 + S 6 t by omega] at this
    exact this
  have lo : ∀ i, i < 12 → wi w (9 + S 6 t) i = nI (S 0 (46 + S 6 t * 12 + i)) := fun i hi => by
    have := hBk.2.2.2.1 (S 6 t) hp i hi
    rw [show 1 + 8 + S 6 t = 9 + S 6 t by omega] at this
    exact this
  have e1 : sm_enF 9 0 3 = some 3 := rfl
  have e2 : sm_ai 3 (some (.inl (0, 31, .inl sm_swm))) = some 4 := rfl
  have e3 : sm_sw (Int32.toInt 4) 1 [56, 66, 76, 106, 122, 138, 151, 177] 195 = 106 := by decide
  simp (decide := true) only [r34_0, r34_3, r34_4, r34_7, r34_8, r35_0, r35_1, r35_4, g97, e1, e2, e3, sm_wp_some, Option.toList_some, List.cons_append, List.nil_append]
  simp (decide := true) only [r34_106, r34_107, r34_110, r34_111, r34_112, r34_115, r34_118, r34_121, g4, g6, g7, g1, z1, z2, z3, z4, z5, z6, z7, z8, z9, z10, z11, z12, z13, z14, z15, z16, z17, z18, z19, hq, sh1 hS, sh3 hS, sh45 hS, sh55 hS, sh56 hS, sm_wp_some, sm_wp_none, sm_at, sm_get, sm_fld, sm_pfl, sm_cN, sm_ai, sm_al, sm_si, sm_slg, sm_aa, List.getElem?_cons_zero, List.getElem?_cons_succ, List.set_cons_zero, List.set_cons_succ, List.length_cons, List.length_nil, Option.toList_some, Option.toList_none, List.cons_append, List.nil_append, if_true, if_false, true_and, and_true, Option.some.injEq, gs_o, gs_s, List.length_set, hS.1, pk_us, Nat.reduceLT, Nat.reduceLeDiff, Nat.reduceSub, Nat.reduceEqDiff, Nat.reduceAdd, Int32.reduceLT, Int32.reduceLE, Int32.reduceAdd, Int32.reduceSub, Int32.reduceToNatClampNeg, reduceIte, reduceCtorEq, Nat.lt_irrefl]
  exact put_ok hR h4 h8 (fun w' h => by
    simp (decide := true) only [r34_106, r34_107, r34_110, r34_111, r34_112, r34_115, r34_118, r34_121, Option.toList_some, List.cons_append, List.nil_append]
    exact hQ w' h)
theorem ac_4 {X : sm_X} {w : sm_W} {Q : Option Value → sm_W → Prop} {S : sm_S} {T t a : Nat} (hR : RnC w S t (S 14 1 + 1)) (hB : RnB T S t) (hf : True) (hQ : ∀ w', AfC w w' t (s_act S t 4 a) → Q (some (.int (nI (s_act S t 4 a).1))) w') : sm_R X 34 0 [.ref 155, .ref 4, .int (nI a)] [] w Q := by
  have hR' := hR
  have hB' := hB
  obtain ⟨hS, hBk, hPr, hGr, hSc, hSt, hMc, hq⟩ := hR'
  obtain ⟨bB, bP, bG, bS, ⟨ht, hk⟩, ⟨h8, hE⟩, hq32, h80, hcs, hst, hen, hT1, hT2, hT3⟩ := hB'
  have h4 : S 10 1 ≤ 4 := bG.1
  have ht4 : t < 4 := by omega
  have gt := hGr.2 t ht
  have bt := bG.2 t ht
  have hp : S 6 t < 4 := bt.2.2.2.1 hk
  have g4 : wn w (47 + 2 * t) 4 = nI (S 6 t) := (gt.2.1 hk).2.1
  have g6 : wn w (47 + 2 * t) 6 = nI (S 7 t) := (gt.2.1 hk).2.2.2.1
  have g7 : wn w (47 + 2 * t) 7 = nI (S 8 t) := (gt.2.1 hk).2.2.2.2
  have g1 : wn w (47 + 2 * t) 1 = nI (S 5 t) := gt.2.2
  have z1 : wr w 55 7 = 147 + 2 * t := hMc.2.2.2.2.1
  have z2 : ¬ (147 + 2 * t < 100) := by omega
  have z3 : 147 + 2 * t - 100 = 47 + 2 * t := by omega
  have z4 := shTr hS ht4
  have z5 : ¬ (148 + 2 * t < 100) := by omega
  have z6 : 148 + 2 * t - 100 = 48 + 2 * t := by omega
  have z7 := shSc hS ht4
  have z8 : sm_in (nI (S 6 t)) 4 = true := sm_in_nI hp (by decide)
  have z9 : (nI (S 6 t)).toNatClampNeg = S 6 t := nI_clamp (by omega)
  have z10 := zr3_p hp
  have z11 : ¬ (104 + S 6 t < 100) := by omega
  have z12 : 104 + S 6 t - 100 = 4 + S 6 t := by omega
  have z13 := shGl hS hp
  have z14 := zr8_p hp
  have z15 : ¬ (109 + S 6 t < 100) := by omega
  have z16 : 109 + S 6 t - 100 = 9 + S 6 t := by omega
  have z17 := shLo hS hp
  have z18 : wn w 55 8 = nI t := hMc.2.2.2.2.2.1
  have z19 : wn w 45 1 = nI (S 10 1) := hGr.1
  have gl : ∀ a, a < 4 → wi w (4 + S 6 t) a = nI (S 0 (6 + S 6 t * 4 + a)) := fun a ha => by
    have := hBk.2.1 (S 6 t) hp a ha
    rw [show 1 + 3 + S 6 t = 4 + S 6 t by omega] at this
    exact this
  have lo : ∀ i, i < 12 → wi w (9 + S 6 t) i = nI (S 0 (46 + S 6 t * 12 + i)) := fun i hi => by
    have := hBk.2.2.2.1 (S 6 t) hp i hi
    rw [show 1 + 8 + S 6 t = 9 + S 6 t by omega] at this
    exact this
  have e1 : sm_enF 9 0 4 = some 4 := rfl
  have e2 : sm_ai 4 (some (.inl (0, 31, .inl sm_swm))) = some 5 := rfl
  have e3 : sm_sw (Int32.toInt 5) 1 [56, 66, 76, 106, 122, 138, 151, 177] 195 = 122 := by decide
  simp (decide := true) only [r34_0, r34_3, r34_4, r34_7, r34_8, r35_0, r35_1, r35_4, g97, e1, e2, e3, sm_wp_some, Option.toList_some, List.cons_append, List.nil_append]
  simp (decide := true) only [r34_122, r34_123, r34_126, r34_127, r34_128, r34_131, r34_134, r34_137, g4, g6, g7, g1, z1, z2, z3, z4, z5, z6, z7, z8, z9, z10, z11, z12, z13, z14, z15, z16, z17, z18, z19, hq, sh1 hS, sh3 hS, sh45 hS, sh55 hS, sh56 hS, sm_wp_some, sm_wp_none, sm_at, sm_get, sm_fld, sm_pfl, sm_cN, sm_ai, sm_al, sm_si, sm_slg, sm_aa, List.getElem?_cons_zero, List.getElem?_cons_succ, List.set_cons_zero, List.set_cons_succ, List.length_cons, List.length_nil, Option.toList_some, Option.toList_none, List.cons_append, List.nil_append, if_true, if_false, true_and, and_true, Option.some.injEq, gs_o, gs_s, List.length_set, hS.1, pk_us, Nat.reduceLT, Nat.reduceLeDiff, Nat.reduceSub, Nat.reduceEqDiff, Nat.reduceAdd, Int32.reduceLT, Int32.reduceLE, Int32.reduceAdd, Int32.reduceSub, Int32.reduceToNatClampNeg, reduceIte, reduceCtorEq, Nat.lt_irrefl]
  exact put_ok hR h4 h8 (fun w' h => by
    simp (decide := true) only [r34_122, r34_123, r34_126, r34_127, r34_128, r34_131, r34_134, r34_137, Option.toList_some, List.cons_append, List.nil_append]
    exact hQ w' h)
theorem ac_5 {X : sm_X} {w : sm_W} {Q : Option Value → sm_W → Prop} {S : sm_S} {T t a : Nat} (hR : RnC w S t (S 14 1 + 1)) (hB : RnB T S t) (hf : True) (hQ : ∀ w', AfC w w' t (s_act S t 5 a) → Q (some (.int (nI (s_act S t 5 a).1))) w') : sm_R X 34 0 [.ref 155, .ref 5, .int (nI a)] [] w Q := by
  have hR' := hR
  have hB' := hB
  obtain ⟨hS, hBk, hPr, hGr, hSc, hSt, hMc, hq⟩ := hR'
  obtain ⟨bB, bP, bG, bS, ⟨ht, hk⟩, ⟨h8, hE⟩, hq32, h80, hcs, hst, hen, hT1, hT2, hT3⟩ := hB'
  have h4 : S 10 1 ≤ 4 := bG.1
  have ht4 : t < 4 := by omega
  have gt := hGr.2 t ht
  have bt := bG.2 t ht
  have hp : S 6 t < 4 := bt.2.2.2.1 hk
  have g4 : wn w (47 + 2 * t) 4 = nI (S 6 t) := (gt.2.1 hk).2.1
  have g6 : wn w (47 + 2 * t) 6 = nI (S 7 t) := (gt.2.1 hk).2.2.2.1
  have g7 : wn w (47 + 2 * t) 7 = nI (S 8 t) := (gt.2.1 hk).2.2.2.2
  have g1 : wn w (47 + 2 * t) 1 = nI (S 5 t) := gt.2.2
  have z1 : wr w 55 7 = 147 + 2 * t := hMc.2.2.2.2.1
  have z2 : ¬ (147 + 2 * t < 100) := by omega
  have z3 : 147 + 2 * t - 100 = 47 + 2 * t := by omega
  have z4 := shTr hS ht4
  have z5 : ¬ (148 + 2 * t < 100) := by omega
  have z6 : 148 + 2 * t - 100 = 48 + 2 * t := by omega
  have z7 := shSc hS ht4
  have z8 : sm_in (nI (S 6 t)) 4 = true := sm_in_nI hp (by decide)
  have z9 : (nI (S 6 t)).toNatClampNeg = S 6 t := nI_clamp (by omega)
  have z10 := zr3_p hp
  have z11 : ¬ (104 + S 6 t < 100) := by omega
  have z12 : 104 + S 6 t - 100 = 4 + S 6 t := by omega
  have z13 := shGl hS hp
  have z14 := zr8_p hp
  have z15 : ¬ (109 + S 6 t < 100) := by omega
  have z16 : 109 + S 6 t - 100 = 9 + S 6 t := by omega
  have z17 := shLo hS hp
  have z18 : wn w 55 8 = nI t := hMc.2.2.2.2.2.1
  have z19 : wn w 45 1 = nI (S 10 1) := hGr.1
  have gl : ∀ a, a < 4 → wi w (4 + S 6 t) a = nI (S 0 (6 + S 6 t * 4 + a)) := fun a ha => by
    have := hBk.2.1 (S 6 t) hp a ha
    rw [show 1 + 3 + S 6 t = 4 + S 6 t by omega] at this
    exact this
  have lo : ∀ i, i < 12 → wi w (9 + S 6 t) i = nI (S 0 (46 + S 6 t * 12 + i)) := fun i hi => by
    have := hBk.2.2.2.1 (S 6 t) hp i hi
    rw [show 1 + 8 + S 6 t = 9 + S 6 t by omega] at this
    exact this
  have e1 : sm_enF 9 0 5 = some 5 := rfl
  have e2 : sm_ai 5 (some (.inl (0, 31, .inl sm_swm))) = some 6 := rfl
  have e3 : sm_sw (Int32.toInt 6) 1 [56, 66, 76, 106, 122, 138, 151, 177] 195 = 138 := by decide
  simp (decide := true) only [r34_0, r34_3, r34_4, r34_7, r34_8, r35_0, r35_1, r35_4, g97, e1, e2, e3, sm_wp_some, Option.toList_some, List.cons_append, List.nil_append]
  simp (decide := true) only [r34_138, r34_139, r34_142, r34_143, r34_144, r34_147, r34_150, g4, g6, g7, g1, z1, z2, z3, z4, z5, z6, z7, z8, z9, z10, z11, z12, z13, z14, z15, z16, z17, z18, z19, hq, sh1 hS, sh3 hS, sh45 hS, sh55 hS, sh56 hS, sm_wp_some, sm_wp_none, sm_at, sm_get, sm_fld, sm_pfl, sm_cN, sm_ai, sm_al, sm_si, sm_slg, sm_aa, List.getElem?_cons_zero, List.getElem?_cons_succ, List.set_cons_zero, List.set_cons_succ, List.length_cons, List.length_nil, Option.toList_some, Option.toList_none, List.cons_append, List.nil_append, if_true, if_false, true_and, and_true, Option.some.injEq, gs_o, gs_s, List.length_set, hS.1, pk_us, Nat.reduceLT, Nat.reduceLeDiff, Nat.reduceSub, Nat.reduceEqDiff, Nat.reduceAdd, Int32.reduceLT, Int32.reduceLE, Int32.reduceAdd, Int32.reduceSub, Int32.reduceToNatClampNeg, reduceIte, reduceCtorEq, Nat.lt_irrefl]
  exact put_ok hR h4 h8 (fun w' h => by
    simp (decide := true) only [r34_138, r34_139, r34_142, r34_143, r34_144, r34_147, r34_150, Option.toList_some, List.cons_append, List.nil_append]
    exact hQ w' h)
theorem ac_18 {X : sm_X} {w : sm_W} {Q : Option Value → sm_W → Prop} {S : sm_S} {T t a : Nat} (hR : RnC w S t (S 14 1 + 1)) (hB : RnB T S t) (hf : a < 32) (hQ : ∀ w', AfC w w' t (s_act S t 18 a) → Q (some (.int (nI (s_act S t 18 a).1))) w') : sm_R X 34 0 [.ref 155, .ref 18, .int (nI a)] [] w Q := by
  have hR' := hR
  have hB' := hB
  obtain ⟨hS, hBk, hPr, hGr, hSc, hSt, hMc, hq⟩ := hR'
  obtain ⟨bB, bP, bG, bS, ⟨ht, hk⟩, ⟨h8, hE⟩, hq32, h80, hcs, hst, hen, hT1, hT2, hT3⟩ := hB'
  have h4 : S 10 1 ≤ 4 := bG.1
  have ht4 : t < 4 := by omega
  have gt := hGr.2 t ht
  have bt := bG.2 t ht
  have hp : S 6 t < 4 := bt.2.2.2.1 hk
  have g4 : wn w (47 + 2 * t) 4 = nI (S 6 t) := (gt.2.1 hk).2.1
  have g6 : wn w (47 + 2 * t) 6 = nI (S 7 t) := (gt.2.1 hk).2.2.2.1
  have g7 : wn w (47 + 2 * t) 7 = nI (S 8 t) := (gt.2.1 hk).2.2.2.2
  have g1 : wn w (47 + 2 * t) 1 = nI (S 5 t) := gt.2.2
  have z1 : wr w 55 7 = 147 + 2 * t := hMc.2.2.2.2.1
  have z2 : ¬ (147 + 2 * t < 100) := by omega
  have z3 : 147 + 2 * t - 100 = 47 + 2 * t := by omega
  have z4 := shTr hS ht4
  have z5 : ¬ (148 + 2 * t < 100) := by omega
  have z6 : 148 + 2 * t - 100 = 48 + 2 * t := by omega
  have z7 := shSc hS ht4
  have z8 : sm_in (nI (S 6 t)) 4 = true := sm_in_nI hp (by decide)
  have z9 : (nI (S 6 t)).toNatClampNeg = S 6 t := nI_clamp (by omega)
  have z10 := zr3_p hp
  have z11 : ¬ (104 + S 6 t < 100) := by omega
  have z12 : 104 + S 6 t - 100 = 4 + S 6 t := by omega
  have z13 := shGl hS hp
  have z14 := zr8_p hp
  have z15 : ¬ (109 + S 6 t < 100) := by omega
  have z16 : 109 + S 6 t - 100 = 9 + S 6 t := by omega
  have z17 := shLo hS hp
  have z18 : wn w 55 8 = nI t := hMc.2.2.2.2.2.1
  have z19 : wn w 45 1 = nI (S 10 1) := hGr.1
  have gl : ∀ a, a < 4 → wi w (4 + S 6 t) a = nI (S 0 (6 + S 6 t * 4 + a)) := fun a ha => by
    have := hBk.2.1 (S 6 t) hp a ha
    rw [show 1 + 3 + S 6 t = 4 + S 6 t by omega] at this
    exact this
  have lo : ∀ i, i < 12 → wi w (9 + S 6 t) i = nI (S 0 (46 + S 6 t * 12 + i)) := fun i hi => by
    have := hBk.2.2.2.1 (S 6 t) hp i hi
    rw [show 1 + 8 + S 6 t = 9 + S 6 t by omega] at this
    exact this
  have e1 : sm_enF 9 0 18 = some 18 := rfl
  have e2 : sm_ai 18 (some (.inl (0, 31, .inl sm_swm))) = some 0 := rfl
  have e3 : sm_sw (Int32.toInt 0) 1 [56, 66, 76, 106, 122, 138, 151, 177] 195 = 195 := by decide
  simp (decide := true) only [r34_0, r34_3, r34_4, r34_7, r34_8, r35_0, r35_1, r35_4, g97, e1, e2, e3, sm_wp_some, Option.toList_some, List.cons_append, List.nil_append]
  simp (decide := true) only [r34_195, r34_196, r34_197, r34_200, r34_201, g4, g6, g7, g1, z1, z2, z3, z4, z5, z6, z7, z8, z9, z10, z11, z12, z13, z14, z15, z16, z17, z18, z19, hq, sh1 hS, sh3 hS, sh45 hS, sh55 hS, sh56 hS, sm_wp_some, sm_wp_none, sm_at, sm_get, sm_fld, sm_pfl, sm_cN, sm_ai, sm_al, sm_si, sm_slg, sm_aa, List.getElem?_cons_zero, List.getElem?_cons_succ, List.set_cons_zero, List.set_cons_succ, List.length_cons, List.length_nil, Option.toList_some, Option.toList_none, List.cons_append, List.nil_append, if_true, if_false, true_and, and_true, Option.some.injEq, gs_o, gs_s, List.length_set, hS.1, pk_us, Nat.reduceLT, Nat.reduceLeDiff, Nat.reduceSub, Nat.reduceEqDiff, Nat.reduceAdd, Int32.reduceLT, Int32.reduceLE, Int32.reduceAdd, Int32.reduceSub, Int32.reduceToNatClampNeg, reduceIte, reduceCtorEq, Nat.lt_irrefl]
  have m := RnC.m55 (S := s_up S 14 1 a) (t := t) (q := a) hS hBk hPr hGr hSc hSt h4 hMc.1 hMc.2.1 hMc.2.2.1 hMc.2.2.2.1 rfl rfl hMc.2.2.2.2.2.2 rfl
  exact hQ _ ⟨FrC.set (by decide) (by decide) (by decide), fun _ => m, m.rf⟩
theorem ac_21 {X : sm_X} {w : sm_W} {Q : Option Value → sm_W → Prop} {S : sm_S} {T t a : Nat} (hR : RnC w S t (S 14 1 + 1)) (hB : RnB T S t) (hf : a < 4) (hQ : ∀ w', AfC w w' t (s_act S t 21 a) → Q (some (.int (nI (s_act S t 21 a).1))) w') : sm_R X 34 0 [.ref 155, .ref 21, .int (nI a)] [] w Q := by
  have hR' := hR
  have hB' := hB
  obtain ⟨hS, hBk, hPr, hGr, hSc, hSt, hMc, hq⟩ := hR'
  obtain ⟨bB, bP, bG, bS, ⟨ht, hk⟩, ⟨h8, hE⟩, hq32, h80, hcs, hst, hen, hT1, hT2, hT3⟩ := hB'
  have h4 : S 10 1 ≤ 4 := bG.1
  have ht4 : t < 4 := by omega
  have gt := hGr.2 t ht
  have bt := bG.2 t ht
  have hp : S 6 t < 4 := bt.2.2.2.1 hk
  have g4 : wn w (47 + 2 * t) 4 = nI (S 6 t) := (gt.2.1 hk).2.1
  have g6 : wn w (47 + 2 * t) 6 = nI (S 7 t) := (gt.2.1 hk).2.2.2.1
  have g7 : wn w (47 + 2 * t) 7 = nI (S 8 t) := (gt.2.1 hk).2.2.2.2
  have g1 : wn w (47 + 2 * t) 1 = nI (S 5 t) := gt.2.2
  have z1 : wr w 55 7 = 147 + 2 * t := hMc.2.2.2.2.1
  have z2 : ¬ (147 + 2 * t < 100) := by omega
  have z3 : 147 + 2 * t - 100 = 47 + 2 * t := by omega
  have z4 := shTr hS ht4
  have z5 : ¬ (148 + 2 * t < 100) := by omega
  have z6 : 148 + 2 * t - 100 = 48 + 2 * t := by omega
  have z7 := shSc hS ht4
  have z8 : sm_in (nI (S 6 t)) 4 = true := sm_in_nI hp (by decide)
  have z9 : (nI (S 6 t)).toNatClampNeg = S 6 t := nI_clamp (by omega)
  have z10 := zr3_p hp
  have z11 : ¬ (104 + S 6 t < 100) := by omega
  have z12 : 104 + S 6 t - 100 = 4 + S 6 t := by omega
  have z13 := shGl hS hp
  have z14 := zr8_p hp
  have z15 : ¬ (109 + S 6 t < 100) := by omega
  have z16 : 109 + S 6 t - 100 = 9 + S 6 t := by omega
  have z17 := shLo hS hp
  have z18 : wn w 55 8 = nI t := hMc.2.2.2.2.2.1
  have z19 : wn w 45 1 = nI (S 10 1) := hGr.1
  have gl : ∀ a, a < 4 → wi w (4 + S 6 t) a = nI (S 0 (6 + S 6 t * 4 + a)) := fun a ha => by
    have := hBk.2.1 (S 6 t) hp a ha
    rw [show 1 + 3 + S 6 t = 4 + S 6 t by omega] at this
    exact this
  have lo : ∀ i, i < 12 → wi w (9 + S 6 t) i = nI (S 0 (46 + S 6 t * 12 + i)) := fun i hi => by
    have := hBk.2.2.2.1 (S 6 t) hp i hi
    rw [show 1 + 8 + S 6 t = 9 + S 6 t by omega] at this
    exact this
  have e1 : sm_enF 9 0 21 = some 21 := rfl
  have e2 : sm_ai 21 (some (.inl (0, 31, .inl sm_swm))) = some 7 := rfl
  have e3 : sm_sw (Int32.toInt 7) 1 [56, 66, 76, 106, 122, 138, 151, 177] 195 = 151 := by decide
  simp (decide := true) only [r34_0, r34_3, r34_4, r34_7, r34_8, r35_0, r35_1, r35_4, g97, e1, e2, e3, sm_wp_some, Option.toList_some, List.cons_append, List.nil_append]
  have ha4 : a < 4 := hf
  have a1 : sm_in (nI a) 4 = true := sm_in_nI ha4 (by decide)
  have a2 : (nI a).toNatClampNeg = a := nI_clamp (by omega)
  have gl2 := gl a ha4
  simp (decide := true) only [r34_151, r34_152, r34_155, r34_156, r34_157, r34_160, r34_163, r34_164, r34_167, r34_170, r34_171, r34_172, r34_173, r34_176, g4, g6, g7, g1, z1, z2, z3, z4, z5, z6, z7, z8, z9, z10, z11, z12, z13, z14, z15, z16, z17, z18, z19, hq, sh1 hS, sh3 hS, sh45 hS, sh55 hS, sh56 hS, a1, a2, gl2, sm_wp_some, sm_wp_none, sm_at, sm_get, sm_fld, sm_pfl, sm_cN, sm_ai, sm_al, sm_si, sm_slg, sm_aa, List.getElem?_cons_zero, List.getElem?_cons_succ, List.set_cons_zero, List.set_cons_succ, List.length_cons, List.length_nil, Option.toList_some, Option.toList_none, List.cons_append, List.nil_append, if_true, if_false, true_and, and_true, Option.some.injEq, gs_o, gs_s, List.length_set, hS.1, pk_us, Nat.reduceLT, Nat.reduceLeDiff, Nat.reduceSub, Nat.reduceEqDiff, Nat.reduceAdd, Int32.reduceLT, Int32.reduceLE, Int32.reduceAdd, Int32.reduceSub, Int32.reduceToNatClampNeg, reduceIte, reduceCtorEq, Nat.lt_irrefl]
  exact put_ok hR h4 h8 (fun w' h => by
    simp (decide := true) only [r34_151, r34_152, r34_155, r34_156, r34_157, r34_160, r34_163, r34_164, r34_167, r34_170, r34_171, r34_172, r34_173, r34_176, Option.toList_some, List.cons_append, List.nil_append]
    exact hQ w' h)
theorem ac_26 {X : sm_X} {w : sm_W} {Q : Option Value → sm_W → Prop} {S : sm_S} {T t a : Nat} (hR : RnC w S t (S 14 1 + 1)) (hB : RnB T S t) (hf : a < 4) (hQ : ∀ w', AfC w w' t (s_act S t 26 a) → Q (some (.int (nI (s_act S t 26 a).1))) w') : sm_R X 34 0 [.ref 155, .ref 26, .int (nI a)] [] w Q := by
  have hR' := hR
  have hB' := hB
  obtain ⟨hS, hBk, hPr, hGr, hSc, hSt, hMc, hq⟩ := hR'
  obtain ⟨bB, bP, bG, bS, ⟨ht, hk⟩, ⟨h8, hE⟩, hq32, h80, hcs, hst, hen, hT1, hT2, hT3⟩ := hB'
  have h4 : S 10 1 ≤ 4 := bG.1
  have ht4 : t < 4 := by omega
  have gt := hGr.2 t ht
  have bt := bG.2 t ht
  have hp : S 6 t < 4 := bt.2.2.2.1 hk
  have g4 : wn w (47 + 2 * t) 4 = nI (S 6 t) := (gt.2.1 hk).2.1
  have g6 : wn w (47 + 2 * t) 6 = nI (S 7 t) := (gt.2.1 hk).2.2.2.1
  have g7 : wn w (47 + 2 * t) 7 = nI (S 8 t) := (gt.2.1 hk).2.2.2.2
  have g1 : wn w (47 + 2 * t) 1 = nI (S 5 t) := gt.2.2
  have z1 : wr w 55 7 = 147 + 2 * t := hMc.2.2.2.2.1
  have z2 : ¬ (147 + 2 * t < 100) := by omega
  have z3 : 147 + 2 * t - 100 = 47 + 2 * t := by omega
  have z4 := shTr hS ht4
  have z5 : ¬ (148 + 2 * t < 100) := by omega
  have z6 : 148 + 2 * t - 100 = 48 + 2 * t := by omega
  have z7 := shSc hS ht4
  have z8 : sm_in (nI (S 6 t)) 4 = true := sm_in_nI hp (by decide)
  have z9 : (nI (S 6 t)).toNatClampNeg = S 6 t := nI_clamp (by omega)
  have z10 := zr3_p hp
  have z11 : ¬ (104 + S 6 t < 100) := by omega
  have z12 : 104 + S 6 t - 100 = 4 + S 6 t := by omega
  have z13 := shGl hS hp
  have z14 := zr8_p hp
  have z15 : ¬ (109 + S 6 t < 100) := by omega
  have z16 : 109 + S 6 t - 100 = 9 + S 6 t := by omega
  have z17 := shLo hS hp
  have z18 : wn w 55 8 = nI t := hMc.2.2.2.2.2.1
  have z19 : wn w 45 1 = nI (S 10 1) := hGr.1
  have gl : ∀ a, a < 4 → wi w (4 + S 6 t) a = nI (S 0 (6 + S 6 t * 4 + a)) := fun a ha => by
    have := hBk.2.1 (S 6 t) hp a ha
    rw [show 1 + 3 + S 6 t = 4 + S 6 t by omega] at this
    exact this
  have lo : ∀ i, i < 12 → wi w (9 + S 6 t) i = nI (S 0 (46 + S 6 t * 12 + i)) := fun i hi => by
    have := hBk.2.2.2.1 (S 6 t) hp i hi
    rw [show 1 + 8 + S 6 t = 9 + S 6 t by omega] at this
    exact this
  have e1 : sm_enF 9 0 26 = some 26 := rfl
  have e2 : sm_ai 26 (some (.inl (0, 31, .inl sm_swm))) = some 8 := rfl
  have e3 : sm_sw (Int32.toInt 8) 1 [56, 66, 76, 106, 122, 138, 151, 177] 195 = 177 := by decide
  simp (decide := true) only [r34_0, r34_3, r34_4, r34_7, r34_8, r35_0, r35_1, r35_4, g97, e1, e2, e3, sm_wp_some, Option.toList_some, List.cons_append, List.nil_append]
  have ha4 : a < 4 := hf
  have a1 : sm_in (nI a) 4 = true := sm_in_nI ha4 (by decide)
  have a2 : (nI a).toNatClampNeg = a := nI_clamp (by omega)
  have sc2 := hSc t ht4 a ha4
  simp (decide := true) only [r34_177, r34_178, r34_181, r34_182, r34_183, r34_186, r34_189, r34_190, r34_191, r34_194, g4, g6, g7, g1, z1, z2, z3, z4, z5, z6, z7, z8, z9, z10, z11, z12, z13, z14, z15, z16, z17, z18, z19, hq, sh1 hS, sh3 hS, sh45 hS, sh55 hS, sh56 hS, a1, a2, sc2, sm_wp_some, sm_wp_none, sm_at, sm_get, sm_fld, sm_pfl, sm_cN, sm_ai, sm_al, sm_si, sm_slg, sm_aa, List.getElem?_cons_zero, List.getElem?_cons_succ, List.set_cons_zero, List.set_cons_succ, List.length_cons, List.length_nil, Option.toList_some, Option.toList_none, List.cons_append, List.nil_append, if_true, if_false, true_and, and_true, Option.some.injEq, gs_o, gs_s, List.length_set, hS.1, pk_us, Nat.reduceLT, Nat.reduceLeDiff, Nat.reduceSub, Nat.reduceEqDiff, Nat.reduceAdd, Int32.reduceLT, Int32.reduceLE, Int32.reduceAdd, Int32.reduceSub, Int32.reduceToNatClampNeg, reduceIte, reduceCtorEq, Nat.lt_irrefl]
  exact put_ok hR h4 h8 (fun w' h => by
    simp (decide := true) only [r34_177, r34_178, r34_181, r34_182, r34_183, r34_186, r34_189, r34_190, r34_191, r34_194, Option.toList_some, List.cons_append, List.nil_append]
    exact hQ w' h)
/-! CHANGES of the class's books and scratch in a run -/
theorem Sh.gl {w : sm_W} {p : Nat} {f : Nat → Int32} (hS : Sh w) (hp : p < 4) : Sh (w.set (4 + p) (.inl (0, 4, .inl f))) := by
  match p, hp with
  | 0, _ => exact hS.p4
  | 1, _ => exact hS.p5
  | 2, _ => exact hS.p6
  | 3, _ => exact hS.p7
theorem Sh.lo {w : sm_W} {p : Nat} {f : Nat → Int32} (hS : Sh w) (hp : p < 4) : Sh (w.set (9 + p) (.inl (0, 12, .inl f))) := by
  match p, hp with
  | 0, _ => exact hS.p9
  | 1, _ => exact hS.p10
  | 2, _ => exact hS.p11
  | 3, _ => exact hS.p12
theorem Sh.sc {w : sm_W} {p : Nat} {f : Nat → Int32} (hS : Sh w) (hp : p < 4) : Sh (w.set (48 + 2 * p) (.inl (0, 4, .inl f))) := by
  match p, hp with
  | 0, _ => exact hS.p48
  | 1, _ => exact hS.p50
  | 2, _ => exact hS.p52
  | 3, _ => exact hS.p54
theorem BkC.gl {w : sm_W} {S : sm_S} {p k v : Nat} (h : BkC 1 w S) (hl : w.length = 74) (hp : p < 4) (hk : k < 4) : BkC 1 (w.set (4 + p) (.inl (0, 4, .inl (upd (wi w (4 + p)) k (nI v))))) (s_up S 0 (6 + p * 4 + k) v) := by
  obtain ⟨b1, b2, b3, b4, b5, b6⟩ := h
  refine ⟨fun a h => ?_, fun p' hp' k' hk' => ?_, fun a h => ?_, fun p' hp' i hi => ?_, ?_, fun i hi h8 => ?_⟩
  · rw [wi_o (by omega), s_up_o (Or.inr (by omega))]; exact b1 a h
  · by_cases e : p' = p
    · subst e
      rw [show 1 + 3 + p' = 4 + p' by omega, wi_s (by omega)]
      by_cases e2 : k' = k
      · subst e2
        rw [pk_us, s_up_s]
      · rw [pk_un e2, s_up_o (Or.inr (by omega)), ← b2 p' hp' k' hk', show 1 + 3 + p' = 4 + p' by omega]
    · rw [wi_o (by omega), s_up_o (Or.inr (by omega))]; exact b2 p' hp' k' hk'
  · rw [wi_o (by omega)]
    unfold s_ob
    rw [s_up_o (Or.inr (by omega)), s_up_o (Or.inr (by omega)), s_up_o (Or.inr (by omega)), s_up_o (Or.inr (by omega))]
    exact b3 a h
  · rw [wi_o (by omega), s_up_o (Or.inr (by omega))]; exact b4 p' hp' i hi
  · rw [wn_o (by omega)]; exact b5
  · rw [wi_o (by omega)]; exact b6 i hi h8
theorem BkC.lo {w : sm_W} {S : sm_S} {p k v : Nat} (h : BkC 1 w S) (hl : w.length = 74) (hp : p < 4) (hk : k < 12) : BkC 1 (w.set (9 + p) (.inl (0, 12, .inl (upd (wi w (9 + p)) k (nI v))))) (s_up S 0 (46 + p * 12 + k) v) := by
  obtain ⟨b1, b2, b3, b4, b5, b6⟩ := h
  refine ⟨fun a h => ?_, fun p' hp' k' hk' => ?_, fun a h => ?_, fun p' hp' i hi => ?_, ?_, fun i hi h8 => ?_⟩
  · rw [wi_o (by omega), s_up_o (Or.inr (by omega))]; exact b1 a h
  · rw [wi_o (by omega), s_up_o (Or.inr (by omega))]; exact b2 p' hp' k' hk'
  · rw [wi_o (by omega)]
    unfold s_ob
    rw [s_up_o (Or.inr (by omega)), s_up_o (Or.inr (by omega)), s_up_o (Or.inr (by omega)), s_up_o (Or.inr (by omega))]
    exact b3 a h
  · by_cases e : p' = p
    · subst e
      rw [show 1 + 8 + p' = 9 + p' by omega, wi_s (by omega)]
      by_cases e2 : i = k
      · subst e2
        rw [pk_us, s_up_s]
      · rw [pk_un e2, s_up_o (Or.inr (by omega)), ← b4 p' hp' i hi, show 1 + 8 + p' = 9 + p' by omega]
    · rw [wi_o (by omega), s_up_o (Or.inr (by omega))]; exact b4 p' hp' i hi
  · rw [wn_o (by omega)]; exact b5
  · rw [wi_o (by omega)]; exact b6 i hi h8
theorem ScC.up {w : sm_W} {S : sm_S} {t k v : Nat} (h : ScC w S) (hl : w.length = 74) (ht : t < 4) (hk : k < 4) : ScC (w.set (48 + 2 * t) (.inl (0, 4, .inl (upd (wi w (48 + 2 * t)) k (nI v))))) (s_up S 9 (t * 4 + k) v) := by
  intro t' ht' k' hk'
  by_cases e : t' = t
  · subst e
    rw [wi_s (by omega)]
    by_cases e2 : k' = k
    · subst e2
      rw [pk_us, s_up_s]
    · rw [pk_un e2, s_up_o (Or.inr (by omega))]
      exact h t' ht' k' hk'
  · rw [wi_o (by omega), s_up_o (Or.inr (by omega))]
    exact h t' ht' k' hk'
theorem RnC.gl {w : sm_W} {S : sm_S} {t q p k v : Nat} (h : RnC w S t q) (h4 : S 10 1 ≤ 4) (hp : p < 4) (hk : k < 4) : RnC (w.set (4 + p) (.inl (0, 4, .inl (upd (wi w (4 + p)) k (nI v))))) (s_up S 0 (6 + p * 4 + k) v) t q := by
  obtain ⟨h1, h2, h3, hg, h5, h6, h7, h8⟩ := h
  exact ⟨h1.gl hp, h2.gl h1.1 hp hk, h3.o (by omega), hg.o h4 (by omega), h5.o (by omega), h6.o (by omega), h7.o (by omega), by rw [wn_o (by omega)]; exact h8⟩
theorem RnC.lo {w : sm_W} {S : sm_S} {t q p k v : Nat} (h : RnC w S t q) (h4 : S 10 1 ≤ 4) (hp : p < 4) (hk : k < 12) : RnC (w.set (9 + p) (.inl (0, 12, .inl (upd (wi w (9 + p)) k (nI v))))) (s_up S 0 (46 + p * 12 + k) v) t q := by
  obtain ⟨h1, h2, h3, hg, h5, h6, h7, h8⟩ := h
  exact ⟨h1.lo hp, h2.lo h1.1 hp hk, h3.o (by omega), hg.o h4 (by omega), h5.o (by omega), h6.o (by omega), h7.o (by omega), by rw [wn_o (by omega)]; exact h8⟩
theorem RnC.sc {w : sm_W} {S : sm_S} {t q k v : Nat} (h : RnC w S t q) (h4 : S 10 1 ≤ 4) (ht : t < 4) (hk : k < 4) : RnC (w.set (48 + 2 * t) (.inl (0, 4, .inl (upd (wi w (48 + 2 * t)) k (nI v))))) (s_up S 9 (t * 4 + k) v) t q := by
  obtain ⟨h1, h2, h3, hg, h5, h6, h7, h8⟩ := h
  exact ⟨h1.sc ht, h2.o (by omega), h3.o (by omega), hg.o h4 (by omega), h5.up h1.1 ht hk, h6.o (by omega), h7.o (by omega), by rw [wn_o (by omega)]; exact h8⟩
/-- one log more -/
def s_log (S : sm_S) (v : Nat) : sm_S := s_up (s_up S 1 (S 10 0) v) 10 0 (S 10 0 + 1)
theorem BkC.log {w : sm_W} {S : sm_S} {v : Nat} (h : BkC 1 w S) (hl : w.length = 74) : BkC 1 ((w.set 14 (.inl (0, 8, .inl (upd (wi w 14) (S 10 0 % 8) (nI v))))).set 1 (.inr (0, [.ref 102, .ref 103, .ref 108, .ref 113, .ref 114, .int (nI (S 10 0 + 1))]))) (s_log S v) := by
  obtain ⟨b1, b2, b3, b4, b5, b6⟩ := h
  refine ⟨fun a h => ?_, fun p' hp' k' hk' => ?_, fun a h => ?_, fun p' hp' i hi => ?_, ?_, fun i hi h8 => ?_⟩
  · rw [wi_o (by omega), wi_o (by omega)]; exact b1 a h
  · rw [wi_o (by omega), wi_o (by omega)]; exact b2 p' hp' k' hk'
  · rw [wi_o (by omega), wi_o (by omega)]; exact b3 a h
  · rw [wi_o (by omega), wi_o (by omega)]; exact b4 p' hp' i hi
  · exact wn1_5 (by rw [List.length_set]; exact hl)
  · rw [wi_o (by omega), wi_s (by omega)]
    have e10 : s_log S v 10 0 = S 10 0 + 1 := rfl
    rw [e10] at hi h8
    have e1 : s_log S v 1 i = if i = S 10 0 then v else S 1 i := rfl
    rw [e1]
    by_cases e : i = S 10 0
    · subst e
      rw [pk_us, if_pos rfl]
    · rw [pk_un (by omega), if_neg e]
      exact b6 i (by omega) (by omega)
theorem RnC.log {w : sm_W} {S : sm_S} {t q v : Nat} (h : RnC w S t q) (h4 : S 10 1 ≤ 4) : RnC ((w.set 14 (.inl (0, 8, .inl (upd (wi w 14) (S 10 0 % 8) (nI v))))).set 1 (.inr (0, [.ref 102, .ref 103, .ref 108, .ref 113, .ref 114, .int (nI (S 10 0 + 1))]))) (s_log S v) t q := by
  obtain ⟨h1, h2, h3, hg, h5, h6, h7, h8⟩ := h
  refine ⟨h1.p14.p1, h2.log h1.1, (h3.o (by omega)).o (by omega), (hg.o h4 (by omega)).o h4 (by omega), (h5.o (by omega)).o (by omega), (h6.o (by omega)).o (by omega), (h7.o (by omega)).o (by omega), by rw [wn_o (by omega), wn_o (by omega)]; exact h8⟩
/-! SMALL METHODS of the class: isOpted, hasPayment, hasCall, addLog; and the start of the acts that take one or two (gen/n4.py) -/
theorem s_ob_bit {S : sm_S} {p a : Nat} (ho : ∀ i, 22 ≤ i → i < 46 → S 0 i ≤ 1) (hp : p < 4) (ha : a < 6) : (nI (s_ob S a) &&& 1 <<< (nI p &&& 31) = 0) ↔ ¬ S 0 (22 + p * 6 + a) = 1 := by
  have h := ob_bit (f := fun i => S 0 (22 + i * 6 + a)) (fun i hi => ho _ (by omega) (by omega)) hp
  have e : s_ob S a = S 0 (22 + 0 * 6 + a) + 2 * S 0 (22 + 1 * 6 + a) + 4 * S 0 (22 + 2 * 6 + a) + 8 * S 0 (22 + 3 * 6 + a) := by
    unfold s_ob
    rw [show 22 + 0 * 6 + a = 22 + a by omega, show 22 + 1 * 6 + a = 28 + a by omega, show 22 + 2 * 6 + a = 34 + a by omega, show 22 + 3 * 6 + a = 40 + a by omega]
  rw [e]
  refine h.trans ?_
  have := ho (22 + p * 6 + a) (by omega) (by omega)
  exact ⟨fun h => by omega, fun h => by omega⟩
theorem io_C {X : sm_X} {w : sm_W} {Q : Option Value → sm_W → Prop} {S : sm_S} {p a : Nat} (hS : Sh w) (h2 : wi w 13 a = nI (s_ob S a)) (ho : ∀ i, 22 ≤ i → i < 46 → S 0 i ≤ 1) (hp : p < 4) (ha : a < 6) : sm_R X 27 0 [.ref 101, .int (nI p), .int (nI a)] [] w Q ↔ Q (some (.int (if S 0 (22 + p * 6 + a) = 1 then 1 else 0))) w := by
  have z1 : sm_in (nI a) 6 = true := sm_in_nI ha (by decide)
  have z2 : (nI a).toNatClampNeg = a := nI_clamp (by omega)
  have z3 := s_ob_bit ho hp ha
  by_cases e : S 0 (22 + p * 6 + a) = 1
  · have z4 : ¬ (nI (s_ob S a) &&& 1 <<< (nI p &&& 31) = 0) := fun q => z3.mp q e
    rw [if_pos e]
    simp (decide := true) only [r27_0, r27_1, r27_4, r27_5, r27_6, r27_7, r27_8, r27_9, r27_10, r27_13, r27_14, r27_17, r27_18 (s0 := 0) (Or.inl rfl), r27_18 (s0 := 1) (Or.inr rfl), h2, z1, z2, z4, sh1 hS, sh13 hS, sm_wp_some, sm_wp_none, sm_at, sm_get, sm_fld, sm_pfl, sm_cN, sm_ai, sm_al, sm_si, sm_slg, sm_aa, List.getElem?_cons_zero, List.getElem?_cons_succ, List.set_cons_zero, List.set_cons_succ, List.length_cons, List.length_nil, Option.toList_some, Option.toList_none, List.cons_append, List.nil_append, if_true, if_false, true_and, and_true, Option.some.injEq, gs_o, gs_s, List.length_set, hS.1, pk_us, Nat.reduceLT, Nat.reduceLeDiff, Nat.reduceSub, Nat.reduceEqDiff, Nat.reduceAdd, Int32.reduceLT, Int32.reduceLE, Int32.reduceAdd, Int32.reduceSub, Int32.reduceToNatClampNeg, reduceIte, reduceCtorEq, Nat.lt_irrefl]
  · have z4 : nI (s_ob S a) &&& 1 <<< (nI p &&& 31) = 0 := z3.mpr e
    rw [if_neg e]
    simp (decide := true) only [r27_0, r27_1, r27_4, r27_5, r27_6, r27_7, r27_8, r27_9, r27_10, r27_13, r27_14, r27_17, r27_18 (s0 := 0) (Or.inl rfl), r27_18 (s0 := 1) (Or.inr rfl), h2, z1, z2, z4, sh1 hS, sh13 hS, sm_wp_some, sm_wp_none, sm_at, sm_get, sm_fld, sm_pfl, sm_cN, sm_ai, sm_al, sm_si, sm_slg, sm_aa, List.getElem?_cons_zero, List.getElem?_cons_succ, List.set_cons_zero, List.set_cons_succ, List.length_cons, List.length_nil, Option.toList_some, Option.toList_none, List.cons_append, List.nil_append, if_true, if_false, true_and, and_true, Option.some.injEq, gs_o, gs_s, List.length_set, hS.1, pk_us, Nat.reduceLT, Nat.reduceLeDiff, Nat.reduceSub, Nat.reduceEqDiff, Nat.reduceAdd, Int32.reduceLT, Int32.reduceLE, Int32.reduceAdd, Int32.reduceSub, Int32.reduceToNatClampNeg, reduceIte, reduceCtorEq, Nat.lt_irrefl]
theorem hp_C {X : sm_X} {w : sm_W} {Q : Option Value → sm_W → Prop} {S : sm_S} {y : Nat} (hS : Sh w) (hG : GrC w S) (h4 : S 10 1 ≤ 4) (hy : y < 2 ^ 31) : sm_R X 42 0 [.ref 145, .int (nI y)] [] w Q ↔ Q (some (.int (if y < S 10 1 ∧ S 4 y = 3 then 1 else 0))) w := by
  have z0 : ¬ nI y < 0 := nI_pos hy
  have z1 : wn w 45 1 = nI (S 10 1) := hG.1
  by_cases e : y < S 10 1
  · have z2 : ¬ nI (S 10 1) ≤ nI y := nI_ge e (by omega)
    have z3 : sm_in (nI y) 4 = true := sm_in_nI (by omega) (by decide)
    have z4 : (nI y).toNatClampNeg = y := nI_clamp (by omega)
    have hy4 : y < 4 := by omega
    have z5 := zr46_p hy4
    have z6 : ¬ (147 + 2 * y < 100) := by omega
    have z7 : 147 + 2 * y - 100 = 47 + 2 * y := by omega
    have z8 := shTr hS hy4
    by_cases e2 : S 4 y = 3
    · have z9 : wn w (47 + 2 * y) 0 = 1 := ((hG.2 y e).1 e2).1
      rw [if_pos ⟨e, e2⟩]
      simp (decide := true) only [r42_0, r42_1, r42_4, r42_5, r42_6, r42_9, r42_12, r42_13, r42_16, r42_17, r42_18, r42_21, r42_24, r42_25, r42_28, r42_29 (s0 := 0) (Or.inl rfl), r42_29 (s0 := 1) (Or.inr rfl), z0, z1, z2, z3, z4, z5, z6, z7, z8, z9, sh45 hS, sh46 hS, sm_wp_some, sm_wp_none, sm_at, sm_get, sm_fld, sm_pfl, sm_cN, sm_ai, sm_al, sm_si, sm_slg, sm_aa, List.getElem?_cons_zero, List.getElem?_cons_succ, List.set_cons_zero, List.set_cons_succ, List.length_cons, List.length_nil, Option.toList_some, Option.toList_none, List.cons_append, List.nil_append, if_true, if_false, true_and, and_true, Option.some.injEq, gs_o, gs_s, List.length_set, hS.1, pk_us, Nat.reduceLT, Nat.reduceLeDiff, Nat.reduceSub, Nat.reduceEqDiff, Nat.reduceAdd, Int32.reduceLT, Int32.reduceLE, Int32.reduceAdd, Int32.reduceSub, Int32.reduceToNatClampNeg, reduceIte, reduceCtorEq, Nat.lt_irrefl]
    · have z9 : wn w (47 + 2 * y) 0 = 0 := ((hG.2 y e).2.1 e2).1
      rw [if_neg (fun q => e2 q.2)]
      simp (decide := true) only [r42_0, r42_1, r42_4, r42_5, r42_6, r42_9, r42_12, r42_13, r42_16, r42_17, r42_18, r42_21, r42_24, r42_25, r42_28, r42_29 (s0 := 0) (Or.inl rfl), r42_29 (s0 := 1) (Or.inr rfl), z0, z1, z2, z3, z4, z5, z6, z7, z8, z9, sh45 hS, sh46 hS, sm_wp_some, sm_wp_none, sm_at, sm_get, sm_fld, sm_pfl, sm_cN, sm_ai, sm_al, sm_si, sm_slg, sm_aa, List.getElem?_cons_zero, List.getElem?_cons_succ, List.set_cons_zero, List.set_cons_succ, List.length_cons, List.length_nil, Option.toList_some, Option.toList_none, List.cons_append, List.nil_append, if_true, if_false, true_and, and_true, Option.some.injEq, gs_o, gs_s, List.length_set, hS.1, pk_us, Nat.reduceLT, Nat.reduceLeDiff, Nat.reduceSub, Nat.reduceEqDiff, Nat.reduceAdd, Int32.reduceLT, Int32.reduceLE, Int32.reduceAdd, Int32.reduceSub, Int32.reduceToNatClampNeg, reduceIte, reduceCtorEq, Nat.lt_irrefl]
  · have z2 : nI (S 10 1) ≤ nI y := nI_le (by omega) hy
    rw [if_neg (fun q => e q.1)]
    simp (decide := true) only [r42_0, r42_1, r42_4, r42_5, r42_6, r42_9, r42_12, r42_13, r42_16, r42_17, r42_18, r42_21, r42_24, r42_25, r42_28, r42_29 (s0 := 0) (Or.inl rfl), r42_29 (s0 := 1) (Or.inr rfl), z0, z1, z2, sh45 hS, sh46 hS, sm_wp_some, sm_wp_none, sm_at, sm_get, sm_fld, sm_pfl, sm_cN, sm_ai, sm_al, sm_si, sm_slg, sm_aa, List.getElem?_cons_zero, List.getElem?_cons_succ, List.set_cons_zero, List.set_cons_succ, List.length_cons, List.length_nil, Option.toList_some, Option.toList_none, List.cons_append, List.nil_append, if_true, if_false, true_and, and_true, Option.some.injEq, gs_o, gs_s, List.length_set, hS.1, pk_us, Nat.reduceLT, Nat.reduceLeDiff, Nat.reduceSub, Nat.reduceEqDiff, Nat.reduceAdd, Int32.reduceLT, Int32.reduceLE, Int32.reduceAdd, Int32.reduceSub, Int32.reduceToNatClampNeg, reduceIte, reduceCtorEq, Nat.lt_irrefl]
theorem hc_C {X : sm_X} {w : sm_W} {Q : Option Value → sm_W → Prop} {S : sm_S} {y : Nat} (hS : Sh w) (hG : GrC w S) (h4 : S 10 1 ≤ 4) (hy : y < 2 ^ 31) : sm_R X 43 0 [.ref 145, .int (nI y)] [] w Q ↔ Q (some (.int (if y < S 10 1 ∧ S 4 y ≠ 3 then 1 else 0))) w := by
  have z0 : ¬ nI y < 0 := nI_pos hy
  have z1 : wn w 45 1 = nI (S 10 1) := hG.1
  by_cases e : y < S 10 1
  · have z2 : ¬ nI (S 10 1) ≤ nI y := nI_ge e (by omega)
    have z3 : sm_in (nI y) 4 = true := sm_in_nI (by omega) (by decide)
    have z4 : (nI y).toNatClampNeg = y := nI_clamp (by omega)
    have hy4 : y < 4 := by omega
    have z5 := zr46_p hy4
    have z6 : ¬ (147 + 2 * y < 100) := by omega
    have z7 : 147 + 2 * y - 100 = 47 + 2 * y := by omega
    have z8 := shTr hS hy4
    by_cases e2 : S 4 y = 3
    · have z9 : wn w (47 + 2 * y) 0 = 1 := ((hG.2 y e).1 e2).1
      rw [if_neg (fun q => q.2 e2)]
      simp (decide := true) only [r43_0, r43_1, r43_4, r43_5, r43_6, r43_9, r43_12, r43_13, r43_16, r43_17, r43_18, r43_21, r43_24, r43_25, r43_28, r43_29 (s0 := 0) (Or.inl rfl), r43_29 (s0 := 1) (Or.inr rfl), z0, z1, z2, z3, z4, z5, z6, z7, z8, z9, sh45 hS, sh46 hS, sm_wp_some, sm_wp_none, sm_at, sm_get, sm_fld, sm_pfl, sm_cN, sm_ai, sm_al, sm_si, sm_slg, sm_aa, List.getElem?_cons_zero, List.getElem?_cons_succ, List.set_cons_zero, List.set_cons_succ, List.length_cons, List.length_nil, Option.toList_some, Option.toList_none, List.cons_append, List.nil_append, if_true, if_false, true_and, and_true, Option.some.injEq, gs_o, gs_s, List.length_set, hS.1, pk_us, Nat.reduceLT, Nat.reduceLeDiff, Nat.reduceSub, Nat.reduceEqDiff, Nat.reduceAdd, Int32.reduceLT, Int32.reduceLE, Int32.reduceAdd, Int32.reduceSub, Int32.reduceToNatClampNeg, reduceIte, reduceCtorEq, Nat.lt_irrefl]
    · have z9 : wn w (47 + 2 * y) 0 = 0 := ((hG.2 y e).2.1 e2).1
      rw [if_pos ⟨e, e2⟩]
      simp (decide := true) only [r43_0, r43_1, r43_4, r43_5, r43_6, r43_9, r43_12, r43_13, r43_16, r43_17, r43_18, r43_21, r43_24, r43_25, r43_28, r43_29 (s0 := 0) (Or.inl rfl), r43_29 (s0 := 1) (Or.inr rfl), z0, z1, z2, z3, z4, z5, z6, z7, z8, z9, sh45 hS, sh46 hS, sm_wp_some, sm_wp_none, sm_at, sm_get, sm_fld, sm_pfl, sm_cN, sm_ai, sm_al, sm_si, sm_slg, sm_aa, List.getElem?_cons_zero, List.getElem?_cons_succ, List.set_cons_zero, List.set_cons_succ, List.length_cons, List.length_nil, Option.toList_some, Option.toList_none, List.cons_append, List.nil_append, if_true, if_false, true_and, and_true, Option.some.injEq, gs_o, gs_s, List.length_set, hS.1, pk_us, Nat.reduceLT, Nat.reduceLeDiff, Nat.reduceSub, Nat.reduceEqDiff, Nat.reduceAdd, Int32.reduceLT, Int32.reduceLE, Int32.reduceAdd, Int32.reduceSub, Int32.reduceToNatClampNeg, reduceIte, reduceCtorEq, Nat.lt_irrefl]
  · have z2 : nI (S 10 1) ≤ nI y := nI_le (by omega) hy
    rw [if_neg (fun q => e q.1)]
    simp (decide := true) only [r43_0, r43_1, r43_4, r43_5, r43_6, r43_9, r43_12, r43_13, r43_16, r43_17, r43_18, r43_21, r43_24, r43_25, r43_28, r43_29 (s0 := 0) (Or.inl rfl), r43_29 (s0 := 1) (Or.inr rfl), z0, z1, z2, sh45 hS, sh46 hS, sm_wp_some, sm_wp_none, sm_at, sm_get, sm_fld, sm_pfl, sm_cN, sm_ai, sm_al, sm_si, sm_slg, sm_aa, List.getElem?_cons_zero, List.getElem?_cons_succ, List.set_cons_zero, List.set_cons_succ, List.length_cons, List.length_nil, Option.toList_some, Option.toList_none, List.cons_append, List.nil_append, if_true, if_false, true_and, and_true, Option.some.injEq, gs_o, gs_s, List.length_set, hS.1, pk_us, Nat.reduceLT, Nat.reduceLeDiff, Nat.reduceSub, Nat.reduceEqDiff, Nat.reduceAdd, Int32.reduceLT, Int32.reduceLE, Int32.reduceAdd, Int32.reduceSub, Int32.reduceToNatClampNeg, reduceIte, reduceCtorEq, Nat.lt_irrefl]
theorem al_C {X : sm_X} {w : sm_W} {Q : Option Value → sm_W → Prop} {S : sm_S} {v : Nat} (hS : Sh w) (h5 : wn w 1 5 = nI (S 10 0)) (hl : S 10 0 < 2 ^ 30) : sm_R X 40 0 [.ref 101, .int (nI v)] [] w Q ↔ Q none ((w.set 14 (.inl (0, 8, .inl (upd (wi w 14) (S 10 0 % 8) (nI v))))).set 1 (.inr (0, [.ref 102, .ref 103, .ref 108, .ref 113, .ref 114, .int (nI (S 10 0 + 1))]))) := by
  have z1 : nI (S 10 0) - nI (S 10 0) / 8 * 8 = nI (S 10 0 % 8) := pk_rem (d := 8) (by omega) (by decide) (by decide)
  have z2 : sm_in (nI (S 10 0 % 8)) 8 = true := sm_in_nI (by omega) (by decide)
  have z3 : (nI (S 10 0 % 8)).toNatClampNeg = S 10 0 % 8 := nI_clamp (by omega)
  have z4 : nI (S 10 0) + 1 = nI (S 10 0 + 1) := nI_1 _
  simp (decide := true) only [r40_0, r40_1, r40_4, r40_5, r40_8, r40_10, r40_11, r40_12, r40_13, r40_14, r40_15, r40_18, r40_19, r40_20, r40_23, h5, z1, z2, z3, z4, sh1 hS, sh14 hS, sm_wp_some, sm_wp_none, sm_at, sm_get, sm_fld, sm_pfl, sm_cN, sm_ai, sm_al, sm_si, sm_slg, sm_aa, List.getElem?_cons_zero, List.getElem?_cons_succ, List.set_cons_zero, List.set_cons_succ, List.length_cons, List.length_nil, Option.toList_some, Option.toList_none, List.cons_append, List.nil_append, if_true, if_false, true_and, and_true, Option.some.injEq, gs_o, gs_s, List.length_set, hS.1, pk_us, Nat.reduceLT, Nat.reduceLeDiff, Nat.reduceSub, Nat.reduceEqDiff, Nat.reduceAdd, Int32.reduceLT, Int32.reduceLE, Int32.reduceAdd, Int32.reduceSub, Int32.reduceToNatClampNeg, reduceIte, reduceCtorEq, Nat.lt_irrefl]
theorem one_C {X : sm_X} {w : sm_W} {Q : Option Value → sm_W → Prop} {S : sm_S} {c m : Nat} {a : Int32} (hS : Sh w) (hm : m < 8) (ht : wn w 56 2 = nI (m + 1)) : sm_R X 37 0 [.ref 155, .ref c, .int a, sm_J, sm_J] [] w Q ↔ sm_R X 37 17 [.ref 155, .ref c, .int a, .int (wi w 57 m), .int (wi w 58 m)] [] (w.set 56 (.inr (4, [.ref 157, .ref 158, .int (nI m)]))) Q := by
  simp (decide := true) only [r37_0, r37_1, r37_4, r37_7, r37_8, r37_9, r37_12, r37_15, top_C hS hm ht, take_C hS hm ht, sh55 hS, sh56 hS, sm_wp_some, sm_wp_none, sm_at, sm_get, sm_fld, sm_pfl, sm_cN, sm_ai, sm_al, sm_si, sm_slg, sm_aa, List.getElem?_cons_zero, List.getElem?_cons_succ, List.set_cons_zero, List.set_cons_succ, List.length_cons, List.length_nil, Option.toList_some, Option.toList_none, List.cons_append, List.nil_append, if_true, if_false, true_and, and_true, Option.some.injEq, gs_o, gs_s, List.length_set, hS.1, pk_us, Nat.reduceLT, Nat.reduceLeDiff, Nat.reduceSub, Nat.reduceEqDiff, Nat.reduceAdd, Int32.reduceLT, Int32.reduceLE, Int32.reduceAdd, Int32.reduceSub, Int32.reduceToNatClampNeg, reduceIte, reduceCtorEq, Nat.lt_irrefl]
theorem two_C {X : sm_X} {w : sm_W} {Q : Option Value → sm_W → Prop} {S : sm_S} {c m : Nat} {a : Int32} (hS : Sh w) (hm : m < 7) (ht : wn w 56 2 = nI (m + 2)) : sm_R X 44 0 [.ref 155, .ref c, .int a, sm_J, sm_J, sm_J, sm_J] [] w Q ↔ sm_R X 44 35 [.ref 155, .ref c, .int a, .int (wi w 57 (m + 1)), .int (wi w 58 (m + 1)), .int (wi w 57 m), .int (wi w 58 m)] [] (w.set 56 (.inr (4, [.ref 157, .ref 158, .int (nI m)]))) Q := by
  have hS1 := hS.p56 (x2 := nI (m + 1))
  have ht1 : wn (w.set 56 (.inr (4, [.ref 157, .ref 158, .int (nI (m + 1))]))) 56 2 = nI (m + 1) := wn56_2 hS.1
  have y1 : wi (w.set 56 (.inr (4, [.ref 157, .ref 158, .int (nI (m + 1))]))) 57 = wi w 57 := wi_o (by decide)
  have y2 : wi (w.set 56 (.inr (4, [.ref 157, .ref 158, .int (nI (m + 1))]))) 58 = wi w 58 := wi_o (by decide)
  have y3 : ∀ c, ((w.set 56 (.inr (4, [.ref 157, .ref 158, .int (nI (m + 1))]))).set 56 c) = w.set 56 c := fun c => List.set_set ..
  simp (decide := true) only [r44_0, r44_1, r44_4, r44_7, r44_8, r44_9, r44_12, r44_15, r44_17, r44_18, r44_21, r44_24, r44_26, r44_27, r44_30, r44_33, top_C hS (by omega : m + 1 < 8) ht, take_C hS (by omega : m + 1 < 8) ht, top_C hS1 (by omega : m < 8) ht1, take_C hS1 (by omega : m < 8) ht1, y1, y2, List.set_set, sh55 hS, sh56 hS, sm_wp_some, sm_wp_none, sm_at, sm_get, sm_fld, sm_pfl, sm_cN, sm_ai, sm_al, sm_si, sm_slg, sm_aa, List.getElem?_cons_zero, List.getElem?_cons_succ, List.set_cons_zero, List.set_cons_succ, List.length_cons, List.length_nil, Option.toList_some, Option.toList_none, List.cons_append, List.nil_append, if_true, if_false, true_and, and_true, Option.some.injEq, gs_o, gs_s, List.length_set, hS.1, pk_us, Nat.reduceLT, Nat.reduceLeDiff, Nat.reduceSub, Nat.reduceEqDiff, Nat.reduceAdd, Int32.reduceLT, Int32.reduceLE, Int32.reduceAdd, Int32.reduceSub, Int32.reduceToNatClampNeg, reduceIte, reduceCtorEq, Nat.lt_irrefl]
