/-! THE CONSTRUCTORS (gen/init2.py): both runs by evaluation -/
def iwA : sm_W := [.inr (6, [.ref 101, .ref 115, .ref 129, .ref 132, .ref 145, .ref 155, .int (-3), .int 0, .int 0]),
  .inr (0, [.ref 102, .ref 103, .ref 108, .ref 113, .ref 114, .int 0]),
  .inl (0, 6, .inl (fun _ => 0)),
  .inl (2, 4, .inr (.inr (.inr (.inr (fun i => if i < 4 then some (104 + i) else none))))),
  .inl (0, 4, .inl (fun _ => 0)),
  .inl (0, 4, .inl (fun _ => 0)),
  .inl (0, 4, .inl (fun _ => 0)),
  .inl (0, 4, .inl (fun _ => 0)),
  .inl (2, 4, .inr (.inr (.inr (.inr (fun i => if i < 4 then some (109 + i) else none))))),
  .inl (0, 12, .inl (fun _ => 0)),
  .inl (0, 12, .inl (fun _ => 0)),
  .inl (0, 12, .inl (fun _ => 0)),
  .inl (0, 12, .inl (fun _ => 0)),
  .inl (0, 6, .inl (fun _ => 0)),
  .inl (0, 8, .inl (fun _ => 0)),
  .inr (0, [.ref 116, .ref 117, .ref 122, .ref 127, .ref 128, .int 0]),
  .inl (0, 6, .inl (fun _ => 0)),
  .inl (2, 4, .inr (.inr (.inr (.inr (fun i => if i < 4 then some (118 + i) else none))))),
  .inl (0, 4, .inl (fun _ => 0)),
  .inl (0, 4, .inl (fun _ => 0)),
  .inl (0, 4, .inl (fun _ => 0)),
  .inl (0, 4, .inl (fun _ => 0)),
  .inl (2, 4, .inr (.inr (.inr (.inr (fun i => if i < 4 then some (123 + i) else none))))),
  .inl (0, 12, .inl (fun _ => 0)),
  .inl (0, 12, .inl (fun _ => 0)),
  .inl (0, 12, .inl (fun _ => 0)),
  .inl (0, 12, .inl (fun _ => 0)),
  .inl (0, 6, .inl (fun _ => 0)),
  .inl (0, 8, .inl (fun _ => 0)),
  .inr (3, [.ref 130, .ref 131, .int 0]),
  .inl (0, 32, .inl (fun _ => 0)),
  .inl (0, 32, .inl (fun _ => 0)),
  .inl (3, 4, .inr (.inr (.inr (.inr (va_up (va_up (va_up (va_up (fun _ => none) 0 (some 133)) 1 (some 136)) 2 (some 139)) 3 (some 142)))))),
  .inr (3, [.ref 134, .ref 135, .int 0]),
  .inl (0, 32, .inl (fun _ => 0)),
  .inl (0, 32, .inl (fun _ => 0)),
  .inr (3, [.ref 137, .ref 138, .int 0]),
  .inl (0, 32, .inl (fun _ => 0)),
  .inl (0, 32, .inl (fun _ => 0)),
  .inr (3, [.ref 140, .ref 141, .int 0]),
  .inl (0, 32, .inl (fun _ => 0)),
  .inl (0, 32, .inl (fun _ => 0)),
  .inr (3, [.ref 143, .ref 144, .int 0]),
  .inl (0, 32, .inl (fun _ => 0)),
  .inl (0, 32, .inl (fun _ => 0)),
  .inr (1, [.ref 146, .int 0]),
  .inl (4, 4, .inr (.inr (.inr (.inr (va_up (va_up (va_up (va_up (fun _ => none) 0 (some 147)) 1 (some 149)) 2 (some 151)) 3 (some 153)))))),
  .inr (5, [.int 0, .int 0, .int 0, .int 0, .int 0, .int 0, .int 0, .int 0, .ref 148]),
  .inl (0, 4, .inl (fun _ => 0)),
  .inr (5, [.int 0, .int 0, .int 0, .int 0, .int 0, .int 0, .int 0, .int 0, .ref 150]),
  .inl (0, 4, .inl (fun _ => 0)),
  .inr (5, [.int 0, .int 0, .int 0, .int 0, .int 0, .int 0, .int 0, .int 0, .ref 152]),
  .inl (0, 4, .inl (fun _ => 0)),
  .inr (5, [.int 0, .int 0, .int 0, .int 0, .int 0, .int 0, .int 0, .int 0, .ref 154]),
  .inl (0, 4, .inl (fun _ => 0)),
  .inr (2, [.ref 101, .ref 145, .ref 156, .int 0, .int 0, .int 0, .int (-3), .ref 147, .int 0, .int 0, .int 0]),
  .inr (4, [.ref 157, .ref 158, .int 0]),
  .inl (0, 8, .inl (fun _ => 0)),
  .inl (0, 8, .inl (fun _ => 0))]
def iwZ : sm_W := iwA ++ [.inr (7, [.ref 160, .ref 161, .ref 162, .ref 163, .ref 164, .int 0, .ref 165, .ref 166, .ref 167, .ref 168, .ref 169, .ref 170, .int (-3), .int (-3), .int (-3), .int (-3), .int 0, .int 0, .int 0, .int 0, .int 0, .ref 171, .ref 172, .ref 173, .int 0, .int 0]),
  .inl (1, 94, .inr (.inl (fun _ => 0))),
  .inl (1, 94, .inr (.inl (fun _ => 0))),
  .inl (0, 160, .inl (fun _ => 0)),
  .inl (0, 160, .inl (fun _ => 0)),
  .inl (0, 5, .inl (fun _ => 0)),
  .inl (0, 4, .inl (fun _ => 0)),
  .inl (0, 4, .inl (fun _ => 0)),
  .inl (0, 4, .inl (fun _ => 0)),
  .inl (0, 4, .inl (fun _ => 0)),
  .inl (0, 4, .inl (fun _ => 0)),
  .inl (1, 16, .inr (.inl (fun _ => 0))),
  .inl (1, 8, .inr (.inl (fun _ => 0))),
  .inl (1, 100, .inr (.inl (fun _ => 0))),
  .inl (1, 10, .inr (.inl (fun _ => 0)))]
set_option maxHeartbeats 4000000 in
set_option maxRecDepth 1000000 in
theorem icA {X : sm_X} : sm_ev X 500 0 0 [.ref 100, sm_J] [] [.inr (6, sm_def 6)] = some (none, iwA) := rfl
set_option maxHeartbeats 4000000 in
set_option maxRecDepth 1000000 in
theorem icZ {X : sm_X} : sm_ev X 500 60 0 [.ref 159] [] (iwA ++ [.inr (7, sm_def 7)]) = some (none, iwZ) := rfl
theorem ileA : iwA.length = 59 := rfl
set_option maxHeartbeats 4000000 in
theorem law_init {X : sm_X} {Q : Option Value → sm_W → Prop} (h : sm_R X 93 18 [.ref 99, .ref 100, .ref 159, .int 0] [] iwZ Q) : sm_R X 93 0 [.ref 99, sm_J, sm_J, sm_J] [] [] Q := by
  simp (decide := true) only [r93_0, r93_3, r93_4, sm_wp_some, sm_wp_none, sm_at, sm_get, sm_fld, sm_pfl, sm_cN, sm_ai, sm_al, sm_si, sm_slg, sm_aa, List.getElem?_cons_zero, List.getElem?_cons_succ, List.set_cons_zero, List.set_cons_succ, List.length_cons, List.length_nil, Option.toList_some, Option.toList_none, List.cons_append, List.nil_append, if_true, if_false, true_and, and_true, Option.some.injEq, List.length_set, pk_us, Nat.reduceLT, Nat.reduceLeDiff, Nat.reduceSub, Nat.reduceEqDiff, Nat.reduceAdd, Int32.reduceLT, Int32.reduceLE, Int32.reduceAdd, Int32.reduceSub, Int32.reduceToNatClampNeg, reduceIte, reduceCtorEq, Nat.lt_irrefl]
  refine ⟨500, none, iwA, icA, ?_⟩
  simp (decide := true) only [r93_7, r93_8, r93_11, r93_12, ileA, sm_wp_some, sm_wp_none, sm_at, sm_get, sm_fld, sm_pfl, sm_cN, sm_ai, sm_al, sm_si, sm_slg, sm_aa, List.getElem?_cons_zero, List.getElem?_cons_succ, List.set_cons_zero, List.set_cons_succ, List.length_cons, List.length_nil, Option.toList_some, Option.toList_none, List.cons_append, List.nil_append, if_true, if_false, true_and, and_true, Option.some.injEq, List.length_set, pk_us, Nat.reduceLT, Nat.reduceLeDiff, Nat.reduceSub, Nat.reduceEqDiff, Nat.reduceAdd, Int32.reduceLT, Int32.reduceLE, Int32.reduceAdd, Int32.reduceSub, Int32.reduceToNatClampNeg, reduceIte, reduceCtorEq, Nat.lt_irrefl]
  refine ⟨500, none, iwZ, icZ, ?_⟩
  simp (decide := true) only [r93_15, r93_16, r93_17, sm_wp_some, sm_wp_none, sm_at, sm_get, sm_fld, sm_pfl, sm_cN, sm_ai, sm_al, sm_si, sm_slg, sm_aa, List.getElem?_cons_zero, List.getElem?_cons_succ, List.set_cons_zero, List.set_cons_succ, List.length_cons, List.length_nil, Option.toList_some, Option.toList_none, List.cons_append, List.nil_append, if_true, if_false, true_and, and_true, Option.some.injEq, List.length_set, pk_us, Nat.reduceLT, Nat.reduceLeDiff, Nat.reduceSub, Nat.reduceEqDiff, Nat.reduceAdd, Int32.reduceLT, Int32.reduceLE, Int32.reduceAdd, Int32.reduceSub, Int32.reduceToNatClampNeg, reduceIte, reduceCtorEq, Nat.lt_irrefl]
  exact h
theorem iz3 : ((.inr (.inr (.inr (.inr (fun i => if i < 4 then some (104 + i) else none))))) : (Nat → Int32) ⊕ (Nat → Int64) ⊕ (Nat → UInt32) ⊕ (Nat → UInt64) ⊕ (Nat → Option Nat)) = .inr (.inr (.inr (.inr zr3))) := by
  congr 4
  funext i
  match i with
  | 0 => rfl
  | 1 => rfl
  | 2 => rfl
  | 3 => rfl
  | n + 4 => first | rfl | (simp [zr3, va_up])
theorem iz8 : ((.inr (.inr (.inr (.inr (fun i => if i < 4 then some (109 + i) else none))))) : (Nat → Int32) ⊕ (Nat → Int64) ⊕ (Nat → UInt32) ⊕ (Nat → UInt64) ⊕ (Nat → Option Nat)) = .inr (.inr (.inr (.inr zr8))) := by
  congr 4
  funext i
  match i with
  | 0 => rfl
  | 1 => rfl
  | 2 => rfl
  | 3 => rfl
  | n + 4 => first | rfl | (simp [zr8, va_up])
theorem iz17 : ((.inr (.inr (.inr (.inr (fun i => if i < 4 then some (118 + i) else none))))) : (Nat → Int32) ⊕ (Nat → Int64) ⊕ (Nat → UInt32) ⊕ (Nat → UInt64) ⊕ (Nat → Option Nat)) = .inr (.inr (.inr (.inr zr17))) := by
  congr 4
  funext i
  match i with
  | 0 => rfl
  | 1 => rfl
  | 2 => rfl
  | 3 => rfl
  | n + 4 => first | rfl | (simp [zr17, va_up])
theorem iz22 : ((.inr (.inr (.inr (.inr (fun i => if i < 4 then some (123 + i) else none))))) : (Nat → Int32) ⊕ (Nat → Int64) ⊕ (Nat → UInt32) ⊕ (Nat → UInt64) ⊕ (Nat → Option Nat)) = .inr (.inr (.inr (.inr zr22))) := by
  congr 4
  funext i
  match i with
  | 0 => rfl
  | 1 => rfl
  | 2 => rfl
  | 3 => rfl
  | n + 4 => first | rfl | (simp [zr22, va_up])
theorem iz32 : ((.inr (.inr (.inr (.inr (va_up (va_up (va_up (va_up (fun _ => none) 0 (some 133)) 1 (some 136)) 2 (some 139)) 3 (some 142)))))) : (Nat → Int32) ⊕ (Nat → Int64) ⊕ (Nat → UInt32) ⊕ (Nat → UInt64) ⊕ (Nat → Option Nat)) = .inr (.inr (.inr (.inr zr32))) := by
  congr 4
  funext i
  match i with
  | 0 => rfl
  | 1 => rfl
  | 2 => rfl
  | 3 => rfl
  | n + 4 => first | rfl | (simp [zr32, va_up])
theorem iz46 : ((.inr (.inr (.inr (.inr (va_up (va_up (va_up (va_up (fun _ => none) 0 (some 147)) 1 (some 149)) 2 (some 151)) 3 (some 153)))))) : (Nat → Int32) ⊕ (Nat → Int64) ⊕ (Nat → UInt32) ⊕ (Nat → UInt64) ⊕ (Nat → Option Nat)) = .inr (.inr (.inr (.inr zr46))) := by
  congr 4
  funext i
  match i with
  | 0 => rfl
  | 1 => rfl
  | 2 => rfl
  | 3 => rfl
  | n + 4 => first | rfl | (simp [zr46, va_up])
set_option maxHeartbeats 4000000 in
set_option maxRecDepth 1000000 in
theorem iSh : Sh iwZ := by
  refine ⟨rfl, ?_⟩
  intro k hk
  match k, hk with
  | 0, _ => rfl
  | 1, _ => rfl
  | 2, _ => rfl
  | 3, _ => exact congrArg (fun x => some (Sum.inl (2, 4, x))) iz3
  | 4, _ => rfl
  | 5, _ => rfl
  | 6, _ => rfl
  | 7, _ => rfl
  | 8, _ => exact congrArg (fun x => some (Sum.inl (2, 4, x))) iz8
  | 9, _ => rfl
  | 10, _ => rfl
  | 11, _ => rfl
  | 12, _ => rfl
  | 13, _ => rfl
  | 14, _ => rfl
  | 15, _ => rfl
  | 16, _ => rfl
  | 17, _ => exact congrArg (fun x => some (Sum.inl (2, 4, x))) iz17
  | 18, _ => rfl
  | 19, _ => rfl
  | 20, _ => rfl
  | 21, _ => rfl
  | 22, _ => exact congrArg (fun x => some (Sum.inl (2, 4, x))) iz22
  | 23, _ => rfl
  | 24, _ => rfl
  | 25, _ => rfl
  | 26, _ => rfl
  | 27, _ => rfl
  | 28, _ => rfl
  | 29, _ => rfl
  | 30, _ => rfl
  | 31, _ => rfl
  | 32, _ => exact congrArg (fun x => some (Sum.inl (3, 4, x))) iz32
  | 33, _ => rfl
  | 34, _ => rfl
  | 35, _ => rfl
  | 36, _ => rfl
  | 37, _ => rfl
  | 38, _ => rfl
  | 39, _ => rfl
  | 40, _ => rfl
  | 41, _ => rfl
  | 42, _ => rfl
  | 43, _ => rfl
  | 44, _ => rfl
  | 45, _ => rfl
  | 46, _ => exact congrArg (fun x => some (Sum.inl (4, 4, x))) iz46
  | 47, _ => rfl
  | 48, _ => rfl
  | 49, _ => rfl
  | 50, _ => rfl
  | 51, _ => rfl
  | 52, _ => rfl
  | 53, _ => rfl
  | 54, _ => rfl
  | 55, _ => rfl
  | 56, _ => rfl
  | 57, _ => rfl
  | 58, _ => rfl
  | 59, _ => rfl
  | 60, _ => rfl
  | 61, _ => rfl
  | 62, _ => rfl
  | 63, _ => rfl
  | 64, _ => rfl
  | 65, _ => rfl
  | 66, _ => rfl
  | 67, _ => rfl
  | 68, _ => rfl
  | 69, _ => rfl
  | 70, _ => rfl
  | 71, _ => rfl
  | 72, _ => rfl
  | 73, _ => rfl
  | n + 74, h => exact absurd h (by omega)
