/-! THE REFERENCE IN A RUN: its picture, and what a step leaves (gen/mm1.py) -/
def lE (s v : Nat) : Int64 := if s = 1 then lN v else -1 - lN v
def NwM (w : sm_W) (S : sm_S) : Prop := ∀ i, i < 94 → wl w 60 i = lN (S 0 i)
def SkM (w : sm_W) (S : sm_S) : Prop := ∀ i, i < S 14 0 → wl w 73 i = lE (S 13 i) (S 12 i)
def FhM (T : Nat) (w : sm_W) (S : sm_S) : Prop := ∀ i, T + i < S 10 0 → wl w 72 i = lN (S 1 (T + i))
def McM (T : Nat) (w : sm_W) (S : sm_S) : Prop := wn w 59 24 = nI (S 14 0) ∧ wn w 59 25 = nI (S 14 2) ∧ wn w 59 19 = nI (S 14 3) ∧ wn w 59 14 = nI (S 14 4) ∧ wn w 59 15 = nI (S 14 5) ∧ wn w 59 20 = nI (S 10 0 - T)
def RnM (T : Nat) (w : sm_W) (S : sm_S) (q : Nat) : Prop := Sh w ∧ NwM w S ∧ PrM w S ∧ GrM w S ∧ ScM w S ∧ SkM w S ∧ FhM T w S ∧ McM T w S ∧ wn w 59 13 = nI q
def RfM (w : sm_W) (S : sm_S) : Prop := Sh w ∧ PrM w S ∧ GrM w S ∧ ScM w S ∧ wn w 59 14 = nI (S 14 4) ∧ wn w 59 15 = nI (S 14 5)
def FrM (w w' : sm_W) : Prop := (∀ k, k < 59 ∨ k = 61 ∨ k = 71 → w'[k]? = w[k]?) ∧ wn w' 59 12 = wn w 59 12 ∧ wn w' 59 16 = wn w 59 16 ∧ wn w' 59 17 = wn w 59 17 ∧ wn w' 59 18 = wn w 59 18
def AfM (T : Nat) (w w' : sm_W) (q : Nat) (r : Nat × sm_S) : Prop := FrM w w' ∧ (r.1 = 0 → RnM T w' r.2 (r.2 14 1)) ∧ (r.1 ≠ 0 → RfM w' r.2 ∧ wn w' 59 13 = nI q)
theorem RnM.rf {T : Nat} {w : sm_W} {S : sm_S} {q : Nat} (h : RnM T w S q) : RfM w S := by
  obtain ⟨h1, h2, h3, h4, h5, h6, h7, h8, h9⟩ := h
  exact ⟨h1, h3, h4, h5, h8.2.2.2.1, h8.2.2.2.2.1⟩
theorem FrM.rf (w : sm_W) : FrM w w := ⟨fun _ _ => rfl, rfl, rfl, rfl, rfl⟩
theorem FrM.tr {w w' w'' : sm_W} (h : FrM w w') (g : FrM w' w'') : FrM w w'' := by
  obtain ⟨a, b, c, d, e⟩ := h
  obtain ⟨f, i, j, k, l⟩ := g
  exact ⟨fun q hq => (f q hq).trans (a q hq), i.trans b, j.trans c, k.trans d, l.trans e⟩
theorem FrM.set {w : sm_W} {k : Nat} {c : sm_C} (h : k = 60 ∨ k = 70 ∨ k = 72 ∨ k = 73) : FrM w (w.set k c) := ⟨fun j hj => gs_o (by omega), wn_o (by omega), wn_o (by omega), wn_o (by omega), wn_o (by omega)⟩
theorem FrM.m59 {w : sm_W} {x5 x12 x13 x14 x15 x16 x17 x18 x19 x20 x24 x25 : Int32} (hS : Sh w) (e12 : x12 = wn w 59 12) (e16 : x16 = wn w 59 16) (e17 : x17 = wn w 59 17) (e18 : x18 = wn w 59 18) : FrM w (w.set 59 (.inr (7, [.ref 160, .ref 161, .ref 162, .ref 163, .ref 164, .int x5, .ref 165, .ref 166, .ref 167, .ref 168, .ref 169, .ref 170, .int x12, .int x13, .int x14, .int x15, .int x16, .int x17, .int x18, .int x19, .int x20, .ref 171, .ref 172, .ref 173, .int x24, .int x25]))) := by
  refine ⟨fun j hj => gs_o (by omega), ?_, ?_, ?_, ?_⟩
  · rw [wn59_12 hS.1, e12]
  · rw [wn59_16 hS.1, e16]
  · rw [wn59_17 hS.1, e17]
  · rw [wn59_18 hS.1, e18]
theorem AfM.tr {T : Nat} {w w' w'' : sm_W} {q : Nat} {r : Nat × sm_S} (h : FrM w w') (h2 : AfM T w' w'' q r) : AfM T w w'' q r := ⟨h.tr h2.1, h2.2⟩
theorem RnM.m59 {T : Nat} {w : sm_W} {S : sm_S} {q : Nat} {x5 x12 x13 x14 x15 x16 x17 x18 x19 x20 x24 x25 : Int32} (hS : Sh w) (hN : NwM w S) (hP : PrM w S) (hG : GrM w S) (hC : ScM w S) (hK : SkM w S) (hF : FhM T w S) (e5 : x5 = wn w 59 5) (e24 : x24 = nI (S 14 0)) (e25 : x25 = nI (S 14 2)) (e19 : x19 = nI (S 14 3)) (e14 : x14 = nI (S 14 4)) (e15 : x15 = nI (S 14 5)) (e20 : x20 = nI (S 10 0 - T)) (e13 : x13 = nI q) : RnM T (w.set 59 (.inr (7, [.ref 160, .ref 161, .ref 162, .ref 163, .ref 164, .int x5, .ref 165, .ref 166, .ref 167, .ref 168, .ref 169, .ref 170, .int x12, .int x13, .int x14, .int x15, .int x16, .int x17, .int x18, .int x19, .int x20, .ref 171, .ref 172, .ref 173, .int x24, .int x25]))) S q := by
  subst e24 e25 e19 e14 e15 e20 e13
  refine ⟨hS.p59, ?_, hP.o (by decide) (by decide) (by decide), hG.n (wi_o (by decide)) (wi_o (by decide)) (wi_o (by decide)) (wi_o (by decide)) (wi_o (by decide)) ((wn59_5 hS.1).trans e5), hC.o (by decide), ?_, ?_, ⟨wn59_24 hS.1, wn59_25 hS.1, wn59_19 hS.1, wn59_14 hS.1, wn59_15 hS.1, wn59_20 hS.1⟩, wn59_13 hS.1⟩
  · intro i hi
    rw [wl_o (by decide)]
    exact hN i hi
  · intro i hi
    rw [wl_o (by decide)]
    exact hK i hi
  · intro i hi
    rw [wl_o (by decide)]
    exact hF i hi
theorem McM.o {T : Nat} {w : sm_W} {S : sm_S} {k : Nat} {c : sm_C} (h : McM T w S) (hk : k ≠ 59) : McM T (w.set k c) S := by
  unfold McM
  simp only [wn_o hk]
  exact h
theorem NwM.o {w : sm_W} {S : sm_S} {k : Nat} {c : sm_C} (h : NwM w S) (hk : k ≠ 60) : NwM (w.set k c) S := by
  unfold NwM
  simp only [wl_o hk]
  exact h
theorem SkM.o {w : sm_W} {S : sm_S} {k : Nat} {c : sm_C} (h : SkM w S) (hk : k ≠ 73) : SkM (w.set k c) S := by
  unfold SkM
  simp only [wl_o hk]
  exact h
theorem FhM.o {T : Nat} {w : sm_W} {S : sm_S} {k : Nat} {c : sm_C} (h : FhM T w S) (hk : k ≠ 72) : FhM T (w.set k c) S := by
  unfold FhM
  simp only [wl_o hk]
  exact h
/-- k taken -/
theorem RnM.top {T : Nat} {w : sm_W} {S : sm_S} {q m : Nat} (h : RnM T w S q) (hm : m ≤ S 14 0) : RnM T (w.set 59 (.inr (7, [.ref 160, .ref 161, .ref 162, .ref 163, .ref 164, .int (wn w 59 5), .ref 165, .ref 166, .ref 167, .ref 168, .ref 169, .ref 170, .int (wn w 59 12), .int (wn w 59 13), .int (wn w 59 14), .int (wn w 59 15), .int (wn w 59 16), .int (wn w 59 17), .int (wn w 59 18), .int (wn w 59 19), .int (wn w 59 20), .ref 171, .ref 172, .ref 173, .int (nI m), .int (wn w 59 25)]))) (s_up S 14 0 m) q := by
  obtain ⟨h1, h2, h3, h4, h5, h6, h7, h8, h9⟩ := h
  exact RnM.m59 (S := s_up S 14 0 m) h1 h2 h3 h4 h5 (fun i hi => h6 i (Nat.lt_of_lt_of_le hi hm)) h7 rfl rfl h8.2.1 h8.2.2.1 h8.2.2.2.1 h8.2.2.2.2.1 h8.2.2.2.2.2 h9
/-- one put -/
theorem RnM.push0 {T : Nat} {w : sm_W} {S : sm_S} {q s v : Nat} (h : RnM T w S q) : RnM T ((w.set 73 (.inl (1, 10, .inr (.inl (vp_updL (wl w 73) (S 14 0) (lE s v)))))).set 59 (.inr (7, [.ref 160, .ref 161, .ref 162, .ref 163, .ref 164, .int (wn w 59 5), .ref 165, .ref 166, .ref 167, .ref 168, .ref 169, .ref 170, .int (wn w 59 12), .int (wn w 59 13), .int (wn w 59 14), .int (wn w 59 15), .int (wn w 59 16), .int (wn w 59 17), .int (wn w 59 18), .int (wn w 59 19), .int (wn w 59 20), .ref 171, .ref 172, .ref 173, .int (nI (S 14 0 + 1)), .int (wn w 59 25)]))) (s_psh S 0 s v) q := by
  obtain ⟨h1, h2, h3, h4, h5, h6, h7, h8, h9⟩ := h
  have hS := h1.p73 (f := vp_updL (wl w 73) (S 14 0) (lE s v))
  refine RnM.m59 (S := s_psh S 0 s v) hS (h2.o (by decide)) (h3.o (by decide) (by decide) (by decide)) (h4.o (by decide) (by decide)) (h5.o (by decide)) ?_ (h7.o (by decide)) ?_ rfl h8.2.1 h8.2.2.1 h8.2.2.2.1 h8.2.2.2.2.1 h8.2.2.2.2.2 h9
  · intro i hi
    have hi : i < S 14 0 + 1 := hi
    have e1 : s_psh S 0 s v 13 i = if i = S 14 0 then s else S 13 i := rfl
    have e2 : s_psh S 0 s v 12 i = if i = S 14 0 then v else S 12 i := rfl
    rw [wl73_s h1.1, e1, e2]
    by_cases e : i = S 14 0
    · subst e
      rw [if_pos rfl, if_pos rfl, pk_uLs]
    · rw [if_neg e, if_neg e, pk_uLn e]
      exact h6 i (by omega)
  · rw [wn_o (by decide)]
theorem RnM.push {T : Nat} {w : sm_W} {S : sm_S} {q s v m : Nat} {V : Int64} (h : RnM T w S q) (hm : m = S 14 0) (hV : V = lE s v) : RnM T ((w.set 73 (.inl (1, 10, .inr (.inl (vp_updL (wl w 73) m V))))).set 59 (.inr (7, [.ref 160, .ref 161, .ref 162, .ref 163, .ref 164, .int (wn w 59 5), .ref 165, .ref 166, .ref 167, .ref 168, .ref 169, .ref 170, .int (wn w 59 12), .int (wn w 59 13), .int (wn w 59 14), .int (wn w 59 15), .int (wn w 59 16), .int (wn w 59 17), .int (wn w 59 18), .int (wn w 59 19), .int (wn w 59 20), .ref 171, .ref 172, .ref 173, .int (nI (m + 1)), .int (wn w 59 25)]))) (s_psh S 0 s v) q := by
  subst hm hV
  exact h.push0
theorem FrM.push {w : sm_W} {f : Nat → Int64} {x : Int32} (h1 : Sh w) : FrM w ((w.set 73 (.inl (1, 10, .inr (.inl f)))).set 59 (.inr (7, [.ref 160, .ref 161, .ref 162, .ref 163, .ref 164, .int (wn w 59 5), .ref 165, .ref 166, .ref 167, .ref 168, .ref 169, .ref 170, .int (wn w 59 12), .int (wn w 59 13), .int (wn w 59 14), .int (wn w 59 15), .int (wn w 59 16), .int (wn w 59 17), .int (wn w 59 18), .int (wn w 59 19), .int (wn w 59 20), .ref 171, .ref 172, .ref 173, .int x, .int (wn w 59 25)]))) :=
  (FrM.set (by decide)).tr (FrM.m59 h1.p73 (by rw [wn_o (by decide)]) (by rw [wn_o (by decide)]) (by rw [wn_o (by decide)]) (by rw [wn_o (by decide)]))
theorem RnM.at {T : Nat} {w : sm_W} {S : sm_S} {q q' : Nat} (h : RnM T w S q) : RnM T (w.set 59 (.inr (7, [.ref 160, .ref 161, .ref 162, .ref 163, .ref 164, .int (wn w 59 5), .ref 165, .ref 166, .ref 167, .ref 168, .ref 169, .ref 170, .int (wn w 59 12), .int (nI q'), .int (wn w 59 14), .int (wn w 59 15), .int (wn w 59 16), .int (wn w 59 17), .int (wn w 59 18), .int (wn w 59 19), .int (wn w 59 20), .ref 171, .ref 172, .ref 173, .int (wn w 59 24), .int (wn w 59 25)]))) S q' := by
  obtain ⟨h1, h2, h3, h4, h5, h6, h7, h8, h9⟩ := h
  exact RnM.m59 h1 h2 h3 h4 h5 h6 h7 rfl h8.1 h8.2.1 h8.2.2.1 h8.2.2.2.1 h8.2.2.2.2.1 h8.2.2.2.2.2 rfl
theorem RnM.end1 {T : Nat} {w : sm_W} {S : sm_S} {q : Nat} (h : RnM T w S q) : RnM T (w.set 59 (.inr (7, [.ref 160, .ref 161, .ref 162, .ref 163, .ref 164, .int (wn w 59 5), .ref 165, .ref 166, .ref 167, .ref 168, .ref 169, .ref 170, .int (wn w 59 12), .int (wn w 59 13), .int (wn w 59 14), .int (wn w 59 15), .int (wn w 59 16), .int (wn w 59 17), .int (wn w 59 18), .int (wn w 59 19), .int (wn w 59 20), .ref 171, .ref 172, .ref 173, .int (wn w 59 24), .int 1]))) (s_up S 14 2 1) q := by
  obtain ⟨h1, h2, h3, h4, h5, h6, h7, h8, h9⟩ := h
  exact RnM.m59 (S := s_up S 14 2 1) h1 h2 h3 h4 h5 h6 h7 rfl h8.1 rfl h8.2.2.1 h8.2.2.2.1 h8.2.2.2.2.1 h8.2.2.2.2.2 h9
theorem RnM.now {T : Nat} {w : sm_W} {S : sm_S} {q j v : Nat} (h : RnM T w S q) : RnM T (w.set 60 (.inl (1, 94, .inr (.inl (vp_updL (wl w 60) j (lN v)))))) (s_up S 0 j v) q := by
  obtain ⟨h1, h2, h3, h4, h5, h6, h7, h8, h9⟩ := h
  refine ⟨h1.p60, fun i hi => ?_, h3.o (by decide) (by decide) (by decide), h4.o (by decide) (by decide), h5.o (by decide), h6.o (by decide), h7.o (by decide), h8.o (by decide), by rw [wn_o (by decide)]; exact h9⟩
  rw [wl60_s h1.1]
  by_cases e : i = j
  · subst e
    rw [pk_uLs, s_up_s]
  · rw [pk_uLn e, s_up_o (Or.inr e)]
    exact h2 i hi
theorem RnM.scr {T : Nat} {w : sm_W} {S : sm_S} {q j v : Nat} (h : RnM T w S q) : RnM T (w.set 70 (.inl (1, 16, .inr (.inl (vp_updL (wl w 70) j (lN v)))))) (s_up S 9 j v) q := by
  obtain ⟨h1, h2, h3, h4, h5, h6, h7, h8, h9⟩ := h
  refine ⟨h1.p70, h2.o (by decide), h3.o (by decide) (by decide) (by decide), h4.o (by decide) (by decide), fun i hi => ?_, h6.o (by decide), h7.o (by decide), h8.o (by decide), by rw [wn_o (by decide)]; exact h9⟩
  rw [wl70_s h1.1]
  by_cases e : i = j
  · subst e
    rw [pk_uLs, s_up_s]
  · rw [pk_uLn e, s_up_o (Or.inr e)]
    exact h5 i hi
theorem RnM.log {T : Nat} {w : sm_W} {S : sm_S} {q v : Nat} (h : RnM T w S q) (hT : T ≤ S 10 0) : RnM T ((w.set 72 (.inl (1, 100, .inr (.inl (vp_updL (wl w 72) (S 10 0 - T) (lN v)))))).set 59 (.inr (7, [.ref 160, .ref 161, .ref 162, .ref 163, .ref 164, .int (wn w 59 5), .ref 165, .ref 166, .ref 167, .ref 168, .ref 169, .ref 170, .int (wn w 59 12), .int (wn w 59 13), .int (wn w 59 14), .int (wn w 59 15), .int (wn w 59 16), .int (wn w 59 17), .int (wn w 59 18), .int (wn w 59 19), .int (nI (S 10 0 - T + 1)), .ref 171, .ref 172, .ref 173, .int (wn w 59 24), .int (wn w 59 25)]))) (s_log S v) q := by
  obtain ⟨h1, h2, h3, h4, h5, h6, h7, h8, h9⟩ := h
  have hS := h1.p72 (f := vp_updL (wl w 72) (S 10 0 - T) (lN v))
  refine RnM.m59 (S := s_log S v) hS (h2.o (by decide)) (h3.o (by decide) (by decide) (by decide)) (h4.o (by decide) (by decide)) (h5.o (by decide)) (h6.o (by decide)) ?_ ?_ h8.1 h8.2.1 h8.2.2.1 h8.2.2.2.1 h8.2.2.2.2.1 ?_ h9
  · intro i hi
    have hi : T + i < S 10 0 + 1 := hi
    have e1 : s_log S v 1 (T + i) = if T + i = S 10 0 then v else S 1 (T + i) := rfl
    rw [wl72_s h1.1, e1]
    by_cases e : T + i = S 10 0
    · have e2 : i = S 10 0 - T := by omega
      rw [if_pos e, e2, pk_uLs]
    · rw [if_neg e, pk_uLn (by omega)]
      exact h7 i (by omega)
  · rw [wn_o (by decide)]
  · show nI (S 10 0 - T + 1) = nI (S 10 0 + 1 - T)
    rw [show S 10 0 + 1 - T = S 10 0 - T + 1 by omega]
theorem FrM.log {w : sm_W} {f : Nat → Int64} {x : Int32} (h1 : Sh w) : FrM w ((w.set 72 (.inl (1, 100, .inr (.inl f)))).set 59 (.inr (7, [.ref 160, .ref 161, .ref 162, .ref 163, .ref 164, .int (wn w 59 5), .ref 165, .ref 166, .ref 167, .ref 168, .ref 169, .ref 170, .int (wn w 59 12), .int (wn w 59 13), .int (wn w 59 14), .int (wn w 59 15), .int (wn w 59 16), .int (wn w 59 17), .int (wn w 59 18), .int (wn w 59 19), .int x, .ref 171, .ref 172, .ref 173, .int (wn w 59 24), .int (wn w 59 25)]))) :=
  (FrM.set (by decide)).tr (FrM.m59 h1.p72 (by rw [wn_o (by decide)]) (by rw [wn_o (by decide)]) (by rw [wn_o (by decide)]) (by rw [wn_o (by decide)]))
theorem FrM.k59 {w : sm_W} {x5 x13 x14 x15 x19 x20 x24 x25 : Int32} (h1 : Sh w) : FrM w (w.set 59 (.inr (7, [.ref 160, .ref 161, .ref 162, .ref 163, .ref 164, .int x5, .ref 165, .ref 166, .ref 167, .ref 168, .ref 169, .ref 170, .int (wn w 59 12), .int x13, .int x14, .int x15, .int (wn w 59 16), .int (wn w 59 17), .int (wn w 59 18), .int x19, .int x20, .ref 171, .ref 172, .ref 173, .int x24, .int x25]))) := FrM.m59 h1 rfl rfl rfl rfl
/-! NUMBERS AND ACCOUNTS of the reference, its sorts, its push (gen/mm2.py) -/
theorem lE_1 (v : Nat) : lE 1 v = lN v := rfl
theorem lE_2 (v : Nat) : lE 2 v = -1 - lN v := rfl
theorem lA_i {a : Nat} (ha : a < 6) : (-1 - (-1 - lN a)).toInt32 = nI a := by
  match a, ha with
  | 0, _ => decide
  | 1, _ => decide
  | 2, _ => decide
  | 3, _ => decide
  | 4, _ => decide
  | 5, _ => decide
theorem lA_l {a : Nat} (ha : a < 6) : (-1 - nI a).toInt64 = -1 - lN a := by
  match a, ha with
  | 0, _ => decide
  | 1, _ => decide
  | 2, _ => decide
  | 3, _ => decide
  | 4, _ => decide
  | 5, _ => decide
theorem lA_n {a : Nat} (ha : a < 6) : -1 - lN a < 0 := by
  match a, ha with
  | 0, _ => decide
  | 1, _ => decide
  | 2, _ => decide
  | 3, _ => decide
  | 4, _ => decide
  | 5, _ => decide
theorem lg_0 {x y : Int64} : lg_cmp x y = 0 ↔ x = y := by
  unfold lg_cmp
  by_cases h1 : x > y
  · rw [if_pos h1]
    refine ⟨fun h => absurd h (by decide), fun h => ?_⟩
    subst h
    exact absurd h1 (by rw [gt_iff_lt, Int64.lt_iff_toInt_lt]; omega)
  · rw [if_neg h1]
    by_cases h2 : x = y
    · rw [if_pos h2]
      exact ⟨fun _ => h2, fun _ => rfl⟩
    · rw [if_neg h2]
      exact ⟨fun h => absurd h (by decide), fun h => absurd h h2⟩
theorem lE_neg {s v : Nat} (h : s_ent s v) : (lg_cmp (lE s v) 0 < 0 ↔ s = 2) ∧ (0 ≤ lg_cmp (lE s v) 0 ↔ ¬ s = 2) := by
  rcases h with ⟨e, hv⟩ | ⟨e, hv⟩
  · subst e
    rw [lE_1]
    have h1 := lc_nn (n := v) (by omega)
    refine ⟨⟨fun h => absurd h h1, fun h => absurd h (by decide)⟩, ⟨fun _ => by decide, fun _ => ?_⟩⟩
    rw [Int32.lt_iff_toInt_lt] at h1
    rw [Int32.le_iff_toInt_le]
    omega
  · subst e
    rw [lE_2, lc_neg (lA_n hv)]
    exact ⟨⟨fun _ => rfl, fun _ => by decide⟩, ⟨fun h => absurd h (by decide), fun h => absurd rfl h⟩⟩
theorem lE_inj {s v s' v' : Nat} (h : s_ent s v) (h' : s_ent s' v') : lE s v = lE s' v' ↔ s = s' ∧ v = v' := by
  refine ⟨fun q => ?_, fun q => by rw [q.1, q.2]⟩
  have n1 := (lE_neg h).1
  have n2 := (lE_neg h').1
  rw [q] at n1
  have hs : s = 2 ↔ s' = 2 := n1.symm.trans n2
  rcases h with ⟨e, hv⟩ | ⟨e, hv⟩ <;> rcases h' with ⟨e', hv'⟩ | ⟨e', hv'⟩
  · subst e e'
    rw [lE_1, lE_1] at q
    exact ⟨rfl, (pk_lEQ (by omega) (by omega)).mp q⟩
  · omega
  · omega
  · subst e e'
    refine ⟨rfl, ?_⟩
    rw [lE_2, lE_2] at q
    have q2 := congrArg (fun z : Int64 => (-1 - z).toInt32) q
    rw [lA_i hv, lA_i hv'] at q2
    exact (nI_eq (by omega) (by omega)).mp q2
theorem push_M {X : sm_X} {w : sm_W} {Q : Option Value → sm_W → Prop} {S : sm_S} {m : Nat} {v : Int64} (hS : Sh w) (hm : m < 10) (ht : wn w 59 24 = nI m) : sm_R X 83 0 [.ref 159, .long v, sm_J] [] w Q ↔ Q none ((w.set 73 (.inl (1, 10, .inr (.inl (vp_updL (wl w 73) m v))))).set 59 (.inr (7, [.ref 160, .ref 161, .ref 162, .ref 163, .ref 164, .int (wn w 59 5), .ref 165, .ref 166, .ref 167, .ref 168, .ref 169, .ref 170, .int (wn w 59 12), .int (wn w 59 13), .int (wn w 59 14), .int (wn w 59 15), .int (wn w 59 16), .int (wn w 59 17), .int (wn w 59 18), .int (wn w 59 19), .int (wn w 59 20), .ref 171, .ref 172, .ref 173, .int (nI (m + 1)), .int (wn w 59 25)]))) := by
  have z3 : sm_in (nI m) 10 = true := sm_in_nI hm (by decide)
  have z4 : (nI m).toNatClampNeg = m := nI_clamp (by omega)
  have z5 : nI m + 1 = nI (m + 1) := nI_1 m
  simp (decide := true) only [r83_0, r83_1, r83_4, r83_5, r83_8, r83_9, r83_10, r83_11, r83_12, r83_15, r83_16, r83_17, r83_20, ht, z3, z4, z5, sh59 hS, sh73 hS, sm_wp_some, sm_wp_none, sm_at, sm_get, sm_fld, sm_pfl, sm_cN, sm_ai, sm_al, sm_si, sm_slg, sm_aa, List.getElem?_cons_zero, List.getElem?_cons_succ, List.set_cons_zero, List.set_cons_succ, List.length_cons, List.length_nil, Option.toList_some, Option.toList_none, List.cons_append, List.nil_append, if_true, if_false, true_and, and_true, Option.some.injEq, gs_o, gs_s, List.length_set, hS.1, pk_us, Nat.reduceLT, Nat.reduceLeDiff, Nat.reduceSub, Nat.reduceEqDiff, Nat.reduceAdd, Int32.reduceLT, Int32.reduceLE, Int32.reduceAdd, Int32.reduceSub, Int32.reduceToNatClampNeg, reduceIte, reduceCtorEq, Nat.lt_irrefl]
/-- the value at k below the top, or 0 -/
def lT (S : sm_S) (k : Nat) : Int64 := if S 14 0 < k then 0 else lE (S 13 (S 14 0 - k)) (S 12 (S 14 0 - k))
theorem so_a {X : sm_X} {w : sm_W} {Q : Option Value → sm_W → Prop} {S : sm_S} {x1 : Int32} (hS : Sh w) (ht : wn w 59 24 = nI (S 14 0)) (hK : SkM w S) (h8 : S 14 0 ≤ 8) (n13 : ¬ x1 = 13) (n15 : ¬ x1 = 15) (n16 : ¬ x1 = 16) (n17 : ¬ x1 = 17) : sm_R X 77 0 [.ref 159, .int x1, sm_J, sm_J, sm_J, sm_J] [] w Q ↔ sm_R X 77 74 [.ref 159, .int x1, .long (lT S 1), sm_J, .long (lT S 2), sm_J] [] w Q := by
  unfold lT
  have d1 : nI (S 14 0) ≤ 0 ↔ S 14 0 ≤ 0 := nI_leI (b := 0) (by omega) (by decide)
  have d2 : nI (S 14 0) ≤ 1 ↔ S 14 0 ≤ 1 := nI_leI (b := 1) (by omega) (by decide)
  by_cases e0 : S 14 0 < 1
  · have d3 := d1.mpr (by omega)
    have d4 := d2.mpr (by omega)
    rw [if_pos e0, if_pos (by omega)]
    simp (decide := true) only [r77_0, r77_1, r77_3, r77_6, r77_7, r77_9, r77_12, r77_13, r77_15, r77_18, r77_19, r77_21, r77_24, r77_25 (s0 := 0) (Or.inl rfl), r77_25 (s0 := 1) (Or.inr rfl), r77_26, r77_27, r77_30, r77_33, r77_34, r77_37, r77_38, r77_41, r77_42, r77_43, r77_44, r77_47, r77_48, r77_49, r77_50, r77_53, r77_54, r77_57, r77_58, r77_61, r77_62, r77_65, r77_66, r77_67, r77_68, r77_71, r77_72, n13, n15, n16, n17, ht, d3, d4, sh59 hS, sh73 hS, sm_wp_some, sm_wp_none, sm_at, sm_get, sm_fld, sm_pfl, sm_cN, sm_ai, sm_al, sm_si, sm_slg, sm_aa, List.getElem?_cons_zero, List.getElem?_cons_succ, List.set_cons_zero, List.set_cons_succ, List.length_cons, List.length_nil, Option.toList_some, Option.toList_none, List.cons_append, List.nil_append, if_true, if_false, true_and, and_true, Option.some.injEq, gs_o, gs_s, List.length_set, hS.1, pk_us, Nat.reduceLT, Nat.reduceLeDiff, Nat.reduceSub, Nat.reduceEqDiff, Nat.reduceAdd, Int32.reduceLT, Int32.reduceLE, Int32.reduceAdd, Int32.reduceSub, Int32.reduceToNatClampNeg, reduceIte, reduceCtorEq, Nat.lt_irrefl]
  · have d3 : ¬ nI (S 14 0) ≤ 0 := fun h => absurd (d1.mp h) (by omega)
    have y1 : nI (S 14 0) - 1 = nI (S 14 0 - 1) := pk_sub (b := 1) (by omega)
    have y2 : sm_in (nI (S 14 0 - 1)) 10 = true := sm_in_nI (by omega) (by decide)
    have y3 : (nI (S 14 0 - 1)).toNatClampNeg = S 14 0 - 1 := nI_clamp (by omega)
    have y4 := hK (S 14 0 - 1) (by omega)
    rw [if_neg e0]
    by_cases e1 : S 14 0 < 2
    · have d4 := d2.mpr (by omega)
      rw [if_pos e1]
      simp (decide := true) only [r77_0, r77_1, r77_3, r77_6, r77_7, r77_9, r77_12, r77_13, r77_15, r77_18, r77_19, r77_21, r77_24, r77_25 (s0 := 0) (Or.inl rfl), r77_25 (s0 := 1) (Or.inr rfl), r77_26, r77_27, r77_30, r77_33, r77_34, r77_37, r77_38, r77_41, r77_42, r77_43, r77_44, r77_47, r77_48, r77_49, r77_50, r77_53, r77_54, r77_57, r77_58, r77_61, r77_62, r77_65, r77_66, r77_67, r77_68, r77_71, r77_72, n13, n15, n16, n17, ht, d3, d4, y1, y2, y3, y4, sh59 hS, sh73 hS, sm_wp_some, sm_wp_none, sm_at, sm_get, sm_fld, sm_pfl, sm_cN, sm_ai, sm_al, sm_si, sm_slg, sm_aa, List.getElem?_cons_zero, List.getElem?_cons_succ, List.set_cons_zero, List.set_cons_succ, List.length_cons, List.length_nil, Option.toList_some, Option.toList_none, List.cons_append, List.nil_append, if_true, if_false, true_and, and_true, Option.some.injEq, gs_o, gs_s, List.length_set, hS.1, pk_us, Nat.reduceLT, Nat.reduceLeDiff, Nat.reduceSub, Nat.reduceEqDiff, Nat.reduceAdd, Int32.reduceLT, Int32.reduceLE, Int32.reduceAdd, Int32.reduceSub, Int32.reduceToNatClampNeg, reduceIte, reduceCtorEq, Nat.lt_irrefl]
    · have d4 : ¬ nI (S 14 0) ≤ 1 := fun h => absurd (d2.mp h) (by omega)
      have x1' : nI (S 14 0) - 2 = nI (S 14 0 - 2) := pk_sub (b := 2) (by omega)
      have x2 : sm_in (nI (S 14 0 - 2)) 10 = true := sm_in_nI (by omega) (by decide)
      have x3 : (nI (S 14 0 - 2)).toNatClampNeg = S 14 0 - 2 := nI_clamp (by omega)
      have x4 := hK (S 14 0 - 2) (by omega)
      rw [if_neg e1]
      simp (decide := true) only [r77_0, r77_1, r77_3, r77_6, r77_7, r77_9, r77_12, r77_13, r77_15, r77_18, r77_19, r77_21, r77_24, r77_25 (s0 := 0) (Or.inl rfl), r77_25 (s0 := 1) (Or.inr rfl), r77_26, r77_27, r77_30, r77_33, r77_34, r77_37, r77_38, r77_41, r77_42, r77_43, r77_44, r77_47, r77_48, r77_49, r77_50, r77_53, r77_54, r77_57, r77_58, r77_61, r77_62, r77_65, r77_66, r77_67, r77_68, r77_71, r77_72, n13, n15, n16, n17, ht, d3, d4, y1, y2, y3, y4, x1', x2, x3, x4, sh59 hS, sh73 hS, sm_wp_some, sm_wp_none, sm_at, sm_get, sm_fld, sm_pfl, sm_cN, sm_ai, sm_al, sm_si, sm_slg, sm_aa, List.getElem?_cons_zero, List.getElem?_cons_succ, List.set_cons_zero, List.set_cons_succ, List.length_cons, List.length_nil, Option.toList_some, Option.toList_none, List.cons_append, List.nil_append, if_true, if_false, true_and, and_true, Option.some.injEq, gs_o, gs_s, List.length_set, hS.1, pk_us, Nat.reduceLT, Nat.reduceLeDiff, Nat.reduceSub, Nat.reduceEqDiff, Nat.reduceAdd, Int32.reduceLT, Int32.reduceLE, Int32.reduceAdd, Int32.reduceSub, Int32.reduceToNatClampNeg, reduceIte, reduceCtorEq, Nat.lt_irrefl]
theorem pre_i {S : sm_S} {c : Nat} (h : ¬ S 14 0 < s_tk c) : s_pre S c = 0 ↔ ¬ (1 ≤ s_tk c ∧ ¬ (s_mt c = 3 ∨ s_mt c = S 13 (S 14 0 - 1))) ∧ ¬ (s_tk c = 2 ∧ ¬ (s_mu c = 3 ∨ s_mu c = S 13 (S 14 0 - 2))) := by
  unfold s_pre
  rw [if_neg h]
  by_cases f : 1 ≤ s_tk c ∧ ¬ (s_mt c = 3 ∨ s_mt c = S 13 (S 14 0 - 1))
  · rw [if_pos f]
    exact ⟨fun q => absurd q (by decide), fun q => absurd f q.1⟩
  · rw [if_neg f]
    by_cases g : s_tk c = 2 ∧ ¬ (s_mu c = 3 ∨ s_mu c = S 13 (S 14 0 - 2))
    · rw [if_pos g]
      exact ⟨fun q => absurd q (by decide), fun q => absurd g q.2⟩
    · rw [if_neg g]
      exact ⟨fun _ => ⟨f, g⟩, fun _ => rfl⟩
theorem so_0 {X : sm_X} {w : sm_W} {Q : Option Value → sm_W → Prop} {S : sm_S} (hS : Sh w) (ht : wn w 59 24 = nI (S 14 0)) (hK : SkM w S) (h8 : S 14 0 ≤ 8) (hE : ∀ i, i < S 14 0 → s_ent (S 13 i) (S 12 i)) (hn : ¬ S 14 0 < s_tk 0) : sm_R X 77 0 [.ref 159, .int (nI 0), sm_J, sm_J, sm_J, sm_J] [] w Q ↔ Q (some (.int (if s_pre S 0 = 0 then 1 else 0))) w := by
  have hn : ¬ S 14 0 < 0 := hn
  have tkM := fun Q => tk_M (X := X) (Q := Q) (c := 0) hS (by decide)
  have tv : s_tk 0 = 0 := rfl
  rw [tv] at tkM
  rw [so_a hS ht hK h8 (by decide) (by decide) (by decide) (by decide)]
  have p : s_pre S 0 = 0 := (pre_i hn).mpr ⟨fun q => absurd q.1 (by decide), fun q => absurd q.1 (by decide)⟩
  rw [if_pos p]
  simp (decide := true) only [r77_74, r77_75, r77_77, r77_80, r77_81, r77_83, r77_86, r77_87, r77_88, r77_89, r77_92, r77_93, r77_96, r77_97 (s0 := 0) (Or.inl rfl), r77_97 (s0 := 1) (Or.inr rfl), r77_98, r77_99, r77_101, r77_104, r77_105, r77_106, r77_107, r77_110, r77_112, r77_113, r77_114, r77_117, r77_118, r77_121, r77_122 (s0 := 0) (Or.inl rfl), r77_122 (s0 := 1) (Or.inr rfl), r77_123, r77_124, r77_125, r77_128, r77_131, r77_132, r77_133, r77_134, r77_137, r77_138, r77_139, r77_142, r77_143, r77_146, r77_148, r77_149, r77_150, r77_153, r77_154, r77_157, r77_158 (s0 := 0) (Or.inl rfl), r77_158 (s0 := 1) (Or.inr rfl), tkM, sh59 hS, sm_wp_some, sm_wp_none, sm_at, sm_get, sm_fld, sm_pfl, sm_cN, sm_ai, sm_al, sm_si, sm_slg, sm_aa, List.getElem?_cons_zero, List.getElem?_cons_succ, List.set_cons_zero, List.set_cons_succ, List.length_cons, List.length_nil, Option.toList_some, Option.toList_none, List.cons_append, List.nil_append, if_true, if_false, true_and, and_true, Option.some.injEq, gs_o, gs_s, List.length_set, hS.1, pk_us, Nat.reduceLT, Nat.reduceLeDiff, Nat.reduceSub, Nat.reduceEqDiff, Nat.reduceAdd, Int32.reduceLT, Int32.reduceLE, Int32.reduceAdd, Int32.reduceSub, Int32.reduceToNatClampNeg, reduceIte, reduceCtorEq, Nat.lt_irrefl]
theorem so_1 {X : sm_X} {w : sm_W} {Q : Option Value → sm_W → Prop} {S : sm_S} (hS : Sh w) (ht : wn w 59 24 = nI (S 14 0)) (hK : SkM w S) (h8 : S 14 0 ≤ 8) (hE : ∀ i, i < S 14 0 → s_ent (S 13 i) (S 12 i)) (hn : ¬ S 14 0 < s_tk 1) : sm_R X 77 0 [.ref 159, .int (nI 1), sm_J, sm_J, sm_J, sm_J] [] w Q ↔ Q (some (.int (if s_pre S 1 = 0 then 1 else 0))) w := by
  have hn : ¬ S 14 0 < 0 := hn
  have tkM := fun Q => tk_M (X := X) (Q := Q) (c := 1) hS (by decide)
  have tv : s_tk 1 = 0 := rfl
  rw [tv] at tkM
  rw [so_a hS ht hK h8 (by decide) (by decide) (by decide) (by decide)]
  have p : s_pre S 1 = 0 := (pre_i hn).mpr ⟨fun q => absurd q.1 (by decide), fun q => absurd q.1 (by decide)⟩
  rw [if_pos p]
  simp (decide := true) only [r77_74, r77_75, r77_77, r77_80, r77_81, r77_83, r77_86, r77_87, r77_88, r77_89, r77_92, r77_93, r77_96, r77_97 (s0 := 0) (Or.inl rfl), r77_97 (s0 := 1) (Or.inr rfl), r77_98, r77_99, r77_101, r77_104, r77_105, r77_106, r77_107, r77_110, r77_112, r77_113, r77_114, r77_117, r77_118, r77_121, r77_122 (s0 := 0) (Or.inl rfl), r77_122 (s0 := 1) (Or.inr rfl), r77_123, r77_124, r77_125, r77_128, r77_131, r77_132, r77_133, r77_134, r77_137, r77_138, r77_139, r77_142, r77_143, r77_146, r77_148, r77_149, r77_150, r77_153, r77_154, r77_157, r77_158 (s0 := 0) (Or.inl rfl), r77_158 (s0 := 1) (Or.inr rfl), tkM, sh59 hS, sm_wp_some, sm_wp_none, sm_at, sm_get, sm_fld, sm_pfl, sm_cN, sm_ai, sm_al, sm_si, sm_slg, sm_aa, List.getElem?_cons_zero, List.getElem?_cons_succ, List.set_cons_zero, List.set_cons_succ, List.length_cons, List.length_nil, Option.toList_some, Option.toList_none, List.cons_append, List.nil_append, if_true, if_false, true_and, and_true, Option.some.injEq, gs_o, gs_s, List.length_set, hS.1, pk_us, Nat.reduceLT, Nat.reduceLeDiff, Nat.reduceSub, Nat.reduceEqDiff, Nat.reduceAdd, Int32.reduceLT, Int32.reduceLE, Int32.reduceAdd, Int32.reduceSub, Int32.reduceToNatClampNeg, reduceIte, reduceCtorEq, Nat.lt_irrefl]
theorem so_2 {X : sm_X} {w : sm_W} {Q : Option Value → sm_W → Prop} {S : sm_S} (hS : Sh w) (ht : wn w 59 24 = nI (S 14 0)) (hK : SkM w S) (h8 : S 14 0 ≤ 8) (hE : ∀ i, i < S 14 0 → s_ent (S 13 i) (S 12 i)) (hn : ¬ S 14 0 < s_tk 2) : sm_R X 77 0 [.ref 159, .int (nI 2), sm_J, sm_J, sm_J, sm_J] [] w Q ↔ Q (some (.int (if s_pre S 2 = 0 then 1 else 0))) w := by
  have hn : ¬ S 14 0 < 0 := hn
  have tkM := fun Q => tk_M (X := X) (Q := Q) (c := 2) hS (by decide)
  have tv : s_tk 2 = 0 := rfl
  rw [tv] at tkM
  rw [so_a hS ht hK h8 (by decide) (by decide) (by decide) (by decide)]
  have p : s_pre S 2 = 0 := (pre_i hn).mpr ⟨fun q => absurd q.1 (by decide), fun q => absurd q.1 (by decide)⟩
  rw [if_pos p]
  simp (decide := true) only [r77_74, r77_75, r77_77, r77_80, r77_81, r77_83, r77_86, r77_87, r77_88, r77_89, r77_92, r77_93, r77_96, r77_97 (s0 := 0) (Or.inl rfl), r77_97 (s0 := 1) (Or.inr rfl), r77_98, r77_99, r77_101, r77_104, r77_105, r77_106, r77_107, r77_110, r77_112, r77_113, r77_114, r77_117, r77_118, r77_121, r77_122 (s0 := 0) (Or.inl rfl), r77_122 (s0 := 1) (Or.inr rfl), r77_123, r77_124, r77_125, r77_128, r77_131, r77_132, r77_133, r77_134, r77_137, r77_138, r77_139, r77_142, r77_143, r77_146, r77_148, r77_149, r77_150, r77_153, r77_154, r77_157, r77_158 (s0 := 0) (Or.inl rfl), r77_158 (s0 := 1) (Or.inr rfl), tkM, sh59 hS, sm_wp_some, sm_wp_none, sm_at, sm_get, sm_fld, sm_pfl, sm_cN, sm_ai, sm_al, sm_si, sm_slg, sm_aa, List.getElem?_cons_zero, List.getElem?_cons_succ, List.set_cons_zero, List.set_cons_succ, List.length_cons, List.length_nil, Option.toList_some, Option.toList_none, List.cons_append, List.nil_append, if_true, if_false, true_and, and_true, Option.some.injEq, gs_o, gs_s, List.length_set, hS.1, pk_us, Nat.reduceLT, Nat.reduceLeDiff, Nat.reduceSub, Nat.reduceEqDiff, Nat.reduceAdd, Int32.reduceLT, Int32.reduceLE, Int32.reduceAdd, Int32.reduceSub, Int32.reduceToNatClampNeg, reduceIte, reduceCtorEq, Nat.lt_irrefl]
theorem so_3 {X : sm_X} {w : sm_W} {Q : Option Value → sm_W → Prop} {S : sm_S} (hS : Sh w) (ht : wn w 59 24 = nI (S 14 0)) (hK : SkM w S) (h8 : S 14 0 ≤ 8) (hE : ∀ i, i < S 14 0 → s_ent (S 13 i) (S 12 i)) (hn : ¬ S 14 0 < s_tk 3) : sm_R X 77 0 [.ref 159, .int (nI 3), sm_J, sm_J, sm_J, sm_J] [] w Q ↔ Q (some (.int (if s_pre S 3 = 0 then 1 else 0))) w := by
  have hn : ¬ S 14 0 < 0 := hn
  have tkM := fun Q => tk_M (X := X) (Q := Q) (c := 3) hS (by decide)
  have tv : s_tk 3 = 0 := rfl
  rw [tv] at tkM
  rw [so_a hS ht hK h8 (by decide) (by decide) (by decide) (by decide)]
  have p : s_pre S 3 = 0 := (pre_i hn).mpr ⟨fun q => absurd q.1 (by decide), fun q => absurd q.1 (by decide)⟩
  rw [if_pos p]
  simp (decide := true) only [r77_74, r77_75, r77_77, r77_80, r77_81, r77_83, r77_86, r77_87, r77_88, r77_89, r77_92, r77_93, r77_96, r77_97 (s0 := 0) (Or.inl rfl), r77_97 (s0 := 1) (Or.inr rfl), r77_98, r77_99, r77_101, r77_104, r77_105, r77_106, r77_107, r77_110, r77_112, r77_113, r77_114, r77_117, r77_118, r77_121, r77_122 (s0 := 0) (Or.inl rfl), r77_122 (s0 := 1) (Or.inr rfl), r77_123, r77_124, r77_125, r77_128, r77_131, r77_132, r77_133, r77_134, r77_137, r77_138, r77_139, r77_142, r77_143, r77_146, r77_148, r77_149, r77_150, r77_153, r77_154, r77_157, r77_158 (s0 := 0) (Or.inl rfl), r77_158 (s0 := 1) (Or.inr rfl), tkM, sh59 hS, sm_wp_some, sm_wp_none, sm_at, sm_get, sm_fld, sm_pfl, sm_cN, sm_ai, sm_al, sm_si, sm_slg, sm_aa, List.getElem?_cons_zero, List.getElem?_cons_succ, List.set_cons_zero, List.set_cons_succ, List.length_cons, List.length_nil, Option.toList_some, Option.toList_none, List.cons_append, List.nil_append, if_true, if_false, true_and, and_true, Option.some.injEq, gs_o, gs_s, List.length_set, hS.1, pk_us, Nat.reduceLT, Nat.reduceLeDiff, Nat.reduceSub, Nat.reduceEqDiff, Nat.reduceAdd, Int32.reduceLT, Int32.reduceLE, Int32.reduceAdd, Int32.reduceSub, Int32.reduceToNatClampNeg, reduceIte, reduceCtorEq, Nat.lt_irrefl]
theorem so_4 {X : sm_X} {w : sm_W} {Q : Option Value → sm_W → Prop} {S : sm_S} (hS : Sh w) (ht : wn w 59 24 = nI (S 14 0)) (hK : SkM w S) (h8 : S 14 0 ≤ 8) (hE : ∀ i, i < S 14 0 → s_ent (S 13 i) (S 12 i)) (hn : ¬ S 14 0 < s_tk 4) : sm_R X 77 0 [.ref 159, .int (nI 4), sm_J, sm_J, sm_J, sm_J] [] w Q ↔ Q (some (.int (if s_pre S 4 = 0 then 1 else 0))) w := by
  have hn : ¬ S 14 0 < 0 := hn
  have tkM := fun Q => tk_M (X := X) (Q := Q) (c := 4) hS (by decide)
  have tv : s_tk 4 = 0 := rfl
  rw [tv] at tkM
  rw [so_a hS ht hK h8 (by decide) (by decide) (by decide) (by decide)]
  have p : s_pre S 4 = 0 := (pre_i hn).mpr ⟨fun q => absurd q.1 (by decide), fun q => absurd q.1 (by decide)⟩
  rw [if_pos p]
  simp (decide := true) only [r77_74, r77_75, r77_77, r77_80, r77_81, r77_83, r77_86, r77_87, r77_88, r77_89, r77_92, r77_93, r77_96, r77_97 (s0 := 0) (Or.inl rfl), r77_97 (s0 := 1) (Or.inr rfl), r77_98, r77_99, r77_101, r77_104, r77_105, r77_106, r77_107, r77_110, r77_112, r77_113, r77_114, r77_117, r77_118, r77_121, r77_122 (s0 := 0) (Or.inl rfl), r77_122 (s0 := 1) (Or.inr rfl), r77_123, r77_124, r77_125, r77_128, r77_131, r77_132, r77_133, r77_134, r77_137, r77_138, r77_139, r77_142, r77_143, r77_146, r77_148, r77_149, r77_150, r77_153, r77_154, r77_157, r77_158 (s0 := 0) (Or.inl rfl), r77_158 (s0 := 1) (Or.inr rfl), tkM, sh59 hS, sm_wp_some, sm_wp_none, sm_at, sm_get, sm_fld, sm_pfl, sm_cN, sm_ai, sm_al, sm_si, sm_slg, sm_aa, List.getElem?_cons_zero, List.getElem?_cons_succ, List.set_cons_zero, List.set_cons_succ, List.length_cons, List.length_nil, Option.toList_some, Option.toList_none, List.cons_append, List.nil_append, if_true, if_false, true_and, and_true, Option.some.injEq, gs_o, gs_s, List.length_set, hS.1, pk_us, Nat.reduceLT, Nat.reduceLeDiff, Nat.reduceSub, Nat.reduceEqDiff, Nat.reduceAdd, Int32.reduceLT, Int32.reduceLE, Int32.reduceAdd, Int32.reduceSub, Int32.reduceToNatClampNeg, reduceIte, reduceCtorEq, Nat.lt_irrefl]
theorem so_5 {X : sm_X} {w : sm_W} {Q : Option Value → sm_W → Prop} {S : sm_S} (hS : Sh w) (ht : wn w 59 24 = nI (S 14 0)) (hK : SkM w S) (h8 : S 14 0 ≤ 8) (hE : ∀ i, i < S 14 0 → s_ent (S 13 i) (S 12 i)) (hn : ¬ S 14 0 < s_tk 5) : sm_R X 77 0 [.ref 159, .int (nI 5), sm_J, sm_J, sm_J, sm_J] [] w Q ↔ Q (some (.int (if s_pre S 5 = 0 then 1 else 0))) w := by
  have hn : ¬ S 14 0 < 0 := hn
  have tkM := fun Q => tk_M (X := X) (Q := Q) (c := 5) hS (by decide)
  have tv : s_tk 5 = 0 := rfl
  rw [tv] at tkM
  rw [so_a hS ht hK h8 (by decide) (by decide) (by decide) (by decide)]
  have p : s_pre S 5 = 0 := (pre_i hn).mpr ⟨fun q => absurd q.1 (by decide), fun q => absurd q.1 (by decide)⟩
  rw [if_pos p]
  simp (decide := true) only [r77_74, r77_75, r77_77, r77_80, r77_81, r77_83, r77_86, r77_87, r77_88, r77_89, r77_92, r77_93, r77_96, r77_97 (s0 := 0) (Or.inl rfl), r77_97 (s0 := 1) (Or.inr rfl), r77_98, r77_99, r77_101, r77_104, r77_105, r77_106, r77_107, r77_110, r77_112, r77_113, r77_114, r77_117, r77_118, r77_121, r77_122 (s0 := 0) (Or.inl rfl), r77_122 (s0 := 1) (Or.inr rfl), r77_123, r77_124, r77_125, r77_128, r77_131, r77_132, r77_133, r77_134, r77_137, r77_138, r77_139, r77_142, r77_143, r77_146, r77_148, r77_149, r77_150, r77_153, r77_154, r77_157, r77_158 (s0 := 0) (Or.inl rfl), r77_158 (s0 := 1) (Or.inr rfl), tkM, sh59 hS, sm_wp_some, sm_wp_none, sm_at, sm_get, sm_fld, sm_pfl, sm_cN, sm_ai, sm_al, sm_si, sm_slg, sm_aa, List.getElem?_cons_zero, List.getElem?_cons_succ, List.set_cons_zero, List.set_cons_succ, List.length_cons, List.length_nil, Option.toList_some, Option.toList_none, List.cons_append, List.nil_append, if_true, if_false, true_and, and_true, Option.some.injEq, gs_o, gs_s, List.length_set, hS.1, pk_us, Nat.reduceLT, Nat.reduceLeDiff, Nat.reduceSub, Nat.reduceEqDiff, Nat.reduceAdd, Int32.reduceLT, Int32.reduceLE, Int32.reduceAdd, Int32.reduceSub, Int32.reduceToNatClampNeg, reduceIte, reduceCtorEq, Nat.lt_irrefl]
theorem so_6 {X : sm_X} {w : sm_W} {Q : Option Value → sm_W → Prop} {S : sm_S} (hS : Sh w) (ht : wn w 59 24 = nI (S 14 0)) (hK : SkM w S) (h8 : S 14 0 ≤ 8) (hE : ∀ i, i < S 14 0 → s_ent (S 13 i) (S 12 i)) (hn : ¬ S 14 0 < s_tk 6) : sm_R X 77 0 [.ref 159, .int (nI 6), sm_J, sm_J, sm_J, sm_J] [] w Q ↔ Q (some (.int (if s_pre S 6 = 0 then 1 else 0))) w := by
  have hn : ¬ S 14 0 < 1 := hn
  have tkM := fun Q => tk_M (X := X) (Q := Q) (c := 6) hS (by decide)
  have tv : s_tk 6 = 1 := rfl
  rw [tv] at tkM
  rw [so_a hS ht hK h8 (by decide) (by decide) (by decide) (by decide)]
  have l1 : lT S 1 = lE (S 13 (S 14 0 - 1)) (S 12 (S 14 0 - 1)) := if_neg hn
  have en := hE (S 14 0 - 1) (by omega)
  obtain ⟨s1, s2⟩ := lE_neg en
  rw [l1]
  have n1 : nI 1 = 1 := rfl
  by_cases e : S 13 (S 14 0 - 1) = 2
  · have p : ¬ s_pre S 6 = 0 := by
      rw [pre_i hn]
      have v1 : s_mt 6 = 1 := rfl
      have v2 : s_tk 6 = 1 := rfl
      omega
    rw [if_neg p]
    have a1 := s1.mpr e
    have a2 : ¬ 0 ≤ lg_cmp (lE (S 13 (S 14 0 - 1)) (S 12 (S 14 0 - 1))) 0 := fun q => s2.mp q e
    simp (decide := true) only [r77_74, r77_75, r77_77, r77_80, r77_81, r77_83, r77_86, r77_87, r77_88, r77_89, r77_92, r77_93, r77_96, r77_97 (s0 := 0) (Or.inl rfl), r77_97 (s0 := 1) (Or.inr rfl), r77_98, r77_99, r77_101, r77_104, r77_105, r77_106, r77_107, r77_110, r77_112, r77_113, r77_114, r77_117, r77_118, r77_121, r77_122 (s0 := 0) (Or.inl rfl), r77_122 (s0 := 1) (Or.inr rfl), r77_123, r77_124, r77_125, r77_128, r77_131, r77_132, r77_133, r77_134, r77_137, r77_138, r77_139, r77_142, r77_143, r77_146, r77_148, r77_149, r77_150, r77_153, r77_154, r77_157, r77_158 (s0 := 0) (Or.inl rfl), r77_158 (s0 := 1) (Or.inr rfl), tkM, n1, a1, a2, sh59 hS, sm_wp_some, sm_wp_none, sm_at, sm_get, sm_fld, sm_pfl, sm_cN, sm_ai, sm_al, sm_si, sm_slg, sm_aa, List.getElem?_cons_zero, List.getElem?_cons_succ, List.set_cons_zero, List.set_cons_succ, List.length_cons, List.length_nil, Option.toList_some, Option.toList_none, List.cons_append, List.nil_append, if_true, if_false, true_and, and_true, Option.some.injEq, gs_o, gs_s, List.length_set, hS.1, pk_us, Nat.reduceLT, Nat.reduceLeDiff, Nat.reduceSub, Nat.reduceEqDiff, Nat.reduceAdd, Int32.reduceLT, Int32.reduceLE, Int32.reduceAdd, Int32.reduceSub, Int32.reduceToNatClampNeg, reduceIte, reduceCtorEq, Nat.lt_irrefl]
  · have p : s_pre S 6 = 0 := by
      rw [pre_i hn]
      have v1 : s_mt 6 = 1 := rfl
      have v2 : s_tk 6 = 1 := rfl
      unfold s_ent at en
      omega
    rw [if_pos p]
    have a1 : ¬ lg_cmp (lE (S 13 (S 14 0 - 1)) (S 12 (S 14 0 - 1))) 0 < 0 := fun q => e (s1.mp q)
    have a2 := s2.mpr e
    simp (decide := true) only [r77_74, r77_75, r77_77, r77_80, r77_81, r77_83, r77_86, r77_87, r77_88, r77_89, r77_92, r77_93, r77_96, r77_97 (s0 := 0) (Or.inl rfl), r77_97 (s0 := 1) (Or.inr rfl), r77_98, r77_99, r77_101, r77_104, r77_105, r77_106, r77_107, r77_110, r77_112, r77_113, r77_114, r77_117, r77_118, r77_121, r77_122 (s0 := 0) (Or.inl rfl), r77_122 (s0 := 1) (Or.inr rfl), r77_123, r77_124, r77_125, r77_128, r77_131, r77_132, r77_133, r77_134, r77_137, r77_138, r77_139, r77_142, r77_143, r77_146, r77_148, r77_149, r77_150, r77_153, r77_154, r77_157, r77_158 (s0 := 0) (Or.inl rfl), r77_158 (s0 := 1) (Or.inr rfl), tkM, n1, a1, a2, sh59 hS, sm_wp_some, sm_wp_none, sm_at, sm_get, sm_fld, sm_pfl, sm_cN, sm_ai, sm_al, sm_si, sm_slg, sm_aa, List.getElem?_cons_zero, List.getElem?_cons_succ, List.set_cons_zero, List.set_cons_succ, List.length_cons, List.length_nil, Option.toList_some, Option.toList_none, List.cons_append, List.nil_append, if_true, if_false, true_and, and_true, Option.some.injEq, gs_o, gs_s, List.length_set, hS.1, pk_us, Nat.reduceLT, Nat.reduceLeDiff, Nat.reduceSub, Nat.reduceEqDiff, Nat.reduceAdd, Int32.reduceLT, Int32.reduceLE, Int32.reduceAdd, Int32.reduceSub, Int32.reduceToNatClampNeg, reduceIte, reduceCtorEq, Nat.lt_irrefl]
theorem so_7 {X : sm_X} {w : sm_W} {Q : Option Value → sm_W → Prop} {S : sm_S} (hS : Sh w) (ht : wn w 59 24 = nI (S 14 0)) (hK : SkM w S) (h8 : S 14 0 ≤ 8) (hE : ∀ i, i < S 14 0 → s_ent (S 13 i) (S 12 i)) (hn : ¬ S 14 0 < s_tk 7) : sm_R X 77 0 [.ref 159, .int (nI 7), sm_J, sm_J, sm_J, sm_J] [] w Q ↔ Q (some (.int (if s_pre S 7 = 0 then 1 else 0))) w := by
  have hn : ¬ S 14 0 < 1 := hn
  have tkM := fun Q => tk_M (X := X) (Q := Q) (c := 7) hS (by decide)
  have tv : s_tk 7 = 1 := rfl
  rw [tv] at tkM
  rw [so_a hS ht hK h8 (by decide) (by decide) (by decide) (by decide)]
  have l1 : lT S 1 = lE (S 13 (S 14 0 - 1)) (S 12 (S 14 0 - 1)) := if_neg hn
  have en := hE (S 14 0 - 1) (by omega)
  obtain ⟨s1, s2⟩ := lE_neg en
  rw [l1]
  have n1 : nI 1 = 1 := rfl
  by_cases e : S 13 (S 14 0 - 1) = 2
  · have p : ¬ s_pre S 7 = 0 := by
      rw [pre_i hn]
      have v1 : s_mt 7 = 1 := rfl
      have v2 : s_tk 7 = 1 := rfl
      omega
    rw [if_neg p]
    have a1 := s1.mpr e
    have a2 : ¬ 0 ≤ lg_cmp (lE (S 13 (S 14 0 - 1)) (S 12 (S 14 0 - 1))) 0 := fun q => s2.mp q e
    simp (decide := true) only [r77_74, r77_75, r77_77, r77_80, r77_81, r77_83, r77_86, r77_87, r77_88, r77_89, r77_92, r77_93, r77_96, r77_97 (s0 := 0) (Or.inl rfl), r77_97 (s0 := 1) (Or.inr rfl), r77_98, r77_99, r77_101, r77_104, r77_105, r77_106, r77_107, r77_110, r77_112, r77_113, r77_114, r77_117, r77_118, r77_121, r77_122 (s0 := 0) (Or.inl rfl), r77_122 (s0 := 1) (Or.inr rfl), r77_123, r77_124, r77_125, r77_128, r77_131, r77_132, r77_133, r77_134, r77_137, r77_138, r77_139, r77_142, r77_143, r77_146, r77_148, r77_149, r77_150, r77_153, r77_154, r77_157, r77_158 (s0 := 0) (Or.inl rfl), r77_158 (s0 := 1) (Or.inr rfl), tkM, n1, a1, a2, sh59 hS, sm_wp_some, sm_wp_none, sm_at, sm_get, sm_fld, sm_pfl, sm_cN, sm_ai, sm_al, sm_si, sm_slg, sm_aa, List.getElem?_cons_zero, List.getElem?_cons_succ, List.set_cons_zero, List.set_cons_succ, List.length_cons, List.length_nil, Option.toList_some, Option.toList_none, List.cons_append, List.nil_append, if_true, if_false, true_and, and_true, Option.some.injEq, gs_o, gs_s, List.length_set, hS.1, pk_us, Nat.reduceLT, Nat.reduceLeDiff, Nat.reduceSub, Nat.reduceEqDiff, Nat.reduceAdd, Int32.reduceLT, Int32.reduceLE, Int32.reduceAdd, Int32.reduceSub, Int32.reduceToNatClampNeg, reduceIte, reduceCtorEq, Nat.lt_irrefl]
  · have p : s_pre S 7 = 0 := by
      rw [pre_i hn]
      have v1 : s_mt 7 = 1 := rfl
      have v2 : s_tk 7 = 1 := rfl
      unfold s_ent at en
      omega
    rw [if_pos p]
    have a1 : ¬ lg_cmp (lE (S 13 (S 14 0 - 1)) (S 12 (S 14 0 - 1))) 0 < 0 := fun q => e (s1.mp q)
    have a2 := s2.mpr e
    simp (decide := true) only [r77_74, r77_75, r77_77, r77_80, r77_81, r77_83, r77_86, r77_87, r77_88, r77_89, r77_92, r77_93, r77_96, r77_97 (s0 := 0) (Or.inl rfl), r77_97 (s0 := 1) (Or.inr rfl), r77_98, r77_99, r77_101, r77_104, r77_105, r77_106, r77_107, r77_110, r77_112, r77_113, r77_114, r77_117, r77_118, r77_121, r77_122 (s0 := 0) (Or.inl rfl), r77_122 (s0 := 1) (Or.inr rfl), r77_123, r77_124, r77_125, r77_128, r77_131, r77_132, r77_133, r77_134, r77_137, r77_138, r77_139, r77_142, r77_143, r77_146, r77_148, r77_149, r77_150, r77_153, r77_154, r77_157, r77_158 (s0 := 0) (Or.inl rfl), r77_158 (s0 := 1) (Or.inr rfl), tkM, n1, a1, a2, sh59 hS, sm_wp_some, sm_wp_none, sm_at, sm_get, sm_fld, sm_pfl, sm_cN, sm_ai, sm_al, sm_si, sm_slg, sm_aa, List.getElem?_cons_zero, List.getElem?_cons_succ, List.set_cons_zero, List.set_cons_succ, List.length_cons, List.length_nil, Option.toList_some, Option.toList_none, List.cons_append, List.nil_append, if_true, if_false, true_and, and_true, Option.some.injEq, gs_o, gs_s, List.length_set, hS.1, pk_us, Nat.reduceLT, Nat.reduceLeDiff, Nat.reduceSub, Nat.reduceEqDiff, Nat.reduceAdd, Int32.reduceLT, Int32.reduceLE, Int32.reduceAdd, Int32.reduceSub, Int32.reduceToNatClampNeg, reduceIte, reduceCtorEq, Nat.lt_irrefl]
theorem so_8 {X : sm_X} {w : sm_W} {Q : Option Value → sm_W → Prop} {S : sm_S} (hS : Sh w) (ht : wn w 59 24 = nI (S 14 0)) (hK : SkM w S) (h8 : S 14 0 ≤ 8) (hE : ∀ i, i < S 14 0 → s_ent (S 13 i) (S 12 i)) (hn : ¬ S 14 0 < s_tk 8) : sm_R X 77 0 [.ref 159, .int (nI 8), sm_J, sm_J, sm_J, sm_J] [] w Q ↔ Q (some (.int (if s_pre S 8 = 0 then 1 else 0))) w := by
  have hn : ¬ S 14 0 < 2 := hn
  have tkM := fun Q => tk_M (X := X) (Q := Q) (c := 8) hS (by decide)
  have tv : s_tk 8 = 2 := rfl
  rw [tv] at tkM
  rw [so_a hS ht hK h8 (by decide) (by decide) (by decide) (by decide)]
  have l1 : lT S 1 = lE (S 13 (S 14 0 - 1)) (S 12 (S 14 0 - 1)) := if_neg (by omega)
  have l2 : lT S 2 = lE (S 13 (S 14 0 - 2)) (S 12 (S 14 0 - 2)) := if_neg hn
  have en := hE (S 14 0 - 1) (by omega)
  have em := hE (S 14 0 - 2) (by omega)
  obtain ⟨s1, s2⟩ := lE_neg en
  obtain ⟨s3, s4⟩ := lE_neg em
  rw [l1, l2]
  have n2 : nI 2 = 2 := rfl
  have v1 : s_mt 8 = 1 := rfl
  have v2 : s_tk 8 = 2 := rfl
  have v3 : s_mu 8 = 1 := rfl
  have pi := pre_i (S := S) (c := 8) hn
  rw [v1, v2, v3] at pi
  unfold s_ent at en em
  by_cases e : S 13 (S 14 0 - 1) = 2
  · have p : ¬ s_pre S 8 = 0 := by
      rw [pi]
      omega
    rw [if_neg p]
    have a1 := s1.mpr e
    simp (decide := true) only [r77_74, r77_75, r77_77, r77_80, r77_81, r77_83, r77_86, r77_87, r77_88, r77_89, r77_92, r77_93, r77_96, r77_97 (s0 := 0) (Or.inl rfl), r77_97 (s0 := 1) (Or.inr rfl), r77_98, r77_99, r77_101, r77_104, r77_105, r77_106, r77_107, r77_110, r77_112, r77_113, r77_114, r77_117, r77_118, r77_121, r77_122 (s0 := 0) (Or.inl rfl), r77_122 (s0 := 1) (Or.inr rfl), r77_123, r77_124, r77_125, r77_128, r77_131, r77_132, r77_133, r77_134, r77_137, r77_138, r77_139, r77_142, r77_143, r77_146, r77_148, r77_149, r77_150, r77_153, r77_154, r77_157, r77_158 (s0 := 0) (Or.inl rfl), r77_158 (s0 := 1) (Or.inr rfl), tkM, n2, a1, sh59 hS, sm_wp_some, sm_wp_none, sm_at, sm_get, sm_fld, sm_pfl, sm_cN, sm_ai, sm_al, sm_si, sm_slg, sm_aa, List.getElem?_cons_zero, List.getElem?_cons_succ, List.set_cons_zero, List.set_cons_succ, List.length_cons, List.length_nil, Option.toList_some, Option.toList_none, List.cons_append, List.nil_append, if_true, if_false, true_and, and_true, Option.some.injEq, gs_o, gs_s, List.length_set, hS.1, pk_us, Nat.reduceLT, Nat.reduceLeDiff, Nat.reduceSub, Nat.reduceEqDiff, Nat.reduceAdd, Int32.reduceLT, Int32.reduceLE, Int32.reduceAdd, Int32.reduceSub, Int32.reduceToNatClampNeg, reduceIte, reduceCtorEq, Nat.lt_irrefl]
  · have a1 : ¬ lg_cmp (lE (S 13 (S 14 0 - 1)) (S 12 (S 14 0 - 1))) 0 < 0 := fun q => e (s1.mp q)
    by_cases f : S 13 (S 14 0 - 2) = 2
    · have p : ¬ s_pre S 8 = 0 := by
        rw [pi]
        omega
      rw [if_neg p]
      have a3 := s3.mpr f
      have a4 : ¬ 0 ≤ lg_cmp (lE (S 13 (S 14 0 - 2)) (S 12 (S 14 0 - 2))) 0 := fun q => s4.mp q f
      simp (decide := true) only [r77_74, r77_75, r77_77, r77_80, r77_81, r77_83, r77_86, r77_87, r77_88, r77_89, r77_92, r77_93, r77_96, r77_97 (s0 := 0) (Or.inl rfl), r77_97 (s0 := 1) (Or.inr rfl), r77_98, r77_99, r77_101, r77_104, r77_105, r77_106, r77_107, r77_110, r77_112, r77_113, r77_114, r77_117, r77_118, r77_121, r77_122 (s0 := 0) (Or.inl rfl), r77_122 (s0 := 1) (Or.inr rfl), r77_123, r77_124, r77_125, r77_128, r77_131, r77_132, r77_133, r77_134, r77_137, r77_138, r77_139, r77_142, r77_143, r77_146, r77_148, r77_149, r77_150, r77_153, r77_154, r77_157, r77_158 (s0 := 0) (Or.inl rfl), r77_158 (s0 := 1) (Or.inr rfl), tkM, n2, a1, a3, a4, sh59 hS, sm_wp_some, sm_wp_none, sm_at, sm_get, sm_fld, sm_pfl, sm_cN, sm_ai, sm_al, sm_si, sm_slg, sm_aa, List.getElem?_cons_zero, List.getElem?_cons_succ, List.set_cons_zero, List.set_cons_succ, List.length_cons, List.length_nil, Option.toList_some, Option.toList_none, List.cons_append, List.nil_append, if_true, if_false, true_and, and_true, Option.some.injEq, gs_o, gs_s, List.length_set, hS.1, pk_us, Nat.reduceLT, Nat.reduceLeDiff, Nat.reduceSub, Nat.reduceEqDiff, Nat.reduceAdd, Int32.reduceLT, Int32.reduceLE, Int32.reduceAdd, Int32.reduceSub, Int32.reduceToNatClampNeg, reduceIte, reduceCtorEq, Nat.lt_irrefl]
    · have p : s_pre S 8 = 0 := by
        rw [pi]
        omega
      rw [if_pos p]
      have a3 : ¬ lg_cmp (lE (S 13 (S 14 0 - 2)) (S 12 (S 14 0 - 2))) 0 < 0 := fun q => f (s3.mp q)
      have a4 := s4.mpr f
      simp (decide := true) only [r77_74, r77_75, r77_77, r77_80, r77_81, r77_83, r77_86, r77_87, r77_88, r77_89, r77_92, r77_93, r77_96, r77_97 (s0 := 0) (Or.inl rfl), r77_97 (s0 := 1) (Or.inr rfl), r77_98, r77_99, r77_101, r77_104, r77_105, r77_106, r77_107, r77_110, r77_112, r77_113, r77_114, r77_117, r77_118, r77_121, r77_122 (s0 := 0) (Or.inl rfl), r77_122 (s0 := 1) (Or.inr rfl), r77_123, r77_124, r77_125, r77_128, r77_131, r77_132, r77_133, r77_134, r77_137, r77_138, r77_139, r77_142, r77_143, r77_146, r77_148, r77_149, r77_150, r77_153, r77_154, r77_157, r77_158 (s0 := 0) (Or.inl rfl), r77_158 (s0 := 1) (Or.inr rfl), tkM, n2, a1, a3, a4, sh59 hS, sm_wp_some, sm_wp_none, sm_at, sm_get, sm_fld, sm_pfl, sm_cN, sm_ai, sm_al, sm_si, sm_slg, sm_aa, List.getElem?_cons_zero, List.getElem?_cons_succ, List.set_cons_zero, List.set_cons_succ, List.length_cons, List.length_nil, Option.toList_some, Option.toList_none, List.cons_append, List.nil_append, if_true, if_false, true_and, and_true, Option.some.injEq, gs_o, gs_s, List.length_set, hS.1, pk_us, Nat.reduceLT, Nat.reduceLeDiff, Nat.reduceSub, Nat.reduceEqDiff, Nat.reduceAdd, Int32.reduceLT, Int32.reduceLE, Int32.reduceAdd, Int32.reduceSub, Int32.reduceToNatClampNeg, reduceIte, reduceCtorEq, Nat.lt_irrefl]
theorem so_9 {X : sm_X} {w : sm_W} {Q : Option Value → sm_W → Prop} {S : sm_S} (hS : Sh w) (ht : wn w 59 24 = nI (S 14 0)) (hK : SkM w S) (h8 : S 14 0 ≤ 8) (hE : ∀ i, i < S 14 0 → s_ent (S 13 i) (S 12 i)) (hn : ¬ S 14 0 < s_tk 9) : sm_R X 77 0 [.ref 159, .int (nI 9), sm_J, sm_J, sm_J, sm_J] [] w Q ↔ Q (some (.int (if s_pre S 9 = 0 then 1 else 0))) w := by
  have hn : ¬ S 14 0 < 2 := hn
  have tkM := fun Q => tk_M (X := X) (Q := Q) (c := 9) hS (by decide)
  have tv : s_tk 9 = 2 := rfl
  rw [tv] at tkM
  rw [so_a hS ht hK h8 (by decide) (by decide) (by decide) (by decide)]
  have l1 : lT S 1 = lE (S 13 (S 14 0 - 1)) (S 12 (S 14 0 - 1)) := if_neg (by omega)
  have l2 : lT S 2 = lE (S 13 (S 14 0 - 2)) (S 12 (S 14 0 - 2)) := if_neg hn
  have en := hE (S 14 0 - 1) (by omega)
  have em := hE (S 14 0 - 2) (by omega)
  obtain ⟨s1, s2⟩ := lE_neg en
  obtain ⟨s3, s4⟩ := lE_neg em
  rw [l1, l2]
  have n2 : nI 2 = 2 := rfl
  have v1 : s_mt 9 = 1 := rfl
  have v2 : s_tk 9 = 2 := rfl
  have v3 : s_mu 9 = 1 := rfl
  have pi := pre_i (S := S) (c := 9) hn
  rw [v1, v2, v3] at pi
  unfold s_ent at en em
  by_cases e : S 13 (S 14 0 - 1) = 2
  · have p : ¬ s_pre S 9 = 0 := by
      rw [pi]
      omega
    rw [if_neg p]
    have a1 := s1.mpr e
    simp (decide := true) only [r77_74, r77_75, r77_77, r77_80, r77_81, r77_83, r77_86, r77_87, r77_88, r77_89, r77_92, r77_93, r77_96, r77_97 (s0 := 0) (Or.inl rfl), r77_97 (s0 := 1) (Or.inr rfl), r77_98, r77_99, r77_101, r77_104, r77_105, r77_106, r77_107, r77_110, r77_112, r77_113, r77_114, r77_117, r77_118, r77_121, r77_122 (s0 := 0) (Or.inl rfl), r77_122 (s0 := 1) (Or.inr rfl), r77_123, r77_124, r77_125, r77_128, r77_131, r77_132, r77_133, r77_134, r77_137, r77_138, r77_139, r77_142, r77_143, r77_146, r77_148, r77_149, r77_150, r77_153, r77_154, r77_157, r77_158 (s0 := 0) (Or.inl rfl), r77_158 (s0 := 1) (Or.inr rfl), tkM, n2, a1, sh59 hS, sm_wp_some, sm_wp_none, sm_at, sm_get, sm_fld, sm_pfl, sm_cN, sm_ai, sm_al, sm_si, sm_slg, sm_aa, List.getElem?_cons_zero, List.getElem?_cons_succ, List.set_cons_zero, List.set_cons_succ, List.length_cons, List.length_nil, Option.toList_some, Option.toList_none, List.cons_append, List.nil_append, if_true, if_false, true_and, and_true, Option.some.injEq, gs_o, gs_s, List.length_set, hS.1, pk_us, Nat.reduceLT, Nat.reduceLeDiff, Nat.reduceSub, Nat.reduceEqDiff, Nat.reduceAdd, Int32.reduceLT, Int32.reduceLE, Int32.reduceAdd, Int32.reduceSub, Int32.reduceToNatClampNeg, reduceIte, reduceCtorEq, Nat.lt_irrefl]
  · have a1 : ¬ lg_cmp (lE (S 13 (S 14 0 - 1)) (S 12 (S 14 0 - 1))) 0 < 0 := fun q => e (s1.mp q)
    by_cases f : S 13 (S 14 0 - 2) = 2
    · have p : ¬ s_pre S 9 = 0 := by
        rw [pi]
        omega
      rw [if_neg p]
      have a3 := s3.mpr f
      have a4 : ¬ 0 ≤ lg_cmp (lE (S 13 (S 14 0 - 2)) (S 12 (S 14 0 - 2))) 0 := fun q => s4.mp q f
      simp (decide := true) only [r77_74, r77_75, r77_77, r77_80, r77_81, r77_83, r77_86, r77_87, r77_88, r77_89, r77_92, r77_93, r77_96, r77_97 (s0 := 0) (Or.inl rfl), r77_97 (s0 := 1) (Or.inr rfl), r77_98, r77_99, r77_101, r77_104, r77_105, r77_106, r77_107, r77_110, r77_112, r77_113, r77_114, r77_117, r77_118, r77_121, r77_122 (s0 := 0) (Or.inl rfl), r77_122 (s0 := 1) (Or.inr rfl), r77_123, r77_124, r77_125, r77_128, r77_131, r77_132, r77_133, r77_134, r77_137, r77_138, r77_139, r77_142, r77_143, r77_146, r77_148, r77_149, r77_150, r77_153, r77_154, r77_157, r77_158 (s0 := 0) (Or.inl rfl), r77_158 (s0 := 1) (Or.inr rfl), tkM, n2, a1, a3, a4, sh59 hS, sm_wp_some, sm_wp_none, sm_at, sm_get, sm_fld, sm_pfl, sm_cN, sm_ai, sm_al, sm_si, sm_slg, sm_aa, List.getElem?_cons_zero, List.getElem?_cons_succ, List.set_cons_zero, List.set_cons_succ, List.length_cons, List.length_nil, Option.toList_some, Option.toList_none, List.cons_append, List.nil_append, if_true, if_false, true_and, and_true, Option.some.injEq, gs_o, gs_s, List.length_set, hS.1, pk_us, Nat.reduceLT, Nat.reduceLeDiff, Nat.reduceSub, Nat.reduceEqDiff, Nat.reduceAdd, Int32.reduceLT, Int32.reduceLE, Int32.reduceAdd, Int32.reduceSub, Int32.reduceToNatClampNeg, reduceIte, reduceCtorEq, Nat.lt_irrefl]
    · have p : s_pre S 9 = 0 := by
        rw [pi]
        omega
      rw [if_pos p]
      have a3 : ¬ lg_cmp (lE (S 13 (S 14 0 - 2)) (S 12 (S 14 0 - 2))) 0 < 0 := fun q => f (s3.mp q)
      have a4 := s4.mpr f
      simp (decide := true) only [r77_74, r77_75, r77_77, r77_80, r77_81, r77_83, r77_86, r77_87, r77_88, r77_89, r77_92, r77_93, r77_96, r77_97 (s0 := 0) (Or.inl rfl), r77_97 (s0 := 1) (Or.inr rfl), r77_98, r77_99, r77_101, r77_104, r77_105, r77_106, r77_107, r77_110, r77_112, r77_113, r77_114, r77_117, r77_118, r77_121, r77_122 (s0 := 0) (Or.inl rfl), r77_122 (s0 := 1) (Or.inr rfl), r77_123, r77_124, r77_125, r77_128, r77_131, r77_132, r77_133, r77_134, r77_137, r77_138, r77_139, r77_142, r77_143, r77_146, r77_148, r77_149, r77_150, r77_153, r77_154, r77_157, r77_158 (s0 := 0) (Or.inl rfl), r77_158 (s0 := 1) (Or.inr rfl), tkM, n2, a1, a3, a4, sh59 hS, sm_wp_some, sm_wp_none, sm_at, sm_get, sm_fld, sm_pfl, sm_cN, sm_ai, sm_al, sm_si, sm_slg, sm_aa, List.getElem?_cons_zero, List.getElem?_cons_succ, List.set_cons_zero, List.set_cons_succ, List.length_cons, List.length_nil, Option.toList_some, Option.toList_none, List.cons_append, List.nil_append, if_true, if_false, true_and, and_true, Option.some.injEq, gs_o, gs_s, List.length_set, hS.1, pk_us, Nat.reduceLT, Nat.reduceLeDiff, Nat.reduceSub, Nat.reduceEqDiff, Nat.reduceAdd, Int32.reduceLT, Int32.reduceLE, Int32.reduceAdd, Int32.reduceSub, Int32.reduceToNatClampNeg, reduceIte, reduceCtorEq, Nat.lt_irrefl]
theorem so_10 {X : sm_X} {w : sm_W} {Q : Option Value → sm_W → Prop} {S : sm_S} (hS : Sh w) (ht : wn w 59 24 = nI (S 14 0)) (hK : SkM w S) (h8 : S 14 0 ≤ 8) (hE : ∀ i, i < S 14 0 → s_ent (S 13 i) (S 12 i)) (hn : ¬ S 14 0 < s_tk 10) : sm_R X 77 0 [.ref 159, .int (nI 10), sm_J, sm_J, sm_J, sm_J] [] w Q ↔ Q (some (.int (if s_pre S 10 = 0 then 1 else 0))) w := by
  have hn : ¬ S 14 0 < 2 := hn
  have tkM := fun Q => tk_M (X := X) (Q := Q) (c := 10) hS (by decide)
  have tv : s_tk 10 = 2 := rfl
  rw [tv] at tkM
  rw [so_a hS ht hK h8 (by decide) (by decide) (by decide) (by decide)]
  have l1 : lT S 1 = lE (S 13 (S 14 0 - 1)) (S 12 (S 14 0 - 1)) := if_neg (by omega)
  have l2 : lT S 2 = lE (S 13 (S 14 0 - 2)) (S 12 (S 14 0 - 2)) := if_neg hn
  have en := hE (S 14 0 - 1) (by omega)
  have em := hE (S 14 0 - 2) (by omega)
  obtain ⟨s1, s2⟩ := lE_neg en
  obtain ⟨s3, s4⟩ := lE_neg em
  rw [l1, l2]
  have n2 : nI 2 = 2 := rfl
  have v1 : s_mt 10 = 1 := rfl
  have v2 : s_tk 10 = 2 := rfl
  have v3 : s_mu 10 = 1 := rfl
  have pi := pre_i (S := S) (c := 10) hn
  rw [v1, v2, v3] at pi
  unfold s_ent at en em
  by_cases e : S 13 (S 14 0 - 1) = 2
  · have p : ¬ s_pre S 10 = 0 := by
      rw [pi]
      omega
    rw [if_neg p]
    have a1 := s1.mpr e
    simp (decide := true) only [r77_74, r77_75, r77_77, r77_80, r77_81, r77_83, r77_86, r77_87, r77_88, r77_89, r77_92, r77_93, r77_96, r77_97 (s0 := 0) (Or.inl rfl), r77_97 (s0 := 1) (Or.inr rfl), r77_98, r77_99, r77_101, r77_104, r77_105, r77_106, r77_107, r77_110, r77_112, r77_113, r77_114, r77_117, r77_118, r77_121, r77_122 (s0 := 0) (Or.inl rfl), r77_122 (s0 := 1) (Or.inr rfl), r77_123, r77_124, r77_125, r77_128, r77_131, r77_132, r77_133, r77_134, r77_137, r77_138, r77_139, r77_142, r77_143, r77_146, r77_148, r77_149, r77_150, r77_153, r77_154, r77_157, r77_158 (s0 := 0) (Or.inl rfl), r77_158 (s0 := 1) (Or.inr rfl), tkM, n2, a1, sh59 hS, sm_wp_some, sm_wp_none, sm_at, sm_get, sm_fld, sm_pfl, sm_cN, sm_ai, sm_al, sm_si, sm_slg, sm_aa, List.getElem?_cons_zero, List.getElem?_cons_succ, List.set_cons_zero, List.set_cons_succ, List.length_cons, List.length_nil, Option.toList_some, Option.toList_none, List.cons_append, List.nil_append, if_true, if_false, true_and, and_true, Option.some.injEq, gs_o, gs_s, List.length_set, hS.1, pk_us, Nat.reduceLT, Nat.reduceLeDiff, Nat.reduceSub, Nat.reduceEqDiff, Nat.reduceAdd, Int32.reduceLT, Int32.reduceLE, Int32.reduceAdd, Int32.reduceSub, Int32.reduceToNatClampNeg, reduceIte, reduceCtorEq, Nat.lt_irrefl]
  · have a1 : ¬ lg_cmp (lE (S 13 (S 14 0 - 1)) (S 12 (S 14 0 - 1))) 0 < 0 := fun q => e (s1.mp q)
    by_cases f : S 13 (S 14 0 - 2) = 2
    · have p : ¬ s_pre S 10 = 0 := by
        rw [pi]
        omega
      rw [if_neg p]
      have a3 := s3.mpr f
      have a4 : ¬ 0 ≤ lg_cmp (lE (S 13 (S 14 0 - 2)) (S 12 (S 14 0 - 2))) 0 := fun q => s4.mp q f
      simp (decide := true) only [r77_74, r77_75, r77_77, r77_80, r77_81, r77_83, r77_86, r77_87, r77_88, r77_89, r77_92, r77_93, r77_96, r77_97 (s0 := 0) (Or.inl rfl), r77_97 (s0 := 1) (Or.inr rfl), r77_98, r77_99, r77_101, r77_104, r77_105, r77_106, r77_107, r77_110, r77_112, r77_113, r77_114, r77_117, r77_118, r77_121, r77_122 (s0 := 0) (Or.inl rfl), r77_122 (s0 := 1) (Or.inr rfl), r77_123, r77_124, r77_125, r77_128, r77_131, r77_132, r77_133, r77_134, r77_137, r77_138, r77_139, r77_142, r77_143, r77_146, r77_148, r77_149, r77_150, r77_153, r77_154, r77_157, r77_158 (s0 := 0) (Or.inl rfl), r77_158 (s0 := 1) (Or.inr rfl), tkM, n2, a1, a3, a4, sh59 hS, sm_wp_some, sm_wp_none, sm_at, sm_get, sm_fld, sm_pfl, sm_cN, sm_ai, sm_al, sm_si, sm_slg, sm_aa, List.getElem?_cons_zero, List.getElem?_cons_succ, List.set_cons_zero, List.set_cons_succ, List.length_cons, List.length_nil, Option.toList_some, Option.toList_none, List.cons_append, List.nil_append, if_true, if_false, true_and, and_true, Option.some.injEq, gs_o, gs_s, List.length_set, hS.1, pk_us, Nat.reduceLT, Nat.reduceLeDiff, Nat.reduceSub, Nat.reduceEqDiff, Nat.reduceAdd, Int32.reduceLT, Int32.reduceLE, Int32.reduceAdd, Int32.reduceSub, Int32.reduceToNatClampNeg, reduceIte, reduceCtorEq, Nat.lt_irrefl]
    · have p : s_pre S 10 = 0 := by
        rw [pi]
        omega
      rw [if_pos p]
      have a3 : ¬ lg_cmp (lE (S 13 (S 14 0 - 2)) (S 12 (S 14 0 - 2))) 0 < 0 := fun q => f (s3.mp q)
      have a4 := s4.mpr f
      simp (decide := true) only [r77_74, r77_75, r77_77, r77_80, r77_81, r77_83, r77_86, r77_87, r77_88, r77_89, r77_92, r77_93, r77_96, r77_97 (s0 := 0) (Or.inl rfl), r77_97 (s0 := 1) (Or.inr rfl), r77_98, r77_99, r77_101, r77_104, r77_105, r77_106, r77_107, r77_110, r77_112, r77_113, r77_114, r77_117, r77_118, r77_121, r77_122 (s0 := 0) (Or.inl rfl), r77_122 (s0 := 1) (Or.inr rfl), r77_123, r77_124, r77_125, r77_128, r77_131, r77_132, r77_133, r77_134, r77_137, r77_138, r77_139, r77_142, r77_143, r77_146, r77_148, r77_149, r77_150, r77_153, r77_154, r77_157, r77_158 (s0 := 0) (Or.inl rfl), r77_158 (s0 := 1) (Or.inr rfl), tkM, n2, a1, a3, a4, sh59 hS, sm_wp_some, sm_wp_none, sm_at, sm_get, sm_fld, sm_pfl, sm_cN, sm_ai, sm_al, sm_si, sm_slg, sm_aa, List.getElem?_cons_zero, List.getElem?_cons_succ, List.set_cons_zero, List.set_cons_succ, List.length_cons, List.length_nil, Option.toList_some, Option.toList_none, List.cons_append, List.nil_append, if_true, if_false, true_and, and_true, Option.some.injEq, gs_o, gs_s, List.length_set, hS.1, pk_us, Nat.reduceLT, Nat.reduceLeDiff, Nat.reduceSub, Nat.reduceEqDiff, Nat.reduceAdd, Int32.reduceLT, Int32.reduceLE, Int32.reduceAdd, Int32.reduceSub, Int32.reduceToNatClampNeg, reduceIte, reduceCtorEq, Nat.lt_irrefl]
theorem so_11 {X : sm_X} {w : sm_W} {Q : Option Value → sm_W → Prop} {S : sm_S} (hS : Sh w) (ht : wn w 59 24 = nI (S 14 0)) (hK : SkM w S) (h8 : S 14 0 ≤ 8) (hE : ∀ i, i < S 14 0 → s_ent (S 13 i) (S 12 i)) (hn : ¬ S 14 0 < s_tk 11) : sm_R X 77 0 [.ref 159, .int (nI 11), sm_J, sm_J, sm_J, sm_J] [] w Q ↔ Q (some (.int (if s_pre S 11 = 0 then 1 else 0))) w := by
  have hn : ¬ S 14 0 < 2 := hn
  have tkM := fun Q => tk_M (X := X) (Q := Q) (c := 11) hS (by decide)
  have tv : s_tk 11 = 2 := rfl
  rw [tv] at tkM
  rw [so_a hS ht hK h8 (by decide) (by decide) (by decide) (by decide)]
  have l1 : lT S 1 = lE (S 13 (S 14 0 - 1)) (S 12 (S 14 0 - 1)) := if_neg (by omega)
  have l2 : lT S 2 = lE (S 13 (S 14 0 - 2)) (S 12 (S 14 0 - 2)) := if_neg hn
  have en := hE (S 14 0 - 1) (by omega)
  have em := hE (S 14 0 - 2) (by omega)
  obtain ⟨s1, s2⟩ := lE_neg en
  obtain ⟨s3, s4⟩ := lE_neg em
  rw [l1, l2]
  have n2 : nI 2 = 2 := rfl
  have v1 : s_mt 11 = 1 := rfl
  have v2 : s_tk 11 = 2 := rfl
  have v3 : s_mu 11 = 1 := rfl
  have pi := pre_i (S := S) (c := 11) hn
  rw [v1, v2, v3] at pi
  unfold s_ent at en em
  by_cases e : S 13 (S 14 0 - 1) = 2
  · have p : ¬ s_pre S 11 = 0 := by
      rw [pi]
      omega
    rw [if_neg p]
    have a1 := s1.mpr e
    simp (decide := true) only [r77_74, r77_75, r77_77, r77_80, r77_81, r77_83, r77_86, r77_87, r77_88, r77_89, r77_92, r77_93, r77_96, r77_97 (s0 := 0) (Or.inl rfl), r77_97 (s0 := 1) (Or.inr rfl), r77_98, r77_99, r77_101, r77_104, r77_105, r77_106, r77_107, r77_110, r77_112, r77_113, r77_114, r77_117, r77_118, r77_121, r77_122 (s0 := 0) (Or.inl rfl), r77_122 (s0 := 1) (Or.inr rfl), r77_123, r77_124, r77_125, r77_128, r77_131, r77_132, r77_133, r77_134, r77_137, r77_138, r77_139, r77_142, r77_143, r77_146, r77_148, r77_149, r77_150, r77_153, r77_154, r77_157, r77_158 (s0 := 0) (Or.inl rfl), r77_158 (s0 := 1) (Or.inr rfl), tkM, n2, a1, sh59 hS, sm_wp_some, sm_wp_none, sm_at, sm_get, sm_fld, sm_pfl, sm_cN, sm_ai, sm_al, sm_si, sm_slg, sm_aa, List.getElem?_cons_zero, List.getElem?_cons_succ, List.set_cons_zero, List.set_cons_succ, List.length_cons, List.length_nil, Option.toList_some, Option.toList_none, List.cons_append, List.nil_append, if_true, if_false, true_and, and_true, Option.some.injEq, gs_o, gs_s, List.length_set, hS.1, pk_us, Nat.reduceLT, Nat.reduceLeDiff, Nat.reduceSub, Nat.reduceEqDiff, Nat.reduceAdd, Int32.reduceLT, Int32.reduceLE, Int32.reduceAdd, Int32.reduceSub, Int32.reduceToNatClampNeg, reduceIte, reduceCtorEq, Nat.lt_irrefl]
  · have a1 : ¬ lg_cmp (lE (S 13 (S 14 0 - 1)) (S 12 (S 14 0 - 1))) 0 < 0 := fun q => e (s1.mp q)
    by_cases f : S 13 (S 14 0 - 2) = 2
    · have p : ¬ s_pre S 11 = 0 := by
        rw [pi]
        omega
      rw [if_neg p]
      have a3 := s3.mpr f
      have a4 : ¬ 0 ≤ lg_cmp (lE (S 13 (S 14 0 - 2)) (S 12 (S 14 0 - 2))) 0 := fun q => s4.mp q f
      simp (decide := true) only [r77_74, r77_75, r77_77, r77_80, r77_81, r77_83, r77_86, r77_87, r77_88, r77_89, r77_92, r77_93, r77_96, r77_97 (s0 := 0) (Or.inl rfl), r77_97 (s0 := 1) (Or.inr rfl), r77_98, r77_99, r77_101, r77_104, r77_105, r77_106, r77_107, r77_110, r77_112, r77_113, r77_114, r77_117, r77_118, r77_121, r77_122 (s0 := 0) (Or.inl rfl), r77_122 (s0 := 1) (Or.inr rfl), r77_123, r77_124, r77_125, r77_128, r77_131, r77_132, r77_133, r77_134, r77_137, r77_138, r77_139, r77_142, r77_143, r77_146, r77_148, r77_149, r77_150, r77_153, r77_154, r77_157, r77_158 (s0 := 0) (Or.inl rfl), r77_158 (s0 := 1) (Or.inr rfl), tkM, n2, a1, a3, a4, sh59 hS, sm_wp_some, sm_wp_none, sm_at, sm_get, sm_fld, sm_pfl, sm_cN, sm_ai, sm_al, sm_si, sm_slg, sm_aa, List.getElem?_cons_zero, List.getElem?_cons_succ, List.set_cons_zero, List.set_cons_succ, List.length_cons, List.length_nil, Option.toList_some, Option.toList_none, List.cons_append, List.nil_append, if_true, if_false, true_and, and_true, Option.some.injEq, gs_o, gs_s, List.length_set, hS.1, pk_us, Nat.reduceLT, Nat.reduceLeDiff, Nat.reduceSub, Nat.reduceEqDiff, Nat.reduceAdd, Int32.reduceLT, Int32.reduceLE, Int32.reduceAdd, Int32.reduceSub, Int32.reduceToNatClampNeg, reduceIte, reduceCtorEq, Nat.lt_irrefl]
    · have p : s_pre S 11 = 0 := by
        rw [pi]
        omega
      rw [if_pos p]
      have a3 : ¬ lg_cmp (lE (S 13 (S 14 0 - 2)) (S 12 (S 14 0 - 2))) 0 < 0 := fun q => f (s3.mp q)
      have a4 := s4.mpr f
      simp (decide := true) only [r77_74, r77_75, r77_77, r77_80, r77_81, r77_83, r77_86, r77_87, r77_88, r77_89, r77_92, r77_93, r77_96, r77_97 (s0 := 0) (Or.inl rfl), r77_97 (s0 := 1) (Or.inr rfl), r77_98, r77_99, r77_101, r77_104, r77_105, r77_106, r77_107, r77_110, r77_112, r77_113, r77_114, r77_117, r77_118, r77_121, r77_122 (s0 := 0) (Or.inl rfl), r77_122 (s0 := 1) (Or.inr rfl), r77_123, r77_124, r77_125, r77_128, r77_131, r77_132, r77_133, r77_134, r77_137, r77_138, r77_139, r77_142, r77_143, r77_146, r77_148, r77_149, r77_150, r77_153, r77_154, r77_157, r77_158 (s0 := 0) (Or.inl rfl), r77_158 (s0 := 1) (Or.inr rfl), tkM, n2, a1, a3, a4, sh59 hS, sm_wp_some, sm_wp_none, sm_at, sm_get, sm_fld, sm_pfl, sm_cN, sm_ai, sm_al, sm_si, sm_slg, sm_aa, List.getElem?_cons_zero, List.getElem?_cons_succ, List.set_cons_zero, List.set_cons_succ, List.length_cons, List.length_nil, Option.toList_some, Option.toList_none, List.cons_append, List.nil_append, if_true, if_false, true_and, and_true, Option.some.injEq, gs_o, gs_s, List.length_set, hS.1, pk_us, Nat.reduceLT, Nat.reduceLeDiff, Nat.reduceSub, Nat.reduceEqDiff, Nat.reduceAdd, Int32.reduceLT, Int32.reduceLE, Int32.reduceAdd, Int32.reduceSub, Int32.reduceToNatClampNeg, reduceIte, reduceCtorEq, Nat.lt_irrefl]
theorem so_12 {X : sm_X} {w : sm_W} {Q : Option Value → sm_W → Prop} {S : sm_S} (hS : Sh w) (ht : wn w 59 24 = nI (S 14 0)) (hK : SkM w S) (h8 : S 14 0 ≤ 8) (hE : ∀ i, i < S 14 0 → s_ent (S 13 i) (S 12 i)) (hn : ¬ S 14 0 < s_tk 12) : sm_R X 77 0 [.ref 159, .int (nI 12), sm_J, sm_J, sm_J, sm_J] [] w Q ↔ Q (some (.int (if s_pre S 12 = 0 then 1 else 0))) w := by
  have hn : ¬ S 14 0 < 2 := hn
  have tkM := fun Q => tk_M (X := X) (Q := Q) (c := 12) hS (by decide)
  have tv : s_tk 12 = 2 := rfl
  rw [tv] at tkM
  rw [so_a hS ht hK h8 (by decide) (by decide) (by decide) (by decide)]
  have l1 : lT S 1 = lE (S 13 (S 14 0 - 1)) (S 12 (S 14 0 - 1)) := if_neg (by omega)
  have l2 : lT S 2 = lE (S 13 (S 14 0 - 2)) (S 12 (S 14 0 - 2)) := if_neg hn
  have en := hE (S 14 0 - 1) (by omega)
  have em := hE (S 14 0 - 2) (by omega)
  obtain ⟨s1, s2⟩ := lE_neg en
  obtain ⟨s3, s4⟩ := lE_neg em
  rw [l1, l2]
  have n2 : nI 2 = 2 := rfl
  have v1 : s_mt 12 = 1 := rfl
  have v2 : s_tk 12 = 2 := rfl
  have v3 : s_mu 12 = 1 := rfl
  have pi := pre_i (S := S) (c := 12) hn
  rw [v1, v2, v3] at pi
  unfold s_ent at en em
  by_cases e : S 13 (S 14 0 - 1) = 2
  · have p : ¬ s_pre S 12 = 0 := by
      rw [pi]
      omega
    rw [if_neg p]
    have a1 := s1.mpr e
    simp (decide := true) only [r77_74, r77_75, r77_77, r77_80, r77_81, r77_83, r77_86, r77_87, r77_88, r77_89, r77_92, r77_93, r77_96, r77_97 (s0 := 0) (Or.inl rfl), r77_97 (s0 := 1) (Or.inr rfl), r77_98, r77_99, r77_101, r77_104, r77_105, r77_106, r77_107, r77_110, r77_112, r77_113, r77_114, r77_117, r77_118, r77_121, r77_122 (s0 := 0) (Or.inl rfl), r77_122 (s0 := 1) (Or.inr rfl), r77_123, r77_124, r77_125, r77_128, r77_131, r77_132, r77_133, r77_134, r77_137, r77_138, r77_139, r77_142, r77_143, r77_146, r77_148, r77_149, r77_150, r77_153, r77_154, r77_157, r77_158 (s0 := 0) (Or.inl rfl), r77_158 (s0 := 1) (Or.inr rfl), tkM, n2, a1, sh59 hS, sm_wp_some, sm_wp_none, sm_at, sm_get, sm_fld, sm_pfl, sm_cN, sm_ai, sm_al, sm_si, sm_slg, sm_aa, List.getElem?_cons_zero, List.getElem?_cons_succ, List.set_cons_zero, List.set_cons_succ, List.length_cons, List.length_nil, Option.toList_some, Option.toList_none, List.cons_append, List.nil_append, if_true, if_false, true_and, and_true, Option.some.injEq, gs_o, gs_s, List.length_set, hS.1, pk_us, Nat.reduceLT, Nat.reduceLeDiff, Nat.reduceSub, Nat.reduceEqDiff, Nat.reduceAdd, Int32.reduceLT, Int32.reduceLE, Int32.reduceAdd, Int32.reduceSub, Int32.reduceToNatClampNeg, reduceIte, reduceCtorEq, Nat.lt_irrefl]
  · have a1 : ¬ lg_cmp (lE (S 13 (S 14 0 - 1)) (S 12 (S 14 0 - 1))) 0 < 0 := fun q => e (s1.mp q)
    by_cases f : S 13 (S 14 0 - 2) = 2
    · have p : ¬ s_pre S 12 = 0 := by
        rw [pi]
        omega
      rw [if_neg p]
      have a3 := s3.mpr f
      have a4 : ¬ 0 ≤ lg_cmp (lE (S 13 (S 14 0 - 2)) (S 12 (S 14 0 - 2))) 0 := fun q => s4.mp q f
      simp (decide := true) only [r77_74, r77_75, r77_77, r77_80, r77_81, r77_83, r77_86, r77_87, r77_88, r77_89, r77_92, r77_93, r77_96, r77_97 (s0 := 0) (Or.inl rfl), r77_97 (s0 := 1) (Or.inr rfl), r77_98, r77_99, r77_101, r77_104, r77_105, r77_106, r77_107, r77_110, r77_112, r77_113, r77_114, r77_117, r77_118, r77_121, r77_122 (s0 := 0) (Or.inl rfl), r77_122 (s0 := 1) (Or.inr rfl), r77_123, r77_124, r77_125, r77_128, r77_131, r77_132, r77_133, r77_134, r77_137, r77_138, r77_139, r77_142, r77_143, r77_146, r77_148, r77_149, r77_150, r77_153, r77_154, r77_157, r77_158 (s0 := 0) (Or.inl rfl), r77_158 (s0 := 1) (Or.inr rfl), tkM, n2, a1, a3, a4, sh59 hS, sm_wp_some, sm_wp_none, sm_at, sm_get, sm_fld, sm_pfl, sm_cN, sm_ai, sm_al, sm_si, sm_slg, sm_aa, List.getElem?_cons_zero, List.getElem?_cons_succ, List.set_cons_zero, List.set_cons_succ, List.length_cons, List.length_nil, Option.toList_some, Option.toList_none, List.cons_append, List.nil_append, if_true, if_false, true_and, and_true, Option.some.injEq, gs_o, gs_s, List.length_set, hS.1, pk_us, Nat.reduceLT, Nat.reduceLeDiff, Nat.reduceSub, Nat.reduceEqDiff, Nat.reduceAdd, Int32.reduceLT, Int32.reduceLE, Int32.reduceAdd, Int32.reduceSub, Int32.reduceToNatClampNeg, reduceIte, reduceCtorEq, Nat.lt_irrefl]
    · have p : s_pre S 12 = 0 := by
        rw [pi]
        omega
      rw [if_pos p]
      have a3 : ¬ lg_cmp (lE (S 13 (S 14 0 - 2)) (S 12 (S 14 0 - 2))) 0 < 0 := fun q => f (s3.mp q)
      have a4 := s4.mpr f
      simp (decide := true) only [r77_74, r77_75, r77_77, r77_80, r77_81, r77_83, r77_86, r77_87, r77_88, r77_89, r77_92, r77_93, r77_96, r77_97 (s0 := 0) (Or.inl rfl), r77_97 (s0 := 1) (Or.inr rfl), r77_98, r77_99, r77_101, r77_104, r77_105, r77_106, r77_107, r77_110, r77_112, r77_113, r77_114, r77_117, r77_118, r77_121, r77_122 (s0 := 0) (Or.inl rfl), r77_122 (s0 := 1) (Or.inr rfl), r77_123, r77_124, r77_125, r77_128, r77_131, r77_132, r77_133, r77_134, r77_137, r77_138, r77_139, r77_142, r77_143, r77_146, r77_148, r77_149, r77_150, r77_153, r77_154, r77_157, r77_158 (s0 := 0) (Or.inl rfl), r77_158 (s0 := 1) (Or.inr rfl), tkM, n2, a1, a3, a4, sh59 hS, sm_wp_some, sm_wp_none, sm_at, sm_get, sm_fld, sm_pfl, sm_cN, sm_ai, sm_al, sm_si, sm_slg, sm_aa, List.getElem?_cons_zero, List.getElem?_cons_succ, List.set_cons_zero, List.set_cons_succ, List.length_cons, List.length_nil, Option.toList_some, Option.toList_none, List.cons_append, List.nil_append, if_true, if_false, true_and, and_true, Option.some.injEq, gs_o, gs_s, List.length_set, hS.1, pk_us, Nat.reduceLT, Nat.reduceLeDiff, Nat.reduceSub, Nat.reduceEqDiff, Nat.reduceAdd, Int32.reduceLT, Int32.reduceLE, Int32.reduceAdd, Int32.reduceSub, Int32.reduceToNatClampNeg, reduceIte, reduceCtorEq, Nat.lt_irrefl]
theorem so_13 {X : sm_X} {w : sm_W} {Q : Option Value → sm_W → Prop} {S : sm_S} (hS : Sh w) (ht : wn w 59 24 = nI (S 14 0)) (hK : SkM w S) (h8 : S 14 0 ≤ 8) (hE : ∀ i, i < S 14 0 → s_ent (S 13 i) (S 12 i)) (hn : ¬ S 14 0 < s_tk 13) : sm_R X 77 0 [.ref 159, .int (nI 13), sm_J, sm_J, sm_J, sm_J] [] w Q ↔ Q (some (.int (if s_pre S 13 = 0 then 1 else 0))) w := by
  have p : s_pre S 13 = 0 := (pre_i hn).mpr ⟨fun q => q.2 (Or.inl rfl), fun q => q.2 (by first | exact Or.inl rfl | exact absurd q.1 (by decide))⟩
  rw [if_pos p]
  simp (decide := true) only [r77_0, r77_1, r77_3, r77_6, r77_7, r77_9, r77_12, r77_13, r77_15, r77_18, r77_19, r77_21, r77_24, r77_25 (s0 := 0) (Or.inl rfl), r77_25 (s0 := 1) (Or.inr rfl), sm_wp_some, sm_wp_none, sm_at, sm_get, sm_fld, sm_pfl, sm_cN, sm_ai, sm_al, sm_si, sm_slg, sm_aa, List.getElem?_cons_zero, List.getElem?_cons_succ, List.set_cons_zero, List.set_cons_succ, List.length_cons, List.length_nil, Option.toList_some, Option.toList_none, List.cons_append, List.nil_append, if_true, if_false, true_and, and_true, Option.some.injEq, gs_o, gs_s, List.length_set, hS.1, pk_us, Nat.reduceLT, Nat.reduceLeDiff, Nat.reduceSub, Nat.reduceEqDiff, Nat.reduceAdd, Int32.reduceLT, Int32.reduceLE, Int32.reduceAdd, Int32.reduceSub, Int32.reduceToNatClampNeg, reduceIte, reduceCtorEq, Nat.lt_irrefl]
theorem so_14 {X : sm_X} {w : sm_W} {Q : Option Value → sm_W → Prop} {S : sm_S} (hS : Sh w) (ht : wn w 59 24 = nI (S 14 0)) (hK : SkM w S) (h8 : S 14 0 ≤ 8) (hE : ∀ i, i < S 14 0 → s_ent (S 13 i) (S 12 i)) (hn : ¬ S 14 0 < s_tk 14) : sm_R X 77 0 [.ref 159, .int (nI 14), sm_J, sm_J, sm_J, sm_J] [] w Q ↔ Q (some (.int (if s_pre S 14 = 0 then 1 else 0))) w := by
  have hn : ¬ S 14 0 < 1 := hn
  have tkM := fun Q => tk_M (X := X) (Q := Q) (c := 14) hS (by decide)
  have tv : s_tk 14 = 1 := rfl
  rw [tv] at tkM
  rw [so_a hS ht hK h8 (by decide) (by decide) (by decide) (by decide)]
  have l1 : lT S 1 = lE (S 13 (S 14 0 - 1)) (S 12 (S 14 0 - 1)) := if_neg hn
  have en := hE (S 14 0 - 1) (by omega)
  obtain ⟨s1, s2⟩ := lE_neg en
  rw [l1]
  have n1 : nI 1 = 1 := rfl
  by_cases e : S 13 (S 14 0 - 1) = 2
  · have p : ¬ s_pre S 14 = 0 := by
      rw [pre_i hn]
      have v1 : s_mt 14 = 1 := rfl
      have v2 : s_tk 14 = 1 := rfl
      omega
    rw [if_neg p]
    have a1 := s1.mpr e
    have a2 : ¬ 0 ≤ lg_cmp (lE (S 13 (S 14 0 - 1)) (S 12 (S 14 0 - 1))) 0 := fun q => s2.mp q e
    simp (decide := true) only [r77_74, r77_75, r77_77, r77_80, r77_81, r77_83, r77_86, r77_87, r77_88, r77_89, r77_92, r77_93, r77_96, r77_97 (s0 := 0) (Or.inl rfl), r77_97 (s0 := 1) (Or.inr rfl), r77_98, r77_99, r77_101, r77_104, r77_105, r77_106, r77_107, r77_110, r77_112, r77_113, r77_114, r77_117, r77_118, r77_121, r77_122 (s0 := 0) (Or.inl rfl), r77_122 (s0 := 1) (Or.inr rfl), r77_123, r77_124, r77_125, r77_128, r77_131, r77_132, r77_133, r77_134, r77_137, r77_138, r77_139, r77_142, r77_143, r77_146, r77_148, r77_149, r77_150, r77_153, r77_154, r77_157, r77_158 (s0 := 0) (Or.inl rfl), r77_158 (s0 := 1) (Or.inr rfl), tkM, n1, a1, a2, sh59 hS, sm_wp_some, sm_wp_none, sm_at, sm_get, sm_fld, sm_pfl, sm_cN, sm_ai, sm_al, sm_si, sm_slg, sm_aa, List.getElem?_cons_zero, List.getElem?_cons_succ, List.set_cons_zero, List.set_cons_succ, List.length_cons, List.length_nil, Option.toList_some, Option.toList_none, List.cons_append, List.nil_append, if_true, if_false, true_and, and_true, Option.some.injEq, gs_o, gs_s, List.length_set, hS.1, pk_us, Nat.reduceLT, Nat.reduceLeDiff, Nat.reduceSub, Nat.reduceEqDiff, Nat.reduceAdd, Int32.reduceLT, Int32.reduceLE, Int32.reduceAdd, Int32.reduceSub, Int32.reduceToNatClampNeg, reduceIte, reduceCtorEq, Nat.lt_irrefl]
  · have p : s_pre S 14 = 0 := by
      rw [pre_i hn]
      have v1 : s_mt 14 = 1 := rfl
      have v2 : s_tk 14 = 1 := rfl
      unfold s_ent at en
      omega
    rw [if_pos p]
    have a1 : ¬ lg_cmp (lE (S 13 (S 14 0 - 1)) (S 12 (S 14 0 - 1))) 0 < 0 := fun q => e (s1.mp q)
    have a2 := s2.mpr e
    simp (decide := true) only [r77_74, r77_75, r77_77, r77_80, r77_81, r77_83, r77_86, r77_87, r77_88, r77_89, r77_92, r77_93, r77_96, r77_97 (s0 := 0) (Or.inl rfl), r77_97 (s0 := 1) (Or.inr rfl), r77_98, r77_99, r77_101, r77_104, r77_105, r77_106, r77_107, r77_110, r77_112, r77_113, r77_114, r77_117, r77_118, r77_121, r77_122 (s0 := 0) (Or.inl rfl), r77_122 (s0 := 1) (Or.inr rfl), r77_123, r77_124, r77_125, r77_128, r77_131, r77_132, r77_133, r77_134, r77_137, r77_138, r77_139, r77_142, r77_143, r77_146, r77_148, r77_149, r77_150, r77_153, r77_154, r77_157, r77_158 (s0 := 0) (Or.inl rfl), r77_158 (s0 := 1) (Or.inr rfl), tkM, n1, a1, a2, sh59 hS, sm_wp_some, sm_wp_none, sm_at, sm_get, sm_fld, sm_pfl, sm_cN, sm_ai, sm_al, sm_si, sm_slg, sm_aa, List.getElem?_cons_zero, List.getElem?_cons_succ, List.set_cons_zero, List.set_cons_succ, List.length_cons, List.length_nil, Option.toList_some, Option.toList_none, List.cons_append, List.nil_append, if_true, if_false, true_and, and_true, Option.some.injEq, gs_o, gs_s, List.length_set, hS.1, pk_us, Nat.reduceLT, Nat.reduceLeDiff, Nat.reduceSub, Nat.reduceEqDiff, Nat.reduceAdd, Int32.reduceLT, Int32.reduceLE, Int32.reduceAdd, Int32.reduceSub, Int32.reduceToNatClampNeg, reduceIte, reduceCtorEq, Nat.lt_irrefl]
theorem so_15 {X : sm_X} {w : sm_W} {Q : Option Value → sm_W → Prop} {S : sm_S} (hS : Sh w) (ht : wn w 59 24 = nI (S 14 0)) (hK : SkM w S) (h8 : S 14 0 ≤ 8) (hE : ∀ i, i < S 14 0 → s_ent (S 13 i) (S 12 i)) (hn : ¬ S 14 0 < s_tk 15) : sm_R X 77 0 [.ref 159, .int (nI 15), sm_J, sm_J, sm_J, sm_J] [] w Q ↔ Q (some (.int (if s_pre S 15 = 0 then 1 else 0))) w := by
  have p : s_pre S 15 = 0 := (pre_i hn).mpr ⟨fun q => q.2 (Or.inl rfl), fun q => q.2 (by first | exact Or.inl rfl | exact absurd q.1 (by decide))⟩
  rw [if_pos p]
  simp (decide := true) only [r77_0, r77_1, r77_3, r77_6, r77_7, r77_9, r77_12, r77_13, r77_15, r77_18, r77_19, r77_21, r77_24, r77_25 (s0 := 0) (Or.inl rfl), r77_25 (s0 := 1) (Or.inr rfl), sm_wp_some, sm_wp_none, sm_at, sm_get, sm_fld, sm_pfl, sm_cN, sm_ai, sm_al, sm_si, sm_slg, sm_aa, List.getElem?_cons_zero, List.getElem?_cons_succ, List.set_cons_zero, List.set_cons_succ, List.length_cons, List.length_nil, Option.toList_some, Option.toList_none, List.cons_append, List.nil_append, if_true, if_false, true_and, and_true, Option.some.injEq, gs_o, gs_s, List.length_set, hS.1, pk_us, Nat.reduceLT, Nat.reduceLeDiff, Nat.reduceSub, Nat.reduceEqDiff, Nat.reduceAdd, Int32.reduceLT, Int32.reduceLE, Int32.reduceAdd, Int32.reduceSub, Int32.reduceToNatClampNeg, reduceIte, reduceCtorEq, Nat.lt_irrefl]
theorem so_16 {X : sm_X} {w : sm_W} {Q : Option Value → sm_W → Prop} {S : sm_S} (hS : Sh w) (ht : wn w 59 24 = nI (S 14 0)) (hK : SkM w S) (h8 : S 14 0 ≤ 8) (hE : ∀ i, i < S 14 0 → s_ent (S 13 i) (S 12 i)) (hn : ¬ S 14 0 < s_tk 16) : sm_R X 77 0 [.ref 159, .int (nI 16), sm_J, sm_J, sm_J, sm_J] [] w Q ↔ Q (some (.int (if s_pre S 16 = 0 then 1 else 0))) w := by
  have p : s_pre S 16 = 0 := (pre_i hn).mpr ⟨fun q => q.2 (Or.inl rfl), fun q => q.2 (by first | exact Or.inl rfl | exact absurd q.1 (by decide))⟩
  rw [if_pos p]
  simp (decide := true) only [r77_0, r77_1, r77_3, r77_6, r77_7, r77_9, r77_12, r77_13, r77_15, r77_18, r77_19, r77_21, r77_24, r77_25 (s0 := 0) (Or.inl rfl), r77_25 (s0 := 1) (Or.inr rfl), sm_wp_some, sm_wp_none, sm_at, sm_get, sm_fld, sm_pfl, sm_cN, sm_ai, sm_al, sm_si, sm_slg, sm_aa, List.getElem?_cons_zero, List.getElem?_cons_succ, List.set_cons_zero, List.set_cons_succ, List.length_cons, List.length_nil, Option.toList_some, Option.toList_none, List.cons_append, List.nil_append, if_true, if_false, true_and, and_true, Option.some.injEq, gs_o, gs_s, List.length_set, hS.1, pk_us, Nat.reduceLT, Nat.reduceLeDiff, Nat.reduceSub, Nat.reduceEqDiff, Nat.reduceAdd, Int32.reduceLT, Int32.reduceLE, Int32.reduceAdd, Int32.reduceSub, Int32.reduceToNatClampNeg, reduceIte, reduceCtorEq, Nat.lt_irrefl]
theorem so_17 {X : sm_X} {w : sm_W} {Q : Option Value → sm_W → Prop} {S : sm_S} (hS : Sh w) (ht : wn w 59 24 = nI (S 14 0)) (hK : SkM w S) (h8 : S 14 0 ≤ 8) (hE : ∀ i, i < S 14 0 → s_ent (S 13 i) (S 12 i)) (hn : ¬ S 14 0 < s_tk 17) : sm_R X 77 0 [.ref 159, .int (nI 17), sm_J, sm_J, sm_J, sm_J] [] w Q ↔ Q (some (.int (if s_pre S 17 = 0 then 1 else 0))) w := by
  have p : s_pre S 17 = 0 := (pre_i hn).mpr ⟨fun q => q.2 (Or.inl rfl), fun q => q.2 (by first | exact Or.inl rfl | exact absurd q.1 (by decide))⟩
  rw [if_pos p]
  simp (decide := true) only [r77_0, r77_1, r77_3, r77_6, r77_7, r77_9, r77_12, r77_13, r77_15, r77_18, r77_19, r77_21, r77_24, r77_25 (s0 := 0) (Or.inl rfl), r77_25 (s0 := 1) (Or.inr rfl), sm_wp_some, sm_wp_none, sm_at, sm_get, sm_fld, sm_pfl, sm_cN, sm_ai, sm_al, sm_si, sm_slg, sm_aa, List.getElem?_cons_zero, List.getElem?_cons_succ, List.set_cons_zero, List.set_cons_succ, List.length_cons, List.length_nil, Option.toList_some, Option.toList_none, List.cons_append, List.nil_append, if_true, if_false, true_and, and_true, Option.some.injEq, gs_o, gs_s, List.length_set, hS.1, pk_us, Nat.reduceLT, Nat.reduceLeDiff, Nat.reduceSub, Nat.reduceEqDiff, Nat.reduceAdd, Int32.reduceLT, Int32.reduceLE, Int32.reduceAdd, Int32.reduceSub, Int32.reduceToNatClampNeg, reduceIte, reduceCtorEq, Nat.lt_irrefl]
theorem so_18 {X : sm_X} {w : sm_W} {Q : Option Value → sm_W → Prop} {S : sm_S} (hS : Sh w) (ht : wn w 59 24 = nI (S 14 0)) (hK : SkM w S) (h8 : S 14 0 ≤ 8) (hE : ∀ i, i < S 14 0 → s_ent (S 13 i) (S 12 i)) (hn : ¬ S 14 0 < s_tk 18) : sm_R X 77 0 [.ref 159, .int (nI 18), sm_J, sm_J, sm_J, sm_J] [] w Q ↔ Q (some (.int (if s_pre S 18 = 0 then 1 else 0))) w := by
  have hn : ¬ S 14 0 < 0 := hn
  have tkM := fun Q => tk_M (X := X) (Q := Q) (c := 18) hS (by decide)
  have tv : s_tk 18 = 0 := rfl
  rw [tv] at tkM
  rw [so_a hS ht hK h8 (by decide) (by decide) (by decide) (by decide)]
  have p : s_pre S 18 = 0 := (pre_i hn).mpr ⟨fun q => absurd q.1 (by decide), fun q => absurd q.1 (by decide)⟩
  rw [if_pos p]
  simp (decide := true) only [r77_74, r77_75, r77_77, r77_80, r77_81, r77_83, r77_86, r77_87, r77_88, r77_89, r77_92, r77_93, r77_96, r77_97 (s0 := 0) (Or.inl rfl), r77_97 (s0 := 1) (Or.inr rfl), r77_98, r77_99, r77_101, r77_104, r77_105, r77_106, r77_107, r77_110, r77_112, r77_113, r77_114, r77_117, r77_118, r77_121, r77_122 (s0 := 0) (Or.inl rfl), r77_122 (s0 := 1) (Or.inr rfl), r77_123, r77_124, r77_125, r77_128, r77_131, r77_132, r77_133, r77_134, r77_137, r77_138, r77_139, r77_142, r77_143, r77_146, r77_148, r77_149, r77_150, r77_153, r77_154, r77_157, r77_158 (s0 := 0) (Or.inl rfl), r77_158 (s0 := 1) (Or.inr rfl), tkM, sh59 hS, sm_wp_some, sm_wp_none, sm_at, sm_get, sm_fld, sm_pfl, sm_cN, sm_ai, sm_al, sm_si, sm_slg, sm_aa, List.getElem?_cons_zero, List.getElem?_cons_succ, List.set_cons_zero, List.set_cons_succ, List.length_cons, List.length_nil, Option.toList_some, Option.toList_none, List.cons_append, List.nil_append, if_true, if_false, true_and, and_true, Option.some.injEq, gs_o, gs_s, List.length_set, hS.1, pk_us, Nat.reduceLT, Nat.reduceLeDiff, Nat.reduceSub, Nat.reduceEqDiff, Nat.reduceAdd, Int32.reduceLT, Int32.reduceLE, Int32.reduceAdd, Int32.reduceSub, Int32.reduceToNatClampNeg, reduceIte, reduceCtorEq, Nat.lt_irrefl]
theorem so_19 {X : sm_X} {w : sm_W} {Q : Option Value → sm_W → Prop} {S : sm_S} (hS : Sh w) (ht : wn w 59 24 = nI (S 14 0)) (hK : SkM w S) (h8 : S 14 0 ≤ 8) (hE : ∀ i, i < S 14 0 → s_ent (S 13 i) (S 12 i)) (hn : ¬ S 14 0 < s_tk 19) : sm_R X 77 0 [.ref 159, .int (nI 19), sm_J, sm_J, sm_J, sm_J] [] w Q ↔ Q (some (.int (if s_pre S 19 = 0 then 1 else 0))) w := by
  have hn : ¬ S 14 0 < 1 := hn
  have tkM := fun Q => tk_M (X := X) (Q := Q) (c := 19) hS (by decide)
  have tv : s_tk 19 = 1 := rfl
  rw [tv] at tkM
  rw [so_a hS ht hK h8 (by decide) (by decide) (by decide) (by decide)]
  have l1 : lT S 1 = lE (S 13 (S 14 0 - 1)) (S 12 (S 14 0 - 1)) := if_neg hn
  have en := hE (S 14 0 - 1) (by omega)
  obtain ⟨s1, s2⟩ := lE_neg en
  rw [l1]
  have n1 : nI 1 = 1 := rfl
  by_cases e : S 13 (S 14 0 - 1) = 2
  · have p : ¬ s_pre S 19 = 0 := by
      rw [pre_i hn]
      have v1 : s_mt 19 = 1 := rfl
      have v2 : s_tk 19 = 1 := rfl
      omega
    rw [if_neg p]
    have a1 := s1.mpr e
    have a2 : ¬ 0 ≤ lg_cmp (lE (S 13 (S 14 0 - 1)) (S 12 (S 14 0 - 1))) 0 := fun q => s2.mp q e
    simp (decide := true) only [r77_74, r77_75, r77_77, r77_80, r77_81, r77_83, r77_86, r77_87, r77_88, r77_89, r77_92, r77_93, r77_96, r77_97 (s0 := 0) (Or.inl rfl), r77_97 (s0 := 1) (Or.inr rfl), r77_98, r77_99, r77_101, r77_104, r77_105, r77_106, r77_107, r77_110, r77_112, r77_113, r77_114, r77_117, r77_118, r77_121, r77_122 (s0 := 0) (Or.inl rfl), r77_122 (s0 := 1) (Or.inr rfl), r77_123, r77_124, r77_125, r77_128, r77_131, r77_132, r77_133, r77_134, r77_137, r77_138, r77_139, r77_142, r77_143, r77_146, r77_148, r77_149, r77_150, r77_153, r77_154, r77_157, r77_158 (s0 := 0) (Or.inl rfl), r77_158 (s0 := 1) (Or.inr rfl), tkM, n1, a1, a2, sh59 hS, sm_wp_some, sm_wp_none, sm_at, sm_get, sm_fld, sm_pfl, sm_cN, sm_ai, sm_al, sm_si, sm_slg, sm_aa, List.getElem?_cons_zero, List.getElem?_cons_succ, List.set_cons_zero, List.set_cons_succ, List.length_cons, List.length_nil, Option.toList_some, Option.toList_none, List.cons_append, List.nil_append, if_true, if_false, true_and, and_true, Option.some.injEq, gs_o, gs_s, List.length_set, hS.1, pk_us, Nat.reduceLT, Nat.reduceLeDiff, Nat.reduceSub, Nat.reduceEqDiff, Nat.reduceAdd, Int32.reduceLT, Int32.reduceLE, Int32.reduceAdd, Int32.reduceSub, Int32.reduceToNatClampNeg, reduceIte, reduceCtorEq, Nat.lt_irrefl]
  · have p : s_pre S 19 = 0 := by
      rw [pre_i hn]
      have v1 : s_mt 19 = 1 := rfl
      have v2 : s_tk 19 = 1 := rfl
      unfold s_ent at en
      omega
    rw [if_pos p]
    have a1 : ¬ lg_cmp (lE (S 13 (S 14 0 - 1)) (S 12 (S 14 0 - 1))) 0 < 0 := fun q => e (s1.mp q)
    have a2 := s2.mpr e
    simp (decide := true) only [r77_74, r77_75, r77_77, r77_80, r77_81, r77_83, r77_86, r77_87, r77_88, r77_89, r77_92, r77_93, r77_96, r77_97 (s0 := 0) (Or.inl rfl), r77_97 (s0 := 1) (Or.inr rfl), r77_98, r77_99, r77_101, r77_104, r77_105, r77_106, r77_107, r77_110, r77_112, r77_113, r77_114, r77_117, r77_118, r77_121, r77_122 (s0 := 0) (Or.inl rfl), r77_122 (s0 := 1) (Or.inr rfl), r77_123, r77_124, r77_125, r77_128, r77_131, r77_132, r77_133, r77_134, r77_137, r77_138, r77_139, r77_142, r77_143, r77_146, r77_148, r77_149, r77_150, r77_153, r77_154, r77_157, r77_158 (s0 := 0) (Or.inl rfl), r77_158 (s0 := 1) (Or.inr rfl), tkM, n1, a1, a2, sh59 hS, sm_wp_some, sm_wp_none, sm_at, sm_get, sm_fld, sm_pfl, sm_cN, sm_ai, sm_al, sm_si, sm_slg, sm_aa, List.getElem?_cons_zero, List.getElem?_cons_succ, List.set_cons_zero, List.set_cons_succ, List.length_cons, List.length_nil, Option.toList_some, Option.toList_none, List.cons_append, List.nil_append, if_true, if_false, true_and, and_true, Option.some.injEq, gs_o, gs_s, List.length_set, hS.1, pk_us, Nat.reduceLT, Nat.reduceLeDiff, Nat.reduceSub, Nat.reduceEqDiff, Nat.reduceAdd, Int32.reduceLT, Int32.reduceLE, Int32.reduceAdd, Int32.reduceSub, Int32.reduceToNatClampNeg, reduceIte, reduceCtorEq, Nat.lt_irrefl]
theorem so_20 {X : sm_X} {w : sm_W} {Q : Option Value → sm_W → Prop} {S : sm_S} (hS : Sh w) (ht : wn w 59 24 = nI (S 14 0)) (hK : SkM w S) (h8 : S 14 0 ≤ 8) (hE : ∀ i, i < S 14 0 → s_ent (S 13 i) (S 12 i)) (hn : ¬ S 14 0 < s_tk 20) : sm_R X 77 0 [.ref 159, .int (nI 20), sm_J, sm_J, sm_J, sm_J] [] w Q ↔ Q (some (.int (if s_pre S 20 = 0 then 1 else 0))) w := by
  have hn : ¬ S 14 0 < 1 := hn
  have tkM := fun Q => tk_M (X := X) (Q := Q) (c := 20) hS (by decide)
  have tv : s_tk 20 = 1 := rfl
  rw [tv] at tkM
  rw [so_a hS ht hK h8 (by decide) (by decide) (by decide) (by decide)]
  have l1 : lT S 1 = lE (S 13 (S 14 0 - 1)) (S 12 (S 14 0 - 1)) := if_neg hn
  have en := hE (S 14 0 - 1) (by omega)
  obtain ⟨s1, s2⟩ := lE_neg en
  rw [l1]
  have n1 : nI 1 = 1 := rfl
  by_cases e : S 13 (S 14 0 - 1) = 2
  · have p : ¬ s_pre S 20 = 0 := by
      rw [pre_i hn]
      have v1 : s_mt 20 = 1 := rfl
      have v2 : s_tk 20 = 1 := rfl
      omega
    rw [if_neg p]
    have a1 := s1.mpr e
    have a2 : ¬ 0 ≤ lg_cmp (lE (S 13 (S 14 0 - 1)) (S 12 (S 14 0 - 1))) 0 := fun q => s2.mp q e
    simp (decide := true) only [r77_74, r77_75, r77_77, r77_80, r77_81, r77_83, r77_86, r77_87, r77_88, r77_89, r77_92, r77_93, r77_96, r77_97 (s0 := 0) (Or.inl rfl), r77_97 (s0 := 1) (Or.inr rfl), r77_98, r77_99, r77_101, r77_104, r77_105, r77_106, r77_107, r77_110, r77_112, r77_113, r77_114, r77_117, r77_118, r77_121, r77_122 (s0 := 0) (Or.inl rfl), r77_122 (s0 := 1) (Or.inr rfl), r77_123, r77_124, r77_125, r77_128, r77_131, r77_132, r77_133, r77_134, r77_137, r77_138, r77_139, r77_142, r77_143, r77_146, r77_148, r77_149, r77_150, r77_153, r77_154, r77_157, r77_158 (s0 := 0) (Or.inl rfl), r77_158 (s0 := 1) (Or.inr rfl), tkM, n1, a1, a2, sh59 hS, sm_wp_some, sm_wp_none, sm_at, sm_get, sm_fld, sm_pfl, sm_cN, sm_ai, sm_al, sm_si, sm_slg, sm_aa, List.getElem?_cons_zero, List.getElem?_cons_succ, List.set_cons_zero, List.set_cons_succ, List.length_cons, List.length_nil, Option.toList_some, Option.toList_none, List.cons_append, List.nil_append, if_true, if_false, true_and, and_true, Option.some.injEq, gs_o, gs_s, List.length_set, hS.1, pk_us, Nat.reduceLT, Nat.reduceLeDiff, Nat.reduceSub, Nat.reduceEqDiff, Nat.reduceAdd, Int32.reduceLT, Int32.reduceLE, Int32.reduceAdd, Int32.reduceSub, Int32.reduceToNatClampNeg, reduceIte, reduceCtorEq, Nat.lt_irrefl]
  · have p : s_pre S 20 = 0 := by
      rw [pre_i hn]
      have v1 : s_mt 20 = 1 := rfl
      have v2 : s_tk 20 = 1 := rfl
      unfold s_ent at en
      omega
    rw [if_pos p]
    have a1 : ¬ lg_cmp (lE (S 13 (S 14 0 - 1)) (S 12 (S 14 0 - 1))) 0 < 0 := fun q => e (s1.mp q)
    have a2 := s2.mpr e
    simp (decide := true) only [r77_74, r77_75, r77_77, r77_80, r77_81, r77_83, r77_86, r77_87, r77_88, r77_89, r77_92, r77_93, r77_96, r77_97 (s0 := 0) (Or.inl rfl), r77_97 (s0 := 1) (Or.inr rfl), r77_98, r77_99, r77_101, r77_104, r77_105, r77_106, r77_107, r77_110, r77_112, r77_113, r77_114, r77_117, r77_118, r77_121, r77_122 (s0 := 0) (Or.inl rfl), r77_122 (s0 := 1) (Or.inr rfl), r77_123, r77_124, r77_125, r77_128, r77_131, r77_132, r77_133, r77_134, r77_137, r77_138, r77_139, r77_142, r77_143, r77_146, r77_148, r77_149, r77_150, r77_153, r77_154, r77_157, r77_158 (s0 := 0) (Or.inl rfl), r77_158 (s0 := 1) (Or.inr rfl), tkM, n1, a1, a2, sh59 hS, sm_wp_some, sm_wp_none, sm_at, sm_get, sm_fld, sm_pfl, sm_cN, sm_ai, sm_al, sm_si, sm_slg, sm_aa, List.getElem?_cons_zero, List.getElem?_cons_succ, List.set_cons_zero, List.set_cons_succ, List.length_cons, List.length_nil, Option.toList_some, Option.toList_none, List.cons_append, List.nil_append, if_true, if_false, true_and, and_true, Option.some.injEq, gs_o, gs_s, List.length_set, hS.1, pk_us, Nat.reduceLT, Nat.reduceLeDiff, Nat.reduceSub, Nat.reduceEqDiff, Nat.reduceAdd, Int32.reduceLT, Int32.reduceLE, Int32.reduceAdd, Int32.reduceSub, Int32.reduceToNatClampNeg, reduceIte, reduceCtorEq, Nat.lt_irrefl]
theorem so_21 {X : sm_X} {w : sm_W} {Q : Option Value → sm_W → Prop} {S : sm_S} (hS : Sh w) (ht : wn w 59 24 = nI (S 14 0)) (hK : SkM w S) (h8 : S 14 0 ≤ 8) (hE : ∀ i, i < S 14 0 → s_ent (S 13 i) (S 12 i)) (hn : ¬ S 14 0 < s_tk 21) : sm_R X 77 0 [.ref 159, .int (nI 21), sm_J, sm_J, sm_J, sm_J] [] w Q ↔ Q (some (.int (if s_pre S 21 = 0 then 1 else 0))) w := by
  have hn : ¬ S 14 0 < 0 := hn
  have tkM := fun Q => tk_M (X := X) (Q := Q) (c := 21) hS (by decide)
  have tv : s_tk 21 = 0 := rfl
  rw [tv] at tkM
  rw [so_a hS ht hK h8 (by decide) (by decide) (by decide) (by decide)]
  have p : s_pre S 21 = 0 := (pre_i hn).mpr ⟨fun q => absurd q.1 (by decide), fun q => absurd q.1 (by decide)⟩
  rw [if_pos p]
  simp (decide := true) only [r77_74, r77_75, r77_77, r77_80, r77_81, r77_83, r77_86, r77_87, r77_88, r77_89, r77_92, r77_93, r77_96, r77_97 (s0 := 0) (Or.inl rfl), r77_97 (s0 := 1) (Or.inr rfl), r77_98, r77_99, r77_101, r77_104, r77_105, r77_106, r77_107, r77_110, r77_112, r77_113, r77_114, r77_117, r77_118, r77_121, r77_122 (s0 := 0) (Or.inl rfl), r77_122 (s0 := 1) (Or.inr rfl), r77_123, r77_124, r77_125, r77_128, r77_131, r77_132, r77_133, r77_134, r77_137, r77_138, r77_139, r77_142, r77_143, r77_146, r77_148, r77_149, r77_150, r77_153, r77_154, r77_157, r77_158 (s0 := 0) (Or.inl rfl), r77_158 (s0 := 1) (Or.inr rfl), tkM, sh59 hS, sm_wp_some, sm_wp_none, sm_at, sm_get, sm_fld, sm_pfl, sm_cN, sm_ai, sm_al, sm_si, sm_slg, sm_aa, List.getElem?_cons_zero, List.getElem?_cons_succ, List.set_cons_zero, List.set_cons_succ, List.length_cons, List.length_nil, Option.toList_some, Option.toList_none, List.cons_append, List.nil_append, if_true, if_false, true_and, and_true, Option.some.injEq, gs_o, gs_s, List.length_set, hS.1, pk_us, Nat.reduceLT, Nat.reduceLeDiff, Nat.reduceSub, Nat.reduceEqDiff, Nat.reduceAdd, Int32.reduceLT, Int32.reduceLE, Int32.reduceAdd, Int32.reduceSub, Int32.reduceToNatClampNeg, reduceIte, reduceCtorEq, Nat.lt_irrefl]
theorem so_22 {X : sm_X} {w : sm_W} {Q : Option Value → sm_W → Prop} {S : sm_S} (hS : Sh w) (ht : wn w 59 24 = nI (S 14 0)) (hK : SkM w S) (h8 : S 14 0 ≤ 8) (hE : ∀ i, i < S 14 0 → s_ent (S 13 i) (S 12 i)) (hn : ¬ S 14 0 < s_tk 22) : sm_R X 77 0 [.ref 159, .int (nI 22), sm_J, sm_J, sm_J, sm_J] [] w Q ↔ Q (some (.int (if s_pre S 22 = 0 then 1 else 0))) w := by
  have hn : ¬ S 14 0 < 1 := hn
  have tkM := fun Q => tk_M (X := X) (Q := Q) (c := 22) hS (by decide)
  have tv : s_tk 22 = 1 := rfl
  rw [tv] at tkM
  rw [so_a hS ht hK h8 (by decide) (by decide) (by decide) (by decide)]
  have l1 : lT S 1 = lE (S 13 (S 14 0 - 1)) (S 12 (S 14 0 - 1)) := if_neg hn
  have en := hE (S 14 0 - 1) (by omega)
  obtain ⟨s1, s2⟩ := lE_neg en
  rw [l1]
  have n1 : nI 1 = 1 := rfl
  by_cases e : S 13 (S 14 0 - 1) = 2
  · have p : ¬ s_pre S 22 = 0 := by
      rw [pre_i hn]
      have v1 : s_mt 22 = 1 := rfl
      have v2 : s_tk 22 = 1 := rfl
      omega
    rw [if_neg p]
    have a1 := s1.mpr e
    have a2 : ¬ 0 ≤ lg_cmp (lE (S 13 (S 14 0 - 1)) (S 12 (S 14 0 - 1))) 0 := fun q => s2.mp q e
    simp (decide := true) only [r77_74, r77_75, r77_77, r77_80, r77_81, r77_83, r77_86, r77_87, r77_88, r77_89, r77_92, r77_93, r77_96, r77_97 (s0 := 0) (Or.inl rfl), r77_97 (s0 := 1) (Or.inr rfl), r77_98, r77_99, r77_101, r77_104, r77_105, r77_106, r77_107, r77_110, r77_112, r77_113, r77_114, r77_117, r77_118, r77_121, r77_122 (s0 := 0) (Or.inl rfl), r77_122 (s0 := 1) (Or.inr rfl), r77_123, r77_124, r77_125, r77_128, r77_131, r77_132, r77_133, r77_134, r77_137, r77_138, r77_139, r77_142, r77_143, r77_146, r77_148, r77_149, r77_150, r77_153, r77_154, r77_157, r77_158 (s0 := 0) (Or.inl rfl), r77_158 (s0 := 1) (Or.inr rfl), tkM, n1, a1, a2, sh59 hS, sm_wp_some, sm_wp_none, sm_at, sm_get, sm_fld, sm_pfl, sm_cN, sm_ai, sm_al, sm_si, sm_slg, sm_aa, List.getElem?_cons_zero, List.getElem?_cons_succ, List.set_cons_zero, List.set_cons_succ, List.length_cons, List.length_nil, Option.toList_some, Option.toList_none, List.cons_append, List.nil_append, if_true, if_false, true_and, and_true, Option.some.injEq, gs_o, gs_s, List.length_set, hS.1, pk_us, Nat.reduceLT, Nat.reduceLeDiff, Nat.reduceSub, Nat.reduceEqDiff, Nat.reduceAdd, Int32.reduceLT, Int32.reduceLE, Int32.reduceAdd, Int32.reduceSub, Int32.reduceToNatClampNeg, reduceIte, reduceCtorEq, Nat.lt_irrefl]
  · have p : s_pre S 22 = 0 := by
      rw [pre_i hn]
      have v1 : s_mt 22 = 1 := rfl
      have v2 : s_tk 22 = 1 := rfl
      unfold s_ent at en
      omega
    rw [if_pos p]
    have a1 : ¬ lg_cmp (lE (S 13 (S 14 0 - 1)) (S 12 (S 14 0 - 1))) 0 < 0 := fun q => e (s1.mp q)
    have a2 := s2.mpr e
    simp (decide := true) only [r77_74, r77_75, r77_77, r77_80, r77_81, r77_83, r77_86, r77_87, r77_88, r77_89, r77_92, r77_93, r77_96, r77_97 (s0 := 0) (Or.inl rfl), r77_97 (s0 := 1) (Or.inr rfl), r77_98, r77_99, r77_101, r77_104, r77_105, r77_106, r77_107, r77_110, r77_112, r77_113, r77_114, r77_117, r77_118, r77_121, r77_122 (s0 := 0) (Or.inl rfl), r77_122 (s0 := 1) (Or.inr rfl), r77_123, r77_124, r77_125, r77_128, r77_131, r77_132, r77_133, r77_134, r77_137, r77_138, r77_139, r77_142, r77_143, r77_146, r77_148, r77_149, r77_150, r77_153, r77_154, r77_157, r77_158 (s0 := 0) (Or.inl rfl), r77_158 (s0 := 1) (Or.inr rfl), tkM, n1, a1, a2, sh59 hS, sm_wp_some, sm_wp_none, sm_at, sm_get, sm_fld, sm_pfl, sm_cN, sm_ai, sm_al, sm_si, sm_slg, sm_aa, List.getElem?_cons_zero, List.getElem?_cons_succ, List.set_cons_zero, List.set_cons_succ, List.length_cons, List.length_nil, Option.toList_some, Option.toList_none, List.cons_append, List.nil_append, if_true, if_false, true_and, and_true, Option.some.injEq, gs_o, gs_s, List.length_set, hS.1, pk_us, Nat.reduceLT, Nat.reduceLeDiff, Nat.reduceSub, Nat.reduceEqDiff, Nat.reduceAdd, Int32.reduceLT, Int32.reduceLE, Int32.reduceAdd, Int32.reduceSub, Int32.reduceToNatClampNeg, reduceIte, reduceCtorEq, Nat.lt_irrefl]
theorem so_23 {X : sm_X} {w : sm_W} {Q : Option Value → sm_W → Prop} {S : sm_S} (hS : Sh w) (ht : wn w 59 24 = nI (S 14 0)) (hK : SkM w S) (h8 : S 14 0 ≤ 8) (hE : ∀ i, i < S 14 0 → s_ent (S 13 i) (S 12 i)) (hn : ¬ S 14 0 < s_tk 23) : sm_R X 77 0 [.ref 159, .int (nI 23), sm_J, sm_J, sm_J, sm_J] [] w Q ↔ Q (some (.int (if s_pre S 23 = 0 then 1 else 0))) w := by
  have hn : ¬ S 14 0 < 1 := hn
  have tkM := fun Q => tk_M (X := X) (Q := Q) (c := 23) hS (by decide)
  have tv : s_tk 23 = 1 := rfl
  rw [tv] at tkM
  rw [so_a hS ht hK h8 (by decide) (by decide) (by decide) (by decide)]
  have l1 : lT S 1 = lE (S 13 (S 14 0 - 1)) (S 12 (S 14 0 - 1)) := if_neg hn
  have en := hE (S 14 0 - 1) (by omega)
  obtain ⟨s1, s2⟩ := lE_neg en
  rw [l1]
  have n1 : nI 1 = 1 := rfl
  by_cases e : S 13 (S 14 0 - 1) = 2
  · have p : s_pre S 23 = 0 := by
      rw [pre_i hn]
      have v1 : s_mt 23 = 2 := rfl
      have v2 : s_tk 23 = 1 := rfl
      omega
    rw [if_pos p]
    have a1 := s1.mpr e
    have a2 : ¬ 0 ≤ lg_cmp (lE (S 13 (S 14 0 - 1)) (S 12 (S 14 0 - 1))) 0 := fun q => s2.mp q e
    simp (decide := true) only [r77_74, r77_75, r77_77, r77_80, r77_81, r77_83, r77_86, r77_87, r77_88, r77_89, r77_92, r77_93, r77_96, r77_97 (s0 := 0) (Or.inl rfl), r77_97 (s0 := 1) (Or.inr rfl), r77_98, r77_99, r77_101, r77_104, r77_105, r77_106, r77_107, r77_110, r77_112, r77_113, r77_114, r77_117, r77_118, r77_121, r77_122 (s0 := 0) (Or.inl rfl), r77_122 (s0 := 1) (Or.inr rfl), r77_123, r77_124, r77_125, r77_128, r77_131, r77_132, r77_133, r77_134, r77_137, r77_138, r77_139, r77_142, r77_143, r77_146, r77_148, r77_149, r77_150, r77_153, r77_154, r77_157, r77_158 (s0 := 0) (Or.inl rfl), r77_158 (s0 := 1) (Or.inr rfl), tkM, n1, a1, a2, sh59 hS, sm_wp_some, sm_wp_none, sm_at, sm_get, sm_fld, sm_pfl, sm_cN, sm_ai, sm_al, sm_si, sm_slg, sm_aa, List.getElem?_cons_zero, List.getElem?_cons_succ, List.set_cons_zero, List.set_cons_succ, List.length_cons, List.length_nil, Option.toList_some, Option.toList_none, List.cons_append, List.nil_append, if_true, if_false, true_and, and_true, Option.some.injEq, gs_o, gs_s, List.length_set, hS.1, pk_us, Nat.reduceLT, Nat.reduceLeDiff, Nat.reduceSub, Nat.reduceEqDiff, Nat.reduceAdd, Int32.reduceLT, Int32.reduceLE, Int32.reduceAdd, Int32.reduceSub, Int32.reduceToNatClampNeg, reduceIte, reduceCtorEq, Nat.lt_irrefl]
  · have p : ¬ s_pre S 23 = 0 := by
      rw [pre_i hn]
      have v1 : s_mt 23 = 2 := rfl
      have v2 : s_tk 23 = 1 := rfl
      unfold s_ent at en
      omega
    rw [if_neg p]
    have a1 : ¬ lg_cmp (lE (S 13 (S 14 0 - 1)) (S 12 (S 14 0 - 1))) 0 < 0 := fun q => e (s1.mp q)
    have a2 := s2.mpr e
    simp (decide := true) only [r77_74, r77_75, r77_77, r77_80, r77_81, r77_83, r77_86, r77_87, r77_88, r77_89, r77_92, r77_93, r77_96, r77_97 (s0 := 0) (Or.inl rfl), r77_97 (s0 := 1) (Or.inr rfl), r77_98, r77_99, r77_101, r77_104, r77_105, r77_106, r77_107, r77_110, r77_112, r77_113, r77_114, r77_117, r77_118, r77_121, r77_122 (s0 := 0) (Or.inl rfl), r77_122 (s0 := 1) (Or.inr rfl), r77_123, r77_124, r77_125, r77_128, r77_131, r77_132, r77_133, r77_134, r77_137, r77_138, r77_139, r77_142, r77_143, r77_146, r77_148, r77_149, r77_150, r77_153, r77_154, r77_157, r77_158 (s0 := 0) (Or.inl rfl), r77_158 (s0 := 1) (Or.inr rfl), tkM, n1, a1, a2, sh59 hS, sm_wp_some, sm_wp_none, sm_at, sm_get, sm_fld, sm_pfl, sm_cN, sm_ai, sm_al, sm_si, sm_slg, sm_aa, List.getElem?_cons_zero, List.getElem?_cons_succ, List.set_cons_zero, List.set_cons_succ, List.length_cons, List.length_nil, Option.toList_some, Option.toList_none, List.cons_append, List.nil_append, if_true, if_false, true_and, and_true, Option.some.injEq, gs_o, gs_s, List.length_set, hS.1, pk_us, Nat.reduceLT, Nat.reduceLeDiff, Nat.reduceSub, Nat.reduceEqDiff, Nat.reduceAdd, Int32.reduceLT, Int32.reduceLE, Int32.reduceAdd, Int32.reduceSub, Int32.reduceToNatClampNeg, reduceIte, reduceCtorEq, Nat.lt_irrefl]
theorem so_24 {X : sm_X} {w : sm_W} {Q : Option Value → sm_W → Prop} {S : sm_S} (hS : Sh w) (ht : wn w 59 24 = nI (S 14 0)) (hK : SkM w S) (h8 : S 14 0 ≤ 8) (hE : ∀ i, i < S 14 0 → s_ent (S 13 i) (S 12 i)) (hn : ¬ S 14 0 < s_tk 24) : sm_R X 77 0 [.ref 159, .int (nI 24), sm_J, sm_J, sm_J, sm_J] [] w Q ↔ Q (some (.int (if s_pre S 24 = 0 then 1 else 0))) w := by
  have hn : ¬ S 14 0 < 2 := hn
  have tkM := fun Q => tk_M (X := X) (Q := Q) (c := 24) hS (by decide)
  have tv : s_tk 24 = 2 := rfl
  rw [tv] at tkM
  rw [so_a hS ht hK h8 (by decide) (by decide) (by decide) (by decide)]
  have l1 : lT S 1 = lE (S 13 (S 14 0 - 1)) (S 12 (S 14 0 - 1)) := if_neg (by omega)
  have l2 : lT S 2 = lE (S 13 (S 14 0 - 2)) (S 12 (S 14 0 - 2)) := if_neg hn
  have en := hE (S 14 0 - 1) (by omega)
  have em := hE (S 14 0 - 2) (by omega)
  obtain ⟨s1, s2⟩ := lE_neg en
  obtain ⟨s3, s4⟩ := lE_neg em
  rw [l1, l2]
  have n2 : nI 2 = 2 := rfl
  have v1 : s_mt 24 = 1 := rfl
  have v2 : s_tk 24 = 2 := rfl
  have v3 : s_mu 24 = 2 := rfl
  have pi := pre_i (S := S) (c := 24) hn
  rw [v1, v2, v3] at pi
  unfold s_ent at en em
  by_cases e : S 13 (S 14 0 - 1) = 2
  · have p : ¬ s_pre S 24 = 0 := by
      rw [pi]
      omega
    rw [if_neg p]
    have a1 := s1.mpr e
    simp (decide := true) only [r77_74, r77_75, r77_77, r77_80, r77_81, r77_83, r77_86, r77_87, r77_88, r77_89, r77_92, r77_93, r77_96, r77_97 (s0 := 0) (Or.inl rfl), r77_97 (s0 := 1) (Or.inr rfl), r77_98, r77_99, r77_101, r77_104, r77_105, r77_106, r77_107, r77_110, r77_112, r77_113, r77_114, r77_117, r77_118, r77_121, r77_122 (s0 := 0) (Or.inl rfl), r77_122 (s0 := 1) (Or.inr rfl), r77_123, r77_124, r77_125, r77_128, r77_131, r77_132, r77_133, r77_134, r77_137, r77_138, r77_139, r77_142, r77_143, r77_146, r77_148, r77_149, r77_150, r77_153, r77_154, r77_157, r77_158 (s0 := 0) (Or.inl rfl), r77_158 (s0 := 1) (Or.inr rfl), tkM, n2, a1, sh59 hS, sm_wp_some, sm_wp_none, sm_at, sm_get, sm_fld, sm_pfl, sm_cN, sm_ai, sm_al, sm_si, sm_slg, sm_aa, List.getElem?_cons_zero, List.getElem?_cons_succ, List.set_cons_zero, List.set_cons_succ, List.length_cons, List.length_nil, Option.toList_some, Option.toList_none, List.cons_append, List.nil_append, if_true, if_false, true_and, and_true, Option.some.injEq, gs_o, gs_s, List.length_set, hS.1, pk_us, Nat.reduceLT, Nat.reduceLeDiff, Nat.reduceSub, Nat.reduceEqDiff, Nat.reduceAdd, Int32.reduceLT, Int32.reduceLE, Int32.reduceAdd, Int32.reduceSub, Int32.reduceToNatClampNeg, reduceIte, reduceCtorEq, Nat.lt_irrefl]
  · have a1 : ¬ lg_cmp (lE (S 13 (S 14 0 - 1)) (S 12 (S 14 0 - 1))) 0 < 0 := fun q => e (s1.mp q)
    by_cases f : S 13 (S 14 0 - 2) = 2
    · have p : s_pre S 24 = 0 := by
        rw [pi]
        omega
      rw [if_pos p]
      have a3 := s3.mpr f
      have a4 : ¬ 0 ≤ lg_cmp (lE (S 13 (S 14 0 - 2)) (S 12 (S 14 0 - 2))) 0 := fun q => s4.mp q f
      simp (decide := true) only [r77_74, r77_75, r77_77, r77_80, r77_81, r77_83, r77_86, r77_87, r77_88, r77_89, r77_92, r77_93, r77_96, r77_97 (s0 := 0) (Or.inl rfl), r77_97 (s0 := 1) (Or.inr rfl), r77_98, r77_99, r77_101, r77_104, r77_105, r77_106, r77_107, r77_110, r77_112, r77_113, r77_114, r77_117, r77_118, r77_121, r77_122 (s0 := 0) (Or.inl rfl), r77_122 (s0 := 1) (Or.inr rfl), r77_123, r77_124, r77_125, r77_128, r77_131, r77_132, r77_133, r77_134, r77_137, r77_138, r77_139, r77_142, r77_143, r77_146, r77_148, r77_149, r77_150, r77_153, r77_154, r77_157, r77_158 (s0 := 0) (Or.inl rfl), r77_158 (s0 := 1) (Or.inr rfl), tkM, n2, a1, a3, a4, sh59 hS, sm_wp_some, sm_wp_none, sm_at, sm_get, sm_fld, sm_pfl, sm_cN, sm_ai, sm_al, sm_si, sm_slg, sm_aa, List.getElem?_cons_zero, List.getElem?_cons_succ, List.set_cons_zero, List.set_cons_succ, List.length_cons, List.length_nil, Option.toList_some, Option.toList_none, List.cons_append, List.nil_append, if_true, if_false, true_and, and_true, Option.some.injEq, gs_o, gs_s, List.length_set, hS.1, pk_us, Nat.reduceLT, Nat.reduceLeDiff, Nat.reduceSub, Nat.reduceEqDiff, Nat.reduceAdd, Int32.reduceLT, Int32.reduceLE, Int32.reduceAdd, Int32.reduceSub, Int32.reduceToNatClampNeg, reduceIte, reduceCtorEq, Nat.lt_irrefl]
    · have p : ¬ s_pre S 24 = 0 := by
        rw [pi]
        omega
      rw [if_neg p]
      have a3 : ¬ lg_cmp (lE (S 13 (S 14 0 - 2)) (S 12 (S 14 0 - 2))) 0 < 0 := fun q => f (s3.mp q)
      have a4 := s4.mpr f
      simp (decide := true) only [r77_74, r77_75, r77_77, r77_80, r77_81, r77_83, r77_86, r77_87, r77_88, r77_89, r77_92, r77_93, r77_96, r77_97 (s0 := 0) (Or.inl rfl), r77_97 (s0 := 1) (Or.inr rfl), r77_98, r77_99, r77_101, r77_104, r77_105, r77_106, r77_107, r77_110, r77_112, r77_113, r77_114, r77_117, r77_118, r77_121, r77_122 (s0 := 0) (Or.inl rfl), r77_122 (s0 := 1) (Or.inr rfl), r77_123, r77_124, r77_125, r77_128, r77_131, r77_132, r77_133, r77_134, r77_137, r77_138, r77_139, r77_142, r77_143, r77_146, r77_148, r77_149, r77_150, r77_153, r77_154, r77_157, r77_158 (s0 := 0) (Or.inl rfl), r77_158 (s0 := 1) (Or.inr rfl), tkM, n2, a1, a3, a4, sh59 hS, sm_wp_some, sm_wp_none, sm_at, sm_get, sm_fld, sm_pfl, sm_cN, sm_ai, sm_al, sm_si, sm_slg, sm_aa, List.getElem?_cons_zero, List.getElem?_cons_succ, List.set_cons_zero, List.set_cons_succ, List.length_cons, List.length_nil, Option.toList_some, Option.toList_none, List.cons_append, List.nil_append, if_true, if_false, true_and, and_true, Option.some.injEq, gs_o, gs_s, List.length_set, hS.1, pk_us, Nat.reduceLT, Nat.reduceLeDiff, Nat.reduceSub, Nat.reduceEqDiff, Nat.reduceAdd, Int32.reduceLT, Int32.reduceLE, Int32.reduceAdd, Int32.reduceSub, Int32.reduceToNatClampNeg, reduceIte, reduceCtorEq, Nat.lt_irrefl]
theorem so_25 {X : sm_X} {w : sm_W} {Q : Option Value → sm_W → Prop} {S : sm_S} (hS : Sh w) (ht : wn w 59 24 = nI (S 14 0)) (hK : SkM w S) (h8 : S 14 0 ≤ 8) (hE : ∀ i, i < S 14 0 → s_ent (S 13 i) (S 12 i)) (hn : ¬ S 14 0 < s_tk 25) : sm_R X 77 0 [.ref 159, .int (nI 25), sm_J, sm_J, sm_J, sm_J] [] w Q ↔ Q (some (.int (if s_pre S 25 = 0 then 1 else 0))) w := by
  have hn : ¬ S 14 0 < 1 := hn
  have tkM := fun Q => tk_M (X := X) (Q := Q) (c := 25) hS (by decide)
  have tv : s_tk 25 = 1 := rfl
  rw [tv] at tkM
  rw [so_a hS ht hK h8 (by decide) (by decide) (by decide) (by decide)]
  have l1 : lT S 1 = lE (S 13 (S 14 0 - 1)) (S 12 (S 14 0 - 1)) := if_neg hn
  have en := hE (S 14 0 - 1) (by omega)
  obtain ⟨s1, s2⟩ := lE_neg en
  rw [l1]
  have n1 : nI 1 = 1 := rfl
  by_cases e : S 13 (S 14 0 - 1) = 2
  · have p : s_pre S 25 = 0 := by
      rw [pre_i hn]
      have v1 : s_mt 25 = 2 := rfl
      have v2 : s_tk 25 = 1 := rfl
      omega
    rw [if_pos p]
    have a1 := s1.mpr e
    have a2 : ¬ 0 ≤ lg_cmp (lE (S 13 (S 14 0 - 1)) (S 12 (S 14 0 - 1))) 0 := fun q => s2.mp q e
    simp (decide := true) only [r77_74, r77_75, r77_77, r77_80, r77_81, r77_83, r77_86, r77_87, r77_88, r77_89, r77_92, r77_93, r77_96, r77_97 (s0 := 0) (Or.inl rfl), r77_97 (s0 := 1) (Or.inr rfl), r77_98, r77_99, r77_101, r77_104, r77_105, r77_106, r77_107, r77_110, r77_112, r77_113, r77_114, r77_117, r77_118, r77_121, r77_122 (s0 := 0) (Or.inl rfl), r77_122 (s0 := 1) (Or.inr rfl), r77_123, r77_124, r77_125, r77_128, r77_131, r77_132, r77_133, r77_134, r77_137, r77_138, r77_139, r77_142, r77_143, r77_146, r77_148, r77_149, r77_150, r77_153, r77_154, r77_157, r77_158 (s0 := 0) (Or.inl rfl), r77_158 (s0 := 1) (Or.inr rfl), tkM, n1, a1, a2, sh59 hS, sm_wp_some, sm_wp_none, sm_at, sm_get, sm_fld, sm_pfl, sm_cN, sm_ai, sm_al, sm_si, sm_slg, sm_aa, List.getElem?_cons_zero, List.getElem?_cons_succ, List.set_cons_zero, List.set_cons_succ, List.length_cons, List.length_nil, Option.toList_some, Option.toList_none, List.cons_append, List.nil_append, if_true, if_false, true_and, and_true, Option.some.injEq, gs_o, gs_s, List.length_set, hS.1, pk_us, Nat.reduceLT, Nat.reduceLeDiff, Nat.reduceSub, Nat.reduceEqDiff, Nat.reduceAdd, Int32.reduceLT, Int32.reduceLE, Int32.reduceAdd, Int32.reduceSub, Int32.reduceToNatClampNeg, reduceIte, reduceCtorEq, Nat.lt_irrefl]
  · have p : ¬ s_pre S 25 = 0 := by
      rw [pre_i hn]
      have v1 : s_mt 25 = 2 := rfl
      have v2 : s_tk 25 = 1 := rfl
      unfold s_ent at en
      omega
    rw [if_neg p]
    have a1 : ¬ lg_cmp (lE (S 13 (S 14 0 - 1)) (S 12 (S 14 0 - 1))) 0 < 0 := fun q => e (s1.mp q)
    have a2 := s2.mpr e
    simp (decide := true) only [r77_74, r77_75, r77_77, r77_80, r77_81, r77_83, r77_86, r77_87, r77_88, r77_89, r77_92, r77_93, r77_96, r77_97 (s0 := 0) (Or.inl rfl), r77_97 (s0 := 1) (Or.inr rfl), r77_98, r77_99, r77_101, r77_104, r77_105, r77_106, r77_107, r77_110, r77_112, r77_113, r77_114, r77_117, r77_118, r77_121, r77_122 (s0 := 0) (Or.inl rfl), r77_122 (s0 := 1) (Or.inr rfl), r77_123, r77_124, r77_125, r77_128, r77_131, r77_132, r77_133, r77_134, r77_137, r77_138, r77_139, r77_142, r77_143, r77_146, r77_148, r77_149, r77_150, r77_153, r77_154, r77_157, r77_158 (s0 := 0) (Or.inl rfl), r77_158 (s0 := 1) (Or.inr rfl), tkM, n1, a1, a2, sh59 hS, sm_wp_some, sm_wp_none, sm_at, sm_get, sm_fld, sm_pfl, sm_cN, sm_ai, sm_al, sm_si, sm_slg, sm_aa, List.getElem?_cons_zero, List.getElem?_cons_succ, List.set_cons_zero, List.set_cons_succ, List.length_cons, List.length_nil, Option.toList_some, Option.toList_none, List.cons_append, List.nil_append, if_true, if_false, true_and, and_true, Option.some.injEq, gs_o, gs_s, List.length_set, hS.1, pk_us, Nat.reduceLT, Nat.reduceLeDiff, Nat.reduceSub, Nat.reduceEqDiff, Nat.reduceAdd, Int32.reduceLT, Int32.reduceLE, Int32.reduceAdd, Int32.reduceSub, Int32.reduceToNatClampNeg, reduceIte, reduceCtorEq, Nat.lt_irrefl]
theorem so_26 {X : sm_X} {w : sm_W} {Q : Option Value → sm_W → Prop} {S : sm_S} (hS : Sh w) (ht : wn w 59 24 = nI (S 14 0)) (hK : SkM w S) (h8 : S 14 0 ≤ 8) (hE : ∀ i, i < S 14 0 → s_ent (S 13 i) (S 12 i)) (hn : ¬ S 14 0 < s_tk 26) : sm_R X 77 0 [.ref 159, .int (nI 26), sm_J, sm_J, sm_J, sm_J] [] w Q ↔ Q (some (.int (if s_pre S 26 = 0 then 1 else 0))) w := by
  have hn : ¬ S 14 0 < 0 := hn
  have tkM := fun Q => tk_M (X := X) (Q := Q) (c := 26) hS (by decide)
  have tv : s_tk 26 = 0 := rfl
  rw [tv] at tkM
  rw [so_a hS ht hK h8 (by decide) (by decide) (by decide) (by decide)]
  have p : s_pre S 26 = 0 := (pre_i hn).mpr ⟨fun q => absurd q.1 (by decide), fun q => absurd q.1 (by decide)⟩
  rw [if_pos p]
  simp (decide := true) only [r77_74, r77_75, r77_77, r77_80, r77_81, r77_83, r77_86, r77_87, r77_88, r77_89, r77_92, r77_93, r77_96, r77_97 (s0 := 0) (Or.inl rfl), r77_97 (s0 := 1) (Or.inr rfl), r77_98, r77_99, r77_101, r77_104, r77_105, r77_106, r77_107, r77_110, r77_112, r77_113, r77_114, r77_117, r77_118, r77_121, r77_122 (s0 := 0) (Or.inl rfl), r77_122 (s0 := 1) (Or.inr rfl), r77_123, r77_124, r77_125, r77_128, r77_131, r77_132, r77_133, r77_134, r77_137, r77_138, r77_139, r77_142, r77_143, r77_146, r77_148, r77_149, r77_150, r77_153, r77_154, r77_157, r77_158 (s0 := 0) (Or.inl rfl), r77_158 (s0 := 1) (Or.inr rfl), tkM, sh59 hS, sm_wp_some, sm_wp_none, sm_at, sm_get, sm_fld, sm_pfl, sm_cN, sm_ai, sm_al, sm_si, sm_slg, sm_aa, List.getElem?_cons_zero, List.getElem?_cons_succ, List.set_cons_zero, List.set_cons_succ, List.length_cons, List.length_nil, Option.toList_some, Option.toList_none, List.cons_append, List.nil_append, if_true, if_false, true_and, and_true, Option.some.injEq, gs_o, gs_s, List.length_set, hS.1, pk_us, Nat.reduceLT, Nat.reduceLeDiff, Nat.reduceSub, Nat.reduceEqDiff, Nat.reduceAdd, Int32.reduceLT, Int32.reduceLE, Int32.reduceAdd, Int32.reduceSub, Int32.reduceToNatClampNeg, reduceIte, reduceCtorEq, Nat.lt_irrefl]
theorem so_27 {X : sm_X} {w : sm_W} {Q : Option Value → sm_W → Prop} {S : sm_S} (hS : Sh w) (ht : wn w 59 24 = nI (S 14 0)) (hK : SkM w S) (h8 : S 14 0 ≤ 8) (hE : ∀ i, i < S 14 0 → s_ent (S 13 i) (S 12 i)) (hn : ¬ S 14 0 < s_tk 27) : sm_R X 77 0 [.ref 159, .int (nI 27), sm_J, sm_J, sm_J, sm_J] [] w Q ↔ Q (some (.int (if s_pre S 27 = 0 then 1 else 0))) w := by
  have hn : ¬ S 14 0 < 1 := hn
  have tkM := fun Q => tk_M (X := X) (Q := Q) (c := 27) hS (by decide)
  have tv : s_tk 27 = 1 := rfl
  rw [tv] at tkM
  rw [so_a hS ht hK h8 (by decide) (by decide) (by decide) (by decide)]
  have l1 : lT S 1 = lE (S 13 (S 14 0 - 1)) (S 12 (S 14 0 - 1)) := if_neg hn
  have en := hE (S 14 0 - 1) (by omega)
  obtain ⟨s1, s2⟩ := lE_neg en
  rw [l1]
  have n1 : nI 1 = 1 := rfl
  by_cases e : S 13 (S 14 0 - 1) = 2
  · have p : ¬ s_pre S 27 = 0 := by
      rw [pre_i hn]
      have v1 : s_mt 27 = 1 := rfl
      have v2 : s_tk 27 = 1 := rfl
      omega
    rw [if_neg p]
    have a1 := s1.mpr e
    have a2 : ¬ 0 ≤ lg_cmp (lE (S 13 (S 14 0 - 1)) (S 12 (S 14 0 - 1))) 0 := fun q => s2.mp q e
    simp (decide := true) only [r77_74, r77_75, r77_77, r77_80, r77_81, r77_83, r77_86, r77_87, r77_88, r77_89, r77_92, r77_93, r77_96, r77_97 (s0 := 0) (Or.inl rfl), r77_97 (s0 := 1) (Or.inr rfl), r77_98, r77_99, r77_101, r77_104, r77_105, r77_106, r77_107, r77_110, r77_112, r77_113, r77_114, r77_117, r77_118, r77_121, r77_122 (s0 := 0) (Or.inl rfl), r77_122 (s0 := 1) (Or.inr rfl), r77_123, r77_124, r77_125, r77_128, r77_131, r77_132, r77_133, r77_134, r77_137, r77_138, r77_139, r77_142, r77_143, r77_146, r77_148, r77_149, r77_150, r77_153, r77_154, r77_157, r77_158 (s0 := 0) (Or.inl rfl), r77_158 (s0 := 1) (Or.inr rfl), tkM, n1, a1, a2, sh59 hS, sm_wp_some, sm_wp_none, sm_at, sm_get, sm_fld, sm_pfl, sm_cN, sm_ai, sm_al, sm_si, sm_slg, sm_aa, List.getElem?_cons_zero, List.getElem?_cons_succ, List.set_cons_zero, List.set_cons_succ, List.length_cons, List.length_nil, Option.toList_some, Option.toList_none, List.cons_append, List.nil_append, if_true, if_false, true_and, and_true, Option.some.injEq, gs_o, gs_s, List.length_set, hS.1, pk_us, Nat.reduceLT, Nat.reduceLeDiff, Nat.reduceSub, Nat.reduceEqDiff, Nat.reduceAdd, Int32.reduceLT, Int32.reduceLE, Int32.reduceAdd, Int32.reduceSub, Int32.reduceToNatClampNeg, reduceIte, reduceCtorEq, Nat.lt_irrefl]
  · have p : s_pre S 27 = 0 := by
      rw [pre_i hn]
      have v1 : s_mt 27 = 1 := rfl
      have v2 : s_tk 27 = 1 := rfl
      unfold s_ent at en
      omega
    rw [if_pos p]
    have a1 : ¬ lg_cmp (lE (S 13 (S 14 0 - 1)) (S 12 (S 14 0 - 1))) 0 < 0 := fun q => e (s1.mp q)
    have a2 := s2.mpr e
    simp (decide := true) only [r77_74, r77_75, r77_77, r77_80, r77_81, r77_83, r77_86, r77_87, r77_88, r77_89, r77_92, r77_93, r77_96, r77_97 (s0 := 0) (Or.inl rfl), r77_97 (s0 := 1) (Or.inr rfl), r77_98, r77_99, r77_101, r77_104, r77_105, r77_106, r77_107, r77_110, r77_112, r77_113, r77_114, r77_117, r77_118, r77_121, r77_122 (s0 := 0) (Or.inl rfl), r77_122 (s0 := 1) (Or.inr rfl), r77_123, r77_124, r77_125, r77_128, r77_131, r77_132, r77_133, r77_134, r77_137, r77_138, r77_139, r77_142, r77_143, r77_146, r77_148, r77_149, r77_150, r77_153, r77_154, r77_157, r77_158 (s0 := 0) (Or.inl rfl), r77_158 (s0 := 1) (Or.inr rfl), tkM, n1, a1, a2, sh59 hS, sm_wp_some, sm_wp_none, sm_at, sm_get, sm_fld, sm_pfl, sm_cN, sm_ai, sm_al, sm_si, sm_slg, sm_aa, List.getElem?_cons_zero, List.getElem?_cons_succ, List.set_cons_zero, List.set_cons_succ, List.length_cons, List.length_nil, Option.toList_some, Option.toList_none, List.cons_append, List.nil_append, if_true, if_false, true_and, and_true, Option.some.injEq, gs_o, gs_s, List.length_set, hS.1, pk_us, Nat.reduceLT, Nat.reduceLeDiff, Nat.reduceSub, Nat.reduceEqDiff, Nat.reduceAdd, Int32.reduceLT, Int32.reduceLE, Int32.reduceAdd, Int32.reduceSub, Int32.reduceToNatClampNeg, reduceIte, reduceCtorEq, Nat.lt_irrefl]
theorem so_28 {X : sm_X} {w : sm_W} {Q : Option Value → sm_W → Prop} {S : sm_S} (hS : Sh w) (ht : wn w 59 24 = nI (S 14 0)) (hK : SkM w S) (h8 : S 14 0 ≤ 8) (hE : ∀ i, i < S 14 0 → s_ent (S 13 i) (S 12 i)) (hn : ¬ S 14 0 < s_tk 28) : sm_R X 77 0 [.ref 159, .int (nI 28), sm_J, sm_J, sm_J, sm_J] [] w Q ↔ Q (some (.int (if s_pre S 28 = 0 then 1 else 0))) w := by
  have hn : ¬ S 14 0 < 1 := hn
  have tkM := fun Q => tk_M (X := X) (Q := Q) (c := 28) hS (by decide)
  have tv : s_tk 28 = 1 := rfl
  rw [tv] at tkM
  rw [so_a hS ht hK h8 (by decide) (by decide) (by decide) (by decide)]
  have l1 : lT S 1 = lE (S 13 (S 14 0 - 1)) (S 12 (S 14 0 - 1)) := if_neg hn
  have en := hE (S 14 0 - 1) (by omega)
  obtain ⟨s1, s2⟩ := lE_neg en
  rw [l1]
  have n1 : nI 1 = 1 := rfl
  by_cases e : S 13 (S 14 0 - 1) = 2
  · have p : ¬ s_pre S 28 = 0 := by
      rw [pre_i hn]
      have v1 : s_mt 28 = 1 := rfl
      have v2 : s_tk 28 = 1 := rfl
      omega
    rw [if_neg p]
    have a1 := s1.mpr e
    have a2 : ¬ 0 ≤ lg_cmp (lE (S 13 (S 14 0 - 1)) (S 12 (S 14 0 - 1))) 0 := fun q => s2.mp q e
    simp (decide := true) only [r77_74, r77_75, r77_77, r77_80, r77_81, r77_83, r77_86, r77_87, r77_88, r77_89, r77_92, r77_93, r77_96, r77_97 (s0 := 0) (Or.inl rfl), r77_97 (s0 := 1) (Or.inr rfl), r77_98, r77_99, r77_101, r77_104, r77_105, r77_106, r77_107, r77_110, r77_112, r77_113, r77_114, r77_117, r77_118, r77_121, r77_122 (s0 := 0) (Or.inl rfl), r77_122 (s0 := 1) (Or.inr rfl), r77_123, r77_124, r77_125, r77_128, r77_131, r77_132, r77_133, r77_134, r77_137, r77_138, r77_139, r77_142, r77_143, r77_146, r77_148, r77_149, r77_150, r77_153, r77_154, r77_157, r77_158 (s0 := 0) (Or.inl rfl), r77_158 (s0 := 1) (Or.inr rfl), tkM, n1, a1, a2, sh59 hS, sm_wp_some, sm_wp_none, sm_at, sm_get, sm_fld, sm_pfl, sm_cN, sm_ai, sm_al, sm_si, sm_slg, sm_aa, List.getElem?_cons_zero, List.getElem?_cons_succ, List.set_cons_zero, List.set_cons_succ, List.length_cons, List.length_nil, Option.toList_some, Option.toList_none, List.cons_append, List.nil_append, if_true, if_false, true_and, and_true, Option.some.injEq, gs_o, gs_s, List.length_set, hS.1, pk_us, Nat.reduceLT, Nat.reduceLeDiff, Nat.reduceSub, Nat.reduceEqDiff, Nat.reduceAdd, Int32.reduceLT, Int32.reduceLE, Int32.reduceAdd, Int32.reduceSub, Int32.reduceToNatClampNeg, reduceIte, reduceCtorEq, Nat.lt_irrefl]
  · have p : s_pre S 28 = 0 := by
      rw [pre_i hn]
      have v1 : s_mt 28 = 1 := rfl
      have v2 : s_tk 28 = 1 := rfl
      unfold s_ent at en
      omega
    rw [if_pos p]
    have a1 : ¬ lg_cmp (lE (S 13 (S 14 0 - 1)) (S 12 (S 14 0 - 1))) 0 < 0 := fun q => e (s1.mp q)
    have a2 := s2.mpr e
    simp (decide := true) only [r77_74, r77_75, r77_77, r77_80, r77_81, r77_83, r77_86, r77_87, r77_88, r77_89, r77_92, r77_93, r77_96, r77_97 (s0 := 0) (Or.inl rfl), r77_97 (s0 := 1) (Or.inr rfl), r77_98, r77_99, r77_101, r77_104, r77_105, r77_106, r77_107, r77_110, r77_112, r77_113, r77_114, r77_117, r77_118, r77_121, r77_122 (s0 := 0) (Or.inl rfl), r77_122 (s0 := 1) (Or.inr rfl), r77_123, r77_124, r77_125, r77_128, r77_131, r77_132, r77_133, r77_134, r77_137, r77_138, r77_139, r77_142, r77_143, r77_146, r77_148, r77_149, r77_150, r77_153, r77_154, r77_157, r77_158 (s0 := 0) (Or.inl rfl), r77_158 (s0 := 1) (Or.inr rfl), tkM, n1, a1, a2, sh59 hS, sm_wp_some, sm_wp_none, sm_at, sm_get, sm_fld, sm_pfl, sm_cN, sm_ai, sm_al, sm_si, sm_slg, sm_aa, List.getElem?_cons_zero, List.getElem?_cons_succ, List.set_cons_zero, List.set_cons_succ, List.length_cons, List.length_nil, Option.toList_some, Option.toList_none, List.cons_append, List.nil_append, if_true, if_false, true_and, and_true, Option.some.injEq, gs_o, gs_s, List.length_set, hS.1, pk_us, Nat.reduceLT, Nat.reduceLeDiff, Nat.reduceSub, Nat.reduceEqDiff, Nat.reduceAdd, Int32.reduceLT, Int32.reduceLE, Int32.reduceAdd, Int32.reduceSub, Int32.reduceToNatClampNeg, reduceIte, reduceCtorEq, Nat.lt_irrefl]
theorem so_29 {X : sm_X} {w : sm_W} {Q : Option Value → sm_W → Prop} {S : sm_S} (hS : Sh w) (ht : wn w 59 24 = nI (S 14 0)) (hK : SkM w S) (h8 : S 14 0 ≤ 8) (hE : ∀ i, i < S 14 0 → s_ent (S 13 i) (S 12 i)) (hn : ¬ S 14 0 < s_tk 29) : sm_R X 77 0 [.ref 159, .int (nI 29), sm_J, sm_J, sm_J, sm_J] [] w Q ↔ Q (some (.int (if s_pre S 29 = 0 then 1 else 0))) w := by
  have hn : ¬ S 14 0 < 1 := hn
  have tkM := fun Q => tk_M (X := X) (Q := Q) (c := 29) hS (by decide)
  have tv : s_tk 29 = 1 := rfl
  rw [tv] at tkM
  rw [so_a hS ht hK h8 (by decide) (by decide) (by decide) (by decide)]
  have l1 : lT S 1 = lE (S 13 (S 14 0 - 1)) (S 12 (S 14 0 - 1)) := if_neg hn
  have en := hE (S 14 0 - 1) (by omega)
  obtain ⟨s1, s2⟩ := lE_neg en
  rw [l1]
  have n1 : nI 1 = 1 := rfl
  by_cases e : S 13 (S 14 0 - 1) = 2
  · have p : ¬ s_pre S 29 = 0 := by
      rw [pre_i hn]
      have v1 : s_mt 29 = 1 := rfl
      have v2 : s_tk 29 = 1 := rfl
      omega
    rw [if_neg p]
    have a1 := s1.mpr e
    have a2 : ¬ 0 ≤ lg_cmp (lE (S 13 (S 14 0 - 1)) (S 12 (S 14 0 - 1))) 0 := fun q => s2.mp q e
    simp (decide := true) only [r77_74, r77_75, r77_77, r77_80, r77_81, r77_83, r77_86, r77_87, r77_88, r77_89, r77_92, r77_93, r77_96, r77_97 (s0 := 0) (Or.inl rfl), r77_97 (s0 := 1) (Or.inr rfl), r77_98, r77_99, r77_101, r77_104, r77_105, r77_106, r77_107, r77_110, r77_112, r77_113, r77_114, r77_117, r77_118, r77_121, r77_122 (s0 := 0) (Or.inl rfl), r77_122 (s0 := 1) (Or.inr rfl), r77_123, r77_124, r77_125, r77_128, r77_131, r77_132, r77_133, r77_134, r77_137, r77_138, r77_139, r77_142, r77_143, r77_146, r77_148, r77_149, r77_150, r77_153, r77_154, r77_157, r77_158 (s0 := 0) (Or.inl rfl), r77_158 (s0 := 1) (Or.inr rfl), tkM, n1, a1, a2, sh59 hS, sm_wp_some, sm_wp_none, sm_at, sm_get, sm_fld, sm_pfl, sm_cN, sm_ai, sm_al, sm_si, sm_slg, sm_aa, List.getElem?_cons_zero, List.getElem?_cons_succ, List.set_cons_zero, List.set_cons_succ, List.length_cons, List.length_nil, Option.toList_some, Option.toList_none, List.cons_append, List.nil_append, if_true, if_false, true_and, and_true, Option.some.injEq, gs_o, gs_s, List.length_set, hS.1, pk_us, Nat.reduceLT, Nat.reduceLeDiff, Nat.reduceSub, Nat.reduceEqDiff, Nat.reduceAdd, Int32.reduceLT, Int32.reduceLE, Int32.reduceAdd, Int32.reduceSub, Int32.reduceToNatClampNeg, reduceIte, reduceCtorEq, Nat.lt_irrefl]
  · have p : s_pre S 29 = 0 := by
      rw [pre_i hn]
      have v1 : s_mt 29 = 1 := rfl
      have v2 : s_tk 29 = 1 := rfl
      unfold s_ent at en
      omega
    rw [if_pos p]
    have a1 : ¬ lg_cmp (lE (S 13 (S 14 0 - 1)) (S 12 (S 14 0 - 1))) 0 < 0 := fun q => e (s1.mp q)
    have a2 := s2.mpr e
    simp (decide := true) only [r77_74, r77_75, r77_77, r77_80, r77_81, r77_83, r77_86, r77_87, r77_88, r77_89, r77_92, r77_93, r77_96, r77_97 (s0 := 0) (Or.inl rfl), r77_97 (s0 := 1) (Or.inr rfl), r77_98, r77_99, r77_101, r77_104, r77_105, r77_106, r77_107, r77_110, r77_112, r77_113, r77_114, r77_117, r77_118, r77_121, r77_122 (s0 := 0) (Or.inl rfl), r77_122 (s0 := 1) (Or.inr rfl), r77_123, r77_124, r77_125, r77_128, r77_131, r77_132, r77_133, r77_134, r77_137, r77_138, r77_139, r77_142, r77_143, r77_146, r77_148, r77_149, r77_150, r77_153, r77_154, r77_157, r77_158 (s0 := 0) (Or.inl rfl), r77_158 (s0 := 1) (Or.inr rfl), tkM, n1, a1, a2, sh59 hS, sm_wp_some, sm_wp_none, sm_at, sm_get, sm_fld, sm_pfl, sm_cN, sm_ai, sm_al, sm_si, sm_slg, sm_aa, List.getElem?_cons_zero, List.getElem?_cons_succ, List.set_cons_zero, List.set_cons_succ, List.length_cons, List.length_nil, Option.toList_some, Option.toList_none, List.cons_append, List.nil_append, if_true, if_false, true_and, and_true, Option.some.injEq, gs_o, gs_s, List.length_set, hS.1, pk_us, Nat.reduceLT, Nat.reduceLeDiff, Nat.reduceSub, Nat.reduceEqDiff, Nat.reduceAdd, Int32.reduceLT, Int32.reduceLE, Int32.reduceAdd, Int32.reduceSub, Int32.reduceToNatClampNeg, reduceIte, reduceCtorEq, Nat.lt_irrefl]
theorem so_30 {X : sm_X} {w : sm_W} {Q : Option Value → sm_W → Prop} {S : sm_S} (hS : Sh w) (ht : wn w 59 24 = nI (S 14 0)) (hK : SkM w S) (h8 : S 14 0 ≤ 8) (hE : ∀ i, i < S 14 0 → s_ent (S 13 i) (S 12 i)) (hn : ¬ S 14 0 < s_tk 30) : sm_R X 77 0 [.ref 159, .int (nI 30), sm_J, sm_J, sm_J, sm_J] [] w Q ↔ Q (some (.int (if s_pre S 30 = 0 then 1 else 0))) w := by
  have hn : ¬ S 14 0 < 1 := hn
  have tkM := fun Q => tk_M (X := X) (Q := Q) (c := 30) hS (by decide)
  have tv : s_tk 30 = 1 := rfl
  rw [tv] at tkM
  rw [so_a hS ht hK h8 (by decide) (by decide) (by decide) (by decide)]
  have l1 : lT S 1 = lE (S 13 (S 14 0 - 1)) (S 12 (S 14 0 - 1)) := if_neg hn
  have en := hE (S 14 0 - 1) (by omega)
  obtain ⟨s1, s2⟩ := lE_neg en
  rw [l1]
  have n1 : nI 1 = 1 := rfl
  by_cases e : S 13 (S 14 0 - 1) = 2
  · have p : ¬ s_pre S 30 = 0 := by
      rw [pre_i hn]
      have v1 : s_mt 30 = 1 := rfl
      have v2 : s_tk 30 = 1 := rfl
      omega
    rw [if_neg p]
    have a1 := s1.mpr e
    have a2 : ¬ 0 ≤ lg_cmp (lE (S 13 (S 14 0 - 1)) (S 12 (S 14 0 - 1))) 0 := fun q => s2.mp q e
    simp (decide := true) only [r77_74, r77_75, r77_77, r77_80, r77_81, r77_83, r77_86, r77_87, r77_88, r77_89, r77_92, r77_93, r77_96, r77_97 (s0 := 0) (Or.inl rfl), r77_97 (s0 := 1) (Or.inr rfl), r77_98, r77_99, r77_101, r77_104, r77_105, r77_106, r77_107, r77_110, r77_112, r77_113, r77_114, r77_117, r77_118, r77_121, r77_122 (s0 := 0) (Or.inl rfl), r77_122 (s0 := 1) (Or.inr rfl), r77_123, r77_124, r77_125, r77_128, r77_131, r77_132, r77_133, r77_134, r77_137, r77_138, r77_139, r77_142, r77_143, r77_146, r77_148, r77_149, r77_150, r77_153, r77_154, r77_157, r77_158 (s0 := 0) (Or.inl rfl), r77_158 (s0 := 1) (Or.inr rfl), tkM, n1, a1, a2, sh59 hS, sm_wp_some, sm_wp_none, sm_at, sm_get, sm_fld, sm_pfl, sm_cN, sm_ai, sm_al, sm_si, sm_slg, sm_aa, List.getElem?_cons_zero, List.getElem?_cons_succ, List.set_cons_zero, List.set_cons_succ, List.length_cons, List.length_nil, Option.toList_some, Option.toList_none, List.cons_append, List.nil_append, if_true, if_false, true_and, and_true, Option.some.injEq, gs_o, gs_s, List.length_set, hS.1, pk_us, Nat.reduceLT, Nat.reduceLeDiff, Nat.reduceSub, Nat.reduceEqDiff, Nat.reduceAdd, Int32.reduceLT, Int32.reduceLE, Int32.reduceAdd, Int32.reduceSub, Int32.reduceToNatClampNeg, reduceIte, reduceCtorEq, Nat.lt_irrefl]
  · have p : s_pre S 30 = 0 := by
      rw [pre_i hn]
      have v1 : s_mt 30 = 1 := rfl
      have v2 : s_tk 30 = 1 := rfl
      unfold s_ent at en
      omega
    rw [if_pos p]
    have a1 : ¬ lg_cmp (lE (S 13 (S 14 0 - 1)) (S 12 (S 14 0 - 1))) 0 < 0 := fun q => e (s1.mp q)
    have a2 := s2.mpr e
    simp (decide := true) only [r77_74, r77_75, r77_77, r77_80, r77_81, r77_83, r77_86, r77_87, r77_88, r77_89, r77_92, r77_93, r77_96, r77_97 (s0 := 0) (Or.inl rfl), r77_97 (s0 := 1) (Or.inr rfl), r77_98, r77_99, r77_101, r77_104, r77_105, r77_106, r77_107, r77_110, r77_112, r77_113, r77_114, r77_117, r77_118, r77_121, r77_122 (s0 := 0) (Or.inl rfl), r77_122 (s0 := 1) (Or.inr rfl), r77_123, r77_124, r77_125, r77_128, r77_131, r77_132, r77_133, r77_134, r77_137, r77_138, r77_139, r77_142, r77_143, r77_146, r77_148, r77_149, r77_150, r77_153, r77_154, r77_157, r77_158 (s0 := 0) (Or.inl rfl), r77_158 (s0 := 1) (Or.inr rfl), tkM, n1, a1, a2, sh59 hS, sm_wp_some, sm_wp_none, sm_at, sm_get, sm_fld, sm_pfl, sm_cN, sm_ai, sm_al, sm_si, sm_slg, sm_aa, List.getElem?_cons_zero, List.getElem?_cons_succ, List.set_cons_zero, List.set_cons_succ, List.length_cons, List.length_nil, Option.toList_some, Option.toList_none, List.cons_append, List.nil_append, if_true, if_false, true_and, and_true, Option.some.injEq, gs_o, gs_s, List.length_set, hS.1, pk_us, Nat.reduceLT, Nat.reduceLeDiff, Nat.reduceSub, Nat.reduceEqDiff, Nat.reduceAdd, Int32.reduceLT, Int32.reduceLE, Int32.reduceAdd, Int32.reduceSub, Int32.reduceToNatClampNeg, reduceIte, reduceCtorEq, Nat.lt_irrefl]
theorem so_M {X : sm_X} {w : sm_W} {Q : Option Value → sm_W → Prop} {S : sm_S} {c : Nat} (hc : c < 31) (hS : Sh w) (ht : wn w 59 24 = nI (S 14 0)) (hK : SkM w S) (h8 : S 14 0 ≤ 8) (hE : ∀ i, i < S 14 0 → s_ent (S 13 i) (S 12 i)) (hn : ¬ S 14 0 < s_tk c) : sm_R X 77 0 [.ref 159, .int (nI c), sm_J, sm_J, sm_J, sm_J] [] w Q ↔ Q (some (.int (if s_pre S c = 0 then 1 else 0))) w := by
  have h : c = 0 ∨ c = 1 ∨ c = 2 ∨ c = 3 ∨ c = 4 ∨ c = 5 ∨ c = 6 ∨ c = 7 ∨ c = 8 ∨ c = 9 ∨ c = 10 ∨ c = 11 ∨ c = 12 ∨ c = 13 ∨ c = 14 ∨ c = 15 ∨ c = 16 ∨ c = 17 ∨ c = 18 ∨ c = 19 ∨ c = 20 ∨ c = 21 ∨ c = 22 ∨ c = 23 ∨ c = 24 ∨ c = 25 ∨ c = 26 ∨ c = 27 ∨ c = 28 ∨ c = 29 ∨ c = 30 := by omega
  rcases h with rfl | rfl | rfl | rfl | rfl | rfl | rfl | rfl | rfl | rfl | rfl | rfl | rfl | rfl | rfl | rfl | rfl | rfl | rfl | rfl | rfl | rfl | rfl | rfl | rfl | rfl | rfl | rfl | rfl | rfl | rfl
  · exact so_0 hS ht hK h8 hE hn
  · exact so_1 hS ht hK h8 hE hn
  · exact so_2 hS ht hK h8 hE hn
  · exact so_3 hS ht hK h8 hE hn
  · exact so_4 hS ht hK h8 hE hn
  · exact so_5 hS ht hK h8 hE hn
  · exact so_6 hS ht hK h8 hE hn
  · exact so_7 hS ht hK h8 hE hn
  · exact so_8 hS ht hK h8 hE hn
  · exact so_9 hS ht hK h8 hE hn
  · exact so_10 hS ht hK h8 hE hn
  · exact so_11 hS ht hK h8 hE hn
  · exact so_12 hS ht hK h8 hE hn
  · exact so_13 hS ht hK h8 hE hn
  · exact so_14 hS ht hK h8 hE hn
  · exact so_15 hS ht hK h8 hE hn
  · exact so_16 hS ht hK h8 hE hn
  · exact so_17 hS ht hK h8 hE hn
  · exact so_18 hS ht hK h8 hE hn
  · exact so_19 hS ht hK h8 hE hn
  · exact so_20 hS ht hK h8 hE hn
  · exact so_21 hS ht hK h8 hE hn
  · exact so_22 hS ht hK h8 hE hn
  · exact so_23 hS ht hK h8 hE hn
  · exact so_24 hS ht hK h8 hE hn
  · exact so_25 hS ht hK h8 hE hn
  · exact so_26 hS ht hK h8 hE hn
  · exact so_27 hS ht hK h8 hE hn
  · exact so_28 hS ht hK h8 hE hn
  · exact so_29 hS ht hK h8 hE hn
  · exact so_30 hS ht hK h8 hE hn
