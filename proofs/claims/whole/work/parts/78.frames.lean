/-! WHAT A PICTURE DOES NOT SEE -/
def s_up (S : sm_S) (k i v : Nat) : sm_S := fun k' => if k' = k then (fun i' => if i' = i then v else S k i') else S k'
theorem s_up_o {S : sm_S} {k i v k' i' : Nat} (h : k' ≠ k ∨ i' ≠ i) : s_up S k i v k' i' = S k' i' := by
  unfold s_up
  by_cases e : k' = k
  · subst e
    rw [if_pos rfl, if_neg (by omega)]
  · rw [if_neg e]
theorem s_up_s {S : sm_S} {k i v : Nat} : s_up S k i v k i = v := by
  unfold s_up
  rw [if_pos rfl, if_pos rfl]
theorem BkC.o {b : Nat} {w : sm_W} {S : sm_S} {k : Nat} {c : sm_C} (h : BkC b w S) (hk : k < b ∨ b + 13 < k) : BkC b (w.set k c) S := by
  obtain ⟨b1, b2, b3, b4, b5, b6⟩ := h
  refine ⟨fun a h => ?_, fun p hp j hj => ?_, fun a h => ?_, fun p hp i hi => ?_, ?_, fun j hj h8 => ?_⟩
  · rw [wi_o (by omega)]; exact b1 a h
  · rw [wi_o (by omega)]; exact b2 p hp j hj
  · rw [wi_o (by omega)]; exact b3 a h
  · rw [wi_o (by omega)]; exact b4 p hp i hi
  · rw [wn_o (by omega)]; exact b5
  · rw [wi_o (by omega)]; exact b6 j hj h8
theorem s_pb_b {p : Nat} (h : p < 5) : 29 ≤ s_pb p ∧ s_pb p ≤ 42 ∧ s_pb p ≠ 30 ∧ s_pb p ≠ 31 ∧ s_pb p ≠ 32 := by
  unfold s_pb
  split <;> omega
theorem PrC.o {w : sm_W} {S : sm_S} {k : Nat} {c : sm_C} (h : PrC w S) (hk : k < 29 ∨ 44 < k) : PrC (w.set k c) S := by
  intro p hp
  have := s_pb_b hp
  refine ⟨?_, fun j hj => ⟨?_, ?_⟩⟩
  · rw [wn_o (by omega)]; exact (h p hp).1
  · rw [wi_o (by omega)]; exact ((h p hp).2 j hj).1
  · rw [wi_o (by omega)]; exact ((h p hp).2 j hj).2
theorem GrC.o {w : sm_W} {S : sm_S} {k : Nat} {c : sm_C} (h : GrC w S) (h4 : S 10 1 ≤ 4) (hk : k < 45 ∨ 53 < k ∨ k = 46 ∨ k = 48 ∨ k = 50 ∨ k = 52) : GrC (w.set k c) S := by
  obtain ⟨g1, g2⟩ := h
  refine ⟨?_, fun t ht => ?_⟩
  · rw [wn_o (by omega)]; exact g1
  · have e : ∀ j, wn (w.set k c) (47 + 2 * t) j = wn w (47 + 2 * t) j := fun j => wn_o (by omega)
    simp only [e]
    exact g2 t ht
theorem ScC.o {w : sm_W} {S : sm_S} {k : Nat} {c : sm_C} (h : ScC w S) (hk : k < 48 ∨ 54 < k ∨ k = 49 ∨ k = 51 ∨ k = 53) : ScC (w.set k c) S := by
  intro t ht j hj
  rw [wi_o (by omega)]
  exact h t ht j hj
theorem RpC.o {w : sm_W} {S : sm_S} {k : Nat} {c : sm_C} (h : RpC w S) (h0 : k ≠ 0) (h1 : k ≠ 55) : RpC (w.set k c) S := by
  unfold RpC
  simp only [wn_o h0, wn_o h1]
  exact h
theorem PicC.o {w : sm_W} {S : sm_S} {k : Nat} {c : sm_C} (h : PicC w S) (h4 : S 10 1 ≤ 4) (hk : 58 < k) : PicC (w.set k c) S :=
  ⟨h.1.o (by omega), h.2.1.o (by omega), h.2.2.1.o h4 (by omega), h.2.2.2.1.o (by omega), h.2.2.2.2.o (by omega) (by omega)⟩
theorem BkM.o {w : sm_W} {S : sm_S} {k : Nat} {c : sm_C} (h : BkM w S) (h0 : k ≠ 59) (h1 : k ≠ 60) (h2 : k ≠ 71) : BkM (w.set k c) S := by
  unfold BkM
  simp only [wn_o h0, wl_o h1, wl_o h2]
  exact h
theorem PrM.o {w : sm_W} {S : sm_S} {k : Nat} {c : sm_C} (h : PrM w S) (h0 : k ≠ 62) (h1 : k ≠ 63) (h2 : k ≠ 64) : PrM (w.set k c) S := by
  unfold PrM
  simp only [wi_o h0, wi_o h1, wi_o h2]
  exact h
theorem GrM.o {w : sm_W} {S : sm_S} {k : Nat} {c : sm_C} (h : GrM w S) (h0 : k ≠ 59) (h1 : k < 65 ∨ 69 < k) : GrM (w.set k c) S := by
  unfold GrM
  have e : ∀ j, 65 ≤ j → j ≤ 69 → wi (w.set k c) j = wi w j := fun j _ _ => wi_o (by omega)
  simp only [wn_o h0, e 65 (by decide) (by decide), e 66 (by decide) (by decide), e 67 (by decide) (by decide), e 68 (by decide) (by decide), e 69 (by decide) (by decide)]
  exact h
theorem ScM.o {w : sm_W} {S : sm_S} {k : Nat} {c : sm_C} (h : ScM w S) (h0 : k ≠ 70) : ScM (w.set k c) S := by
  unfold ScM
  simp only [wl_o h0]
  exact h
theorem RpM.o {w : sm_W} {S : sm_S} {k : Nat} {c : sm_C} (h : RpM w S) (h0 : k ≠ 59) : RpM (w.set k c) S := by
  unfold RpM
  simp only [wn_o h0]
  exact h
theorem PicM.o {w : sm_W} {S : sm_S} {k : Nat} {c : sm_C} (h : PicM w S) (hk : k < 59) : PicM (w.set k c) S :=
  ⟨h.1.o (by omega) (by omega) (by omega), h.2.1.o (by omega) (by omega) (by omega), h.2.2.1.o (by omega) (by omega), h.2.2.2.1.o (by omega), h.2.2.2.2.o (by omega)⟩
theorem BkM.n {w w' : sm_W} {S : sm_S} (h : BkM w S) (e1 : wl w' 60 = wl w 60) (e2 : wl w' 71 = wl w 71) (e3 : wn w' 59 18 = wn w 59 18) : BkM w' S := by
  unfold BkM
  simp only [e1, e2, e3]
  exact h
theorem PrM.n {w w' : sm_W} {S : sm_S} (h : PrM w S) (e1 : wi w' 62 = wi w 62) (e2 : wi w' 63 = wi w 63) (e3 : wi w' 64 = wi w 64) : PrM w' S := by
  unfold PrM
  simp only [e1, e2, e3]
  exact h
theorem GrM.n {w w' : sm_W} {S : sm_S} (h : GrM w S) (e1 : wi w' 65 = wi w 65) (e2 : wi w' 66 = wi w 66) (e3 : wi w' 67 = wi w 67) (e4 : wi w' 68 = wi w 68) (e5 : wi w' 69 = wi w 69) (e6 : wn w' 59 5 = wn w 59 5) : GrM w' S := by
  unfold GrM
  simp only [e1, e2, e3, e4, e5, e6]
  exact h
theorem ScM.n {w w' : sm_W} {S : sm_S} (h : ScM w S) (e1 : wl w' 70 = wl w 70) : ScM w' S := by
  unfold ScM
  simp only [e1]
  exact h
theorem RpM.n {w w' : sm_W} {S : sm_S} (h : RpM w S) (e1 : wn w' 59 12 = wn w 59 12) (e2 : wn w' 59 13 = wn w 59 13) (e3 : wn w' 59 14 = wn w 59 14) (e4 : wn w' 59 15 = wn w 59 15) (e5 : wn w' 59 16 = wn w 59 16) (e6 : wn w' 59 17 = wn w 59 17) : RpM w' S := by
  unfold RpM
  simp only [e1, e2, e3, e4, e5, e6]
  exact h
