/-! PICTURES see only their cells -/
theorem wi_c {w w' : sm_W} {k : Nat} (h : w'[k]? = w[k]?) : wi w' k = wi w k := by
  unfold wi
  rw [h]
theorem wl_c {w w' : sm_W} {k : Nat} (h : w'[k]? = w[k]?) : wl w' k = wl w k := by
  unfold wl
  rw [h]
theorem wn_c {w w' : sm_W} {k j : Nat} (h : w'[k]? = w[k]?) : wn w' k j = wn w k j := by
  unfold wn wv
  rw [h]
theorem BkC.c {b : Nat} {w w' : sm_W} {S : sm_S} (h : BkC b w S) (e : ∀ k, b ≤ k → k ≤ b + 13 → w'[k]? = w[k]?) : BkC b w' S := by
  obtain ⟨b1, b2, b3, b4, b5, b6⟩ := h
  refine ⟨fun a h => ?_, fun p hp j hj => ?_, fun a h => ?_, fun p hp i hi => ?_, ?_, fun j hj h8 => ?_⟩
  · rw [wi_c (e _ (by omega) (by omega))]; exact b1 a h
  · rw [wi_c (e _ (by omega) (by omega))]; exact b2 p hp j hj
  · rw [wi_c (e _ (by omega) (by omega))]; exact b3 a h
  · rw [wi_c (e _ (by omega) (by omega))]; exact b4 p hp i hi
  · rw [wn_c (e _ (by omega) (by omega))]; exact b5
  · rw [wi_c (e _ (by omega) (by omega))]; exact b6 j hj h8
theorem PrC.c {w w' : sm_W} {S : sm_S} (h : PrC w S) (e : ∀ k, 29 ≤ k → k ≤ 44 → w'[k]? = w[k]?) : PrC w' S := by
  intro p hp
  have := s_pb_b hp
  refine ⟨?_, fun j hj => ⟨?_, ?_⟩⟩
  · rw [wn_c (e _ (by omega) (by omega))]; exact (h p hp).1
  · rw [wi_c (e _ (by omega) (by omega))]; exact ((h p hp).2 j hj).1
  · rw [wi_c (e _ (by omega) (by omega))]; exact ((h p hp).2 j hj).2
theorem GrC.c {w w' : sm_W} {S : sm_S} (h : GrC w S) (h4 : S 10 1 ≤ 4) (e0 : w'[45]? = w[45]?) (e : ∀ t, t < S 10 1 → w'[47 + 2 * t]? = w[47 + 2 * t]?) : GrC w' S := by
  obtain ⟨g1, g2⟩ := h
  refine ⟨?_, fun t ht => ?_⟩
  · rw [wn_c e0]; exact g1
  · have e : ∀ j, wn w' (47 + 2 * t) j = wn w (47 + 2 * t) j := fun j => wn_c (e t ht)
    simp only [e]
    exact g2 t ht
theorem ScC.c {w w' : sm_W} {S : sm_S} (h : ScC w S) (e : ∀ t, t < 4 → w'[48 + 2 * t]? = w[48 + 2 * t]?) : ScC w' S := by
  intro t ht j hj
  rw [wi_c (e t ht)]
  exact h t ht j hj
theorem RpC.c {w w' : sm_W} {S : sm_S} (h : RpC w S) (e0 : w'[0]? = w[0]?) (e1 : w'[55]? = w[55]?) : RpC w' S := by
  unfold RpC
  simp only [wn_c e0, wn_c e1]
  exact h
theorem PicC.c {w w' : sm_W} {S : sm_S} (h : PicC w S) (h4 : S 10 1 ≤ 4) (e : ∀ k, k ≤ 58 → w'[k]? = w[k]?) : PicC w' S :=
  ⟨h.1.c (fun k _ _ => e k (by omega)), h.2.1.c (fun k _ _ => e k (by omega)), h.2.2.1.c h4 (e _ (by decide)) (fun t _ => e _ (by omega)), h.2.2.2.1.c (fun t _ => e _ (by omega)), h.2.2.2.2.c (e _ (by decide)) (e _ (by decide))⟩
theorem PicM.c {w w' : sm_W} {S : sm_S} (h : PicM w S) (e : ∀ k, 58 < k → w'[k]? = w[k]?) : PicM w' S :=
  ⟨h.1.n (wl_c (e _ (by decide))) (wl_c (e _ (by decide))) (wn_c (e _ (by decide))), h.2.1.n (wi_c (e _ (by decide))) (wi_c (e _ (by decide))) (wi_c (e _ (by decide))), h.2.2.1.n (wi_c (e _ (by decide))) (wi_c (e _ (by decide))) (wi_c (e _ (by decide))) (wi_c (e _ (by decide))) (wi_c (e _ (by decide))) (wn_c (e _ (by decide))), h.2.2.2.1.n (wl_c (e _ (by decide))), h.2.2.2.2.n (wn_c (e _ (by decide))) (wn_c (e _ (by decide))) (wn_c (e _ (by decide))) (wn_c (e _ (by decide))) (wn_c (e _ (by decide))) (wn_c (e _ (by decide)))⟩
/-- one transaction more in the group -/
def s_add (S : sm_S) (k f o x y : Nat) : sm_S := s_up (s_up (s_up (s_up (s_up (s_up S 4 (S 10 1) k) 5 (S 10 1) f) 6 (S 10 1) o) 7 (S 10 1) x) 8 (S 10 1) y) 10 1 (S 10 1 + 1)
theorem s_add4 {S : sm_S} {k f o x y t : Nat} : s_add S k f o x y 4 t = if t = S 10 1 then k else S 4 t := rfl
theorem s_add5 {S : sm_S} {k f o x y t : Nat} : s_add S k f o x y 5 t = if t = S 10 1 then f else S 5 t := rfl
theorem s_add6 {S : sm_S} {k f o x y t : Nat} : s_add S k f o x y 6 t = if t = S 10 1 then o else S 6 t := rfl
theorem s_add7 {S : sm_S} {k f o x y t : Nat} : s_add S k f o x y 7 t = if t = S 10 1 then x else S 7 t := rfl
theorem s_add8 {S : sm_S} {k f o x y t : Nat} : s_add S k f o x y 8 t = if t = S 10 1 then y else S 8 t := rfl
theorem s_addn {S : sm_S} {k f o x y : Nat} : s_add S k f o x y 10 1 = S 10 1 + 1 := rfl
theorem GrC.add {w w' : sm_W} {S : sm_S} {k f o x y : Nat} (h : GrC w S) (e0 : wn w' 45 1 = nI (S 10 1 + 1)) (e : ∀ t, t < S 10 1 → w'[47 + 2 * t]? = w[47 + 2 * t]?) (hn : (k = 3 → wn w' (47 + 2 * S 10 1) 0 = 1 ∧ wn w' (47 + 2 * S 10 1) 2 = nI o ∧ wn w' (47 + 2 * S 10 1) 3 = nI x) ∧
  (k ≠ 3 → wn w' (47 + 2 * S 10 1) 0 = 0 ∧ wn w' (47 + 2 * S 10 1) 4 = nI o ∧ wn w' (47 + 2 * S 10 1) 5 = nI k ∧ wn w' (47 + 2 * S 10 1) 6 = nI x ∧ wn w' (47 + 2 * S 10 1) 7 = nI y) ∧ wn w' (47 + 2 * S 10 1) 1 = nI f) : GrC w' (s_add S k f o x y) := by
  obtain ⟨g1, g2⟩ := h
  refine ⟨e0, fun t ht => ?_⟩
  rw [s_addn] at ht
  rw [s_add4, s_add5, s_add6, s_add7, s_add8]
  by_cases c : t = S 10 1
  · subst c
    simp only [if_true]
    exact hn
  · simp only [c, if_false]
    have e2 : ∀ j, wn w' (47 + 2 * t) j = wn w (47 + 2 * t) j := fun j => wn_c (e t (by omega))
    simp only [e2]
    exact g2 t (by omega)
theorem GrM.add {w w' : sm_W} {S : sm_S} {k f o x y : Nat} (h : GrM w S) (e0 : wn w' 59 5 = nI (S 10 1 + 1)) (e1 : wi w' 65 = upd (wi w 65) (S 10 1) (if k = 3 then -1 else nI k)) (e2 : wi w' 66 = upd (wi w 66) (S 10 1) (nI f)) (e3 : wi w' 67 = upd (wi w 67) (S 10 1) (nI o)) (e4 : wi w' 68 = upd (wi w 68) (S 10 1) (nI x)) (e5 : wi w' 69 = upd (wi w 69) (S 10 1) (nI y)) : GrM w' (s_add S k f o x y) := by
  obtain ⟨g1, g2⟩ := h
  refine ⟨e0, fun t ht => ?_⟩
  rw [s_addn] at ht
  rw [s_add4, s_add5, s_add6, s_add7, s_add8, e1, e2, e3, e4, e5]
  by_cases c : t = S 10 1
  · subst c
    simp only [if_true, pk_us, true_and]
  · simp only [c, if_false, pk_un c]
    exact g2 t (by omega)
theorem inv_add {n : Nat} {w w' : sm_W} {S : sm_S} {k f o x y : Nat} (hS : Sh w') (hC : PicC w S) (hM : PicM w S) (hB : Bd n S) (h4 : S 10 1 < 4) (hb : k ≤ 3 ∧ f < 6 ∧ (k = 3 → o < 6 ∧ y = 0) ∧ (k ≠ 3 → o < 4) ∧ x < 2 ^ 31 ∧ y < 2 ^ 31)
  (e : ∀ j, j ≠ 45 → j ≠ 47 + 2 * S 10 1 → j ≠ 59 → j < 65 ∨ 69 < j → w'[j]? = w[j]?) (hg : GrC w' (s_add S k f o x y)) (hg2 : GrM w' (s_add S k f o x y))
  (e1 : wn w' 59 12 = wn w 59 12) (e2 : wn w' 59 13 = wn w 59 13) (e3 : wn w' 59 14 = wn w 59 14) (e4 : wn w' 59 15 = wn w 59 15) (e5 : wn w' 59 16 = wn w 59 16) (e6 : wn w' 59 17 = wn w 59 17) (e7 : wn w' 59 18 = wn w 59 18) : Inv (n + 1) w' := by
  obtain ⟨qb, qp, ⟨q5, q6⟩, q7, q8, q9, q10⟩ := hB
  refine ⟨hS, s_add S k f o x y, ⟨hC.1.c (fun j _ _ => e j (by omega) (by omega) (by omega) (by omega)), hC.2.1.c (fun j _ _ => e j (by omega) (by omega) (by omega) (by omega)), hg, hC.2.2.2.1.c (fun t _ => e _ (by omega) (by omega) (by omega) (by omega)), hC.2.2.2.2.c (e _ (by omega) (by omega) (by omega) (by omega)) (e _ (by omega) (by omega) (by omega) (by omega))⟩,
    ⟨hM.1.n (wl_c (e _ (by omega) (by omega) (by omega) (by omega))) (wl_c (e _ (by omega) (by omega) (by omega) (by omega))) e7, hM.2.1.n (wi_c (e _ (by omega) (by omega) (by omega) (by omega))) (wi_c (e _ (by omega) (by omega) (by omega) (by omega))) (wi_c (e _ (by omega) (by omega) (by omega) (by omega))), hg2, hM.2.2.2.1.n (wl_c (e _ (by omega) (by omega) (by omega) (by omega))), hM.2.2.2.2.n e1 e2 e3 e4 e5 e6⟩, qb, qp, ⟨?_, fun t ht => ?_⟩, q7, ?_, ?_, q10⟩
  · rw [s_addn]; omega
  · rw [s_addn] at ht
    rw [s_add4, s_add5, s_add6, s_add7, s_add8]
    by_cases c : t = S 10 1
    · simp only [c, if_true]
      exact hb
    · simp only [c, if_false]
      exact q6 t (by omega)
  · show S 10 0 ≤ _
    omega
  · show S 10 2 + S 10 3 ≤ _
    omega
