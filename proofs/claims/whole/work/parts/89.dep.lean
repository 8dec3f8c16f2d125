/-! WHAT DEPLOY does to the pure state -/
def s_dep (S : sm_S) (p : Nat) : sm_S := fun r => if r = 0 then (fun i => if 6 + p * 4 ≤ i ∧ i < 6 + p * 4 + 4 then 0 else S 0 i) else if r = 2 then (fun i => if p * 32 ≤ i ∧ i < p * 32 + 32 then S 2 (128 + (i - p * 32)) else S 2 i) else if r = 11 then (fun i => if p * 32 ≤ i ∧ i < p * 32 + 32 then S 11 (128 + (i - p * 32)) else S 11 i) else if r = 3 then (fun i => if i = 4 then 0 else if i = p then S 3 4 else S 3 i) else S r
theorem s_d0 {S : sm_S} {p i : Nat} : s_dep S p 0 i = if 6 + p * 4 ≤ i ∧ i < 6 + p * 4 + 4 then 0 else S 0 i := rfl
theorem s_d2 {S : sm_S} {p i : Nat} : s_dep S p 2 i = if p * 32 ≤ i ∧ i < p * 32 + 32 then S 2 (128 + (i - p * 32)) else S 2 i := rfl
theorem s_d11 {S : sm_S} {p i : Nat} : s_dep S p 11 i = if p * 32 ≤ i ∧ i < p * 32 + 32 then S 11 (128 + (i - p * 32)) else S 11 i := rfl
theorem s_d3 {S : sm_S} {p i : Nat} : s_dep S p 3 i = if i = 4 then 0 else if i = p then S 3 4 else S 3 i := rfl
theorem inv_dep {n : Nat} {w w' : sm_W} {S : sm_S} {p : Nat} (hp : p < 4) (hS : Sh w') (hC : PicC w S) (hM : PicM w S) (hB : Bd n S)
  (cc : ∀ j, j ≠ 4 + p → j ≠ 29 → j < 33 + 3 * p ∨ 35 + 3 * p < j → j ≠ 60 → j < 62 ∨ 64 < j → w'[j]? = w[j]?)
  (g : ∀ k, k < 4 → wi w' (4 + p) k = 0) (d1 : wn w' 29 2 = 0) (d2 : wn w' (33 + 3 * p) 2 = nI (S 3 4)) (d3 : ∀ k, k < S 3 4 → wi w' (34 + 3 * p) k = wi w 30 k ∧ wi w' (35 + 3 * p) k = wi w 31 k)
  (m1 : ∀ k, k < 32 → wi w' 62 (p * 32 + k) = wi w 62 (128 + k) ∧ wi w' 63 (p * 32 + k) = wi w 63 (128 + k)) (m2 : ∀ k, k < p * 32 ∨ p * 32 + 32 ≤ k → wi w' 62 k = wi w 62 k ∧ wi w' 63 k = wi w 63 k)
  (m3 : ∀ k, k < 4 → wl w' 60 (6 + p * 4 + k) = 0) (m4 : ∀ k, k < 6 + p * 4 ∨ 6 + p * 4 + 4 ≤ k → wl w' 60 k = wl w 60 k) (m5 : wi w' 64 = upd (upd (wi w 64) p (nI (S 3 4))) 4 0) : Inv (n + 1) w' := by
  obtain ⟨⟨qb1, qb2, qb3⟩, qp, ⟨q5, q6⟩, q7, q8, q9, q10⟩ := hB
  obtain ⟨⟨b1, b2, b3, b4, b5, b6⟩, hP, hG, hc, hR⟩ := hC
  obtain ⟨⟨k1, k2, k3⟩, hQ, hG2, hc2, hR2⟩ := hM
  have h32 := (qp 4 (by decide)).1
  have hP4 := hP 4 (by decide)
  have hQ4 := hQ 4 (by decide)
  refine ⟨hS, s_dep S p, ⟨⟨fun a ha => ?_, fun q hq k hk => ?_, fun a ha => ?_, fun q hq i hi => ?_, ?_, fun j hj h8 => ?_⟩, fun q hq => ?_, hG.c q5 (cc _ (by omega) (by omega) (by omega) (by omega) (by omega)) (fun t _ => cc _ (by omega) (by omega) (by omega) (by omega) (by omega)), hc.c (fun t _ => cc _ (by omega) (by omega) (by omega) (by omega) (by omega)), hR.c (cc _ (by omega) (by omega) (by omega) (by omega) (by omega)) (cc _ (by omega) (by omega) (by omega) (by omega) (by omega))⟩,
    ⟨⟨fun i hi => ?_, ?_, ?_⟩, fun q hq => ?_, hG2.n (wi_c (cc _ (by omega) (by omega) (by omega) (by omega) (by omega))) (wi_c (cc _ (by omega) (by omega) (by omega) (by omega) (by omega))) (wi_c (cc _ (by omega) (by omega) (by omega) (by omega) (by omega))) (wi_c (cc _ (by omega) (by omega) (by omega) (by omega) (by omega))) (wi_c (cc _ (by omega) (by omega) (by omega) (by omega) (by omega))) (wn_c (cc _ (by omega) (by omega) (by omega) (by omega) (by omega))), hc2.n (wl_c (cc _ (by omega) (by omega) (by omega) (by omega) (by omega))), ?_⟩, ⟨fun i hi => ?_, fun i h1 h2 => ?_, qb3⟩, fun q hq => ?_, ⟨q5, q6⟩, q7, ?_, ?_, q10⟩
  · rw [s_d0, if_neg (by omega), wi_c (cc _ (by omega) (by omega) (by omega) (by omega) (by omega))]
    exact b1 a ha
  · rw [s_d0]
    by_cases c : q = p
    · subst c
      rw [if_pos (by omega), show 1 + 3 + q = 4 + q by omega, g k hk]
      rfl
    · rw [if_neg (by omega), wi_c (cc _ (by omega) (by omega) (by omega) (by omega) (by omega))]
      exact b2 q hq k hk
  · rw [wi_c (cc _ (by omega) (by omega) (by omega) (by omega) (by omega))]
    unfold s_ob
    rw [s_d0, s_d0, s_d0, s_d0, if_neg (by omega), if_neg (by omega), if_neg (by omega), if_neg (by omega)]
    exact b3 a ha
  · rw [s_d0, if_neg (by omega), wi_c (cc _ (by omega) (by omega) (by omega) (by omega) (by omega))]
    exact b4 q hq i hi
  · rw [wn_c (cc _ (by omega) (by omega) (by omega) (by omega) (by omega))]
    exact b5
  · rw [wi_c (cc _ (by omega) (by omega) (by omega) (by omega) (by omega))]
    exact b6 j hj h8
  · rw [s_d3]
    by_cases c4 : q = 4
    · subst c4
      rw [if_pos rfl]
      exact ⟨d1, fun k hk => absurd hk (Nat.not_lt_zero k)⟩
    · have hb : s_pb q = 33 + 3 * q := if_neg c4
      rw [if_neg c4, hb]
      by_cases c : q = p
      · subst c
        rw [if_pos rfl]
        refine ⟨d2, fun k hk => ?_⟩
        rw [s_d2, s_d11, if_pos (by omega), if_pos (by omega), show 33 + 3 * q + 1 = 34 + 3 * q by omega, show 33 + 3 * q + 2 = 35 + 3 * q by omega, (d3 k hk).1, (d3 k hk).2, show 128 + (q * 32 + k - q * 32) = 4 * 32 + k by omega]
        exact hP4.2 k hk
      · rw [if_neg c]
        have h3 := (qp q hq).1
        have hq2 := hP q hq
        rw [hb] at hq2
        refine ⟨?_, fun k hk => ?_⟩
        · rw [wn_c (cc _ (by omega) (by omega) (by omega) (by omega) (by omega))]
          exact hq2.1
        · rw [s_d2, s_d11, if_neg (by omega), if_neg (by omega), wi_c (cc _ (by omega) (by omega) (by omega) (by omega) (by omega)), wi_c (cc _ (by omega) (by omega) (by omega) (by omega) (by omega))]
          exact hq2.2 k hk
  · rw [s_d0]
    by_cases c : 6 + p * 4 ≤ i ∧ i < 6 + p * 4 + 4
    · rw [if_pos c]
      have := m3 (i - (6 + p * 4)) (by omega)
      rw [show 6 + p * 4 + (i - (6 + p * 4)) = i by omega] at this
      rw [this]
      rfl
    · rw [if_neg c, m4 i (by omega)]
      exact k1 i hi
  · rw [wl_c (cc 71 (by omega) (by omega) (by omega) (by omega) (by omega))]
    exact k2
  · rw [wn_c (cc _ (by omega) (by omega) (by omega) (by omega) (by omega))]
    exact k3
  · have h3 := (qp q hq).1
    rw [s_d3, m5]
    by_cases c4 : q = 4
    · subst c4
      rw [if_pos rfl, pk_us]
      exact ⟨rfl, fun k hk => absurd hk (Nat.not_lt_zero k)⟩
    · rw [if_neg c4, pk_un c4]
      by_cases c : q = p
      · subst c
        rw [if_pos rfl, pk_us]
        refine ⟨rfl, fun k hk => ?_⟩
        rw [s_d2, s_d11, if_pos (by omega), if_pos (by omega), (m1 k (by omega)).1, (m1 k (by omega)).2, show 128 + (q * 32 + k - q * 32) = 4 * 32 + k by omega, show 128 + k = 4 * 32 + k by omega]
        exact hQ4.2 k hk
      · rw [if_neg c, pk_un c]
        refine ⟨(hQ q hq).1, fun k hk => ?_⟩
        rw [s_d2, s_d11, if_neg (by omega), if_neg (by omega), (m2 _ (by omega)).1, (m2 _ (by omega)).2]
        exact (hQ q hq).2 k hk
  · exact hR2.n (wn_c (cc _ (by omega) (by omega) (by omega) (by omega) (by omega))) (wn_c (cc _ (by omega) (by omega) (by omega) (by omega) (by omega))) (wn_c (cc _ (by omega) (by omega) (by omega) (by omega) (by omega))) (wn_c (cc _ (by omega) (by omega) (by omega) (by omega) (by omega))) (wn_c (cc _ (by omega) (by omega) (by omega) (by omega) (by omega))) (wn_c (cc _ (by omega) (by omega) (by omega) (by omega) (by omega)))
  · rw [s_d0]
    split
    · decide
    · exact qb1 i hi
  · rw [s_d0]
    split
    · decide
    · exact qb2 i h1 h2
  · have h3 := (qp q hq).1
    rw [s_d3]
    by_cases c4 : q = 4
    · rw [if_pos c4]
      exact ⟨by decide, fun k hk => absurd hk (Nat.not_lt_zero k)⟩
    · rw [if_neg c4]
      by_cases c : q = p
      · subst c
        rw [if_pos rfl]
        refine ⟨h32, fun k hk => ?_⟩
        rw [s_d2, s_d11, if_pos (by omega), if_pos (by omega), show 128 + (q * 32 + k - q * 32) = 4 * 32 + k by omega]
        exact (qp 4 (by decide)).2 k hk
      · rw [if_neg c]
        refine ⟨h3, fun k hk => ?_⟩
        rw [s_d2, s_d11, if_neg (by omega), if_neg (by omega)]
        exact (qp q hq).2 k hk
  · show S 10 0 ≤ _
    omega
  · show S 10 2 + S 10 3 ≤ _
    omega
