/-! ONE INSTRUCTION MORE in the draft -/
def s_emit (S : sm_S) (c q : Nat) : sm_S := s_up (s_up (s_up S 2 (128 + S 3 4) c) 11 (128 + S 3 4) q) 3 4 (S 3 4 + 1)
theorem s_em2 {S : sm_S} {c q i : Nat} : s_emit S c q 2 i = if i = 128 + S 3 4 then c else S 2 i := rfl
theorem s_em11 {S : sm_S} {c q i : Nat} : s_emit S c q 11 i = if i = 128 + S 3 4 then q else S 11 i := rfl
theorem s_em3 {S : sm_S} {c q i : Nat} : s_emit S c q 3 i = if i = 4 then S 3 4 + 1 else S 3 i := rfl
theorem nI_any (x : Int32) : ∃ q : Nat, q < 2 ^ 32 ∧ x = nI q := by
  refine ⟨x.toBitVec.toNat, x.toBitVec.isLt, ?_⟩
  apply Int32.toBitVec_inj.mp
  show x.toBitVec = BitVec.ofNat 32 x.toBitVec.toNat
  exact (BitVec.ofNat_toNat 32 x.toBitVec).symm ▸ (BitVec.setWidth_eq x.toBitVec).symm
theorem inv_emit {n : Nat} {w w' : sm_W} {S : sm_S} {c q : Nat} (hS : Sh w') (hC : PicC w S) (hM : PicM w S) (hB : Bd n S) (h32 : S 3 4 < 32) (hc : c < 31) (hf : s_fit c q)
  (e : ∀ j, j < 29 ∨ 31 < j → j < 62 ∨ 64 < j → w'[j]? = w[j]?) (e1 : wn w' 29 2 = nI (S 3 4 + 1)) (e2 : wi w' 30 = upd (wi w 30) (S 3 4) (nI c)) (e3 : wi w' 31 = upd (wi w 31) (S 3 4) (nI q)) (e4 : wi w' 64 = upd (wi w 64) 4 (nI (S 3 4 + 1))) (e5 : wi w' 62 = upd (wi w 62) (128 + S 3 4) (nI c)) (e6 : wi w' 63 = upd (wi w 63) (128 + S 3 4) (nI q)) : Inv (n + 1) w' := by
  obtain ⟨qb, qp, ⟨q5, q6⟩, q7, q8, q9, q10⟩ := hB
  have hP := hC.2.1
  have hP4 := hP 4 (by decide)
  have hQ := hM.2.1
  refine ⟨hS, s_emit S c q, ⟨hC.1.c (fun j _ _ => e j (by omega) (by omega)), ?_, hC.2.2.1.c q5 (e _ (by omega) (by omega)) (fun t _ => e _ (by omega) (by omega)), hC.2.2.2.1.c (fun t _ => e _ (by omega) (by omega)), hC.2.2.2.2.c (e _ (by omega) (by omega)) (e _ (by omega) (by omega))⟩,
    ⟨hM.1.n (wl_c (e _ (by omega) (by omega))) (wl_c (e _ (by omega) (by omega))) (wn_c (e _ (by omega) (by omega))), ?_, hM.2.2.1.n (wi_c (e _ (by omega) (by omega))) (wi_c (e _ (by omega) (by omega))) (wi_c (e _ (by omega) (by omega))) (wi_c (e _ (by omega) (by omega))) (wi_c (e _ (by omega) (by omega))) (wn_c (e _ (by omega) (by omega))), hM.2.2.2.1.n (wl_c (e _ (by omega) (by omega))), hM.2.2.2.2.n (wn_c (e _ (by omega) (by omega))) (wn_c (e _ (by omega) (by omega))) (wn_c (e _ (by omega) (by omega))) (wn_c (e _ (by omega) (by omega))) (wn_c (e _ (by omega) (by omega))) (wn_c (e _ (by omega) (by omega)))⟩, qb, ?_, ⟨q5, q6⟩, q7, ?_, ?_, q10⟩
  · intro p hp
    rw [s_em3]
    by_cases c4 : p = 4
    · subst c4
      rw [if_pos rfl]
      refine ⟨e1, fun k hk => ?_⟩
      rw [s_em2, s_em11]
      show wi w' 30 k = _ ∧ wi w' 31 k = _
      rw [e2, e3]
      by_cases ck : k = S 3 4
      · subst ck
        rw [if_pos (by omega), if_pos (by omega), pk_us, pk_us]
        exact ⟨rfl, rfl⟩
      · rw [if_neg (by omega), if_neg (by omega), pk_un ck, pk_un ck]
        exact hP4.2 k (by omega)
    · rw [if_neg c4]
      have hb : s_pb p = 33 + 3 * p := if_neg c4
      have h3 := (qp p hp).1
      refine ⟨?_, fun k hk => ?_⟩
      · rw [hb, wn_c (e _ (by omega) (by omega)), ← hb]
        exact (hP p hp).1
      · rw [s_em2, s_em11, if_neg (by omega), if_neg (by omega), hb, wi_c (e _ (by omega) (by omega)), wi_c (e _ (by omega) (by omega)), ← hb]
        exact (hP p hp).2 k hk
  · intro p hp
    have h3 := (qp p hp).1
    rw [s_em3, e4, e5, e6]
    by_cases c4 : p = 4
    · subst c4
      rw [if_pos rfl, pk_us]
      refine ⟨rfl, fun k hk => ?_⟩
      rw [s_em2, s_em11]
      by_cases ck : k = S 3 4
      · subst ck
        rw [if_pos (by omega), if_pos (by omega), show 4 * 32 + S 3 4 = 128 + S 3 4 by omega, pk_us, pk_us]
        exact ⟨rfl, rfl⟩
      · rw [if_neg (by omega), if_neg (by omega), pk_un (by omega), pk_un (by omega)]
        exact (hQ 4 hp).2 k (by omega)
    · rw [if_neg c4, pk_un c4]
      refine ⟨(hQ p hp).1, fun k hk => ?_⟩
      rw [s_em2, s_em11, if_neg (by omega), if_neg (by omega), pk_un (by omega), pk_un (by omega)]
      exact (hQ p hp).2 k hk
  · intro p hp
    have h3 := (qp p hp).1
    rw [s_em3]
    by_cases c4 : p = 4
    · subst c4
      rw [if_pos rfl]
      refine ⟨by omega, fun k hk => ?_⟩
      rw [s_em2, s_em11]
      by_cases ck : k = S 3 4
      · subst ck
        rw [if_pos (by omega), if_pos (by omega)]
        exact ⟨hc, hf⟩
      · rw [if_neg (by omega), if_neg (by omega)]
        exact (qp 4 hp).2 k (by omega)
    · rw [if_neg c4]
      refine ⟨h3, fun k hk => ?_⟩
      rw [s_em2, s_em11, if_neg (by omega), if_neg (by omega)]
      exact (qp p hp).2 k hk
  · show S 10 0 ≤ _
    omega
  · show S 10 2 + S 10 3 ≤ _
    omega
