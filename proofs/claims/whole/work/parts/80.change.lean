/-! CHANGES of the pure state, in both pictures -/
theorem lc_v {a b : Nat} (ha : a < 2 ^ 63) (hb : b < 2 ^ 63) : lg_cmp (lN a) (lN b) = if b < a then 1 else if a = b then 0 else -1 := by
  unfold lg_cmp
  simp only [gt_iff_lt, pk_lLT hb ha, pk_lEQ ha hb]
theorem lc_le {a b : Nat} (ha : a < 2 ^ 63) (hb : b < 2 ^ 63) : lg_cmp (lN a) (lN b) ≤ 0 ↔ a ≤ b := by
  rw [lc_v ha hb]
  split
  · exact ⟨fun h => absurd h (by decide), fun h => by omega⟩
  · split
    · exact ⟨fun _ => by omega, fun _ => by decide⟩
    · exact ⟨fun _ => by omega, fun _ => by decide⟩
theorem lc_lt {a b : Nat} (ha : a < 2 ^ 63) (hb : b < 2 ^ 63) : lg_cmp (lN a) (lN b) < 0 ↔ a < b := by
  rw [lc_v ha hb]
  split
  · exact ⟨fun h => absurd h (by decide), fun h => by omega⟩
  · split
    · exact ⟨fun h => absurd h (by decide), fun h => by omega⟩
    · exact ⟨fun _ => by omega, fun _ => by decide⟩
theorem lc_eq {a b : Nat} (ha : a < 2 ^ 63) (hb : b < 2 ^ 63) : lg_cmp (lN a) (lN b) = 0 ↔ a = b := by
  rw [lc_v ha hb]
  split
  · exact ⟨fun h => absurd h (by decide), fun h => by omega⟩
  · split
    · exact ⟨fun _ => by omega, fun _ => by decide⟩
    · exact ⟨fun h => absurd h (by decide), fun h => by omega⟩
theorem lc_z {a : Nat} (ha : a < 2 ^ 63) : lg_cmp (lN a) 0 = 0 ↔ a = 0 := lc_eq (b := 0) ha (by decide)
theorem BkC.bal {b : Nat} {w : sm_W} {S : sm_S} {j v : Nat} {x : Int32} (h : BkC b w S) (hl : b + 1 < w.length) (hj : j < 6) (hx : x = nI v) : BkC b (w.set (b + 1) (.inl (0, 6, .inl (upd (wi w (b + 1)) j x)))) (s_up S 0 j v) := by
  obtain ⟨b1, b2, b3, b4, b5, b6⟩ := h
  refine ⟨fun a h => ?_, fun p hp k hk => ?_, fun a h => ?_, fun p hp i hi => ?_, ?_, fun i hi h8 => ?_⟩
  · rw [wi_s hl]
    by_cases e : a = j
    · subst e
      rw [pk_us, s_up_s, hx]
    · rw [pk_un e, s_up_o (Or.inr e)]
      exact b1 a h
  · rw [wi_o (by omega), s_up_o (Or.inr (by omega))]; exact b2 p hp k hk
  · rw [wi_o (by omega)]
    unfold s_ob
    rw [s_up_o (Or.inr (by omega)), s_up_o (Or.inr (by omega)), s_up_o (Or.inr (by omega)), s_up_o (Or.inr (by omega))]
    exact b3 a h
  · rw [wi_o (by omega), s_up_o (Or.inr (by omega))]; exact b4 p hp i hi
  · rw [wn_o (by omega)]; exact b5
  · rw [wi_o (by omega)]; exact b6 i hi h8
theorem BkM.now {w : sm_W} {S : sm_S} {j v : Nat} {x : Int64} (h : BkM w S) (hl : w.length = 74) (hx : x = lN v) : BkM (w.set 60 (.inl (1, 94, .inr (.inl (vp_updL (wl w 60) j x))))) (s_up S 0 j v) := by
  obtain ⟨m1, m2, m3⟩ := h
  refine ⟨fun a h => ?_, fun k hk hk2 => ?_, ?_⟩
  · rw [wl60_s hl]
    by_cases e : a = j
    · subst e
      rw [pk_uLs, s_up_s, hx]
    · rw [pk_uLn e, s_up_o (Or.inr e)]
      exact m1 a h
  · rw [wl_o (by decide)]; exact m2 k hk hk2
  · rw [wn_o (by decide)]; exact m3
theorem BdB.up {S : sm_S} {j v : Nat} (h : BdB S) (hv : v < 2 ^ 31) (ho : 22 ≤ j → j < 46 → v ≤ 1) : BdB (s_up S 0 j v) := by
  obtain ⟨q1, q2, q3⟩ := h
  refine ⟨fun i hi => ?_, fun i h1 h2 => ?_, q3⟩
  · by_cases e : i = j
    · subst e
      rw [s_up_s]
      exact hv
    · rw [s_up_o (Or.inr e)]
      exact q1 i hi
  · by_cases e : i = j
    · subst e
      rw [s_up_s]
      exact ho h1 h2
    · rw [s_up_o (Or.inr e)]
      exact q2 i h1 h2
