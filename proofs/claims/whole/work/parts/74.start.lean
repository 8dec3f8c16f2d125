theorem sm_ret_int {X : sm_X} {mi pc len : Nat} {ls st : List Value} {w : sm_W} {i : Instr} {x : Int32} (ha : sm_act X mi pc i len ls st w = some (.inr (.inl (some (.int x))))) : i = .ireturn ∧ len = 1 ∧ st = [.int x] := by
  rcases sm_act_inv ha with h1 | rfl | rfl | rfl | ⟨k, rfl⟩ | ⟨k, rfl⟩ | ⟨k, rfl⟩
  · obtain ⟨_, _, _, _, he, -⟩ := h1
    cases he
  · dsimp only [sm_act] at ha
    split at ha
    next hl =>
      subst hl
      split at ha
      next x ty hty =>
        split at ha
        next hn =>
          cases ha
          exact ⟨rfl, rfl, rfl⟩
        next => cases ha
      next => cases ha
    next => cases ha
  · dsimp only [sm_act] at ha
    repeat' (split at ha)
    all_goals cases ha
  · dsimp only [sm_act] at ha
    repeat' (split at ha)
    all_goals cases ha
  · exfalso
    dsimp only [sm_act] at ha
    split at ha
    next =>
      unfold sm_invs at ha
      split at ha
      next =>
        obtain ⟨_, _, _, _, he, -⟩ := sm_g_cpy ha
        cases he
      next =>
        split at ha
        next => exact sm_call_ret ha
        next => cases ha
    next => cases ha
  · exfalso
    dsimp only [sm_act] at ha
    split at ha
    next =>
      unfold sm_inv at ha
      repeat' (split at ha)
      all_goals first | (cases ha; done) | exact sm_call_ret ha
    next => cases ha
  · exfalso
    dsimp only [sm_act] at ha
    split at ha
    next =>
      unfold sm_ivs at ha
      repeat' (split at ha)
      all_goals first | (cases ha; done) | exact sm_call_ret ha
    next => cases ha
/-- the law's run in the small machine gives the law's walk -/
theorem sm_start {p : Program} {e : Env} {s : State} {m : MethodId} {below : List Frame} {meth : Method} {c : Code} (l : Launch) {b L : Nat} {xs : Nat → Int32} (C0 : lw_At p s m meth c b L xs)
    (hlaw : sm_R (L, xs) sm_NM 0 (sm_entry 4 [.ref 99]) [] [] (fun v w => v = some (.int 1) ∧ w.length ≤ 600000 ∧ sm_sl w ≤ 7302250)) : W p l e room_1 s m #[Value.ref b] below meth c s.heap [] 0 0 (lw_Z below #[Value.ref b] s) (entryFrame m ([Value.ref b] : List Value).toArray 4) := by
  obtain ⟨hx, hb, hr, hml, hown, hts, hX, hbl, hlocks, hgv⟩ := id C0
  obtain ⟨sa, dC, dI, dA, s99, hTF, hK⟩ := sm_begin hts hX hbl hgv
  obtain ⟨n, v, w', he, rfl, hc, hsl⟩ := hlaw
  have F : sm_Fr s.heap.size sa dC dI dA (L, xs) sm_NM p s m #[Value.ref b] meth c := ⟨hx, hb, hr, hml, hown, fun w h => hts w (List.mem_filter.mp h).1, hlocks, (fun h => by cases h), hK, hTF⟩
  have St : sm_St s.heap.size sa dC dI dA s 0 0 [] s.heap [] 0 0 := ⟨(fun k q h => by cases h), va_S.rf, rfl, rfl, rfl⟩
  have hl := lv_entry [Value.ref b] (n := 4) (Nat.le_of_ble_eq_true rfl)
  rw [lg_entry_eq]
  generalize (lg_sl [Value.ref b] ++ List.replicate (4 - (lg_sl [Value.ref b]).length) Slot.unset).toArray = lsA at hl ⊢
  have e9 : ([Value.ref 99] : List Value).map (sm_mp s.heap.size sa) = [Value.ref b] := by
    show [Value.ref (sm_ad s.heap.size sa 99)] = _
    rw [sm_ad_lo (by decide), s99]
  have hl2 : sm_L s.heap.size sa lsA 4 (sm_entry 4 [.ref 99]) := sm_L.entry (by rw [e9]; exact hl)
  refine sm_sound n sm_NM 0 (sm_entry 4 [.ref 99]) [] [] (some (.int 1)) w' he p e room_1 s m _ below meth c _ 0 0 s.heap [] 0 0 lsA F St hl2 ⟨by decide, by decide⟩ (by show _ ≤ 0 + 600000; omega) (by show _ ≤ 0 + 7302250; omega) ?_
  intro pc2 ls2 st2 i2 len2 lsA2 H2 locs2 cells2 slots2 hd2 ha2 St2
  obtain ⟨rfl, rfl, rfl⟩ := sm_ret_int ha2
  have c1 := St2.2.2.1
  have c2 := St2.2.2.2.1
  refine va_forget (fun q hq => St2.2.1.2.2 q hq) ?_
  refine W.widen (k := 600000) (n := 7302250) (by omega) (by omega) ?_
  exact lw_ret hx hb hr hlocks hd2
