section SMO
variable {X : sm_X} {mi pc : Nat} {ls st : List Value} {w : sm_W}
theorem sm_call_go {k : Nat} {as rest : List Value} {x : Nat × List Value × List Value × sm_W} (h : sm_call mi k as rest = some (.inl x)) : False := by
  unfold sm_call at h
  split at h <;> cases h
theorem sm_cats {B : Nat} {sa : Nat → Nat} (r : List Value) : ((r.map (sm_mp B sa)).map fun v => v.category).sum = (r.map fun v => v.category).sum := by
  rw [List.map_map]
  congr 1
  apply List.map_congr_left
  intro v _
  exact sm_mp_cat v
set_option maxHeartbeats 1000000 in
theorem sm_k_invokestatic {k : Nat} : sm_OK X mi pc ls st w (.invokestatic k) := by
  intro B sa dC dI dA p l e R s m args below meth c Q L0 S0 H locs cells slots lsA len F St hL hR hd pc' ls' st' w' ha hz1 hz2 kk
  obtain ⟨hx, hb, hr, hml, hown, hts, hlk, hin, hK, hTF⟩ := F
  dsimp only [sm_act] at ha
  split at ha
  next hq =>
    subst hq
    unfold sm_invs at ha
    split at ha
    next hcp =>
      unfold sm_cpy at ha
      split at ha
      next n dp b sp a r =>
        split at ha
        next => cases ha
        next hn =>
          split at ha
          next n0 f n1 g ha0 ha1 =>
            split at ha
            next hle =>
              cases ha
              simp only [not_or, Nat.not_lt] at hn
              obtain ⟨q0, q00, q1', q2', q3, q4, q5, q6⟩ := hn
              have q1 : ¬ a < 100 := Nat.not_lt.mpr q1'
              have q2 : ¬ b < 100 := Nat.not_lt.mpr q2'
              obtain ⟨c1, c2, c3, c4⟩ := st_cp hcp
              have hw : nativeFrameWords "java/lang/System" "arraycopy" 5 + 11 ≤ 18 := by decide
              rw [List.map_cons, List.map_cons, List.map_cons, List.map_cons, List.map_cons, show sm_mp B sa (.ref a) = .ref (B + (a - 100)) from congrArg Value.ref (sm_ad_hi q1), show sm_mp B sa (.ref b) = .ref (B + (b - 100)) from congrArg Value.ref (sm_ad_hi q2)]
              refine va_copyi (ty := .int) hx hb (by rw [hml]; exact hL.1.symm) hown (hts _ c1) (hts _ c2) (hts _ c3) (hts _ c4) hK St.1 (sm_ws_D w) St.2.1 (a - 100) (b - 100) 0 0 (sm_ws_get ha0) (sm_ws_get ha1) (sm_tys_get (t := 0) (by decide)) (sm_tys_get (t := 0) (by decide)) rfl q3 q4 q5 hle.1 hle.2 (fun _ _ => rfl) (by omega) ?_ hd (fun H1 locs1 hP _ hS => kk _ _ _ _ _ (St.put ha1 rfl hP hS) hL)
              rw [sm_cats]
              have := hR.2
              omega
            next => cases ha
          next => cases ha
      next => cases ha
    next =>
      split at ha
      next => exact (sm_call_go ha).elim
      next => cases ha
  next => cases ha
set_option maxHeartbeats 1000000 in
theorem sm_k_invokevirtual {k : Nat} : sm_OK X mi pc ls st w (.invokevirtual k) := by
  intro B sa dC dI dA p l e R s m args below meth c Q L0 S0 H locs cells slots lsA len F St hL hR hd pc' ls' st' w' ha hz1 hz2 kk
  obtain ⟨hx, hb, hr, hml, hown, hts, hlk, hin, hK, hTF⟩ := F
  dsimp only [sm_act] at ha
  split at ha
  next hq =>
    subst hq
    exfalso
    unfold sm_inv at ha
    split at ha
    next =>
      split at ha
      next =>
        split at ha
        next =>
          split at ha
          next => exact sm_call_go ha
          next => cases ha
        next =>
          split at ha
          next =>
            split at ha
            next => exact sm_call_go ha
            next => cases ha
          next => cases ha
      next => cases ha
    next => cases ha
  next => cases ha
set_option maxHeartbeats 1000000 in
theorem sm_k_invokespecial {k : Nat} : sm_OK X mi pc ls st w (.invokespecial k) := by
  intro B sa dC dI dA p l e R s m args below meth c Q L0 S0 H locs cells slots lsA len F St hL hR hd pc' ls' st' w' ha hz1 hz2 kk
  obtain ⟨hx, hb, hr, hml, hown, hts, hlk, hin, hK, hTF⟩ := F
  dsimp only [sm_act] at ha
  split at ha
  next hq =>
    subst hq
    unfold sm_ivs at ha
    split at ha
    next hob =>
      split at ha
      next a r =>
        split at ha
        next => cases ha
        next q6 =>
          split at ha
          next => cases ha
          next q0 =>
            split at ha
            next => cases ha
            next q1 =>
              cases ha
              obtain ⟨c1, c2, c3⟩ := st_ob hob
              rw [List.map_cons, show sm_mp B sa (.ref a) = .ref (B + (a - 100)) from congrArg Value.ref (sm_ad_hi q1)]
              refine W.objInit hx hb hown (hts _ c1) (hts _ c2) (hts _ c3) rfl (by rw [hml]; exact hL.1) rfl hd (by omega) ?_ (kk _ _ _ _ _ St hL)
              show 2 * 0 + _ + 12 ≤ R.locals
              rw [sm_cats]
              have := hR.2
              omega
      next => cases ha
    next =>
      split at ha
      next =>
        split at ha
        next => exact (sm_call_go ha).elim
        next => cases ha
      next => cases ha
  next => cases ha
end SMO
