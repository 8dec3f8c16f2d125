section SMG
variable {X : sm_X} {mi pc : Nat} {ls st : List Value} {w : sm_W}
theorem sm_outer (c : ClassId) (N h0 : Nat) : ∀ i : Nat, Jvm.Free.Multi.outerC c N h0 i = arrV c N (fun j => va_rf (if j < i then some (h0 + 1 + j) else none))
  | 0 => by
    show ({ cls := c, slots := Array.replicate N .null, vm := .none } : Cell) = _
    rw [arrV_new]
    refine congrArg (arrV c N) (funext fun j => ?_)
    simp [va_rf]
  | i + 1 => by
    show (Jvm.Free.Multi.outerC c N h0 i).setSlot i (.ref (h0 + 1 + i)) = _
    rw [sm_outer c N h0 i, arrV_store]
    refine congrArg (arrV c N) (funext fun j => ?_)
    by_cases e : j = i
    · subst e
      simp [updV, va_rf]
    · by_cases h : j < i
      · simp [updV, e, h, Nat.lt_succ_of_lt h]
      · simp [updV, e, h, show ¬ j < i + 1 by omega]
theorem sm_ws_app2 {B : Nat} {sa : Nat → Nat} {dA : Nat → ClassId} (w v : sm_W) : sm_ws B sa dA (w ++ v) = sm_ws B sa dA w ++ v.mapIdx fun k c => (B + (w.length + k), sm_ce B sa dA c) := by
  unfold sm_ws
  rw [List.mapIdx_append]
  refine congrArg (fun z => List.mapIdx (fun k c => (B + k, sm_ce B sa dA c)) w ++ z) (congrArg (fun f => List.mapIdx f v) (funext fun k => funext fun c => ?_))
  show (B + (k + w.length), _) = _
  rw [Nat.add_comm k w.length]
theorem sm_sl_app2 (w v : sm_W) : sm_sl (w ++ v) = sm_sl w + sm_sl v := by
  unfold sm_sl
  rw [List.map_append, List.sum_append]
set_option maxHeartbeats 1000000 in
theorem sm_k_mna {k : Nat} : sm_OK X mi pc ls st w (.multianewarray k 2) := by
  intro B sa dC dI dA p l e R s m args below meth c Q L0 S0 H locs cells slots lsA len F St hL hR hd pc' ls' st' w' ha hz1 hz2 kk
  obtain ⟨hx, hb, hr, hml, hown, hts, hlk, hin, hK, hTF⟩ := F
  dsimp only [sm_act] at ha
  rw [if_pos rfl] at ha
  split at ha
  next hq =>
    subst hq
    unfold sm_mna at ha
    split at ha
    next k2 n r =>
      split at ha
      next => cases ha
      next hn =>
        cases ha
        have q1 : sm_mT (sm_own mi) k = true := by
          cases h : sm_mT (sm_own mi) k with
          | false => exact absurd (Or.inl h) hn
          | true => rfl
        have q2 : ¬ n < 0 := fun q => hn (Or.inr (Or.inl q))
        have q3 : n.toNatClampNeg ≤ 65536 := Nat.not_lt.mp (fun q => hn (Or.inr (Or.inr (Or.inl q))))
        have q4 : ¬ k2 < 0 := fun q => hn (Or.inr (Or.inr (Or.inr (Or.inl q))))
        have q5 : k2.toNatClampNeg ≤ 65536 := Nat.not_lt.mp (fun q => hn (Or.inr (Or.inr (Or.inr (Or.inr q)))))
        obtain ⟨g1, g2, g3, g4, g5⟩ := St
        generalize hN : n.toNatClampNeg = N at *
        generalize hK2 : k2.toNatClampNeg = K2 at *
        have zr : ∀ i : Nat, sm_sl (List.replicate i (.inl (0, K2, .inl (fun _ => 0)))) = i * K2 := by
          intro i
          unfold sm_sl
          rw [List.map_replicate, List.sum_replicate_nat]
          rfl
        have z1 : w.length + (N + 1) ≤ L0 + R.cells := by
          have h := hz1
          rw [List.length_append, List.length_cons, List.length_replicate] at h
          exact h
        have z2 : sm_sl w + (N + N * K2) ≤ S0 + R.slots := by
          have h := hz2
          rw [sm_sl_app2] at h
          have h3 : sm_sl (Sum.inl (2, N, Sum.inr (Sum.inr (Sum.inr (Sum.inr (fun i => if i < N then some (100 + w.length + 1 + i) else none))))) :: List.replicate N (.inl (0, K2, .inl (fun _ => 0)))) = N + N * K2 := by
            rw [← zr N]
            rfl
          rw [h3] at h
          exact h
        intro T hT Y
        obtain ⟨vm1, cA, comp, -, fA, fC, hO, -, Y', step⟩ := Y.multianewarray2F (ty := .int) hx hown (hts _ (st_mT q1)) (sm_AOA.use hTF.2.2.2.2.2.2.1) (hts _ st_ac0) (g := F0 m pc lsA ((Value.int k2 :: .int n :: r).map (sm_mp B sa))) rfl (by rw [hb]; exact hd) rfl q2 q4 (by rw [hN]; omega) (by rw [hK2]; show K2 * 4 ≤ _; omega) (by rw [hK2]; omega) rfl rfl (by rw [hN]; omega) (by rw [hN, hK2]; omega)
        rw [hN, hK2] at Y' step
        generalize hF : Jvm.Free.Multi.fill (T.setVm vm1) cA comp N K2 (defaultValue .int) N = F at Y' step
        have hTh : (T.setVm vm1).heap = H := hT
        obtain ⟨f1, f2, -, -⟩ := Jvm.Free.Multi.fill_facts (T.setVm vm1) cA comp N K2 (defaultValue .int) N
        rw [hF, hTh] at f1 f2
        have hold : ∀ x : Nat, x < H.size → F.heap[x]? = H[x]? := fun x hx9 => by
          have := Jvm.Free.Multi.fill_old (T.setVm vm1) cA comp N K2 (defaultValue .int) (a := x) (by rw [hTh]; exact hx9) N
          rw [hF, hTh] at this
          exact this
        have hrow : ∀ j : Nat, j < N → F.heap[H.size + 1 + j]? = some (Jvm.Free.Multi.innerC comp K2 (defaultValue .int)) := fun j hj => by
          have := Jvm.Free.Multi.fill_inner (T.setVm vm1) cA comp N K2 (defaultValue .int) N j hj
          rw [hF, hTh] at this
          exact this
        have hsz : H.size ≤ B + w.length := by
          have := Y.heapSize
          rw [hT] at this
          omega
        have hsz2 : H.size = B + w.length := by
          rcases Nat.eq_zero_or_pos w.length with h0 | h0
          · have := g2.1
            omega
          · have h9 := (g1 (w.length - 1) _ (sm_ws_get (List.getElem?_eq_getElem (by omega)))).lt
            have h8 : B + (w.length - 1) < H.size := h9
            omega
        have eA : cA = dA 2 := by
          have h1 := (hK.2 2 _ (sm_tys_get (t := 2) (by decide))).2
          exact Option.some.inj (fA.symm.trans h1)
        have eC : comp = dA 0 := by
          have h1 := (hK.2 0 _ (sm_tys_get (t := 0) (by decide))).2
          exact Option.some.inj (fC.symm.trans h1)
        subst eA
        subst eC
        have hSt : sm_St B sa dC dI dA s L0 S0 (w ++ Sum.inl (2, N, Sum.inr (Sum.inr (Sum.inr (Sum.inr (fun i => if i < N then some (100 + w.length + 1 + i) else none))))) :: List.replicate N (.inl (0, K2, .inl (fun _ => 0)))) F.heap locs (cells + 1 + N) (slots + N + N * K2) := by
          refine ⟨?_, ⟨?_, fun q h1 h2 => ?_, g2.2.2⟩, ?_, ?_, g5⟩
          · rw [sm_ws_app2]
            refine va_P.app (g1.kept (fun k9 x hx9 => hold x.1 ((g1 k9 x hx9).lt))) (fun k9 x hx9 => ?_)
            rw [List.getElem?_mapIdx] at hx9
            cases k9 with
            | zero =>
              cases hx9
              show F.heap[B + (w.length + 0)]? = some (vp_cell _ _)
              rw [show B + (w.length + 0) = H.size by omega, f2, sm_outer]
              refine congrArg some ?_
              show arrV (dA 2) N (fun j => va_rf (if j < N then some (H.size + 1 + j) else none)) = arrV (dA 2) N (fun j => va_rf ((if j < N then some (100 + w.length + 1 + j) else none).map (sm_ad B sa)))
              refine congrArg (arrV (dA 2) N) (funext fun j => ?_)
              by_cases hj : j < N
              · rw [if_pos hj]
                show va_rf (some _) = va_rf ((if j < N then some (100 + w.length + 1 + j) else none).map (sm_ad B sa))
                rw [if_pos hj]
                show va_rf (some _) = va_rf (some (sm_ad B sa (100 + w.length + 1 + j)))
                rw [sm_ad_hi (by omega)]
                exact congrArg (fun z => va_rf (some z)) (by omega)
              · rw [if_neg hj]
                show va_rf none = va_rf ((if j < N then some (100 + w.length + 1 + j) else none).map (sm_ad B sa))
                rw [if_neg hj]
                rfl
            | succ k9 =>
              rw [List.getElem?_cons_succ] at hx9
              by_cases hk9 : k9 < N
              · rw [List.getElem?_replicate, if_pos hk9] at hx9
                cases hx9
                show F.heap[B + (w.length + (k9 + 1))]? = some (vp_cell _ _)
                rw [show B + (w.length + (k9 + 1)) = H.size + 1 + k9 by omega, hrow k9 hk9]
                refine congrArg some ?_
                show ({ cls := _, slots := Array.replicate K2 _, vm := .none } : Cell) = _
                rw [arrV_new]
                rfl
              · rw [List.getElem?_replicate, if_neg hk9] at hx9
                cases hx9
          · rw [f1]
            have := g2.1
            omega
          · rw [hold q (Nat.lt_of_lt_of_le h1 g2.1)]
            exact g2.2.1 q h1 h2
          · rw [List.length_append, List.length_cons, List.length_replicate]
            omega
          · rw [sm_sl_app2]
            have h3 : sm_sl (Sum.inl (2, N, Sum.inr (Sum.inr (Sum.inr (Sum.inr (fun i => if i < N then some (100 + w.length + 1 + i) else none))))) :: List.replicate N (.inl (0, K2, .inl (fun _ => 0)))) = N + N * K2 := by
              rw [← zr N]
              rfl
            rw [h3]
            omega
        obtain ⟨t, a1, b1⟩ := kk lsA F.heap locs (cells + 1 + N) (slots + N + N * K2) hSt hL F rfl Y'
        refine ⟨t, step t ?_, b1⟩
        rw [List.map_cons, sm_mp_new] at a1
        rw [hT, hsz2]
        exact a1
    next => cases ha
  next => cases ha
end SMG
