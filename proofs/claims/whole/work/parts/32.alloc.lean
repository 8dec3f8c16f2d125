theorem sm_mp_def {B : Nat} {sa : Nat → Nat} (ty : FieldType) : sm_mp B sa (defaultValue ty) = defaultValue ty := by cases ty <;> rfl
section SMN
variable {X : sm_X} {mi pc : Nat} {ls st : List Value} {w : sm_W}
/-- one cell more -/
theorem sm_St.more {B : Nat} {sa : Nat → Nat} {dC : Nat → ClassId} {dI : Nat → Nat → Nat} {dA : Nat → ClassId} {s : State} {L0 S0 : Nat} {H H1 : Heap} {locs : List Loc} {cells slots q : Nat} {c1 : sm_C} (St : sm_St B sa dC dI dA s L0 S0 w H locs cells slots) (hP : va_P (dC, dI) sm_cls (sm_ws B sa dA w ++ [(q, sm_ce B sa dA c1)]) H1) (hD : va_D (sm_Ab B) (sm_ws B sa dA w ++ [(q, sm_ce B sa dA c1)])) (hS : va_S (sm_Ab B) s.heap H1 locs) (hz : H1.size ≤ s.heap.size + (cells + 1)) : q = B + w.length ∧ sm_St B sa dC dI dA s L0 S0 (w ++ [c1]) H1 locs (cells + 1) (slots + sm_csz c1) := by
  obtain ⟨-, -, h3, h4, h5⟩ := St
  have hq := sm_fresh hP hD (by omega)
  subst hq
  refine ⟨rfl, by rw [sm_ws_app]; exact hP, hS, by rw [List.length_append]; show w.length + 1 = _; omega, by rw [sm_sl_app]; omega, h5⟩
theorem sm_mp_new {B : Nat} {sa : Nat → Nat} (n : Nat) : sm_mp B sa (.ref (100 + n)) = .ref (B + n) := by
  have h : sm_ad B sa (100 + n) = B + (100 + n - 100) := sm_ad_hi (by omega)
  rw [Nat.add_sub_cancel_left] at h
  exact congrArg Value.ref h
set_option maxHeartbeats 1000000 in
theorem sm_k_new {k : Nat} : sm_OK X mi pc ls st w (.new k) := by
  intro B sa dC dI dA p l e R s m args below meth c Q L0 S0 H locs cells slots lsA len F St hL hR hd pc' ls' st' w' ha hz1 hz2 kk
  obtain ⟨hx, hb, hr, hml, hown, hts, hlk, hin, hK, hTF⟩ := F
  dsimp only [sm_act] at ha
  split at ha
  next hq =>
    subst hq
    split at ha
    next ci hn =>
      cases ha
      obtain ⟨n1, n2, n3, n4⟩ := st_new hn
      have g3 := St.2.2.1
      have g4 := St.2.2.2.1
      have g5 := St.2.2.2.2
      rw [List.length_append] at hz1
      rw [sm_sl_app] at hz2
      have z1 : w.length + 1 ≤ L0 + R.cells := hz1
      have z2 : sm_sl w + sm_nf ci ≤ S0 + R.slots := hz2
      refine va_new (ci := ci) (fs := (sm_def ci).map (sm_mp B sa)) (C := sm_cn ci) (T := sm_T ci) (N := sm_nf ci) hx hb hts (st_lay n1) (sm_fty ci) (st_ty n1) hown (hts _ n2) (hts _ n3) (hts _ n4) hK St.1 (sm_ws_D w) St.2.1 (fun q hq => by show B ≤ q; omega) (st_cls n1) (fun j hj => ?_) (by omega) (by omega) hd (fun q H1 hP hD hS => ?_)
      · unfold vp_V
        rw [List.getD_eq_getElem?_getD, List.getElem?_map, st_def n1 j hj]
        exact (sm_mp_def _).symm
      · refine sm_W_size (fun hsz => ?_)
        obtain ⟨rfl, St2⟩ := St.more (c1 := .inr (ci, sm_def ci)) hP hD hS hsz
        have hk2 := kk _ _ _ _ _ St2 hL
        rw [List.map_cons, sm_mp_new] at hk2
        exact hk2
    next => cases ha
  next => cases ha
set_option maxHeartbeats 1000000 in
theorem sm_k_newarray_int : sm_OK X mi pc ls st w (.newarray .int) := by
  intro B sa dC dI dA p l e R s m args below meth c Q L0 S0 H locs cells slots lsA len F St hL hR hd pc' ls' st' w' ha hz1 hz2 kk
  obtain ⟨hx, hb, hr, hml, hown, hts, hlk, hin, hK, hTF⟩ := F
  dsimp only [sm_act] at ha
  split at ha
  next hq =>
    subst hq
    unfold sm_newa at ha
    split at ha
    next n r =>
      split at ha
      next => cases ha
      next hn =>
        cases ha
        have g3 := St.2.2.1
        have g4 := St.2.2.2.1
        have g5 := St.2.2.2.2
        rw [List.length_append] at hz1
        rw [sm_sl_app] at hz2
        have z1 : w.length + 1 ≤ L0 + R.cells := hz1
        have z2 : sm_sl w + n.toNatClampNeg ≤ S0 + R.slots := hz2
        have hn0 : ¬ n < 0 := fun q => hn (Or.inl q)
        have hn1 : n.toNatClampNeg ≤ 65536 := Nat.not_lt.mp (fun q => hn (Or.inr q))
        refine va_newa (atype := .int) (a0 := (n.toNatClampNeg, .inl (fun _ => 0))) (ty := .int) hx hb (hts _ st_ac0) rfl hK St.1 (sm_ws_D w) St.2.1 (fun q hq => by show B ≤ q; omega) (fun cA => rfl) hn0 rfl (by show n.toNatClampNeg * 4 ≤ 536870912; omega) (by omega) (by omega) hd (fun q cA H1 hK1 hP hD hS => ?_)
        have hcA : cA = dA 0 := sm_sameA (hK1.2 (sm_tys dA).length (cA, .int) (by rw [List.getElem?_append_right (Nat.le_refl _), Nat.sub_self]; rfl)).2 (hK.2 0 _ (sm_tys_get (t := 0) (by decide))).2
        subst hcA
        refine sm_W_size (fun hsz => ?_)
        obtain ⟨rfl, St2⟩ := St.more (c1 := .inl (0, n.toNatClampNeg, .inl (fun _ => 0))) hP hD hS hsz
        have hk2 := kk _ _ _ _ _ St2 hL
        rw [List.map_cons, sm_mp_new] at hk2
        exact hk2
    next => cases ha
  next => cases ha
set_option maxHeartbeats 1000000 in
theorem sm_k_newarray_long : sm_OK X mi pc ls st w (.newarray .long) := by
  intro B sa dC dI dA p l e R s m args below meth c Q L0 S0 H locs cells slots lsA len F St hL hR hd pc' ls' st' w' ha hz1 hz2 kk
  obtain ⟨hx, hb, hr, hml, hown, hts, hlk, hin, hK, hTF⟩ := F
  dsimp only [sm_act] at ha
  split at ha
  next hq =>
    subst hq
    unfold sm_newa at ha
    split at ha
    next n r =>
      split at ha
      next => cases ha
      next hn =>
        cases ha
        have g3 := St.2.2.1
        have g4 := St.2.2.2.1
        have g5 := St.2.2.2.2
        rw [List.length_append] at hz1
        rw [sm_sl_app] at hz2
        have z1 : w.length + 1 ≤ L0 + R.cells := hz1
        have z2 : sm_sl w + n.toNatClampNeg ≤ S0 + R.slots := hz2
        have hn0 : ¬ n < 0 := fun q => hn (Or.inl q)
        have hn1 : n.toNatClampNeg ≤ 65536 := Nat.not_lt.mp (fun q => hn (Or.inr q))
        refine va_newa (atype := .long) (a0 := (n.toNatClampNeg, .inr (.inl (fun _ => 0)))) (ty := .long) hx hb (hts _ st_ac1) rfl hK St.1 (sm_ws_D w) St.2.1 (fun q hq => by show B ≤ q; omega) (fun cA => rfl) hn0 rfl (by show n.toNatClampNeg * 8 ≤ 536870912; omega) (by omega) (by omega) hd (fun q cA H1 hK1 hP hD hS => ?_)
        have hcA : cA = dA 1 := sm_sameA (hK1.2 (sm_tys dA).length (cA, .long) (by rw [List.getElem?_append_right (Nat.le_refl _), Nat.sub_self]; rfl)).2 (hK.2 1 _ (sm_tys_get (t := 1) (by decide))).2
        subst hcA
        refine sm_W_size (fun hsz => ?_)
        obtain ⟨rfl, St2⟩ := St.more (c1 := .inl (1, n.toNatClampNeg, .inr (.inl (fun _ => 0)))) hP hD hS hsz
        have hk2 := kk _ _ _ _ _ St2 hL
        rw [List.map_cons, sm_mp_new] at hk2
        exact hk2
    next => cases ha
  next => cases ha
set_option maxHeartbeats 1000000 in
theorem sm_k_anewarray {k : Nat} : sm_OK X mi pc ls st w (.anewarray k) := by
  intro B sa dC dI dA p l e R s m args below meth c Q L0 S0 H locs cells slots lsA len F St hL hR hd pc' ls' st' w' ha hz1 hz2 kk
  obtain ⟨hx, hb, hr, hml, hown, hts, hlk, hin, hK, hTF⟩ := F
  dsimp only [sm_act] at ha
  split at ha
  next hq =>
    subst hq
    split at ha
    next t hT =>
      unfold sm_newa at ha
      split at ha
      next n r =>
        split at ha
        next => cases ha
        next hn =>
          cases ha
          obtain ⟨t1, C, t2, t3, t4⟩ := st_aT hT
          have g3 := St.2.2.1
          have g4 := St.2.2.2.1
          have g5 := St.2.2.2.2
          rw [List.length_append] at hz1
          rw [sm_sl_app] at hz2
          have z1 : w.length + 1 ≤ L0 + R.cells := hz1
          have z2 : sm_sl w + n.toNatClampNeg ≤ S0 + R.slots := hz2
          have hn0 : ¬ n < 0 := fun q => hn (Or.inl q)
          have hn1 : n.toNatClampNeg ≤ 65536 := Nat.not_lt.mp (fun q => hn (Or.inr q))
          refine va_newq hx hb hown (hts _ t3) (hTF.2.2.2.2.2.2.2 C t4) hK St.1 (sm_ws_D w) St.2.1 (fun q hq => by show B ≤ q; omega) hn0 rfl (by omega) (by omega) (by omega) hd (fun q cA H1 hK1 hP hD hS => ?_)
          have hcA : cA = dA t := sm_sameA (hK1.2 (sm_tys dA).length (cA, .object C) (by rw [List.getElem?_append_right (Nat.le_refl _), Nat.sub_self]; rfl)).2 (by have := (hK.2 t _ (sm_tys_get t1)).2; rw [t2] at this; exact this)
          subst hcA
          refine sm_W_size (fun hsz => ?_)
          obtain ⟨rfl, St2⟩ := St.more (c1 := .inl (t, n.toNatClampNeg, .inr (.inr (.inr (.inr (fun _ => none)))))) hP hD hS hsz
          have hk2 := kk _ _ _ _ _ St2 hL
          rw [List.map_cons, sm_mp_new] at hk2
          exact hk2
      next => cases ha
    next => cases ha
  next => cases ha
end SMN
