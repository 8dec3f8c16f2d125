section SMM
variable {X : sm_X} {mi pc : Nat} {ls st : List Value} {w : sm_W}
theorem sm_ad_hi {B : Nat} {sa : Nat → Nat} {a : Nat} (h : ¬ a < 100) : sm_ad B sa a = B + (a - 100) := if_neg h
theorem sm_ad_lo {B : Nat} {sa : Nat → Nat} {a : Nat} (h : a < 100) : sm_ad B sa a = sa a := if_pos h
theorem sm_in_vp {i : Int32} {n : Nat} (h : sm_in i n = true) : vp_in i n := by
  unfold sm_in at h
  exact (of_decide_eq_true h : ¬ (i < 0 ∨ n ≤ i.toNatClampNeg))
/-- one cell is written -/
theorem sm_St.put {B : Nat} {sa : Nat → Nat} {dC : Nat → ClassId} {dI : Nat → Nat → Nat} {dA : Nat → ClassId} {s : State} {L0 S0 : Nat} {H H1 : Heap} {locs locs1 : List Loc} {cells slots k : Nat} {c0 c1 : sm_C} (St : sm_St B sa dC dI dA s L0 S0 w H locs cells slots) (h0 : w[k]? = some c0) (hz : sm_csz c1 = sm_csz c0) (hP : va_P (dC, dI) sm_cls ((sm_ws B sa dA w).set k (B + k, sm_ce B sa dA c1)) H1) (hS : va_S (sm_Ab B) s.heap H1 locs1) : sm_St B sa dC dI dA s L0 S0 (w.set k c1) H1 locs1 cells slots := by
  obtain ⟨-, -, h3, h4, h5⟩ := St
  rw [sm_ws_set] at hP
  exact ⟨hP, hS, by rw [List.length_set]; exact h3, by rw [sm_sl_set h0 hz]; exact h4, h5⟩
theorem sm_ci_lt {B : Nat} {sa : Nat → Nat} {dC : Nat → ClassId} {dI : Nat → Nat → Nat} {dA : Nat → ClassId} {s : State} {L0 S0 : Nat} {H : Heap} {locs : List Loc} {cells slots k ci : Nat} {fs : List Value} (St : sm_St B sa dC dI dA s L0 S0 w H locs cells slots) (h : w[k]? = some (.inr (ci, fs))) : ci < sm_NC := by
  obtain ⟨r, h1, -⟩ := St.1 k _ (sm_ws_get h)
  have h2 := (List.getElem?_eq_some_iff.mp h1).1
  rw [st_ncl] at h2
  exact h2
theorem sm_mp_nar {B : Nat} {sa : Nat → Nat} {ty : FieldType} {v : Value} (h : narrow ty v = v) : narrow ty (sm_mp B sa v) = sm_mp B sa v := by
  cases v <;> first | exact h | (cases ty <;> rfl)
theorem sm_mp_fit {B : Nat} {sa : Nat → Nat} {ty : FieldType} {v : Value} (h : fits ty v = true) : fits ty (sm_mp B sa v) = true := by
  cases v <;> first | exact h | (cases ty <;> first | exact h | (simp [fits] at h; done) | rfl)
theorem sm_upM (B : Nat) (sa : Nat → Nat) (f : Nat → Option Nat) (k b : Nat) : va_up (fun j => (f j).map (sm_ad B sa)) k (some (sm_ad B sa b)) = fun j => (va_up f k (some b) j).map (sm_ad B sa) := by
  funext j
  by_cases h : j = k <;> simp [va_up, h]
set_option maxHeartbeats 1000000 in
theorem sm_k_iaload : sm_OK X mi pc ls st w (.iaload) := by
  intro B sa dC dI dA p l e R s m args below meth c Q L0 S0 H locs cells slots lsA len F St hL hR hd pc' ls' st' w' ha hz1 hz2 kk
  obtain ⟨hx, hb, hr, hml, hown, hts, hlk, hin, hK, hTF⟩ := F
  dsimp only [sm_act] at ha
  split at ha
  next hq =>
    subst hq
    unfold sm_aldi at ha
    split at ha
    next i a r =>
      split at ha
      next n f hg =>
        split at ha
        next hin2 =>
          cases ha
          have hi := sm_in_vp hin2
          unfold sm_get at hg
          split at hg
          next h =>
            rw [List.map_cons, List.map_cons, show sm_mp B sa (.ref a) = .ref (sa a) from congrArg Value.ref (sm_ad_lo h)]
            exact va_ti hx hb (hTF.1 a _ _ _ hg) St.2.1 hi rfl hd (kk _ _ _ _ _ St hL)
          next h =>
            rw [List.map_cons, List.map_cons, show sm_mp B sa (.ref a) = .ref (B + (a - 100)) from congrArg Value.ref (sm_ad_hi h)]
            exact va_iald hx hb hK St.1 (a - 100) 0 (sm_ws_get hg) (sm_tys_get (t := 0) (by decide)) hi hd (kk _ _ _ _ _ St hL)
        next => cases ha
      next => cases ha
    next => cases ha
  next => cases ha
set_option maxHeartbeats 1000000 in
theorem sm_k_laload : sm_OK X mi pc ls st w (.laload) := by
  intro B sa dC dI dA p l e R s m args below meth c Q L0 S0 H locs cells slots lsA len F St hL hR hd pc' ls' st' w' ha hz1 hz2 kk
  obtain ⟨hx, hb, hr, hml, hown, hts, hlk, hin, hK, hTF⟩ := F
  dsimp only [sm_act] at ha
  split at ha
  next hq =>
    subst hq
    unfold sm_aldl at ha
    split at ha
    next i a r =>
      split at ha
      next => cases ha
      next h =>
        split at ha
        next n f hg =>
          split at ha
          next hin2 =>
            cases ha
            have hi := sm_in_vp hin2
            rw [List.map_cons, List.map_cons, show sm_mp B sa (.ref a) = .ref (B + (a - 100)) from congrArg Value.ref (sm_ad_hi h)]
            exact va_lald hx hb hK St.1 (a - 100) 1 (sm_ws_get hg) (sm_tys_get (t := 1) (by decide)) hi hd (kk _ _ _ _ _ St hL)
          next => cases ha
        next => cases ha
    next => cases ha
  next => cases ha
set_option maxHeartbeats 1000000 in
theorem sm_k_aaload : sm_OK X mi pc ls st w (.aaload) := by
  intro B sa dC dI dA p l e R s m args below meth c Q L0 S0 H locs cells slots lsA len F St hL hR hd pc' ls' st' w' ha hz1 hz2 kk
  obtain ⟨hx, hb, hr, hml, hown, hts, hlk, hin, hK, hTF⟩ := F
  dsimp only [sm_act] at ha
  split at ha
  next hq =>
    subst hq
    unfold sm_alda at ha
    split at ha
    next i a r =>
      split at ha
      next t n f hg =>
        split at ha
        next hin2 =>
          split at ha
          next b hf =>
            cases ha
            have hi := sm_in_vp hin2.1
            have hlt : i.toNatClampNeg < n := Nat.not_le.mp fun q => hi (Or.inr q)
            unfold sm_get at hg
            split at hg
            next h =>
              rw [List.map_cons, List.map_cons, show sm_mp B sa (.ref a) = .ref (sa a) from congrArg Value.ref (sm_ad_lo h)]
              obtain ⟨cell, h1, h2, h3, h4, h5, h6, h7⟩ := hTF.1 a _ _ _ hg
              refine W.aald (v := .ref (sm_ad B sa b)) hx hb (by rw [St.2.1.2.1 _ (Array.getElem?_eq_some_iff.mp h1).1 h7]; exact h1) h2 (st_ref hin2.2.1 hin2.2.2.1) h3 ?_ ?_ rfl rfl hd (kk _ _ _ _ _ St hL)
              · intro q
                rcases q with q | q
                · exact hi (Or.inl q)
                · omega
              · rw [h6 _ hlt]
                show some (va_rf ((f i.toNatClampNeg).map (sm_ad B sa))) = _
                rw [hf]
                rfl
            next h =>
              rw [List.map_cons, List.map_cons, show sm_mp B sa (.ref a) = .ref (B + (a - 100)) from congrArg Value.ref (sm_ad_hi h)]
              have htA : t < sm_NA := hin2.2.2.2.resolve_left h
              refine W.aald (v := .ref (sm_ad B sa b)) hx hb (St.1 _ _ (sm_ws_get hg)) ((hK.2 t _ (sm_tys_get htA)).1 n (fun j => va_rf ((f j).map (sm_ad B sa)))) (st_ref hin2.2.1 hin2.2.2.1) (fun q => by cases q) (by show ¬ (i < 0 ∨ (arrV _ _ _).slots.size ≤ _); rw [arrV_size]; exact hi) ?_ rfl rfl hd (kk _ _ _ _ _ St hL)
              show (arrV _ _ _).slots[_]? = _
              rw [arrV_read _ _ hlt]
              show some (va_rf ((f i.toNatClampNeg).map (sm_ad B sa))) = _
              rw [hf]
              rfl
          next => cases ha
        next => cases ha
      next => cases ha
    next => cases ha
  next => cases ha
set_option maxHeartbeats 1000000 in
theorem sm_k_iastore : sm_OK X mi pc ls st w (.iastore) := by
  intro B sa dC dI dA p l e R s m args below meth c Q L0 S0 H locs cells slots lsA len F St hL hR hd pc' ls' st' w' ha hz1 hz2 kk
  obtain ⟨hx, hb, hr, hml, hown, hts, hlk, hin, hK, hTF⟩ := F
  dsimp only [sm_act] at ha
  split at ha
  next hq =>
    subst hq
    unfold sm_asti at ha
    split at ha
    next x i a r =>
      split at ha
      next => cases ha
      next h =>
        split at ha
        next n f hg =>
          split at ha
          next hin2 =>
            cases ha
            have hi := sm_in_vp hin2
            rw [List.map_cons, List.map_cons, List.map_cons, show sm_mp B sa (.ref a) = .ref (B + (a - 100)) from congrArg Value.ref (sm_ad_hi h)]
            exact va_iast hx hb hK St.1 (sm_ws_D w) St.2.1 (a - 100) 0 (sm_ws_get hg) (sm_tys_get (t := 0) (by decide)) hi hd (fun H1 locs1 hP _ hS => kk _ _ _ _ _ (St.put hg rfl hP hS) hL)
          next => cases ha
        next => cases ha
    next => cases ha
  next => cases ha
set_option maxHeartbeats 1000000 in
theorem sm_k_lastore : sm_OK X mi pc ls st w (.lastore) := by
  intro B sa dC dI dA p l e R s m args below meth c Q L0 S0 H locs cells slots lsA len F St hL hR hd pc' ls' st' w' ha hz1 hz2 kk
  obtain ⟨hx, hb, hr, hml, hown, hts, hlk, hin, hK, hTF⟩ := F
  dsimp only [sm_act] at ha
  split at ha
  next hq =>
    subst hq
    unfold sm_astl at ha
    split at ha
    next x i a r =>
      split at ha
      next => cases ha
      next h =>
        split at ha
        next n f hg =>
          split at ha
          next hin2 =>
            cases ha
            have hi := sm_in_vp hin2
            rw [List.map_cons, List.map_cons, List.map_cons, show sm_mp B sa (.ref a) = .ref (B + (a - 100)) from congrArg Value.ref (sm_ad_hi h)]
            exact va_last hx hb hK St.1 (sm_ws_D w) St.2.1 (a - 100) 1 (sm_ws_get hg) (sm_tys_get (t := 1) (by decide)) hi hd (fun H1 locs1 hP _ hS => kk _ _ _ _ _ (St.put hg rfl hP hS) hL)
          next => cases ha
        next => cases ha
    next => cases ha
  next => cases ha
set_option maxHeartbeats 1000000 in
theorem sm_k_aastore : sm_OK X mi pc ls st w (.aastore) := by
  intro B sa dC dI dA p l e R s m args below meth c Q L0 S0 H locs cells slots lsA len F St hL hR hd pc' ls' st' w' ha hz1 hz2 kk
  obtain ⟨hx, hb, hr, hml, hown, hts, hlk, hin, hK, hTF⟩ := F
  dsimp only [sm_act] at ha
  split at ha
  next hq =>
    subst hq
    unfold sm_asta at ha
    split at ha
    next b i a r =>
      split at ha
      next => cases ha
      next h =>
        split at ha
        next t n f ci fs hg hv =>
          split at ha
          next hin2 =>
            cases ha
            have hi := sm_in_vp hin2.1
            have ha1 : ¬ a < 100 := fun q => h (Or.inl q)
            have hb1 : ¬ b < 100 := fun q => h (Or.inr q)
            rw [List.map_cons, List.map_cons, List.map_cons, show sm_mp B sa (.ref a) = .ref (B + (a - 100)) from congrArg Value.ref (sm_ad_hi ha1), show sm_mp B sa (.ref b) = .ref (B + (b - 100)) from congrArg Value.ref (sm_ad_hi hb1)]
            refine va_astq hx hb hK St.1 (sm_ws_D w) St.2.1 (a - 100) t (b - 100) ci (r := (sm_cn ci, sm_T ci, sm_nf ci)) (sm_ws_get hg) (by rw [sm_tys_get hin2.2.1, hin2.2.2.2]) (sm_ws_get hv) (st_cls hin2.2.2.1) hi hd (fun H1 locs1 hP _ hS => kk _ _ _ _ _ (St.put hg rfl ?_ hS) hL)
            rw [← sm_ad_hi (B := B) (sa := sa) hb1, sm_upM] at hP
            exact hP
          next => cases ha
        next => cases ha
    next => cases ha
  next => cases ha
set_option maxHeartbeats 1000000 in
theorem sm_k_arraylength : sm_OK X mi pc ls st w (.arraylength) := by
  intro B sa dC dI dA p l e R s m args below meth c Q L0 S0 H locs cells slots lsA len F St hL hR hd pc' ls' st' w' ha hz1 hz2 kk
  obtain ⟨hx, hb, hr, hml, hown, hts, hlk, hin, hK, hTF⟩ := F
  dsimp only [sm_act] at ha
  split at ha
  next hq =>
    subst hq
    unfold sm_len at ha
    split at ha
    next a r =>
      split at ha
      next t n f hg =>
        split at ha
        next ht =>
          cases ha
          unfold sm_get at hg
          split at hg
          next h =>
            rw [List.map_cons, show sm_mp B sa (.ref a) = .ref (sa a) from congrArg Value.ref (sm_ad_lo h)]
            exact va_tlen hx hb (hTF.1 a _ _ _ hg) St.2.1 rfl hd (kk _ _ _ _ _ St hL)
          next h =>
            rw [List.map_cons, show sm_mp B sa (.ref a) = .ref (B + (a - 100)) from congrArg Value.ref (sm_ad_hi h)]
            exact va_alen hx hb hK St.1 (a - 100) t (sm_ws_get hg) (sm_tys_get (ht.resolve_left h)) rfl hd (kk _ _ _ _ _ St hL)
        next => cases ha
      next => cases ha
    next => cases ha
  next => cases ha
set_option maxHeartbeats 1000000 in
theorem sm_k_getfield {k : Nat} : sm_OK X mi pc ls st w (.getfield k) := by
  intro B sa dC dI dA p l e R s m args below meth c Q L0 S0 H locs cells slots lsA len F St hL hR hd pc' ls' st' w' ha hz1 hz2 kk
  obtain ⟨hx, hb, hr, hml, hown, hts, hlk, hin, hK, hTF⟩ := F
  dsimp only [sm_act] at ha
  split at ha
  next hq =>
    subst hq
    unfold sm_getf at ha
    split at ha
    next a r ci j hf =>
      obtain ⟨f0, f4⟩ := st_fld hf
      split at ha
      next h =>
        split at ha
        next x hen =>
          cases ha
          rw [List.map_cons, show sm_mp B sa (.ref a) = .ref (sa a) from congrArg Value.ref (sm_ad_lo h)]
          have hE : va_Ef 1 (sm_T ci j).1 (sm_T ci j).2.1 (sm_T ci j).2.2.1 (fun _ => .int x) (fun _ => sa a) (sm_Ab B) s s.heap := fun _ _ => hTF.2.1 ci j a x hen
          rcases f4 with f4 | ⟨host, f4⟩
          · exact va_getX (i := 0) hx hb hE (by decide) St.2.1 hown (hts _ f4) (fun _ h9 => h9) hd (kk _ _ _ _ _ St hL)
          · obtain ⟨cf, k9, fi, f9, cell, h1, h2, h3, h4, h5, h6⟩ := (hTF.2.1 ci j a x hen).kept St.2.1.2.1
            exact va_Wgetf hx hb hown (va_Nw.use rfl (hTF.2.2.2.2.2.1 _ f4)) h1 h2 h3 h4 (v := .int x) h5 rfl rfl hd (kk _ _ _ _ _ St hL)
        next => cases ha
      next h =>
        split at ha
        next c2 fs hg =>
          split at ha
          next hc =>
            subst hc
            split at ha
            next v hv =>
              cases ha
              have f1 := sm_ci_lt St hg
              obtain ⟨f2, f3⟩ := f0 f1
              rw [List.map_cons, show sm_mp B sa (.ref a) = .ref (B + (a - 100)) from congrArg Value.ref (sm_ad_hi h)]
              have hv2 : (fs.map (sm_mp B sa))[j]? = some (sm_mp B sa v) := by rw [List.getElem?_map, hv]; rfl
              rcases f4 with f4 | ⟨host, f4⟩
              · exact va_get hx hb hts (st_lay f1) hown hK St.1 (a - 100) (sm_ws_get hg) (st_cls f1) j f2 (hts _ f4) (fun _ h9 => h9) hv2 hd (kk _ _ _ _ _ St hL)
              · exact va_getN hx hb hts (st_lay f1) hown hK St.1 (a - 100) (sm_ws_get hg) (st_cls f1) j f2 (va_Nw.use rfl (hTF.2.2.2.2.2.1 _ f4)) (fun _ h9 => h9) hv2 hd (kk _ _ _ _ _ St hL)
            next => cases ha
          next => cases ha
        next => cases ha
    next => cases ha
  next => cases ha
set_option maxHeartbeats 1000000 in
theorem sm_k_putfield {k : Nat} : sm_OK X mi pc ls st w (.putfield k) := by
  intro B sa dC dI dA p l e R s m args below meth c Q L0 S0 H locs cells slots lsA len F St hL hR hd pc' ls' st' w' ha hz1 hz2 kk
  obtain ⟨hx, hb, hr, hml, hown, hts, hlk, hin, hK, hTF⟩ := F
  dsimp only [sm_act] at ha
  split at ha
  next hq =>
    subst hq
    unfold sm_putf at ha
    split at ha
    next v a r ci j hf =>
      obtain ⟨f0, f4⟩ := st_fld hf
      split at ha
      next => cases ha
      next h =>
        split at ha
        next c2 fs hg =>
          split at ha
          next hc =>
            obtain ⟨hcc, d2, c3, c4, c5⟩ := hc
            rw [hcc] at hg
            cases ha
            have f1 := sm_ci_lt St hg
            obtain ⟨f2, f3⟩ := f0 f1
            rw [List.map_cons, List.map_cons, show sm_mp B sa (.ref a) = .ref (B + (a - 100)) from congrArg Value.ref (sm_ad_hi h)]
            have e1 : sm_ce B sa dA (.inr (ci, fs.set j v)) = .inr (ci, (fs.map (sm_mp B sa)).set j (sm_mp B sa v)) := by
              show Sum.inr (ci, (fs.set j v).map (sm_mp B sa)) = _
              rw [List.map_set]
            have hl2 : j < (fs.map (sm_mp B sa)).length := by rw [List.length_map]; exact d2
            have hn2 : narrow (sm_fty ci j) (sm_mp B sa v) = sm_mp B sa v := sm_mp_nar c3
            have hf2 : fits (sm_fty ci j) (sm_mp B sa v) = true := sm_mp_fit c4
            cases hfi : sm_fin ci j with
            | false =>
              rcases f4 with f4 | ⟨host, f4⟩
              · exact va_put hx hb hts (st_lay f1) (sm_fty ci) (st_ty f1) (st_nm f1) hown hK St.1 (sm_ws_D w) St.2.1 (a - 100) (sm_ws_get hg) (st_cls f1) j f2 (hts _ f4) (fun _ h9 => h9) (by rw [← f3.1]; exact hfi) (st_ty f1 j f2) hn2 hf2 hl2 hd (fun H1 locs1 hP _ hS => kk _ _ _ _ _ (St.put hg rfl (by rw [e1]; exact hP) hS) hL)
              · exact va_putN hx hb hts (st_lay f1) (sm_fty ci) (st_ty f1) (st_nm f1) hown hK St.1 (sm_ws_D w) St.2.1 (a - 100) (sm_ws_get hg) (st_cls f1) j f2 (va_Nw.use rfl (hTF.2.2.2.2.2.1 _ f4)) (fun _ h9 => h9) (by rw [← f3.1]; exact hfi) (st_ty f1 j f2) hn2 hf2 hl2 hd (fun H1 locs1 hP _ hS => kk _ _ _ _ _ (St.put hg rfl (by rw [e1]; exact hP) hS) hL)
            | true =>
              obtain ⟨i1, i2⟩ := c5 hfi
              have f5 := st_own f1 (show sm_fT ci k = some (ci, j) from i2 ▸ hf)
              exact va_putF hx hb hts (st_lay f1) (sm_fty ci) (st_ty f1) (st_nm f1) hown hK St.1 (sm_ws_D w) St.2.1 (a - 100) (sm_ws_get hg) (st_cls f1) j f2 (hts _ (by rw [i2]; exact f5)) (fun _ h9 => h9) (by rw [← f3.1]; exact hfi) (hin i1) (by rw [i2]; exact f3.2 hfi) (st_ty f1 j f2) hn2 hf2 hl2 hd (fun H1 locs1 hP _ hS => kk _ _ _ _ _ (St.put hg rfl (by rw [e1]; exact hP) hS) hL)
          next => cases ha
        next => cases ha
    next => cases ha
  next => cases ha
set_option maxHeartbeats 1000000 in
theorem sm_k_getstatic {k : Nat} : sm_OK X mi pc ls st w (.getstatic k) := by
  intro B sa dC dI dA p l e R s m args below meth c Q L0 S0 H locs cells slots lsA len F St hL hR hd pc' ls' st' w' ha hz1 hz2 kk
  obtain ⟨hx, hb, hr, hml, hown, hts, hlk, hin, hK, hTF⟩ := F
  dsimp only [sm_act] at ha
  split at ha
  next hq =>
    subst hq
    split at ha
    next a hg =>
      cases ha
      obtain ⟨C, n, d, hZ, f4⟩ := hTF.2.2.2.2.1 _ _ _ hg
      have hlo := st_gT hg
      have hk2 := kk _ _ _ _ _ St hL
      rw [List.map_cons, show sm_mp B sa (.ref a) = .ref (sa a) from congrArg Value.ref (sm_ad_lo hlo)] at hk2
      rcases f4 with f4 | ⟨host, f4⟩
      · exact va_gets hx hb hZ St.2.1 hown (hts _ f4) (fun _ h9 => h9) hd hk2
      · exact va_getsN hx hb hZ St.2.1 hown (va_Nw.use rfl (hTF.2.2.2.2.2.1 _ f4)) (fun _ h9 => h9) hd hk2
    next => cases ha
  next => cases ha
set_option maxHeartbeats 1000000 in
theorem sm_k_if_acmp_ne {off : Int} : sm_OK X mi pc ls st w (.if_acmp .ne off) := by
  intro B sa dC dI dA p l e R s m args below meth c Q L0 S0 H locs cells slots lsA len F St hL hR hd pc' ls' st' w' ha hz1 hz2 kk
  obtain ⟨hx, hb, hr, hml, hown, hts, hlk, hin, hK, hTF⟩ := F
  dsimp only [sm_act] at ha
  split at ha
  next hq =>
    subst hq
    split at ha
    next y x r =>
      split at ha
      next hlt =>
        obtain ⟨ht, ha⟩ := sm_jmp_in ha
        cases ha
        rw [List.map_cons, List.map_cons]
        have e1 : sm_mp B sa (.ref x) = va_rf (some (sa x)) := congrArg Value.ref (sm_ad_lo (st_enN hlt.1))
        have e2 : sm_mp B sa (.ref y) = va_rf (some (sa y)) := congrArg Value.ref (sm_ad_lo (st_enN hlt.2))
        rw [e1, e2]
        exact lv_acmp_ne hx hb hd ht (fun q => by
          rw [if_neg (fun h => q (by rw [h]))] at kk
          exact kk _ _ _ _ _ St hL) (fun q => by
          rw [if_pos (hTF.2.2.2.1 _ _ hlt.1 hlt.2 (Option.some.inj q))] at kk
          exact kk _ _ _ _ _ St hL)
      next => cases ha
    next => cases ha
  next => cases ha
end SMM
