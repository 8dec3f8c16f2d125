section SMQ
variable {l : Launch} {B : Nat} {sa : Nat → Nat} {dC : Nat → ClassId} {dI : Nat → Nat → Nat} {dA : Nat → ClassId} {X : sm_X}
theorem sm_St.size {s : State} {L0 S0 : Nat} {w : sm_W} {H : Heap} {locs : List Loc} {cells slots : Nat} (St : sm_St B sa dC dI dA s L0 S0 w H locs cells slots) (hz : H.size ≤ s.heap.size + cells) : H.size = B + w.length := by
  obtain ⟨g1, g2, g3, g4, g5⟩ := St
  rcases Nat.eq_zero_or_pos w.length with h0 | h0
  · have := g2.1
    omega
  · have h9 := (g1 (w.length - 1) _ (sm_ws_get (List.getElem?_eq_getElem (by omega)))).lt
    have h8 : B + (w.length - 1) < H.size := h9
    omega
theorem sm_call_in {mi k k2 : Nat} {as rest as2 rest2 : List Value} (h : sm_call mi k as rest = some (.inr (.inr (k2, as2, rest2)))) : k2 = k ∧ as2 = as ∧ rest2 = rest ∧ sm_lev k < sm_lev mi ∧ sm_loc k + sm_maxL k + 19 ≤ sm_loc mi ∧ (rest.map fun v => v.category).sum ≤ 8 ∧ as.length = sm_par k ∧ (sm_flat as).length ≤ sm_maxL k := by
  unfold sm_call at h
  split at h
  next q => cases h; exact ⟨rfl, rfl, rfl, q⟩
  next => cases h
set_option maxHeartbeats 4000000 in
theorem sm_sound (n : Nat) : sm_Z l B sa dC dI dA X n := by
  induction n with
  | zero =>
    intro mi pc ls st w v w' h
    simp [sm_ev] at h
  | succ n ih =>
    intro mi pc ls st w v w' h p e R s m args below meth c Q L0 S0 H locs cells slots lsA F St hL hR hz1 hz2 hret
    rw [sm_ev] at h
    cases hd : decode (sm_code mi) pc with
    | error er => rw [hd] at h; cases h
    | ok q =>
      obtain ⟨i, len⟩ := q
      rw [hd] at h
      dsimp only at h
      cases ha : sm_act X mi pc i len ls st w with
      | none => rw [ha] at h; cases h
      | some a =>
        rw [ha] at h
        rcases a with ⟨pc2, ls2, st2, w2⟩ | v2 | ⟨k, as, rest⟩
        · have hg := sm_ev_grow n h
          exact sm_all i B sa dC dI dA p l e R s m args below meth c Q L0 S0 H locs cells slots lsA len F St hL hR hd pc2 ls2 st2 w2 ha (Nat.le_trans hg.1 hz1) (Nat.le_trans hg.2 hz2)
            (fun lsA2 H2 locs2 cells2 slots2 St2 hL2 => ih mi pc2 ls2 st2 w2 v w' h p e R s m args below meth c Q L0 S0 H2 locs2 cells2 slots2 lsA2 F St2 hL2 hR hz1 hz2 hret)
        · cases h
          exact hret pc ls st i len lsA H locs cells slots hd ha St
        · dsimp only at h
          cases he : sm_ev X n k 0 (sm_entry (sm_maxL k) as) [] w with
          | none => rw [he] at h; cases h
          | some q2 =>
            obtain ⟨v2, w2⟩ := q2
            rw [he] at h
            dsimp only at h
            have hg1 := sm_ev_grow n he
            have hg2 := sm_ev_grow n h
            obtain ⟨hx, hb, hr, hml, hown, hts, hlk, hin, hK, hTF⟩ := id F
            refine sm_W_size (fun hsz => ?_)
            have hsz2 := St.size hsz
            have g3 := St.2.2.1
            have g4 := St.2.2.2.1
            have hcs : cells + (w2.length - w.length) ≤ R.cells ∧ slots + (sm_sl w2 - sm_sl w) ≤ R.slots := by
              have a1 := hg1.1; have a2 := hg1.2; have a3 := hg2.1; have a4 := hg2.2
              exact ⟨by omega, by omega⟩
            have hgoes : ∀ {aa : Array Value}, va_Run p l e R s m args below meth c H locs cells slots (w2.length - w.length) (sm_sl w2 - sm_sl w) (F0 m pc lsA (st.map (sm_mp B sa))) (rest.map (sm_mp B sa)) (sm_Qc B sa dC dI dA v2 w2 aa) (sm_Ab B) → W p l e R s m args below meth c H locs cells slots Q (F0 m pc lsA (st.map (sm_mp B sa))) := by
              intro aa hrun
              refine sm_callW hrun (fun v9 s0 t L h0 hq hLL => ?_)
              obtain ⟨q1, q2, q3⟩ := hq
              have e9 : v9 = v2.map (sm_mp B sa) := by injection q1
              subst e9
              have e8 : (v2.map (sm_mp B sa)).toList ++ rest.map (sm_mp B sa) = (v2.toList ++ rest).map (sm_mp B sa) := by cases v2 <;> simp
              rw [e8]
              refine ih mi (pc + 3) ls (v2.toList ++ rest) w2 v w' h p e R s m args below meth c Q L0 S0 t.heap (locs ++ L) (cells + (w2.length - w.length)) (slots + (sm_sl w2 - sm_sl w)) lsA F ⟨q2, ⟨?_, fun q h1 h2 => ?_, fun q hq => ?_⟩, ?_, ?_, St.2.2.2.2⟩ hL hR hz1 hz2 hret
              · have := q3.1
                rw [h0] at this
                exact Nat.le_trans St.2.1.1 this
              · have h3 := q3.2 q (by rw [h0]; exact Nat.lt_of_lt_of_le h1 St.2.1.1) h2
                rw [h3, h0]
                exact St.2.1.2.1 q h1 h2
              · rcases List.mem_append.mp hq with h5 | h5
                · exact St.2.1.2.2 q h5
                · exact hLL q h5
              · have := hg1.1
                omega
              · have := hg1.2
                omega
            have hTF1 : sm_TF B sa X s H := sm_TF.kept (fun a h1 h2 => St.2.1.2.1 a h1 h2) hTF
            have hpre : ∀ U : State, U.heap = H → s.WarmedH U.vm → sm_Pc B sa dC dI dA X as w ((as.map (sm_mp B sa)).toArray) U := fun U hU hW => ⟨rfl, by rw [hU]; exact hsz2, by rw [hU]; exact St.1, va_K.moved hW.alike hK, by rw [hU]; exact sm_TF.warm hW hTF1⟩
            have hG : ∀ k, k < sm_NM → GoodIn sm_tbl (sm_mw k) := fun k hk w hw => by
              rcases List.mem_cons.mp hw with h1 | h1
              · subst h1
                exact ⟨(st_meth hk).2.1, st_good _ (st_meth hk).2.1⟩
              · exact ⟨h1, st_good _ h1⟩
            rcases sm_act_inv ha with h1 | rfl | rfl | rfl | ⟨idx, rfl⟩ | ⟨idx, rfl⟩ | ⟨idx, rfl⟩
            · obtain ⟨_, _, _, _, he9, -⟩ := h1
              cases he9
            · exfalso
              dsimp only [sm_act] at ha
              repeat' (split at ha)
              all_goals cases ha
            · exfalso
              dsimp only [sm_act] at ha
              repeat' (split at ha)
              all_goals cases ha
            · exfalso
              dsimp only [sm_act] at ha
              repeat' (split at ha)
              all_goals cases ha
            · dsimp only [sm_act] at ha
              split at ha
              next hl3 =>
                subst hl3
                unfold sm_invs at ha
                split at ha
                next =>
                  obtain ⟨_, _, _, _, he9, -⟩ := sm_g_cpy ha
                  cases he9
                next =>
                  split at ha
                  next k0 hk0 =>
                    obtain ⟨rfl, rfl, rfl, c1, c0, c2, c3, c4⟩ := sm_call_in ha
                    obtain ⟨t1, t2, t3, t4⟩ := st_sT hk0
                    obtain ⟨k1, k2, k3, k4, k5, k6⟩ := st_meth t1
                    have hM := sm_met t1 ih c4 he
                    have hlev : sm_lev k + 1 ≤ R.frames ∧ 8 + (sm_maxL k + 11) + sm_loc k ≤ R.locals := ⟨by have := hR.1; omega, by have := hR.2; omega⟩
                    have hlen : (((st.take (sm_par k)).reverse).map (sm_mp B sa)).length = sm_par k := by rw [List.length_map]; exact c3
                    have hstk : st.map (sm_mp B sa) = (((st.take (sm_par k)).reverse).map (sm_mp B sa)).reverse ++ (st.drop (sm_par k)).map (sm_mp B sa) := by
                      rw [← List.map_reverse, List.reverse_reverse, ← List.map_append, List.take_append_drop]
                    rcases t4 with t4 | ⟨host, t4⟩
                    · exact hgoes (va_runS (As := ((st.take (sm_par k)).reverse).map (sm_mp B sa)) ⟨hx, hb, hml, hown, hts⟩ hM ⟨callB_of (sm_par k) hts (hG k t1) rfl rfl rfl (hts _ k3) (hts _ t4) ⟨k4.1, k4.2, t3⟩ hlev, hts _ t2⟩ ⟨sm_blind, hpre⟩ rfl hlen hL.1 hstk (lv_room (by rw [sm_cats]; exact c2)) hd hcs)
                    · exact hgoes (va_runSN (As := ((st.take (sm_par k)).reverse).map (sm_mp B sa)) ⟨hx, hb, hml, hown, hts⟩ hM ⟨va_cnB (sm_par k) hts (hG k t1) rfl rfl rfl (hTF.2.2.2.2.2.1 _ t4) (hts _ k3) ⟨k4.1, k4.2, t3⟩ hlev, hts _ t2, trivial⟩ ⟨sm_blind, hpre⟩ rfl hlen hL.1 hstk (lv_room (by rw [sm_cats]; exact c2)) hd hcs)
                  next => cases ha
              next => cases ha
            · dsimp only [sm_act] at ha
              split at ha
              next hl3 =>
                subst hl3
                unfold sm_inv at ha
                split at ha
                next k0 hk0 =>
                  split at ha
                  next a r hdr =>
                    obtain ⟨t1, t2, t3, t4, t5⟩ := st_vT hk0
                    have hcin : ∃ b : Nat, sm_mp B sa (.ref a) = .ref b ∧ (∃ cellB : Cell, H[b]? = some cellB ∧ cellB.vm.isStatics = false ∧ s.vm.findClass (if a < 100 then sm_EN else sm_cn (sm_own k0)) = some cellB.cls) ∧ (a < 100 ∧ sm_enM k0 = true ∨ ¬ a < 100 ∧ sm_enM k0 = false) ∧ sm_call mi k0 (.ref a :: (st.take (sm_par k0 - 1)).reverse) r = some (.inr (.inr (k, as, rest))) := by
                      split at ha
                      next h100 =>
                        split at ha
                        next hen =>
                          refine ⟨sa a, congrArg Value.ref (sm_ad_lo h100), ?_, Or.inl ⟨h100, hen.2⟩, ha⟩
                          rw [if_pos h100]
                          obtain ⟨cell, o1, o2, o3, o4⟩ := hTF1.2.2.1 a hen.1
                          exact ⟨cell, o1, o2, o3⟩
                        next => cases ha
                      next h100 =>
                        split at ha
                        next ci fs hg =>
                          split at ha
                          next hci =>
                            refine ⟨B + (a - 100), congrArg Value.ref (sm_ad_hi h100), ?_, Or.inr ⟨h100, hci.1⟩, ha⟩
                            rw [if_neg h100]
                            rw [← hci.2] at hg
                            exact va_recv hK St.1 (st_cls (t4 hci.1)) (sm_ws_get hg)
                          next => cases ha
                        next => cases ha
                    obtain ⟨b, hb1, hrecv, hen, hcall⟩ := hcin
                    obtain ⟨rfl, rfl, rfl, c1, c0, c2, c3, c4⟩ := sm_call_in hcall
                    obtain ⟨k1, k2, k3, k4, k5, k6⟩ := st_meth t1
                    have hM := sm_met t1 ih c4 he
                    have hlev : sm_lev k + 1 ≤ R.frames ∧ 8 + (sm_maxL k + 11) + sm_loc k ≤ R.locals := ⟨by have := hR.1; omega, by have := hR.2; omega⟩
                    have hlen : (((st.take (sm_par k - 1)).reverse).map (sm_mp B sa)).length = sm_par k - 1 := by
                      rw [List.length_map]
                      rw [List.length_cons] at c3
                      omega
                    have hstk : st.map (sm_mp B sa) = (((st.take (sm_par k - 1)).reverse).map (sm_mp B sa)).reverse ++ Value.ref b :: rest.map (sm_mp B sa) := by
                      rw [← List.map_reverse, List.reverse_reverse, ← hb1, ← List.map_cons, ← List.map_append, ← hdr, List.take_append_drop]
                    have hpre2 : ∀ U : State, U.heap = H → s.WarmedH U.vm → sm_Pc B sa dC dI dA X (.ref a :: (st.take (sm_par k - 1)).reverse) w ((Value.ref b :: ((st.take (sm_par k - 1)).reverse).map (sm_mp B sa)).toArray) U := fun U hU hW => by
                      have := hpre U hU hW
                      rw [List.map_cons, hb1] at this
                      exact this
                    rcases t5 with ⟨t5, t6, t7⟩ | ⟨x, t5, t6, t7, t8, t9, t10⟩
                    · have hC : (if a < 100 then sm_EN else sm_cn (sm_own k)) = sm_cn (sm_own k) := by
                        rcases hen with h9 | h9
                        · rw [if_pos h9.1]
                          exact (t7 h9.2).symm
                        · rw [if_neg h9.1]
                      rw [hC] at hrecv
                      rcases t6 with t6 | ⟨host, t6⟩
                      · exact hgoes (va_runV (C := sm_cn (sm_own k)) (As := ((st.take (sm_par k - 1)).reverse).map (sm_mp B sa)) ⟨hx, hb, hml, hown, hts⟩ hM ⟨callB_of (sm_par k - 1) hts (hG k t1) rfl rfl rfl (hts _ k3) (hts _ t6) ⟨k4.1, k4.2, t3⟩ hlev, hts _ t2, hts _ t5⟩ ⟨sm_blind, hrecv, hpre2⟩ rfl hlen hL.1 hstk (lv_room (by rw [sm_cats]; exact c2)) hd hcs)
                      · exact hgoes (va_runVN (C := sm_cn (sm_own k)) (As := ((st.take (sm_par k - 1)).reverse).map (sm_mp B sa)) ⟨hx, hb, hml, hown, hts⟩ hM ⟨va_cnB (sm_par k - 1) hts (hG k t1) rfl rfl rfl (hTF.2.2.2.2.2.1 _ t6) (hts _ k3) ⟨k4.1, k4.2, t3⟩ hlev, hts _ t2, hts _ t5⟩ ⟨sm_blind, hrecv, hpre2⟩ rfl hlen hL.1 hstk (lv_room (by rw [sm_cats]; exact c2)) hd hcs)
                    · have hC : (if a < 100 then sm_EN else sm_cn (sm_own k)) = sm_EN := by
                        rcases hen with h9 | h9
                        · rw [if_pos h9.1]
                        · rw [t5] at h9
                          exact absurd h9.2 (by decide)
                      rw [hC] at hrecv
                      have hGU : GoodIn sm_tbl (va_wsU (sm_cn (sm_own mi)) idx sm_EN (sm_cn (sm_own k)) x (sm_name k) (sm_mw k)) := fun w9 hw9 => by
                        unfold va_wsU at hw9
                        rcases List.mem_append.mp hw9 with h1 | h1
                        · have : w9 ∈ sm_tbl := by
                            simp only [List.mem_cons, List.not_mem_nil, or_false] at h1
                            rcases h1 with rfl | rfl | rfl | rfl | rfl
                            · exact t6
                            · exact t7
                            · exact t8
                            · exact t2
                            · exact k3
                          exact ⟨this, st_good _ this⟩
                        · exact hG k t1 w9 h1
                      exact hgoes (va_runU (C := sm_EN) (owner := sm_cn (sm_own k)) (x := x) (As := ((st.take (sm_par k - 1)).reverse).map (sm_mp B sa)) ⟨hx, hb, hml, hown, hts⟩ hM (va_cwU (sm_par k - 1) hts hGU rfl rfl rfl t9 ⟨k5 ▸ k4.1, k5 ▸ k4.2, t10⟩ hlev) ⟨sm_blind, hrecv, hpre2⟩ rfl hlen hL.1 hstk (lv_room (by rw [sm_cats]; exact c2)) hd hcs)
                  next => cases ha
                next => cases ha
              next => cases ha
            · dsimp only [sm_act] at ha
              split at ha
              next hl3 =>
                subst hl3
                unfold sm_ivs at ha
                split at ha
                next =>
                  exfalso
                  repeat' (split at ha)
                  all_goals cases ha
                next =>
                  split at ha
                  next k0 hk0 =>
                    split at ha
                    next a r hdr =>
                      obtain ⟨rfl, rfl, rfl, c1, c0, c2, c3, c4⟩ := sm_call_in ha
                      obtain ⟨t1, t2, t3, t4, t5, t6⟩ := st_iT hk0
                      obtain ⟨k1, k2, k3, k4, k5, k6⟩ := st_meth t1
                      have hM := sm_met t1 ih c4 he
                      have hlev : sm_lev k + 1 ≤ R.frames ∧ 8 + (sm_maxL k + 11) + sm_loc k ≤ R.locals := ⟨by have := hR.1; omega, by have := hR.2; omega⟩
                      have hlen : (((st.take (sm_par k - 1)).reverse).map (sm_mp B sa)).length = sm_par k - 1 := by
                        rw [List.length_map]
                        rw [List.length_cons] at c3
                        omega
                      have hstk : st.map (sm_mp B sa) = (((st.take (sm_par k - 1)).reverse).map (sm_mp B sa)).reverse ++ Value.ref (sm_ad B sa a) :: rest.map (sm_mp B sa) := by
                        rw [← List.map_reverse, List.reverse_reverse, show Value.ref (sm_ad B sa a) = sm_mp B sa (.ref a) from rfl, ← List.map_cons, ← List.map_append, ← hdr, List.take_append_drop]
                      have hw2 : sm_mw k = Cond.code (sm_name k) (sm_code k) (sm_maxL k) none :: sm_tbl := by
                        unfold sm_mw
                        rw [t5]
                      rcases t6 with t6 | ⟨host, t6⟩
                      · exact hgoes (va_runI (b := sm_ad B sa a) (As := ((st.take (sm_par k - 1)).reverse).map (sm_mp B sa)) ⟨hx, hb, hml, hown, hts⟩ hM ⟨callB_of (sm_par k - 1) hts (hG k t1) hw2 rfl rfl (hts _ k3) (hts _ t6) ⟨k4.1, k4.2, t4⟩ hlev, t2, hts _ t3⟩ ⟨sm_blind, hpre⟩ rfl hlen hL.1 hstk (lv_room (by rw [sm_cats]; exact c2)) hd hcs)
                      · exact hgoes (va_runIN (b := sm_ad B sa a) (As := ((st.take (sm_par k - 1)).reverse).map (sm_mp B sa)) ⟨hx, hb, hml, hown, hts⟩ hM ⟨va_cnB (sm_par k - 1) hts (hG k t1) hw2 rfl rfl (hTF.2.2.2.2.2.1 _ t6) (hts _ k3) ⟨k4.1, k4.2, t4⟩ hlev, t2, hts _ t3⟩ ⟨sm_blind, hpre⟩ rfl hlen hL.1 hstk (lv_room (by rw [sm_cats]; exact c2)) hd hcs)
                    next => cases ha
                  next => cases ha
              next => cases ha
end SMQ
