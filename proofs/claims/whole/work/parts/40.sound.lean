/-! A RUN OF THE SMALL MACHINE IS A RUN OF THE REAL ONE -/
/-- what is proved of every run of at most n steps -/
def sm_Z (l : Launch) (B : Nat) (sa : Nat → Nat) (dC : Nat → ClassId) (dI : Nat → Nat → Nat) (dA : Nat → ClassId) (X : sm_X) (n : Nat) : Prop :=
  ∀ (mi pc : Nat) (ls st : List Value) (w : sm_W) (v : Option Value) (w' : sm_W), sm_ev X n mi pc ls st w = some (v, w') →
    ∀ (p : Program) (e : Env) (R : Room) (s : State) (m : MethodId) (args : Array Value) (below : List Frame) (meth : Method) (c : Code) (Q : State → Prop) (L0 S0 : Nat) (H : Heap) (locs : List Loc) (cells slots : Nat) (lsA : Array Slot),
    sm_Fr B sa dC dI dA X mi p s m args meth c → sm_St B sa dC dI dA s L0 S0 w H locs cells slots → sm_L B sa lsA (sm_maxL mi) ls → sm_lev mi ≤ R.frames ∧ sm_loc mi ≤ R.locals → w'.length ≤ L0 + R.cells → sm_sl w' ≤ S0 + R.slots →
    (∀ (pc2 : Nat) (ls2 st2 : List Value) (i2 : Instr) (len2 : Nat) (lsA2 : Array Slot) (H2 : Heap) (locs2 : List Loc) (cells2 slots2 : Nat), decode (sm_code mi) pc2 = .ok (i2, len2) → sm_act X mi pc2 i2 len2 ls2 st2 w' = some (.inr (.inl v)) → sm_St B sa dC dI dA s L0 S0 w' H2 locs2 cells2 slots2 → W p l e R s m args below meth c H2 locs2 cells2 slots2 Q (F0 m pc2 lsA2 (st2.map (sm_mp B sa)))) →
    W p l e R s m args below meth c H locs cells slots Q (F0 m pc lsA (st.map (sm_mp B sa)))
section SMZ
variable {l : Launch} {B : Nat} {sa : Nat → Nat} {dC : Nat → ClassId} {dI : Nat → Nat → Nat} {dA : Nat → ClassId} {X : sm_X}
theorem sm_call_ret {mi k : Nat} {as rest : List Value} {v : Option Value} (h : sm_call mi k as rest = some (.inr (.inl v))) : False := by
  unfold sm_call at h
  split at h <;> cases h
theorem sm_fl_len : ∀ (as : List Value), (lg_sl (as.map (sm_mp B sa))).length = (sm_flat as).length
  | [] => rfl
  | a :: as => by
    have h := sm_fl_len as
    unfold lg_sl sm_flat at h ⊢
    simp only [List.map_cons, List.flatMap_cons, List.length_append]
    rw [h, sm_mp_cat]
    by_cases hc : a.category = 2 <;> simp [hc]
/-- a return, to whoever called -/
theorem sm_retW {p : Program} {e : Env} {R : Room} {s : State} {m : MethodId} {args : Array Value} {below : List Frame} {meth : Method} {c : Code} {H : Heap} {locs : List Loc} {cells slots mi pc len : Nat} {lsA : Array Slot} {ls st : List Value} {w : sm_W} {L0 S0 : Nat} {i : Instr} {v : Option Value}
    (F : sm_Fr B sa dC dI dA X mi p s m args meth c) (St : sm_St B sa dC dI dA s L0 S0 w H locs cells slots) (hd : decode (sm_code mi) pc = .ok (i, len)) (ha : sm_act X mi pc i len ls st w = some (.inr (.inl v))) :
    W p l e R s m args below meth c H locs cells slots (MQ below (sm_Qc B sa dC dI dA v w) args s cells slots (sm_Ab B)) (F0 m pc lsA (st.map (sm_mp B sa))) := by
  obtain ⟨hx, hb, hr, hml, hown, hts, hlk, hin, hK, hTF⟩ := F
  have hq : ∀ t : State, t.heap = H → s.WarmedH t.vm → sm_Qc B sa dC dI dA v w args s (.returned (v.map (sm_mp B sa))) t := fun t ht _ => ⟨rfl, by rw [ht]; exact St.1, St.2.1.F ht⟩
  rcases sm_act_inv ha with h1 | rfl | rfl | rfl | ⟨k, rfl⟩ | ⟨k, rfl⟩ | ⟨k, rfl⟩
  · obtain ⟨_, _, _, _, he, -⟩ := h1
    cases he
  · dsimp only [sm_act] at ha
    split at ha
    next hl =>
      subst hl
      split at ha
      next x ty hty =>
        split at ha
        next hn =>
          cases ha
          exact W.zret hx hb (hr.trans hty) hn hq St.2.1.2.2 hd hlk
        next => cases ha
      next => cases ha
    next => cases ha
  · dsimp only [sm_act] at ha
    split at ha
    next hl =>
      subst hl
      split at ha
      next x hty =>
        cases ha
        exact W.lret hx hb (hr.trans hty) hq St.2.1.2.2 hd hlk
      next => cases ha
    next => cases ha
  · dsimp only [sm_act] at ha
    split at ha
    next hl =>
      subst hl
      split at ha
      next hty =>
        cases ha
        exact W.vret hx hb (hr.trans hty) hq St.2.1.2.2 hd hlk
      next => cases ha
    next => cases ha
  · exfalso
    dsimp only [sm_act] at ha
    split at ha
    next =>
      unfold sm_invs at ha
      split at ha
      next =>
        obtain ⟨_, _, _, _, he, -⟩ := sm_g_cpy ha
        cases he
      next =>
        split at ha
        next => exact sm_call_ret ha
        next => cases ha
    next => cases ha
  · exfalso
    dsimp only [sm_act] at ha
    split at ha
    next =>
      unfold sm_inv at ha
      repeat' (split at ha)
      all_goals first | (cases ha; done) | exact sm_call_ret ha
    next => cases ha
  · exfalso
    dsimp only [sm_act] at ha
    split at ha
    next =>
      unfold sm_ivs at ha
      repeat' (split at ha)
      all_goals first | (cases ha; done) | exact sm_call_ret ha
    next => cases ha
theorem sm_blind {as : List Value} {w : sm_W} : FrameBlind (sm_Pc B sa dC dI dA X as w) := fun a U g mk h =>
  ⟨h.1, h.2.1, h.2.2.1, va_K.moved (u := U) (U := U.calling g mk a) (Vm.Alike.refl U.vm) h.2.2.2.1, sm_TF.warm (s := U) (U := U.calling g mk a) (State.WarmedH.refl U) h.2.2.2.2⟩
set_option maxHeartbeats 1000000 in
theorem sm_met {n k : Nat} (hk : k < sm_NM) (ih : sm_Z l B sa dC dI dA X n) {as : List Value} {w w2 : sm_W} {v : Option Value} (hlen : (sm_flat as).length ≤ sm_maxL k) (he : sm_ev X n k 0 (sm_entry (sm_maxL k) as) [] w = some (v, w2)) :
    Met l (sm_name k) (sm_mw k) (sm_rm k (w2.length - w.length) (sm_sl w2 - sm_sl w)) (sm_Pc B sa dC dI dA X as w) (sm_Qc B sa dC dI dA v w2) (w2.length - w.length) (sm_sl w2 - sm_sl w) (sm_Ab B) := by
  obtain ⟨k1, k2, k3, k4, k5, k6⟩ := st_meth hk
  obtain ⟨gr1, gr2⟩ := sm_ev_grow n he
  refine Met.ofW (cc := sm_code k) (maxL := sm_maxL k) (ret := sm_ret k) k1 rfl ?_
  intro p e s m args below meth c s₁ Bd hml hv
  obtain ⟨rfl, hsz, hP, hK, hTF⟩ := hv
  have hts0 := atoms_spec (ws := sm_mw k) Bd.pre
  have hts : ∀ w ∈ sm_tbl, w.before (as.map (sm_mp B sa)).toArray s = true := fun w h => hts0 w (List.mem_cons_of_mem _ h)
  have hown : s.vm.findClass (sm_cn (sm_own k)) = some m.cls := by
    rw [← k5]
    exact findClass_of_methodNamed Bd.named
  have F : sm_Fr B sa dC dI dA X k p s m (as.map (sm_mp B sa)).toArray meth c := ⟨Bd.exec, Bd.bytes, Bd.returns, hml, hown, hts, Bd.notSynchronized, fun h => ((name_of_methodNamed Bd.named Bd.method).1).trans (k6 h), hK, hTF⟩
  have St : sm_St B sa dC dI dA s w.length (sm_sl w) w s.heap [] 0 0 := ⟨hP, va_S.rf, rfl, rfl, hsz⟩
  have e1 := sm_fl_len (B := B) (sa := sa) as
  have hl := lv_entry (as.map (sm_mp B sa)) (n := sm_maxL k) (by rw [e1]; exact hlen)
  rw [lg_entry_eq]
  generalize (lg_sl (as.map (sm_mp B sa)) ++ List.replicate (sm_maxL k - (lg_sl (as.map (sm_mp B sa))).length) Slot.unset).toArray = lsA at hl ⊢
  refine ih k 0 (sm_entry (sm_maxL k) as) [] w v w2 he p e _ s m _ below meth c _ w.length (sm_sl w) s.heap [] 0 0 lsA F St (sm_L.entry hl) ⟨Nat.le_refl _, Nat.le_refl _⟩ (by show _ ≤ _ + (w2.length - w.length); omega) (by show _ ≤ _ + (sm_sl w2 - sm_sl w); omega) ?_
  intro pc2 ls2 st2 i2 len2 lsA2 H2 locs2 cells2 slots2 hd2 ha2 St2
  have c1 : w2.length - w.length = cells2 := by have := St2.2.2.1; omega
  have c2 : sm_sl w2 - sm_sl w = slots2 := by have := St2.2.2.2.1; omega
  rw [c1, c2]
  exact sm_retW F St2 hd2 ha2
end SMZ
