/-- a switch as a chain of questions -/
def sm_sw (x lo : Int) (ts : List Nat) (d : Nat) : Nat := match ts with
  | [] => d
  | t :: ts => if x = lo then t else sm_sw x (lo + 1) ts d
theorem sm_sw_in : ∀ (ts : List Nat) (x lo : Int) (d t : Nat), lo ≤ x → ts[(x - lo).toNat]? = some t → sm_sw x lo ts d = t
  | [], x, lo, d, t, _, h => by simp at h
  | t0 :: ts, x, lo, d, t, hl, h => by
    unfold sm_sw
    by_cases e : x = lo
    · subst e
      rw [if_pos rfl]
      rw [Int.sub_self] at h
      exact Option.some.inj h
    · rw [if_neg e]
      have e1 : (x - lo).toNat = (x - (lo + 1)).toNat + 1 := by omega
      rw [e1, List.getElem?_cons_succ] at h
      exact sm_sw_in ts x (lo + 1) d t (by omega) h
theorem sm_sw_out : ∀ (ts : List Nat) (x lo : Int) (d : Nat), (x < lo ∨ lo + ts.length ≤ x) → sm_sw x lo ts d = d
  | [], x, lo, d, _ => rfl
  | t0 :: ts, x, lo, d, h => by
    unfold sm_sw
    rw [List.length_cons] at h
    rw [if_neg (by omega)]
    exact sm_sw_out ts x (lo + 1) d (by omega)
/-- which places a table's offsets name -/
def sm_swok (pc : Nat) (offs : List Int) : Bool := offs.all fun off => decide ((pc : Int) + off = (sm_tgt pc off : Int))
theorem sm_tab_sw {pc : Nat} {dflt lo hi : Int} {offs : Array Int} {x : Int32} (h1 : sm_swok pc (dflt :: offs.toList) = true) (h2 : hi + 1 = lo + offs.size) : sm_tab pc dflt lo hi offs x = some (sm_sw x.toInt lo (offs.toList.map (sm_tgt pc)) (sm_tgt pc dflt)) := by
  unfold sm_swok at h1
  rw [List.all_cons, Bool.and_eq_true] at h1
  obtain ⟨h3, h4⟩ := h1
  unfold sm_tab
  split
  next h =>
    rw [if_pos (of_decide_eq_true h3), sm_sw_out]
    rw [List.length_map, Array.length_toList]
    omega
  next h =>
    have hlt : (x.toInt - lo).toNat < offs.size := by omega
    rw [Array.getElem?_eq_getElem hlt]
    dsimp only
    have h5 := List.all_eq_true.mp h4 offs[(x.toInt - lo).toNat] (Array.getElem_mem_toList hlt)
    rw [if_pos (of_decide_eq_true h5)]
    refine congrArg some (sm_sw_in _ _ _ _ _ (by omega) ?_).symm
    rw [List.getElem?_map, Array.getElem?_toList, Array.getElem?_eq_getElem hlt]
    rfl
section SMSW
variable {X : sm_X} {mi pc len : Nat} {ls st : List Value} {w : sm_W} {Q : Option Value → sm_W → Prop}
theorem sm_q_tab {dflt lo hi : Int} {offs : Array Int} {x : Int32} {ts : List Nat} {d : Nat} (hd : decode (sm_code mi) pc = .ok (.tableswitch dflt lo hi offs, len)) (h1 : sm_swok pc (dflt :: offs.toList) = true) (h2 : hi + 1 = lo + offs.size) (h3 : offs.toList.map (sm_tgt pc) = ts) (h4 : sm_tgt pc dflt = d) : sm_R X mi pc ls (.int x :: st) w Q ↔ sm_R X mi (sm_sw x.toInt lo ts d) ls st w Q := by
  subst h3
  subst h4
  refine sm_R_go hd ?_
  show (match sm_tab pc dflt lo hi offs x with
      | some t => sm_go t ls st w
      | none => none) = _
  rw [sm_tab_sw h1 h2]
theorem sm_off_nil (d x : Int) : Op.lookupswitch.offset [] d x = d := by
  first | rfl | simp [Op.lookupswitch.offset]
theorem sm_q_look2 {dflt a0 o0 a1 o1 : Int} {x k0 k1 : Int32} {d t0 t1 : Nat} (hd : decode (sm_code mi) pc = .ok (.lookupswitch dflt #[(a0, o0), (a1, o1)], len)) (h0 : (([(a0, o0), (a1, o1)] : List (Int × Int)).zip ([(a0, o0), (a1, o1)].drop 1)).all (fun (a, next) => a.1 < next.1) = true) (hk : k0.toInt = a0 ∧ k1.toInt = a1) (ht : (pc : Int) + dflt = d ∧ (pc : Int) + o0 = t0 ∧ (pc : Int) + o1 = t1) : sm_R X mi pc ls (.int x :: st) w Q ↔ (if x = k0 then sm_R X mi t0 ls st w Q else if x = k1 then sm_R X mi t1 ls st w Q else sm_R X mi d ls st w Q) := by
  have key : ∀ (off : Int) (t : Nat), Op.lookupswitch.offset [(a0, o0), (a1, o1)] dflt x.toInt = off → (pc : Int) + off = (t : Int) → (sm_R X mi pc ls (.int x :: st) w Q ↔ sm_R X mi t ls st w Q) := by
    intro off t e1 e2
    have e3 : sm_tgt pc off = t := by unfold sm_tgt; rw [e2]; rfl
    refine sm_R_go hd ?_
    show (match sm_look pc dflt #[(a0, o0), (a1, o1)] x with
      | some t => sm_go t ls st w
      | none => none) = _
    unfold sm_look
    rw [show (#[(a0, o0), (a1, o1)] : Array (Int × Int)).toList = [(a0, o0), (a1, o1)] from rfl, e1, e3, if_pos ⟨h0, e2⟩]
  by_cases c0 : x = k0
  · rw [if_pos c0]
    refine key o0 t0 ?_ ht.2.1
    rw [Op.lookupswitch.offset_cons, if_pos (by rw [c0, hk.1])]
  · rw [if_neg c0]
    by_cases c1 : x = k1
    · rw [if_pos c1]
      refine key o1 t1 ?_ ht.2.2
      rw [lv_osw c0 hk.1, Op.lookupswitch.offset_cons, if_pos (by rw [c1, hk.2])]
    · rw [if_neg c1]
      refine key dflt d ?_ ht.1
      rw [lv_osw c0 hk.1, lv_osw c1 hk.2]
      exact sm_off_nil _ _
end SMSW
