theorem sb_nd {α : Type} {l : List α} {i : Nat} {x d : α} (h : l[i]? = some x) : l.getD i d = x := by
  rw [List.getD_eq_getElem?_getD, h]
  rfl
/-- one int field of a constant object -/
theorem sb_of {args : Array Value} {s : State} {A : Nat → Prop} {t : Term} {a : Nat} {C n d : String} {x : Int32} (ht : t.eval args s none [] s = some (.ref a)) (hA : ∀ a : Nat, a < s.heap.size → ¬ A a) (h : (Cond.eq (.field t C n d) (.int x)).before args s = true) : va_OF C n d (.int x) a A s s.heap := by
  have hv := va_eqt h
  cases hfo : s.fieldFound? C n d with
  | none =>
    rw [va_fe ht] at hv
    simp [State.fieldOf?, State.fieldNamed?, hfo] at hv
  | some x =>
    obtain ⟨cf, k, fi, f⟩ := x
    obtain ⟨g1, cell, g2, g3, -, -, g6⟩ := Term.field_spec hfo ht hv
    exact ⟨cf, k, fi, f, cell, hfo, g1, g2, g3, g6, hA _ (Array.getElem?_eq_some_iff.mp g2).1⟩
theorem sb_inj {s : State} {H : Heap} {A : Nat → Prop} {C n d : String} {v v' : Value} {a : Nat} (h : va_OF C n d v a A s H) (h' : va_OF C n d v' a A s H) : v = v' := by
  obtain ⟨cf, k, fi, f, cell, h1, h2, h3, h4, h5, h6⟩ := h
  obtain ⟨cf', k', fi', f', cell', g1, g2, g3, g4, g5, g6⟩ := h'
  cases h1.symm.trans g1
  cases h3.symm.trans g3
  exact Option.some.inj (h5.symm.trans g5)
theorem sb_ordinals : ∀ i, i < 31 → ∀ j, j < 31 → Int32.ofNat i = Int32.ofNat j → i = j := by decide +kernel
set_option maxHeartbeats 1000000 in
theorem sm_begin {s : State} {b L : Nat} {xs : Nat → Int32} (hts : ∀ w ∈ lw_tbl, w.before #[Value.ref b] s = true) (hX : va_X b L xs s s.heap) (hbl : b < s.heap.size) (hgv : (Jvm.Cond.and given_1 narrow_1).before #[Value.ref b] s = true) :
    ∃ (sa : Nat → Nat) (dC : Nat → ClassId) (dI : Nat → Nat → Nat) (dA : Nat → ClassId), sa 99 = b ∧ sm_TF s.heap.size sa (L, xs) s s.heap ∧ va_K (dC, dI) sm_cls (sm_tys dA) s := by
  have hs := flat_of_before _ hgv
  have hA : ∀ a : Nat, a < s.heap.size → ¬ sm_Ab s.heap.size a := fun a h => Nat.not_le.mpr h
  have htt : ∀ w ∈ sm_tbl, w.before #[Value.ref b] s = true := fun w h => hts w (List.mem_filter.mp h).1
  have h0 : ∀ i : Nat, ∃ t : Nat, i < 31 → (sm_opT i).eval #[Value.ref b] s none [] s = some (.ref t) ∧ va_O sm_EN t (sm_Ab s.heap.size) s s.heap := by
    intro i
    by_cases hi : i < 31
    · obtain ⟨a, c, cell, k, q1, q2, q3, q4, q5, q6, -⟩ := Cond.exactly_spec (hs _ (sb_ex i hi))
      exact ⟨a, fun _ => ⟨q1, cell, q3, q5, by rw [q6]; exact q2, hA a (Array.getElem?_eq_some_iff.mp q3).1⟩⟩
    · exact ⟨0, fun h => absurd h hi⟩
  obtain ⟨ad, had⟩ := Classical.axiomOfChoice h0
  obtain ⟨t98, e98, T98⟩ := va_Tof (N := 31) (f := fun j => .ref (ad j)) (A := sm_Ab s.heap.size) (by decide) (hs _ sb_ar.1) (va_eqt (hs _ sb_ar.2.1)) (fun j hj => va_eqv (hs _ (sb_el j hj)) (had j hj).1) hA
  obtain ⟨t97, e97, T97⟩ := va_Tof (N := 31) (f := fun j => .int (sm_swm j)) (A := sm_Ab s.heap.size) (by decide) (hs _ sb_ar.2.2.1) (va_eqt (hs _ sb_ar.2.2.2)) (fun j hj => va_eqt (hs _ (sb_sw j hj))) hA
  obtain ⟨sa, s1, s2, s3, s4⟩ : ∃ sa : Nat → Nat, (∀ i, i < 31 → sa i = ad i) ∧ sa 98 = t98 ∧ sa 97 = t97 ∧ sa 99 = b :=
    ⟨fun i => if i < 31 then ad i else if i = 98 then t98 else if i = 97 then t97 else b, fun i hi => if_pos hi, rfl, rfl, rfl⟩
  have hcl : ∀ ci : Nat, ∃ q : ClassId × (Nat → Nat), ci < sm_NC → u_Kn s (sm_cn ci) (sm_T ci) (sm_nf ci) q.1 q.2 := by
    intro ci
    by_cases hci : ci < sm_NC
    · have hm := st_mk_all ci hci
      rw [Bool.and_eq_true, Bool.and_eq_true, Bool.and_eq_true] at hm
      obtain ⟨c0, i0, hk⟩ := u_known (C := sm_cn ci) (T := sm_T ci) (N := sm_nf ci) (n := sm_nf ci) htt (st_lay hci) (hts _ (of_decide_eq_true hm.1.1))
      exact ⟨(c0, i0), fun _ => hk⟩
    · exact ⟨(0, fun _ => 0), fun h => absurd h hci⟩
  obtain ⟨dQ, hdQ⟩ := Classical.axiomOfChoice hcl
  have har : ∀ t : Nat, ∃ cA : ClassId, t < sm_NA → ArrOfT s cA (sm_aty t) ∧ va_RA s cA (sm_aty t) := by
    intro t
    match t with
    | 0 =>
      obtain ⟨c, k, comp, h1, h2, h3⟩ := Cond.arrayClass_spec (hts _ sb_ao.2.2.2.1)
      exact ⟨c, fun _ => ⟨fun N z => ⟨(fun q hq => by cases hq), k, h2, comp, h3⟩, h1⟩⟩
    | 1 =>
      obtain ⟨c, k, comp, h1, h2, h3⟩ := Cond.arrayClass_spec (hts _ sb_ao.2.2.2.2)
      exact ⟨c, fun _ => ⟨fun N z => ⟨(fun q hq => by cases hq), k, h2, comp, h3⟩, h1⟩⟩
    | 2 =>
      obtain ⟨comp, c, k, h1, -, h3, h4, h5⟩ := arrayOverA_spec (hts _ sb_ao.1)
      exact ⟨c, fun _ => ⟨fun N z => ⟨(fun q hq => by cases hq), k, h3, comp, h4⟩, h5⟩⟩
    | 3 =>
      obtain ⟨comp, c, k, h1, -, h3, h4, h5⟩ := Cond.arrayOver_spec (hts _ sb_ao.2.1)
      exact ⟨c, fun _ => ⟨fun N z => ⟨(fun q hq => by cases hq), k, h3, comp, h4⟩, k, comp, h3, h4, h1, h5⟩⟩
    | 4 =>
      obtain ⟨comp, c, k, h1, -, h3, h4, h5⟩ := Cond.arrayOver_spec (hts _ sb_ao.2.2.1)
      exact ⟨c, fun _ => ⟨fun N z => ⟨(fun q hq => by cases hq), k, h3, comp, h4⟩, k, comp, h3, h4, h1, h5⟩⟩
    | n + 5 => exact ⟨0, fun h => absurd h (by show ¬ n + 5 < 5; omega)⟩
  obtain ⟨dA, hdA⟩ := Classical.axiomOfChoice har
  have hno : va_OF "java/lang/Enum" "ordinal" "I" = va_OF "java/lang/Enum" "ordinal" "I" := rfl
  have hord : ∀ i, i < 31 → va_OF "java/lang/Enum" "ordinal" "I" (.int (Int32.ofNat i)) (ad i) (sm_Ab s.heap.size) s s.heap := fun i hi => sb_of (had i hi).1 hA (hs _ (sb_f4 i hi))
  refine ⟨sa, fun k => (dQ k).1, fun k => (dQ k).2, dA, s4, ⟨?_, ?_, ?_, ?_, ?_, ?_, ?_, ?_⟩, ?_, ?_⟩
  · intro a t n f hst
    unfold sm_stat at hst
    split at hst
    next h99 =>
      cases hst
      subst h99
      rw [s4]
      obtain ⟨scr, x1, x2, x3, x4, x5⟩ := hX
      exact ⟨scr, x1, x2, x3, Nat.le_of_eq x4.symm, by rw [x4], x5, hA b hbl⟩
    next =>
      unfold sm_sta at hst
      split at hst
      next =>
        cases hst
        rw [s2]
        obtain ⟨cell, y1, y2, y3, y4, y5, y6, y7⟩ := T98
        refine ⟨cell, y1, y2, y3, y4, y5, fun j hj => ?_, y7⟩
        rw [y6 j hj]
        show _ = some (va_rf (some (sm_ad s.heap.size sa j)))
        rw [sm_ad_lo (Nat.lt_trans hj (by decide)), s1 j hj]
        rfl
      next =>
        cases hst
        rw [s3]
        exact T97
      next => cases hst
  · intro ci j a x hen
    unfold sm_enF at hen
    have hlt : ∀ {l : List Int32}, l.length = 31 → l[a]? = some x → a < 31 := fun hl h => by rw [← hl]; exact (List.getElem?_eq_some_iff.mp h).1
    unfold sm_enL at hen
    split at hen
    · have ha := hlt (by rfl) hen
      rw [s1 a ha]
      have h := sb_of (had a ha).1 hA (hs _ (sb_f0 a ha))
      rw [sb_nd (l := sm_enL 8 0) hen] at h
      exact h
    · have ha := hlt (by rfl) hen
      rw [s1 a ha]
      have h := sb_of (had a ha).1 hA (hs _ (sb_f1 a ha))
      rw [sb_nd (l := sm_enL 8 1) hen] at h
      exact h
    · have ha := hlt (by rfl) hen
      rw [s1 a ha]
      have h := sb_of (had a ha).1 hA (hs _ (sb_f2 a ha))
      rw [sb_nd (l := sm_enL 8 2) hen] at h
      exact h
    · have ha := hlt (by rfl) hen
      rw [s1 a ha]
      have h := sb_of (had a ha).1 hA (hs _ (sb_f3 a ha))
      rw [sb_nd (l := sm_enL 8 3) hen] at h
      exact h
    · have ha := hlt (by rfl) hen
      rw [s1 a ha]
      have h := hord a ha
      rw [← sb_f4b a ha, sb_nd (l := sm_enL 9 0) hen] at h
      exact h
    · cases hen
  · intro a ha
    rw [s1 a ha]
    exact (had a ha).2
  · intro i j hi hj he
    rw [s1 i hi, s1 j hj] at he
    have h1 := hord i hi
    have h2 := hord j hj
    rw [← he] at h2
    have h3 := sb_inj h1 h2
    injection h3 with h4
    exact sb_ordinals i hi j hj h4
  · intro o idx a hg
    have hl := (st_gT2 hg).2
    refine ⟨(sm_gN a).1, (sm_gN a).2.1, (sm_gN a).2.2, ?_, hl⟩
    rcases sb_gT hg with ha | rfl | rfl
    · rw [s1 a ha]
      exact va_Zof (hts _ (sb_ls a ha)) (by rw [sb_gc a ha]; exact hts _ sb_ls2.2.2.1) (had a ha).1 hA
    · rw [s3]
      exact va_Zof (hts _ sb_ls2.2.1) (hts _ sb_ls2.2.2.2.2) e97 hA
    · rw [s2]
      exact va_Zof (hts _ sb_ls2.1) (hts _ sb_ls2.2.2.2.1) e98 hA
  · intro w hw
    have h1 := List.all_eq_true.mp sb_ne w hw
    rw [Bool.and_eq_true] at h1
    exact va_Nw.of h1.2 (hts _ (of_decide_eq_true h1.1))
  · exact hts _ sb_ao.1
  · intro C hC
    unfold sm_aoC at hC
    rcases List.mem_cons.mp hC with rfl | hC
    · exact hts _ sb_ao.2.1
    · rcases List.mem_cons.mp hC with rfl | hC
      · exact hts _ sb_ao.2.2.1
      · cases hC
  · intro k q hq
    have hk := (List.getElem?_eq_some_iff.mp hq).1
    rw [st_ncl] at hk
    rw [st_cls hk] at hq
    cases hq
    exact hdQ k hk
  · intro k q hq
    have hk := (List.getElem?_eq_some_iff.mp hq).1
    have hk2 : k < sm_NA := by
      unfold sm_tys at hk
      rw [List.length_map, List.length_range] at hk
      exact hk
    rw [sm_tys_get hk2] at hq
    cases hq
    exact hdA k hk2
