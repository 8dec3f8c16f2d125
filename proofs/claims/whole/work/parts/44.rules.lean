/-! rules for runs, as equivalences that simp can use -/
def sm_wp {α : Type} (o : Option α) (k : α → Prop) : Prop := match o with
  | some x => k x
  | none => False
theorem sm_wp_some {α : Type} (x : α) (k : α → Prop) : sm_wp (some x) k = k x := rfl
theorem sm_wp_none {α : Type} (k : α → Prop) : sm_wp none k = False := rfl
theorem sm_wp_if {α : Type} (c : Prop) [Decidable c] (x : α) (k : α → Prop) : sm_wp (if c then some x else none) k ↔ c ∧ k x := by
  by_cases h : c <;> simp [h, sm_wp]
def sm_at (w : sm_W) (a : Nat) : Option sm_C := if a < 100 then none else w[a - 100]?
def sm_fld (ci j : Nat) (c : Option sm_C) : Option Value := match c with
  | some (.inr (c2, fs)) => if c2 = ci then fs[j]? else none
  | _ => none
def sm_pfl (ci j : Nat) (v : Value) (c : Option sm_C) : Option sm_C := match c with
  | some (.inr (c2, fs)) => if c2 = ci ∧ j < fs.length then some (.inr (ci, fs.set j v)) else none
  | _ => none
def sm_cN (c : Option sm_C) : Option Nat := match c with
  | some (.inr (ci, _)) => some ci
  | _ => none
def sm_ai (i : Int32) (c : Option sm_C) : Option Int32 := match c with
  | some (.inl (0, n, .inl f)) => if sm_in i n = true then some (f i.toNatClampNeg) else none
  | _ => none
def sm_al (i : Int32) (c : Option sm_C) : Option Int64 := match c with
  | some (.inl (1, n, .inr (.inl f))) => if sm_in i n = true then some (f i.toNatClampNeg) else none
  | _ => none
def sm_aa (a : Nat) (i : Int32) (c : Option sm_C) : Option Nat := match c with
  | some (.inl (t, n, .inr (.inr (.inr (.inr f))))) => if sm_in i n = true ∧ 2 ≤ t ∧ t < 6 ∧ (a < 100 ∨ t < sm_NA) then f i.toNatClampNeg else none
  | _ => none
def sm_si (i x : Int32) (c : Option sm_C) : Option sm_C := match c with
  | some (.inl (0, n, .inl f)) => if sm_in i n = true then some (.inl (0, n, .inl (upd f i.toNatClampNeg x))) else none
  | _ => none
def sm_slg (i : Int32) (x : Int64) (c : Option sm_C) : Option sm_C := match c with
  | some (.inl (1, n, .inr (.inl f))) => if sm_in i n = true then some (.inl (1, n, .inr (.inl (vp_updL f i.toNatClampNeg x)))) else none
  | _ => none
def sm_ln (a : Nat) (c : Option sm_C) : Option Int32 := match c with
  | some (.inl (t, n, _)) => if a < 100 ∨ t < sm_NA then some (Int32.ofNat n) else none
  | _ => none
def sm_sa (i : Int32) (b : Nat) (c c2 : Option sm_C) : Option sm_C := match c, c2 with
  | some (.inl (t, n, .inr (.inr (.inr (.inr f))))), some (.inr (ci, _)) => if sm_in i n = true ∧ t < sm_NA ∧ ci < sm_NC ∧ sm_aty t = .object (sm_cn ci) then some (.inl (t, n, .inr (.inr (.inr (.inr (va_up f i.toNatClampNeg (some b))))))) else none
  | _, _ => none
def sm_cpi (sp dp n : Int32) (c0 c1 : Option sm_C) : Option sm_C := match c0, c1 with
  | some (.inl (0, n0, .inl f)), some (.inl (0, n1, .inl g)) => if ¬ (sp < 0 ∨ dp < 0 ∨ n < 0) ∧ sp.toNatClampNeg + n.toNatClampNeg ≤ n0 ∧ dp.toNatClampNeg + n.toNatClampNeg ≤ n1 then some (.inl (0, n1, .inl (va_cpy f g sp.toNatClampNeg dp.toNatClampNeg n.toNatClampNeg))) else none
  | _, _ => none
def sm_K (X : sm_X) (mi pc : Nat) (ls : List Value) (w : sm_W) (Q : Option Value → sm_W → Prop) (a : Option sm_A) : Prop := match a with
  | none => False
  | some (.inl (pc', ls', st', w')) => sm_R X mi pc' ls' st' w' Q
  | some (.inr (.inl v)) => Q v w
  | some (.inr (.inr (k, args, rest))) => sm_R X k 0 (sm_entry (sm_maxL k) args) [] w (fun v w' => sm_R X mi (pc + 3) ls (v.toList ++ rest) w' Q)
section SMRU
variable {X : sm_X} {mi pc len : Nat} {ls st : List Value} {w : sm_W} {Q : Option Value → sm_W → Prop}
theorem sm_R_step {i : Instr} (hd : decode (sm_code mi) pc = .ok (i, len)) : sm_R X mi pc ls st w Q ↔ sm_K X mi pc ls w Q (sm_act X mi pc i len ls st w) := by
  cases ha : sm_act X mi pc i len ls st w with
  | none =>
    refine ⟨?_, fun h => h.elim⟩
    rintro ⟨n, v, w2, h1, h2⟩
    cases n with
    | zero => simp [sm_ev] at h1
    | succ n =>
      rw [sm_ev, hd] at h1
      dsimp only at h1
      rw [ha] at h1
      cases h1
  | some a =>
    rcases a with ⟨pc', ls', st', w'⟩ | v | ⟨k, args, rest⟩
    · exact sm_R_go hd ha
    · exact sm_R_ret hd ha
    · exact sm_R_call hd ha
theorem sm_q_call {i : Instr} {k : Nat} {as rest ls0 : List Value} (hd : decode (sm_code mi) pc = .ok (i, len)) (ha : sm_act X mi pc i len ls st w = some (.inr (.inr (k, as, rest)))) (hls : sm_entry (sm_maxL k) as = ls0) : sm_R X mi pc ls st w Q ↔ sm_R X k 0 ls0 [] w (fun v w' => sm_R X mi (pc + 3) ls (v.toList ++ rest) w' Q) := by
  subst hls
  exact sm_R_call hd ha
theorem sm_q_br {i : Instr} {c : Prop} [Decidable c] {a b : Nat} {st' : List Value} (hd : decode (sm_code mi) pc = .ok (i, len)) (ha : sm_act X mi pc i len ls st w = some (.inl (if c then a else b, ls, st', w))) : sm_R X mi pc ls st w Q ↔ if c then sm_R X mi a ls st' w Q else sm_R X mi b ls st' w Q := by
  rw [sm_R_go hd ha]
  by_cases h : c <;> simp only [h, if_true, if_false]
theorem sm_q_getf {k ci j a : Nat} (hd : decode (sm_code mi) pc = .ok (.getfield k, 3)) (hf : sm_fT (sm_own mi) k = some (ci, j)) (hc : ci < sm_NC) : sm_R X mi pc ls (.ref a :: st) w Q ↔ sm_wp (sm_fld ci j (sm_at w a)) (fun v => sm_R X mi (pc + 3) ls (v :: st) w Q) := by
  rw [sm_R_step hd]
  show sm_K X mi pc ls w Q (sm_getf mi pc k ls (.ref a :: st) w) ↔ _
  unfold sm_getf sm_at
  rw [hf]
  dsimp only
  by_cases h : a < 100
  · rw [if_pos h, if_pos h, st_enN0 hc]
    exact Iff.rfl
  · rw [if_neg h, if_neg h]
    rcases hw : w[a - 100]? with _ | (_ | ⟨c2, fs⟩)
    · exact Iff.rfl
    · exact Iff.rfl
    · dsimp only [sm_fld]
      by_cases h2 : c2 = ci
      · rw [if_pos h2, if_pos h2]
        cases fs[j]? <;> exact Iff.rfl
      · rw [if_neg h2, if_neg h2]
        exact Iff.rfl
theorem sm_q_gete {k ci j a : Nat} (hd : decode (sm_code mi) pc = .ok (.getfield k, 3)) (hf : sm_fT (sm_own mi) k = some (ci, j)) (ha : a < 100) : sm_R X mi pc ls (.ref a :: st) w Q ↔ sm_wp (sm_enF ci j a) (fun x => sm_R X mi (pc + 3) ls (.int x :: st) w Q) := by
  rw [sm_R_step hd]
  show sm_K X mi pc ls w Q (sm_getf mi pc k ls (.ref a :: st) w) ↔ _
  unfold sm_getf
  rw [hf]
  dsimp only
  rw [if_pos ha]
  cases sm_enF ci j a <;> exact Iff.rfl
theorem sm_q_putf {k ci j a : Nat} {v : Value} (hd : decode (sm_code mi) pc = .ok (.putfield k, 3)) (hf : sm_fT (sm_own mi) k = some (ci, j)) (h1 : narrow (sm_fty ci j) v = v) (h2 : fits (sm_fty ci j) v = true) (h3 : sm_fin ci j = true → sm_ini mi = true ∧ sm_own mi = ci) : sm_R X mi pc ls (v :: .ref a :: st) w Q ↔ sm_wp (sm_pfl ci j v (sm_at w a)) (fun c => sm_R X mi (pc + 3) ls st (w.set (a - 100) c) Q) := by
  rw [sm_R_step hd]
  show sm_K X mi pc ls w Q (sm_putf mi pc k ls (v :: .ref a :: st) w) ↔ _
  unfold sm_putf sm_at
  rw [hf]
  dsimp only
  by_cases h : a < 100
  · rw [if_pos h, if_pos h]
    exact Iff.rfl
  · rw [if_neg h, if_neg h]
    rcases hw : w[a - 100]? with _ | (_ | ⟨c2, fs⟩)
    · exact Iff.rfl
    · exact Iff.rfl
    · dsimp only [sm_pfl]
      by_cases h4 : c2 = ci ∧ j < fs.length
      · rw [if_pos h4, if_pos ⟨h4.1, h4.2, h1, h2, h3⟩]
        exact Iff.rfl
      · rw [if_neg h4, if_neg (fun q => h4 ⟨q.1, q.2.1⟩)]
        exact Iff.rfl
theorem sm_q_iald {a : Nat} {i : Int32} (hd : decode (sm_code mi) pc = .ok (.iaload, 1)) : sm_R X mi pc ls (.int i :: .ref a :: st) w Q ↔ sm_wp (sm_ai i (sm_get X w a)) (fun x => sm_R X mi (pc + 1) ls (.int x :: st) w Q) := by
  rw [sm_R_step hd]
  show sm_K X mi pc ls w Q (sm_aldi X pc ls (.int i :: .ref a :: st) w) ↔ _
  unfold sm_aldi sm_ai
  dsimp only
  split
  next n f hg =>
    rw [hg]
    show sm_K X mi pc ls w Q (if sm_in i n = true then _ else none) ↔ sm_wp (if sm_in i n = true then some (f i.toNatClampNeg) else none) _
    by_cases h9 : sm_in i n = true
    · rw [if_pos h9, if_pos h9]
      exact Iff.rfl
    · rw [if_neg h9, if_neg h9]
      exact Iff.rfl
  next hg =>
    split
    next n f hg2 => exact absurd hg2 (hg n f)
    next => exact Iff.rfl
theorem sm_q_lald {a : Nat} {i : Int32} (hd : decode (sm_code mi) pc = .ok (.laload, 1)) : sm_R X mi pc ls (.int i :: .ref a :: st) w Q ↔ sm_wp (sm_al i (sm_at w a)) (fun x => sm_R X mi (pc + 1) ls (.long x :: st) w Q) := by
  rw [sm_R_step hd]
  show sm_K X mi pc ls w Q (sm_aldl pc ls (.int i :: .ref a :: st) w) ↔ _
  unfold sm_aldl sm_al sm_at
  dsimp only
  by_cases h : a < 100
  · rw [if_pos h, if_pos h]
    exact Iff.rfl
  · rw [if_neg h, if_neg h]
    split
    next n f hg =>
      rw [hg]
      show sm_K X mi pc ls w Q (if sm_in i n = true then _ else none) ↔ sm_wp (if sm_in i n = true then some (f i.toNatClampNeg) else none) _
      by_cases h9 : sm_in i n = true
      · rw [if_pos h9, if_pos h9]
        exact Iff.rfl
      · rw [if_neg h9, if_neg h9]
        exact Iff.rfl
    next hg =>
      split
      next n f hg2 => exact absurd hg2 (hg n f)
      next => exact Iff.rfl
theorem sm_q_aald {a : Nat} {i : Int32} (hd : decode (sm_code mi) pc = .ok (.aaload, 1)) : sm_R X mi pc ls (.int i :: .ref a :: st) w Q ↔ sm_wp (sm_aa a i (sm_get X w a)) (fun x => sm_R X mi (pc + 1) ls (.ref x :: st) w Q) := by
  rw [sm_R_step hd]
  show sm_K X mi pc ls w Q (sm_alda X pc ls (.int i :: .ref a :: st) w) ↔ _
  unfold sm_alda sm_aa
  dsimp only
  split
  next t n f hg =>
    rw [hg]
    try dsimp only
    split
    next => cases f i.toNatClampNeg <;> exact Iff.rfl
    next => exact Iff.rfl
  next hg =>
    split
    next t n f hg2 => exact absurd hg2 (hg t n f)
    next => exact Iff.rfl
theorem sm_q_iast {a : Nat} {i x : Int32} (hd : decode (sm_code mi) pc = .ok (.iastore, 1)) : sm_R X mi pc ls (.int x :: .int i :: .ref a :: st) w Q ↔ sm_wp (sm_si i x (sm_at w a)) (fun c => sm_R X mi (pc + 1) ls st (w.set (a - 100) c) Q) := by
  rw [sm_R_step hd]
  show sm_K X mi pc ls w Q (sm_asti pc ls (.int x :: .int i :: .ref a :: st) w) ↔ _
  unfold sm_asti sm_si sm_at
  dsimp only
  by_cases h : a < 100
  · rw [if_pos h, if_pos h]
    exact Iff.rfl
  · rw [if_neg h, if_neg h]
    split
    next n f hg =>
      rw [hg]
      show sm_K X mi pc ls w Q (if sm_in i n = true then _ else none) ↔ sm_wp (α := sm_C) (if sm_in i n = true then some (.inl (0, n, .inl (upd f i.toNatClampNeg x))) else none) _
      by_cases h9 : sm_in i n = true
      · rw [if_pos h9, if_pos h9]
        exact Iff.rfl
      · rw [if_neg h9, if_neg h9]
        exact Iff.rfl
    next hg =>
      split
      next n f hg2 => exact absurd hg2 (hg n f)
      next => exact Iff.rfl
theorem sm_q_last {a : Nat} {i : Int32} {x : Int64} (hd : decode (sm_code mi) pc = .ok (.lastore, 1)) : sm_R X mi pc ls (.long x :: .int i :: .ref a :: st) w Q ↔ sm_wp (sm_slg i x (sm_at w a)) (fun c => sm_R X mi (pc + 1) ls st (w.set (a - 100) c) Q) := by
  rw [sm_R_step hd]
  show sm_K X mi pc ls w Q (sm_astl pc ls (.long x :: .int i :: .ref a :: st) w) ↔ _
  unfold sm_astl sm_slg sm_at
  dsimp only
  by_cases h : a < 100
  · rw [if_pos h, if_pos h]
    exact Iff.rfl
  · rw [if_neg h, if_neg h]
    split
    next n f hg =>
      rw [hg]
      show sm_K X mi pc ls w Q (if sm_in i n = true then _ else none) ↔ sm_wp (α := sm_C) (if sm_in i n = true then some (.inl (1, n, .inr (.inl (vp_updL f i.toNatClampNeg x)))) else none) _
      by_cases h9 : sm_in i n = true
      · rw [if_pos h9, if_pos h9]
        exact Iff.rfl
      · rw [if_neg h9, if_neg h9]
        exact Iff.rfl
    next hg =>
      split
      next n f hg2 => exact absurd hg2 (hg n f)
      next => exact Iff.rfl
theorem sm_q_aast {a b : Nat} {i : Int32} (hd : decode (sm_code mi) pc = .ok (.aastore, 1)) : sm_R X mi pc ls (.ref b :: .int i :: .ref a :: st) w Q ↔ sm_wp (sm_sa i b (sm_at w a) (sm_at w b)) (fun c => sm_R X mi (pc + 1) ls st (w.set (a - 100) c) Q) := by
  rw [sm_R_step hd]
  show sm_K X mi pc ls w Q (sm_asta pc ls (.ref b :: .int i :: .ref a :: st) w) ↔ _
  unfold sm_asta sm_sa sm_at
  dsimp only
  by_cases ha : a < 100
  · rw [if_pos (Or.inl ha), if_pos ha]
    exact Iff.rfl
  · by_cases hb : b < 100
    · rw [if_pos (Or.inr hb), if_neg ha, if_pos hb]
      split
      next h => cases h
      next => exact Iff.rfl
    · rw [if_neg (fun q => q.elim ha hb), if_neg ha, if_neg hb]
      split
      next t n f ci fs hg hv =>
        rw [hg, hv]
        try dsimp only
        split <;> exact Iff.rfl
      next hg =>
        split
        next t n f ci fs hg2 hv2 => exact absurd hv2 (hg t n f ci fs hg2)
        next => exact Iff.rfl
theorem sm_q_len {a : Nat} (hd : decode (sm_code mi) pc = .ok (.arraylength, 1)) : sm_R X mi pc ls (.ref a :: st) w Q ↔ sm_wp (sm_ln a (sm_get X w a)) (fun x => sm_R X mi (pc + 1) ls (.int x :: st) w Q) := by
  rw [sm_R_step hd]
  show sm_K X mi pc ls w Q (sm_len X pc ls (.ref a :: st) w) ↔ _
  unfold sm_len sm_ln
  dsimp only
  split
  next t n f hg =>
    rw [hg]
    try dsimp only
    split <;> exact Iff.rfl
  next hg =>
    split
    next t n f hg2 => exact absurd hg2 (hg t n f)
    next => exact Iff.rfl
theorem sm_q_irem {x y : Int32} (hd : decode (sm_code mi) pc = .ok (.irem, 1)) (h : ¬ y = 0) : sm_R X mi pc ls (.int y :: .int x :: st) w Q ↔ sm_R X mi (pc + 1) ls (.int (x - x / y * y) :: st) w Q := sm_R_go hd (if_neg h)
theorem sm_q_ldiv {x y : Int64} (hd : decode (sm_code mi) pc = .ok (.ldiv, 1)) (h : ¬ y = 0) : sm_R X mi pc ls (.long y :: .long x :: st) w Q ↔ sm_R X mi (pc + 1) ls (.long (x / y) :: st) w Q := sm_R_go hd (if_neg h)
theorem sm_q_acmp {a b tgt : Nat} {off : Int} (hd : decode (sm_code mi) pc = .ok (.if_acmp .ne off, 3)) (ht : (pc : Int) + off = (tgt : Int)) (h : b < 31 ∧ a < 31) : sm_R X mi pc ls (.ref b :: .ref a :: st) w Q ↔ if a = b then sm_R X mi (pc + 3) ls st w Q else sm_R X mi tgt ls st w Q := by
  have e : sm_tgt pc off = tgt := by unfold sm_tgt; rw [ht]; rfl
  refine sm_q_br hd ?_
  show (if a < sm_enN ∧ b < sm_enN then sm_jmp pc off _ else none) = _
  rw [if_pos ⟨h.2, h.1⟩]
  unfold sm_jmp
  rw [e, if_pos ht]
theorem sm_bn {x : Int32} (h : x = 0 ∨ x = 1) : narrow .boolean (.int x) = .int x := by
  rcases h with rfl | rfl <;> rfl
theorem sm_bf {x : Int32} (h : x = 0 ∨ x = 1) : fits .boolean (.int x) = true := by
  rcases h with rfl | rfl <;> rfl
theorem sm_q_zret {x : Int32} (hd : decode (sm_code mi) pc = .ok (.ireturn, 1)) (hr : sm_ret mi = some .boolean) (h : x = 0 ∨ x = 1) : sm_R X mi pc ls [.int x] w Q ↔ Q (some (.int x)) w := by
  refine sm_R_ret hd ?_
  dsimp only [sm_act]
  rw [if_pos rfl, hr]
  exact if_pos (sm_bn h)
theorem sm_q_iret {x : Int32} (hd : decode (sm_code mi) pc = .ok (.ireturn, 1)) (hr : sm_ret mi = some .int) : sm_R X mi pc ls [.int x] w Q ↔ Q (some (.int x)) w := by
  refine sm_R_ret hd ?_
  dsimp only [sm_act]
  rw [if_pos rfl, hr]
  exact if_pos rfl
theorem sm_q_obj {k a : Nat} (hd : decode (sm_code mi) pc = .ok (.invokespecial k, 3)) (hk : sm_obT (sm_own mi) k = true) (h1 : (st.map fun v => v.category).sum ≤ 8) (h2 : ¬ (sm_lev mi = 0 ∨ sm_loc mi < 20)) (h3 : ¬ a < 100) : sm_R X mi pc ls (.ref a :: st) w Q ↔ sm_R X mi (pc + 3) ls st w Q := by
  refine sm_R_go hd ?_
  show sm_ivs mi pc k ls (.ref a :: st) w = _
  unfold sm_ivs
  rw [if_pos hk]
  dsimp only
  rw [if_neg (Nat.not_lt.mpr h1), if_neg h2, if_neg h3]
theorem sm_q_cpy {k a b : Nat} {n dp sp : Int32} (hd : decode (sm_code mi) pc = .ok (.invokestatic k, 3)) (hk : sm_cpT (sm_own mi) k = true) (h1 : (st.map fun v => v.category).sum ≤ 8) (h2 : ¬ (sm_lev mi = 0 ∨ sm_loc mi < 26)) (h3 : ¬ (a < 100 ∨ b < 100)) : sm_R X mi pc ls (.int n :: .int dp :: .ref b :: .int sp :: .ref a :: st) w Q ↔ sm_wp (sm_cpi sp dp n (sm_at w a) (sm_at w b)) (fun c => sm_R X mi (pc + 3) ls st (w.set (b - 100) c) Q) := by
  rw [sm_R_step hd]
  show sm_K X mi pc ls w Q (sm_invs mi pc k ls (.int n :: .int dp :: .ref b :: .int sp :: .ref a :: st) w) ↔ _
  unfold sm_invs
  rw [if_pos hk]
  unfold sm_cpy sm_cpi sm_at
  dsimp only
  have ha : ¬ a < 100 := fun q => h3 (Or.inl q)
  have hb : ¬ b < 100 := fun q => h3 (Or.inr q)
  rw [if_neg ha, if_neg hb]
  by_cases hn : sp < 0 ∨ dp < 0 ∨ n < 0
  · rw [if_pos (by
      rcases hn with q | q | q
      · exact Or.inr (Or.inr (Or.inr (Or.inr (Or.inl q))))
      · exact Or.inr (Or.inr (Or.inr (Or.inr (Or.inr (Or.inl q)))))
      · exact Or.inr (Or.inr (Or.inr (Or.inr (Or.inr (Or.inr (Or.inl q)))))))]
    split
    next n0 f n1 g hg hv =>
      rw [if_neg (fun q => q.1 hn)]
      exact Iff.rfl
    next => exact Iff.rfl
  · rw [if_neg (by
      rintro (q | q | q | q | q | q | q | q)
      · exact h2 (Or.inl q)
      · exact h2 (Or.inr q)
      · exact ha q
      · exact hb q
      · exact hn (Or.inl q)
      · exact hn (Or.inr (Or.inl q))
      · exact hn (Or.inr (Or.inr q))
      · omega)]
    split
    next n0 f n1 g hg hv =>
      rw [hg, hv]
      show _ ↔ sm_wp (α := sm_C) (if ¬ (sp < 0 ∨ dp < 0 ∨ n < 0) ∧ sp.toNatClampNeg + n.toNatClampNeg ≤ n0 ∧ dp.toNatClampNeg + n.toNatClampNeg ≤ n1 then some (.inl (0, n1, .inl (va_cpy f g sp.toNatClampNeg dp.toNatClampNeg n.toNatClampNeg))) else none) _
      by_cases hle : sp.toNatClampNeg + n.toNatClampNeg ≤ n0 ∧ dp.toNatClampNeg + n.toNatClampNeg ≤ n1
      · rw [if_pos hle, if_pos ⟨hn, hle⟩]
        exact Iff.rfl
      · rw [if_neg hle, if_neg (fun q => hle q.2)]
        exact Iff.rfl
    next hg =>
      split
      next n0 f n1 g hg2 hv2 => exact absurd hv2 (hg n0 f n1 g hg2)
      next => exact Iff.rfl
theorem sm_q_vir {k idx a : Nat} {as rest ls0 : List Value} (hd : decode (sm_code mi) pc = .ok (.invokevirtual idx, 3)) (hk : sm_vT (sm_own mi) idx = some k) (hst : st.drop (sm_par k - 1) = .ref a :: rest) (hen : sm_enM k = false) (hcall : sm_call mi k (.ref a :: (st.take (sm_par k - 1)).reverse) rest = some (.inr (.inr (k, as, rest)))) (hls : sm_entry (sm_maxL k) as = ls0) : sm_R X mi pc ls st w Q ↔ (sm_cN (sm_at w a) = some (sm_own k) ∧ sm_R X k 0 ls0 [] w (fun v w' => sm_R X mi (pc + 3) ls (v.toList ++ rest) w' Q)) := by
  subst hls
  rw [sm_R_step hd]
  show sm_K X mi pc ls w Q (sm_inv mi idx st w) ↔ _
  unfold sm_inv sm_at
  rw [hk]
  dsimp only
  rw [hst]
  dsimp only
  by_cases h : a < 100
  · rw [if_pos h, if_pos h, if_neg (fun q => by rw [hen] at q; exact absurd q.2 (by decide))]
    refine ⟨fun q => q.elim, fun q => ?_⟩
    cases q.1
  · rw [if_neg h, if_neg h]
    rcases hw : w[a - 100]? with _ | (_ | ⟨ci, fs⟩)
    · exact ⟨fun q => q.elim, fun q => by cases q.1⟩
    · exact ⟨fun q => q.elim, fun q => by cases q.1⟩
    · dsimp only [sm_cN]
      by_cases hc : sm_own k = ci
      · rw [if_pos ⟨hen, hc⟩, hcall, hc]
        exact ⟨fun q => ⟨rfl, q⟩, fun q => q.2⟩
      · rw [if_neg (fun q => hc q.2)]
        exact ⟨fun q => q.elim, fun q => absurd (Option.some.inj q.1).symm hc⟩
theorem sm_q_virE {k idx a : Nat} {as rest ls0 : List Value} (hd : decode (sm_code mi) pc = .ok (.invokevirtual idx, 3)) (hk : sm_vT (sm_own mi) idx = some k) (hst : st.drop (sm_par k - 1) = .ref a :: rest) (hen : sm_enM k = true) (ha : a < 31) (hcall : sm_call mi k (.ref a :: (st.take (sm_par k - 1)).reverse) rest = some (.inr (.inr (k, as, rest)))) (hls : sm_entry (sm_maxL k) as = ls0 := by rfl) : sm_R X mi pc ls st w Q ↔ sm_R X k 0 ls0 [] w (fun v w' => sm_R X mi (pc + 3) ls (v.toList ++ rest) w' Q) := by
  subst hls
  refine sm_R_call hd ?_
  show sm_inv mi idx st w = _
  unfold sm_inv
  rw [hk]
  dsimp only
  rw [hst]
  dsimp only
  rw [if_pos (Nat.lt_trans ha (by decide)), if_pos ⟨ha, hen⟩]
  exact hcall
end SMRU
