/-! the cells of a run only grow in number; which instructions return or call -/
def sm_G (w w' : sm_W) : Prop := w.length ≤ w'.length ∧ sm_sl w ≤ sm_sl w'
theorem sm_G.rf {w : sm_W} : sm_G w w := ⟨Nat.le_refl _, Nat.le_refl _⟩
theorem sm_G.tr {w v u : sm_W} (h : sm_G w v) (k : sm_G v u) : sm_G w u := ⟨Nat.le_trans h.1 k.1, Nat.le_trans h.2 k.2⟩
theorem sm_G.set {w : sm_W} {k : Nat} {c c0 : sm_C} (h : w[k]? = some c0) (hz : sm_csz c = sm_csz c0) : sm_G w (w.set k c) := ⟨by rw [List.length_set]; exact Nat.le_refl _, by rw [sm_sl_set h hz]; exact Nat.le_refl _⟩
theorem sm_G.app {w v : sm_W} : sm_G w (w ++ v) := ⟨by rw [List.length_append]; exact Nat.le_add_right _ _, by rw [sm_sl_app2]; exact Nat.le_add_right _ _⟩
/-- it goes on, with no fewer cells -/
def sm_I (w : sm_W) (a : sm_A) : Prop := ∃ (pc' : Nat) (ls' st' : List Value) (w' : sm_W), a = .inl (pc', ls', st', w') ∧ sm_G w w'
theorem sm_I.rf {w : sm_W} {pc : Nat} {ls st : List Value} : sm_I w (.inl (pc, ls, st, w)) := ⟨_, _, _, _, rfl, sm_G.rf⟩
theorem sm_I.of {w w' : sm_W} {pc : Nat} {ls st : List Value} (h : sm_G w w') : sm_I w (.inl (pc, ls, st, w')) := ⟨_, _, _, _, rfl, h⟩
section SMGR
variable {X : sm_X} {mi pc k : Nat} {ls st : List Value} {w : sm_W} {a : sm_A}
theorem sm_g_ldi (h : sm_ldi ls k pc st w = some a) : sm_I w a := by
  unfold sm_ldi at h
  repeat' (split at h)
  all_goals first | (cases h; done) | (cases h; exact sm_I.rf)
theorem sm_g_ldl (h : sm_ldl ls k pc st w = some a) : sm_I w a := by
  unfold sm_ldl at h
  repeat' (split at h)
  all_goals first | (cases h; done) | (cases h; exact sm_I.rf)
theorem sm_g_lda (h : sm_lda ls k pc st w = some a) : sm_I w a := by
  unfold sm_lda at h
  repeat' (split at h)
  all_goals first | (cases h; done) | (cases h; exact sm_I.rf)
theorem sm_g_sti (h : sm_sti mi ls k pc st w = some a) : sm_I w a := by
  unfold sm_sti at h
  repeat' (split at h)
  all_goals first | (cases h; done) | (cases h; exact sm_I.rf)
theorem sm_g_stl (h : sm_stl mi ls k pc st w = some a) : sm_I w a := by
  unfold sm_stl at h
  repeat' (split at h)
  all_goals first | (cases h; done) | (cases h; exact sm_I.rf)
theorem sm_g_sta (h : sm_sta1 mi ls k pc st w = some a) : sm_I w a := by
  unfold sm_sta1 at h
  repeat' (split at h)
  all_goals first | (cases h; done) | (cases h; exact sm_I.rf)
theorem sm_g_ii {f : Int32 → Int32 → Int32} (h : sm_ii f pc ls st w = some a) : sm_I w a := by
  unfold sm_ii at h
  repeat' (split at h)
  all_goals first | (cases h; done) | (cases h; exact sm_I.rf)
theorem sm_g_ll {f : Int64 → Int64 → Int64} (h : sm_ll f pc ls st w = some a) : sm_I w a := by
  unfold sm_ll at h
  repeat' (split at h)
  all_goals first | (cases h; done) | (cases h; exact sm_I.rf)
theorem sm_g_dup0 (h : sm_dup0 pc ls st w = some a) : sm_I w a := by
  unfold sm_dup0 at h
  repeat' (split at h)
  all_goals first | (cases h; done) | (cases h; exact sm_I.rf)
theorem sm_g_dup1 (h : sm_dup1 pc ls st w = some a) : sm_I w a := by
  unfold sm_dup1 at h
  repeat' (split at h)
  all_goals first | (cases h; done) | (cases h; exact sm_I.rf)
theorem sm_g_dup2 (h : sm_dup2 pc ls st w = some a) : sm_I w a := by
  unfold sm_dup2 at h
  repeat' (split at h)
  all_goals first | (cases h; done) | (cases h; exact sm_I.rf)
theorem sm_g_pop (h : sm_pop pc ls st w = some a) : sm_I w a := by
  unfold sm_pop at h
  repeat' (split at h)
  all_goals first | (cases h; done) | (cases h; exact sm_I.rf)
theorem sm_g_aldi (h : sm_aldi X pc ls st w = some a) : sm_I w a := by
  unfold sm_aldi at h
  repeat' (split at h)
  all_goals first | (cases h; done) | (cases h; exact sm_I.rf)
theorem sm_g_aldl (h : sm_aldl pc ls st w = some a) : sm_I w a := by
  unfold sm_aldl at h
  repeat' (split at h)
  all_goals first | (cases h; done) | (cases h; exact sm_I.rf)
theorem sm_g_alda (h : sm_alda X pc ls st w = some a) : sm_I w a := by
  unfold sm_alda at h
  repeat' (split at h)
  all_goals first | (cases h; done) | (cases h; exact sm_I.rf)
theorem sm_g_len (h : sm_len X pc ls st w = some a) : sm_I w a := by
  unfold sm_len at h
  repeat' (split at h)
  all_goals first | (cases h; done) | (cases h; exact sm_I.rf)
theorem sm_g_getf (h : sm_getf mi pc k ls st w = some a) : sm_I w a := by
  unfold sm_getf at h
  repeat' (split at h)
  all_goals first | (cases h; done) | (cases h; exact sm_I.rf)
theorem sm_g_asti (h : sm_asti pc ls st w = some a) : sm_I w a := by
  unfold sm_asti at h
  split at h
  next =>
    split at h
    next => cases h
    next =>
      split at h
      next hg =>
        split at h
        next => cases h; exact sm_I.of (sm_G.set hg rfl)
        next => cases h
      next => cases h
  next => cases h
theorem sm_g_astl (h : sm_astl pc ls st w = some a) : sm_I w a := by
  unfold sm_astl at h
  split at h
  next =>
    split at h
    next => cases h
    next =>
      split at h
      next hg =>
        split at h
        next => cases h; exact sm_I.of (sm_G.set hg rfl)
        next => cases h
      next => cases h
  next => cases h
theorem sm_g_asta (h : sm_asta pc ls st w = some a) : sm_I w a := by
  unfold sm_asta at h
  split at h
  next =>
    split at h
    next => cases h
    next =>
      split at h
      next hg hv =>
        split at h
        next => cases h; exact sm_I.of (sm_G.set hg rfl)
        next => cases h
      next => cases h
  next => cases h
theorem sm_g_putf (h : sm_putf mi pc k ls st w = some a) : sm_I w a := by
  unfold sm_putf at h
  split at h
  next =>
    split at h
    next => cases h
    next =>
      split at h
      next hg =>
        split at h
        next hc => obtain ⟨rfl, -⟩ := hc; cases h; exact sm_I.of (sm_G.set hg rfl)
        next => cases h
      next => cases h
  next => cases h
theorem sm_g_newa {t : Nat} {f : Nat → (Nat → Int32) ⊕ (Nat → Int64) ⊕ (Nat → UInt32) ⊕ (Nat → UInt64) ⊕ (Nat → Option Nat)} (h : sm_newa t f pc ls st w = some a) : sm_I w a := by
  unfold sm_newa at h
  repeat' (split at h)
  all_goals first | (cases h; done) | (cases h; exact sm_I.of sm_G.app)
theorem sm_g_mna (h : sm_mna mi pc k ls st w = some a) : sm_I w a := by
  unfold sm_mna at h
  repeat' (split at h)
  all_goals first | (cases h; done) | (cases h; exact sm_I.of sm_G.app)
theorem sm_g_cpy (h : sm_cpy mi pc ls st w = some a) : sm_I w a := by
  unfold sm_cpy at h
  split at h
  next =>
    split at h
    next => cases h
    next =>
      split at h
      next ha0 ha1 =>
        split at h
        next => cases h; exact sm_I.of (sm_G.set ha1 rfl)
        next => cases h
      next => cases h
  next => cases h
theorem sm_g_jmp {off : Int} {pc2 : Nat → Nat} (h : sm_jmp pc off (fun t => sm_go (pc2 t) ls st w) = some a) : sm_I w a := by
  obtain ⟨-, h⟩ := sm_jmp_in h
  cases h
  exact sm_I.rf
/-- the instructions that may return or call -/
def sm_six (i : Instr) : Prop := i = .ireturn ∨ i = .lreturn ∨ i = .return_ ∨ (∃ k, i = .invokestatic k) ∨ (∃ k, i = .invokevirtual k) ∨ (∃ k, i = .invokespecial k)
set_option maxHeartbeats 4000000 in
theorem sm_act_inv {i : Instr} {len : Nat} (h : sm_act X mi pc i len ls st w = some a) : sm_I w a ∨ sm_six i := by
  unfold sm_act at h
  split at h
  all_goals first
    | (right; exact Or.inl rfl)
    | (right; exact Or.inr (Or.inl rfl))
    | (right; exact Or.inr (Or.inr (Or.inl rfl)))
    | (right; exact Or.inr (Or.inr (Or.inr (Or.inl ⟨_, rfl⟩))))
    | (right; exact Or.inr (Or.inr (Or.inr (Or.inr (Or.inl ⟨_, rfl⟩)))))
    | (right; exact Or.inr (Or.inr (Or.inr (Or.inr (Or.inr ⟨_, rfl⟩)))))
    | left
  all_goals first
    | (cases h; done)
    | skip
  all_goals (repeat' (split at h))
  all_goals first
    | (cases h; done)
    | (cases h; exact sm_I.rf)
    | (cases h; exact sm_I.of sm_G.app)
    | exact sm_g_ldi h | exact sm_g_ldl h | exact sm_g_lda h | exact sm_g_sti h | exact sm_g_stl h | exact sm_g_sta h | exact sm_g_ii h | exact sm_g_ll h | exact sm_g_dup0 h | exact sm_g_dup1 h | exact sm_g_dup2 h | exact sm_g_pop h | exact sm_g_aldi h | exact sm_g_aldl h | exact sm_g_alda h | exact sm_g_len h | exact sm_g_getf h | exact sm_g_asti h | exact sm_g_astl h | exact sm_g_asta h | exact sm_g_putf h | exact sm_g_newa h | exact sm_g_mna h | exact sm_g_jmp h
end SMGR
theorem sm_act_grow {X : sm_X} {mi pc : Nat} {ls st : List Value} {w : sm_W} {i : Instr} {len : Nat} {pc' : Nat} {ls' st' : List Value} {w' : sm_W} (h : sm_act X mi pc i len ls st w = some (.inl (pc', ls', st', w'))) : sm_G w w' := by
  have key : ∀ {a : sm_A}, sm_I w a → a = .inl (pc', ls', st', w') → sm_G w w' := by
    rintro a ⟨p2, l2, s2, w2, rfl, hg⟩ he
    cases he
    exact hg
  rcases sm_act_inv h with h1 | rfl | rfl | rfl | ⟨k, rfl⟩ | ⟨k, rfl⟩ | ⟨k, rfl⟩
  · exact key h1 rfl
  · dsimp only [sm_act] at h
    repeat' (split at h)
    all_goals cases h
  · dsimp only [sm_act] at h
    repeat' (split at h)
    all_goals cases h
  · dsimp only [sm_act] at h
    repeat' (split at h)
    all_goals cases h
  · dsimp only [sm_act] at h
    split at h
    next =>
      unfold sm_invs at h
      split at h
      next => exact key (sm_g_cpy h) rfl
      next =>
        split at h
        next => exact (sm_call_go h).elim
        next => cases h
    next => cases h
  · dsimp only [sm_act] at h
    split at h
    next =>
      unfold sm_inv at h
      repeat' (split at h)
      all_goals first | (cases h; done) | exact (sm_call_go h).elim
    next => cases h
  · dsimp only [sm_act] at h
    split at h
    next =>
      unfold sm_ivs at h
      repeat' (split at h)
      all_goals first | (cases h; done) | exact (sm_call_go h).elim | (cases h; exact sm_G.rf)
    next => cases h
theorem sm_ev_grow {X : sm_X} : ∀ (n : Nat) {mi pc : Nat} {ls st : List Value} {w : sm_W} {v : Option Value} {w' : sm_W}, sm_ev X n mi pc ls st w = some (v, w') → sm_G w w' := by
  intro n
  induction n with
  | zero => intro mi pc ls st w v w' h; simp [sm_ev] at h
  | succ n ih =>
    intro mi pc ls st w v w' h
    rw [sm_ev] at h
    cases hd : decode (sm_code mi) pc with
    | error e => rw [hd] at h; cases h
    | ok q =>
      obtain ⟨i, len⟩ := q
      rw [hd] at h
      dsimp only at h
      cases ha : sm_act X mi pc i len ls st w with
      | none => rw [ha] at h; cases h
      | some a =>
        rw [ha] at h
        rcases a with ⟨pc2, ls2, st2, w2⟩ | v2 | ⟨k, as, rest⟩
        · exact (sm_act_grow ha).tr (ih h)
        · cases h
          exact sm_G.rf
        · dsimp only at h
          cases he : sm_ev X n k 0 (sm_entry (sm_maxL k) as) [] w with
          | none => rw [he] at h; cases h
          | some q =>
            obtain ⟨v2, w2⟩ := q
            rw [he] at h
            exact (ih he).tr (ih h)
