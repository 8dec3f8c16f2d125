/-! RUNS of the small machine -/
theorem sm_ev_succ {X : sm_X} : ∀ (n : Nat) {mi pc : Nat} {ls st : List Value} {w : sm_W} {r : Option Value × sm_W}, sm_ev X n mi pc ls st w = some r → sm_ev X (n + 1) mi pc ls st w = some r := by
  intro n
  induction n with
  | zero => intro mi pc ls st w r h; simp [sm_ev] at h
  | succ n ih =>
    intro mi pc ls st w r h
    rw [sm_ev] at h ⊢
    cases hd : decode (sm_code mi) pc with
    | error e => rw [hd] at h; cases h
    | ok q =>
      obtain ⟨i, len⟩ := q
      rw [hd] at h
      dsimp only at h ⊢
      cases ha : sm_act X mi pc i len ls st w with
      | none => rw [ha] at h; cases h
      | some a =>
        rw [ha] at h
        rcases a with ⟨pc', ls', st', w'⟩ | v | ⟨k, args, rest⟩
        · exact ih h
        · exact h
        · dsimp only at h ⊢
          cases he : sm_ev X n k 0 (sm_entry (sm_maxL k) args) [] w with
          | none => rw [he] at h; cases h
          | some q =>
            obtain ⟨v, w'⟩ := q
            rw [he] at h
            rw [ih he]
            exact ih h
theorem sm_ev_le {X : sm_X} {n m : Nat} (hnm : n ≤ m) {mi pc : Nat} {ls st : List Value} {w : sm_W} {r : Option Value × sm_W} (h : sm_ev X n mi pc ls st w = some r) : sm_ev X m mi pc ls st w = some r := by
  induction hnm with
  | refl => exact h
  | step _ ih => exact sm_ev_succ _ ih
/-- the run comes back, and then Q holds of its answer and its cells -/
def sm_R (X : sm_X) (mi pc : Nat) (ls st : List Value) (w : sm_W) (Q : Option Value → sm_W → Prop) : Prop := ∃ (n : Nat) (v : Option Value) (w' : sm_W), sm_ev X n mi pc ls st w = some (v, w') ∧ Q v w'
theorem sm_R.mono {X : sm_X} {mi pc : Nat} {ls st : List Value} {w : sm_W} {Q Q' : Option Value → sm_W → Prop} (h : sm_R X mi pc ls st w Q) (hq : ∀ v w', Q v w' → Q' v w') : sm_R X mi pc ls st w Q' := by
  obtain ⟨n, v, w', h1, h2⟩ := h
  exact ⟨n, v, w', h1, hq v w' h2⟩
theorem sm_R_go {X : sm_X} {mi pc : Nat} {i : Instr} {len : Nat} {ls st : List Value} {w : sm_W} {pc' : Nat} {ls' st' : List Value} {w' : sm_W} {Q : Option Value → sm_W → Prop} (hd : decode (sm_code mi) pc = .ok (i, len)) (ha : sm_act X mi pc i len ls st w = some (.inl (pc', ls', st', w'))) : sm_R X mi pc ls st w Q ↔ sm_R X mi pc' ls' st' w' Q := by
  constructor
  · rintro ⟨n, v, w2, h1, h2⟩
    cases n with
    | zero => simp [sm_ev] at h1
    | succ n =>
      rw [sm_ev, hd] at h1
      dsimp only at h1
      rw [ha] at h1
      exact ⟨n, v, w2, h1, h2⟩
  · rintro ⟨n, v, w2, h1, h2⟩
    refine ⟨n + 1, v, w2, ?_, h2⟩
    rw [sm_ev, hd]
    dsimp only
    rw [ha]
    exact h1
theorem sm_R_ret {X : sm_X} {mi pc : Nat} {i : Instr} {len : Nat} {ls st : List Value} {w : sm_W} {v : Option Value} {Q : Option Value → sm_W → Prop} (hd : decode (sm_code mi) pc = .ok (i, len)) (ha : sm_act X mi pc i len ls st w = some (.inr (.inl v))) : sm_R X mi pc ls st w Q ↔ Q v w := by
  constructor
  · rintro ⟨n, v2, w2, h1, h2⟩
    cases n with
    | zero => simp [sm_ev] at h1
    | succ n =>
      rw [sm_ev, hd] at h1
      dsimp only at h1
      rw [ha] at h1
      cases h1
      exact h2
  · intro h
    refine ⟨1, v, w, ?_, h⟩
    rw [sm_ev, hd]
    dsimp only
    rw [ha]
theorem sm_R_call {X : sm_X} {mi pc : Nat} {i : Instr} {len : Nat} {ls st : List Value} {w : sm_W} {k : Nat} {args rest : List Value} {Q : Option Value → sm_W → Prop} (hd : decode (sm_code mi) pc = .ok (i, len)) (ha : sm_act X mi pc i len ls st w = some (.inr (.inr (k, args, rest)))) : sm_R X mi pc ls st w Q ↔ sm_R X k 0 (sm_entry (sm_maxL k) args) [] w (fun v w' => sm_R X mi (pc + 3) ls (v.toList ++ rest) w' Q) := by
  constructor
  · rintro ⟨n, v, w2, h1, h2⟩
    cases n with
    | zero => simp [sm_ev] at h1
    | succ n =>
      rw [sm_ev, hd] at h1
      dsimp only at h1
      rw [ha] at h1
      dsimp only at h1
      cases he : sm_ev X n k 0 (sm_entry (sm_maxL k) args) [] w with
      | none => rw [he] at h1; cases h1
      | some q =>
        obtain ⟨v', w'⟩ := q
        rw [he] at h1
        exact ⟨n, v', w', he, n, v, w2, h1, h2⟩
  · rintro ⟨n, v', w', he, m, v, w2, h1, h2⟩
    refine ⟨n + m + 1, v, w2, ?_, h2⟩
    rw [sm_ev, hd]
    dsimp only
    rw [ha]
    dsimp only
    rw [sm_ev_le (Nat.le_add_right n m) he]
    exact sm_ev_le (Nat.le_add_left m n) h1
