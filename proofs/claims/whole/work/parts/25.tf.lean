/-! WHAT STOOD THERE BEFORE THE LAW BEGAN, and is never written: the script, the enum's constants, two static arrays; words of the tables that are no steady ones -/
abbrev sm_Ab (B : Nat) : Nat → Prop := fun q => B ≤ q
def sm_cv (B : Nat) (sa : Nat → Nat) (f : (Nat → Int32) ⊕ (Nat → Int64) ⊕ (Nat → UInt32) ⊕ (Nat → UInt64) ⊕ (Nat → Option Nat)) (j : Nat) : Value := match f with
  | .inl f => .int (f j)
  | .inr (.inl f) => .long (f j)
  | .inr (.inr (.inl f)) => .float (f j)
  | .inr (.inr (.inr (.inl f))) => .double (f j)
  | .inr (.inr (.inr (.inr f))) => va_rf ((f j).map (sm_ad B sa))
/-- the class of int[][] is there -/
def sm_AOA (U : State) : Prop := (Cond.arrayOver (.array .int)).before #[] U = true
theorem sm_AOA.use {A : Array Value} {U : State} (h : sm_AOA U) : (Cond.arrayOver (.array .int)).before A U = true := h
theorem sm_AOA.moved {u U : State} (hvm : u.vm.Alike U.vm) (h : sm_AOA u) : sm_AOA U := by
  obtain ⟨comp, c, k, h1, h2, h3, h4, h5⟩ := arrayOverA_spec h
  obtain ⟨k', hk', he⟩ := hvm.2.2 _ _ h3
  have hi : (U.vm.classes.findIdx? fun (x : Class) => match x.kind with | .array component _ => component == comp | _ => false) = some c := by
    refine Eq.trans (va_idx_bare U.vm comp).symm ?_
    have e2 := va_idx_bare u.vm comp
    first
      | (rw [hvm.bare_eq] at e2; exact e2.trans h2)
      | (rw [← hvm.bare_eq] at e2; exact e2.trans h2)
  have g1 : k'.kind = .array comp (.array .int) := by rw [he]; exact h4
  have g2 : U.vm.findClass (FieldType.array .int).toString = some comp := by rw [hvm.findClass]; exact h1
  have g3 : U.vm.findClass ("[" ++ (FieldType.array .int).toString) = some c := by rw [hvm.findClass]; exact h5
  unfold sm_AOA Cond.before Cond.holds
  simp only [Cond.value]
  rw [g2, Option.bind_some]
  refine (congrArg (fun o : Option Nat => (o.bind (fun c => (U.vm.classes[c]?).map fun (k : Class) => match k.kind with | .array _ ty => decide (ty = FieldType.array .int) && decide (U.vm.findClass ("[" ++ (FieldType.array .int).toString) = some c) | _ => false) == some true)) hi).trans ?_
  simp [hk', g1, g3]
def sm_TF (B : Nat) (sa : Nat → Nat) (X : sm_X) (U : State) (H : Heap) : Prop :=
  (∀ (a t n : Nat) (f : (Nat → Int32) ⊕ (Nat → Int64) ⊕ (Nat → UInt32) ⊕ (Nat → UInt64) ⊕ (Nat → Option Nat)), sm_stat X a = some (.inl (t, n, f)) → va_T (sm_aty t) (sa a) n (sm_cv B sa f) (sm_Ab B) U H) ∧
  (∀ (ci j a : Nat) (x : Int32), sm_enF ci j a = some x → va_OF (sm_T ci j).1 (sm_T ci j).2.1 (sm_T ci j).2.2.1 (.int x) (sa a) (sm_Ab B) U H) ∧
  (∀ a : Nat, a < sm_enN → va_O sm_EN (sa a) (sm_Ab B) U H) ∧
  (∀ a b : Nat, a < sm_enN → b < sm_enN → sa a = sa b → a = b) ∧
  (∀ (o idx a : Nat), sm_gT o idx = some a → ∃ C n d, va_Z C n d (.ref (sa a)) (sm_Ab B) U H ∧ (Cond.fieldLink (sm_cn o) idx C n d ∈ sm_tbl ∨ ∃ host, Cond.fieldLinkNest (sm_cn o) idx C n d host ∈ sm_nest)) ∧
  (∀ w ∈ sm_nest, va_Nw w U) ∧
  sm_AOA U ∧ (∀ C ∈ sm_aoC, va_AO C U)
theorem sm_TF.kept {B : Nat} {sa : Nat → Nat} {X : sm_X} {U : State} {H H1 : Heap} (hq : ∀ a : Nat, a < H.size → ¬ sm_Ab B a → H1[a]? = H[a]?) (h : sm_TF B sa X U H) : sm_TF B sa X U H1 := by
  obtain ⟨h1, h2, h3, h4, h5, h6, h7, h8⟩ := h
  refine ⟨fun a t n f q => (h1 a t n f q).kept hq, fun ci j a x q => (h2 ci j a x q).kept hq, fun a q => (h3 a q).kept hq, h4, fun o idx a q => ?_, h6, h7, h8⟩
  obtain ⟨C, n, d, hZ, hl⟩ := h5 o idx a q
  exact ⟨C, n, d, hZ.kept hq, hl⟩
theorem sm_nest_warm {s U : State} (hW : s.WarmedH U.vm) : ∀ w ∈ sm_nest, va_Nw w s → va_Nw w U := by
  intro w hw h
  unfold sm_nest at hw
  rcases List.mem_append.mp hw with h1 | h1
  · obtain ⟨q, -, rfl⟩ := List.mem_map.mp h1
    exact va_Nw.warmF hW h
  · obtain ⟨q, -, rfl⟩ := List.mem_map.mp h1
    exact va_Nw.warmM hW h
theorem sm_TF.warm {B : Nat} {sa : Nat → Nat} {X : sm_X} {s U : State} {H : Heap} (hW : s.WarmedH U.vm) (h : sm_TF B sa X s H) : sm_TF B sa X U H := by
  obtain ⟨h1, h2, h3, h4, h5, h6, h7, h8⟩ := h
  have hvm := hW.alike
  refine ⟨fun a t n f q => (h1 a t n f q).moved hvm, fun ci j a x q => (h2 ci j a x q).moved hvm, fun a q => (h3 a q).moved hvm, h4, fun o idx a q => ?_, fun w hw => sm_nest_warm hW w hw (h6 w hw), h7.moved hvm, fun C hC => (h8 C hC).moved hvm⟩
  obtain ⟨C, n, d, hZ, hl⟩ := h5 o idx a q
  exact ⟨C, n, d, hZ.moved hvm, hl⟩
