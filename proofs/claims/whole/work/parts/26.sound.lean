/-! WHAT A RUN OF THE SMALL MACHINE SAYS OF THE REAL ONE -/
def sm_tys (dA : Nat → ClassId) : List (ClassId × FieldType) := (List.range sm_NA).map fun t => (dA t, sm_aty t)
theorem sm_tys_get {dA : Nat → ClassId} {t : Nat} (h : t < sm_NA) : (sm_tys dA)[t]? = some (dA t, sm_aty t) := by
  unfold sm_tys
  rw [List.getElem?_map, List.getElem?_range h]
  rfl
/-- a method's frame: the machine, its code, the tables' words, what stood there before the law began -/
def sm_Fr (B : Nat) (sa : Nat → Nat) (dC : Nat → ClassId) (dI : Nat → Nat → Nat) (dA : Nat → ClassId) (X : sm_X) (mi : Nat) (p : Program) (s : State) (m : MethodId) (args : Array Value) (meth : Method) (c : Code) : Prop :=
  p.tables.exec = Jvm.exec ∧ c.code = sm_code mi ∧ meth.sig.returnType = sm_ret mi ∧ c.maxLocals = sm_maxL mi ∧ s.vm.findClass (sm_cn (sm_own mi)) = some m.cls ∧ (∀ w ∈ sm_tbl, w.before args s = true) ∧ meth.locks = false ∧ (sm_ini mi = true → meth.name = "<init>") ∧ va_K (dC, dI) sm_cls (sm_tys dA) s ∧ sm_TF B sa X s s.heap
/-- where a walk stands: the cells, how many are new since the method began -/
def sm_St (B : Nat) (sa : Nat → Nat) (dC : Nat → ClassId) (dI : Nat → Nat → Nat) (dA : Nat → ClassId) (s : State) (L0 S0 : Nat) (w : sm_W) (H : Heap) (locs : List Loc) (cells slots : Nat) : Prop :=
  va_P (dC, dI) sm_cls (sm_ws B sa dA w) H ∧ va_S (sm_Ab B) s.heap H locs ∧ w.length = L0 + cells ∧ sm_sl w = S0 + slots ∧ s.heap.size = B + L0
section SMW
variable {p : Program} {l : Launch} {e : Env} {R : Room} {s : State} {m : MethodId} {args : Array Value} {below : List Frame} {meth : Method} {c : Code} {H : Heap} {locs : List Loc} {cells slots : Nat} {Q : State → Prop}
variable {B : Nat} {sa : Nat → Nat} {dC : Nat → ClassId} {dI : Nat → Nat → Nat} {dA : Nat → ClassId} {X : sm_X} {mi pc L0 S0 len : Nat} {lsA : Array Slot} {ls st : List Value} {w : sm_W}
theorem sm_W_size {g : JFrame} (h : H.size ≤ s.heap.size + cells → W p l e R s m args below meth c H locs cells slots Q g) : W p l e R s m args below meth c H locs cells slots Q g :=
  fun T hT Y => h (by rw [← hT]; exact Y.heapSize) T hT Y
theorem sm_fresh {D : va_G} {cl : List vw_C} {q : Nat} {x : va_E} {H1 : Heap} (hP : va_P D cl (sm_ws B sa dA w ++ [(q, x)]) H1) (hD : va_D (sm_Ab B) (sm_ws B sa dA w ++ [(q, x)])) (hz : H1.size ≤ B + w.length + 1) : q = B + w.length := by
  have hl : (sm_ws B sa dA w ++ [(q, x)])[w.length]? = some (q, x) := by
    rw [List.getElem?_append_right (by rw [sm_ws_len]; exact Nat.le_refl _), sm_ws_len, Nat.sub_self]
    rfl
  have h1 : B ≤ q := hD.2 _ _ hl
  have h2 : q < H1.size := (hP _ _ hl).lt
  rcases Nat.lt_or_ge q (B + w.length) with h3 | h3
  · have hk : q - B < w.length := by omega
    have h4 := sm_ws_get (B := B) (sa := sa) (dA := dA) (List.getElem?_eq_getElem hk)
    have h5 : (sm_ws B sa dA w ++ [(q, x)])[q - B]? = some (B + (q - B), sm_ce B sa dA w[q - B]) := by
      rw [List.getElem?_append_left (by rw [sm_ws_len]; exact hk)]
      exact h4
    have h6 := hD.1 _ _ _ _ h5 hl (by show B + (q - B) = q; omega)
    omega
  · omega
theorem sm_sameA {a b : ClassId} {ty : FieldType} (ha : va_RA s a ty) (hb : va_RA s b ty) : a = b := by
  cases ty with
  | object C =>
    obtain ⟨_, _, -, -, -, h1⟩ := ha
    obtain ⟨_, _, -, -, -, h2⟩ := hb
    exact Option.some.inj (h1.symm.trans h2)
  | _ => exact Option.some.inj (Eq.trans (Eq.symm ha) hb)
theorem sm_callW {mc ms : Nat} {st0 rest : List Value} {Qa : State → Outcome → State → Prop} {free : Addr → Prop} (hr : va_Run p l e R s m args below meth c H locs cells slots mc ms (F0 m pc lsA st0) rest Qa free)
    (kk : ∀ (v : Option Value) (s0 t : State) (L : List Loc), s0.heap = H → Qa s0 (.returned v) t → (∀ q ∈ L, free q.base) → W p l e R s m args below meth c t.heap (locs ++ L) (cells + mc) (slots + ms) Q (F0 m (pc + 3) lsA (v.toList ++ rest))) : W p l e R s m args below meth c H locs cells slots Q (F0 m pc lsA st0) := by
  intro T hT Y
  obtain ⟨v, s0, t, T', L, h0, Y', hL, e1, e2, hq, go⟩ := hr T hT Y
  obtain ⟨t2, a1, b1⟩ := kk v s0 t L h0 hq hL T' e1 Y'
  exact ⟨t2, go t2 a1, b1⟩
end SMW
