/-! A SMALL MACHINE, and what it says of the real one. Its references are numbers of its own: below 100 what stood there before the law began (the script is 99), from 100 on the cells that the law has made, in their order. -/
abbrev sm_C : Type := (Nat × vp_A) ⊕ (Nat × List Value)
abbrev sm_W : Type := List sm_C
abbrev sm_X : Type := Nat × (Nat → Int32)
/-- go on (place, locals, stack, cells) | come back with an answer | call (method, arguments, what stays on the stack) -/
abbrev sm_A : Type := (Nat × List Value × List Value × sm_W) ⊕ (Option Value ⊕ (Nat × List Value × List Value))
/-- a local variable that holds nothing that is ever read -/
abbrev sm_J : Value := .retAddr 0
def sm_stat (X : sm_X) (a : Nat) : Option sm_C := if a = 99 then some (.inl (0, X.1, .inl X.2)) else sm_sta a
def sm_get (X : sm_X) (w : sm_W) (a : Nat) : Option sm_C := if a < 100 then sm_stat X a else w[a - 100]?
def sm_cl (ls : List Value) (i : Nat) : List Value := match i with
  | 0 => ls
  | j + 1 => match ls[j]? with
    | some v => if v.category = 2 then ls.set j sm_J else ls
    | none => ls
def sm_put1 (ls : List Value) (i : Nat) (v : Value) : List Value := (sm_cl ls i).set i v
def sm_put2 (ls : List Value) (i : Nat) (v : Value) : List Value := ((sm_cl ls i).set (i + 1) sm_J).set i v
def sm_flat (vs : List Value) : List Value := vs.flatMap fun v => if v.category = 2 then [v, sm_J] else [v]
def sm_entry (n : Nat) (vs : List Value) : List Value := sm_flat vs ++ List.replicate (n - (sm_flat vs).length) sm_J
def sm_tgt (pc : Nat) (off : Int) : Nat := ((pc : Int) + off).toNat
abbrev sm_go (pc : Nat) (ls st : List Value) (w : sm_W) : Option sm_A := some (.inl (pc, ls, st, w))
def sm_jmp (pc : Nat) (off : Int) (k : Nat → Option sm_A) : Option sm_A := if (pc : Int) + off = (sm_tgt pc off : Int) then k (sm_tgt pc off) else none
def sm_br (c : ClassFile.Cond) (x y : Int32) (a b : Nat) : Nat := match c with
  | .eq => if x = y then a else b
  | .ne => if x = y then b else a
  | .lt => if x < y then a else b
  | .ge => if y ≤ x then a else b
  | .gt => if y < x then a else b
  | .le => if x ≤ y then a else b
def sm_in (i : Int32) (n : Nat) : Bool := decide (¬ (i < 0 ∨ n ≤ i.toNatClampNeg))
def sm_ldi (ls : List Value) (k pc : Nat) (st : List Value) (w : sm_W) : Option sm_A := match ls[k]? with
  | some (.int x) => sm_go pc ls (.int x :: st) w
  | _ => none
def sm_ldl (ls : List Value) (k pc : Nat) (st : List Value) (w : sm_W) : Option sm_A := match ls[k]? with
  | some (.long x) => sm_go pc ls (.long x :: st) w
  | _ => none
def sm_lda (ls : List Value) (k pc : Nat) (st : List Value) (w : sm_W) : Option sm_A := match ls[k]? with
  | some (.ref x) => sm_go pc ls (.ref x :: st) w
  | _ => none
def sm_sti (mi : Nat) (ls : List Value) (k pc : Nat) (st : List Value) (w : sm_W) : Option sm_A := match st with
  | .int x :: r => if k < sm_maxL mi then sm_go pc (sm_put1 ls k (.int x)) r w else none
  | _ => none
def sm_stl (mi : Nat) (ls : List Value) (k pc : Nat) (st : List Value) (w : sm_W) : Option sm_A := match st with
  | .long x :: r => if k + 1 < sm_maxL mi then sm_go pc (sm_put2 ls k (.long x)) r w else none
  | _ => none
def sm_sta1 (mi : Nat) (ls : List Value) (k pc : Nat) (st : List Value) (w : sm_W) : Option sm_A := match st with
  | .ref x :: r => if k < sm_maxL mi then sm_go pc (sm_put1 ls k (.ref x)) r w else none
  | _ => none
def sm_ii (f : Int32 → Int32 → Int32) (pc : Nat) (ls st : List Value) (w : sm_W) : Option sm_A := match st with
  | .int y :: .int x :: r => sm_go (pc + 1) ls (.int (f x y) :: r) w
  | _ => none
def sm_ll (f : Int64 → Int64 → Int64) (pc : Nat) (ls st : List Value) (w : sm_W) : Option sm_A := match st with
  | .long y :: .long x :: r => sm_go (pc + 1) ls (.long (f x y) :: r) w
  | _ => none
def sm_dup0 (pc : Nat) (ls st : List Value) (w : sm_W) : Option sm_A := match st with
  | a :: r => if a.category = 1 then sm_go (pc + 1) ls (a :: a :: r) w else none
  | _ => none
def sm_dup1 (pc : Nat) (ls st : List Value) (w : sm_W) : Option sm_A := match st with
  | a :: b :: r => if a.category = 1 ∧ b.category = 1 then sm_go (pc + 1) ls (a :: b :: a :: r) w else none
  | _ => none
def sm_dup2 (pc : Nat) (ls st : List Value) (w : sm_W) : Option sm_A := match st with
  | a :: b :: r => if a.category = 1 ∧ b.category = 1 then sm_go (pc + 1) ls (a :: b :: a :: b :: r) w else none
  | _ => none
def sm_pop (pc : Nat) (ls st : List Value) (w : sm_W) : Option sm_A := match st with
  | a :: r => if a.category = 1 then sm_go (pc + 1) ls r w else none
  | _ => none
/-- a table's jump -/
def sm_tab (pc : Nat) (dflt lo hi : Int) (offs : Array Int) (x : Int32) : Option Nat :=
  if x.toInt < lo ∨ hi < x.toInt then (if (pc : Int) + dflt = (sm_tgt pc dflt : Int) then some (sm_tgt pc dflt) else none)
  else match offs[(x.toInt - lo).toNat]? with
    | some off => if (pc : Int) + off = (sm_tgt pc off : Int) then some (sm_tgt pc off) else none
    | none => none
def sm_look (pc : Nat) (dflt : Int) (ps : Array (Int × Int)) (x : Int32) : Option Nat :=
  if (ps.toList.zip (ps.toList.drop 1)).all (fun (a, next) => a.1 < next.1) = true ∧ (pc : Int) + Op.lookupswitch.offset ps.toList dflt x.toInt = (sm_tgt pc (Op.lookupswitch.offset ps.toList dflt x.toInt) : Int) then some (sm_tgt pc (Op.lookupswitch.offset ps.toList dflt x.toInt)) else none
def sm_aldi (X : sm_X) (pc : Nat) (ls st : List Value) (w : sm_W) : Option sm_A := match st with
  | .int i :: .ref a :: r => match sm_get X w a with
    | some (.inl (0, n, .inl f)) => if sm_in i n = true then sm_go (pc + 1) ls (.int (f i.toNatClampNeg) :: r) w else none
    | _ => none
  | _ => none
def sm_aldl (pc : Nat) (ls st : List Value) (w : sm_W) : Option sm_A := match st with
  | .int i :: .ref a :: r => if a < 100 then none else match w[a - 100]? with
    | some (.inl (1, n, .inr (.inl f))) => if sm_in i n = true then sm_go (pc + 1) ls (.long (f i.toNatClampNeg) :: r) w else none
    | _ => none
  | _ => none
def sm_alda (X : sm_X) (pc : Nat) (ls st : List Value) (w : sm_W) : Option sm_A := match st with
  | .int i :: .ref a :: r => match sm_get X w a with
    | some (.inl (t, n, .inr (.inr (.inr (.inr f))))) => if sm_in i n = true ∧ 2 ≤ t ∧ t < 6 ∧ (a < 100 ∨ t < sm_NA) then (match f i.toNatClampNeg with
        | some b => sm_go (pc + 1) ls (.ref b :: r) w
        | none => none) else none
    | _ => none
  | _ => none
def sm_asti (pc : Nat) (ls st : List Value) (w : sm_W) : Option sm_A := match st with
  | .int x :: .int i :: .ref a :: r => if a < 100 then none else match w[a - 100]? with
    | some (.inl (0, n, .inl f)) => if sm_in i n = true then sm_go (pc + 1) ls r (w.set (a - 100) (.inl (0, n, .inl (upd f i.toNatClampNeg x)))) else none
    | _ => none
  | _ => none
def sm_astl (pc : Nat) (ls st : List Value) (w : sm_W) : Option sm_A := match st with
  | .long x :: .int i :: .ref a :: r => if a < 100 then none else match w[a - 100]? with
    | some (.inl (1, n, .inr (.inl f))) => if sm_in i n = true then sm_go (pc + 1) ls r (w.set (a - 100) (.inl (1, n, .inr (.inl (vp_updL f i.toNatClampNeg x))))) else none
    | _ => none
  | _ => none
def sm_asta (pc : Nat) (ls st : List Value) (w : sm_W) : Option sm_A := match st with
  | .ref b :: .int i :: .ref a :: r => if a < 100 ∨ b < 100 then none else match w[a - 100]?, w[b - 100]? with
    | some (.inl (t, n, .inr (.inr (.inr (.inr f))))), some (.inr (ci, _)) => if sm_in i n = true ∧ t < sm_NA ∧ ci < sm_NC ∧ sm_aty t = .object (sm_cn ci) then sm_go (pc + 1) ls r (w.set (a - 100) (.inl (t, n, .inr (.inr (.inr (.inr (va_up f i.toNatClampNeg (some b)))))))) else none
    | _, _ => none
  | _ => none
def sm_len (X : sm_X) (pc : Nat) (ls st : List Value) (w : sm_W) : Option sm_A := match st with
  | .ref a :: r => match sm_get X w a with
    | some (.inl (t, n, _)) => if a < 100 ∨ t < sm_NA then sm_go (pc + 1) ls (.int (Int32.ofNat n) :: r) w else none
    | _ => none
  | _ => none
/-- which field of a made object -/
def sm_getf (mi pc : Nat) (k : Nat) (ls st : List Value) (w : sm_W) : Option sm_A := match st, sm_fT (sm_own mi) k with
  | .ref a :: r, some (ci, j) => if a < 100 then (match sm_enF ci j a with
      | some x => sm_go (pc + 3) ls (.int x :: r) w
      | none => none) else match w[a - 100]? with
    | some (.inr (c2, fs)) => if c2 = ci then (match fs[j]? with
      | some v => sm_go (pc + 3) ls (v :: r) w
      | none => none) else none
    | _ => none
  | _, _ => none
def sm_putf (mi pc : Nat) (k : Nat) (ls st : List Value) (w : sm_W) : Option sm_A := match st, sm_fT (sm_own mi) k with
  | v :: .ref a :: r, some (ci, j) => if a < 100 then none else match w[a - 100]? with
    | some (.inr (c2, fs)) => if c2 = ci ∧ j < fs.length ∧ narrow (sm_fty ci j) v = v ∧ fits (sm_fty ci j) v = true ∧ (sm_fin ci j = true → sm_ini mi = true ∧ sm_own mi = ci) then sm_go (pc + 3) ls r (w.set (a - 100) (.inr (ci, fs.set j v))) else none
    | _ => none
  | _, _ => none
/-- System.arraycopy between made arrays of ints -/
def sm_cpy (mi pc : Nat) (ls st : List Value) (w : sm_W) : Option sm_A := match st with
  | .int n :: .int dp :: .ref b :: .int sp :: .ref a :: r => if sm_lev mi = 0 ∨ sm_loc mi < 26 ∨ a < 100 ∨ b < 100 ∨ sp < 0 ∨ dp < 0 ∨ n < 0 ∨ 8 < (r.map fun v => v.category).sum then none else match w[a - 100]?, w[b - 100]? with
    | some (.inl (0, n0, .inl f)), some (.inl (0, n1, .inl g)) => if sp.toNatClampNeg + n.toNatClampNeg ≤ n0 ∧ dp.toNatClampNeg + n.toNatClampNeg ≤ n1 then sm_go (pc + 3) ls r (w.set (b - 100) (.inl (0, n1, .inl (va_cpy f g sp.toNatClampNeg dp.toNatClampNeg n.toNatClampNeg)))) else none
    | _, _ => none
  | _ => none
def sm_call (mi k : Nat) (args rest : List Value) : Option sm_A := if sm_lev k < sm_lev mi ∧ sm_loc k + sm_maxL k + 19 ≤ sm_loc mi ∧ (rest.map fun v => v.category).sum ≤ 8 ∧ args.length = sm_par k ∧ (sm_flat args).length ≤ sm_maxL k then some (.inr (.inr (k, args, rest))) else none
def sm_invs (mi pc idx : Nat) (ls st : List Value) (w : sm_W) : Option sm_A := if sm_cpT (sm_own mi) idx = true then sm_cpy mi pc ls st w else match sm_sT (sm_own mi) idx with
  | some k => sm_call mi k (st.take (sm_par k)).reverse (st.drop (sm_par k))
  | none => none
def sm_inv (mi idx : Nat) (st : List Value) (w : sm_W) : Option sm_A := match sm_vT (sm_own mi) idx with
  | some k => match st.drop (sm_par k - 1) with
    | .ref a :: r => if a < 100 then (if a < sm_enN ∧ sm_enM k = true then sm_call mi k (.ref a :: (st.take (sm_par k - 1)).reverse) r else none) else match w[a - 100]? with
      | some (.inr (ci, _)) => if sm_enM k = false ∧ sm_own k = ci then sm_call mi k (.ref a :: (st.take (sm_par k - 1)).reverse) r else none
      | _ => none
    | _ => none
  | none => none
def sm_ivs (mi pc idx : Nat) (ls st : List Value) (w : sm_W) : Option sm_A := if sm_obT (sm_own mi) idx = true then (match st with
    | .ref a :: r => if 8 < (r.map fun v => v.category).sum then none else if sm_lev mi = 0 ∨ sm_loc mi < 20 then none else if a < 100 then none else sm_go (pc + 3) ls r w
    | _ => none) else match sm_iT (sm_own mi) idx with
  | some k => match st.drop (sm_par k - 1) with
    | .ref a :: r => sm_call mi k (.ref a :: (st.take (sm_par k - 1)).reverse) r
    | _ => none
  | none => none
def sm_newa (t : Nat) (c : Nat → (Nat → Int32) ⊕ (Nat → Int64) ⊕ (Nat → UInt32) ⊕ (Nat → UInt64) ⊕ (Nat → Option Nat)) (pc : Nat) (ls st : List Value) (w : sm_W) : Option sm_A := match st with
  | .int n :: r => if n < 0 ∨ 65536 < n.toNatClampNeg then none else sm_go pc ls (.ref (100 + w.length) :: r) (w ++ [.inl (t, n.toNatClampNeg, c n.toNatClampNeg)])
  | _ => none
def sm_mna (mi pc idx : Nat) (ls st : List Value) (w : sm_W) : Option sm_A := match st with
  | .int k :: .int n :: r => if sm_mT (sm_own mi) idx = false ∨ n < 0 ∨ 65536 < n.toNatClampNeg ∨ k < 0 ∨ 65536 < k.toNatClampNeg then none
      else sm_go (pc + 4) ls (.ref (100 + w.length) :: r) (w ++ .inl (2, n.toNatClampNeg, .inr (.inr (.inr (.inr (fun i => if i < n.toNatClampNeg then some (100 + w.length + 1 + i) else none))))) :: List.replicate n.toNatClampNeg (.inl (0, k.toNatClampNeg, .inl (fun _ => 0))))
  | _ => none
def sm_act (X : sm_X) (mi pc : Nat) (i : Instr) (len : Nat) (ls st : List Value) (w : sm_W) : Option sm_A := match i with
  | .iconst n => if len = 1 then sm_go (pc + 1) ls (.int (Int32.ofInt n) :: st) w else none
  | .bipush n => if len = 2 then sm_go (pc + 2) ls (.int (Int8.ofInt n).toInt32 :: st) w else none
  | .sipush n => if len = 3 then sm_go (pc + 3) ls (.int (Int16.ofInt n).toInt32 :: st) w else none
  | .lconst n => if len = 1 then sm_go (pc + 1) ls (.long (Int64.ofNat (n : Nat)) :: st) w else none
  | .ldc k => if len = 2 then (match sm_kI (sm_own mi) k with
    | some v => sm_go (pc + 2) ls (.int v :: st) w
    | none => none) else none
  | .ldc_w k => if len = 3 then (match sm_kI (sm_own mi) k with
    | some v => sm_go (pc + 3) ls (.int v :: st) w
    | none => none) else none
  | .ldc2_w k => if len = 3 then (match sm_kL (sm_own mi) k with
    | some v => sm_go (pc + 3) ls (.long v :: st) w
    | none => none) else none
  | .iload k => if len = 2 then sm_ldi ls k (pc + 2) st w else none
  | .iload_n k => if len = 1 then sm_ldi ls k (pc + 1) st w else none
  | .lload k => if len = 2 then sm_ldl ls k (pc + 2) st w else none
  | .lload_n k => if len = 1 then sm_ldl ls k (pc + 1) st w else none
  | .aload k => if len = 2 then sm_lda ls k (pc + 2) st w else none
  | .aload_n k => if len = 1 then sm_lda ls k (pc + 1) st w else none
  | .istore k => if len = 2 then sm_sti mi ls k (pc + 2) st w else none
  | .istore_n k => if len = 1 then sm_sti mi ls k (pc + 1) st w else none
  | .lstore k => if len = 2 then sm_stl mi ls k (pc + 2) st w else none
  | .lstore_n k => if len = 1 then sm_stl mi ls k (pc + 1) st w else none
  | .astore k => if len = 2 then sm_sta1 mi ls k (pc + 2) st w else none
  | .astore_n k => if len = 1 then sm_sta1 mi ls k (pc + 1) st w else none
  | .iinc k n => if len = 3 then (match ls[k]? with
    | some (.int x) => if k < sm_maxL mi then sm_go (pc + 3) (sm_put1 ls k (.int (x + Int32.ofInt n))) st w else none
    | _ => none) else none
  | .iadd => if len = 1 then sm_ii (fun x y => x + y) pc ls st w else none
  | .isub => if len = 1 then sm_ii (fun x y => x - y) pc ls st w else none
  | .imul => if len = 1 then sm_ii (fun x y => x * y) pc ls st w else none
  | .iand => if len = 1 then sm_ii (fun x y => x &&& y) pc ls st w else none
  | .ior => if len = 1 then sm_ii (fun x y => x ||| y) pc ls st w else none
  | .ixor => if len = 1 then sm_ii (fun x y => x ^^^ y) pc ls st w else none
  | .ishl => if len = 1 then sm_ii (fun x y => x <<< (y &&& 31)) pc ls st w else none
  | .iushr => if len = 1 then sm_ii (fun x y => (x.toUInt32 >>> (y.toUInt32 &&& Int32.toUInt32 31)).toInt32) pc ls st w else none
  | .irem => if len = 1 then (match st with
    | .int y :: .int x :: r => if y = 0 then none else sm_go (pc + 1) ls (.int (x - x / y * y) :: r) w
    | _ => none) else none
  | .ladd => if len = 1 then sm_ll (fun x y => x + y) pc ls st w else none
  | .lsub => if len = 1 then sm_ll (fun x y => x - y) pc ls st w else none
  | .lmul => if len = 1 then sm_ll (fun x y => x * y) pc ls st w else none
  | .ldiv => if len = 1 then (match st with
    | .long y :: .long x :: r => if y = 0 then none else sm_go (pc + 1) ls (.long (x / y) :: r) w
    | _ => none) else none
  | .lcmp => if len = 1 then (match st with
    | .long y :: .long x :: r => sm_go (pc + 1) ls (.int (lg_cmp x y) :: r) w
    | _ => none) else none
  | .i2l => if len = 1 then (match st with
    | .int x :: r => sm_go (pc + 1) ls (.long x.toInt64 :: r) w
    | _ => none) else none
  | .l2i => if len = 1 then (match st with
    | .long x :: r => sm_go (pc + 1) ls (.int x.toInt32 :: r) w
    | _ => none) else none
  | .dup => if len = 1 then sm_dup0 pc ls st w else none
  | .dup_x1 => if len = 1 then sm_dup1 pc ls st w else none
  | .dup2 => if len = 1 then sm_dup2 pc ls st w else none
  | .pop => if len = 1 then sm_pop pc ls st w else none
  | .ifCond c off => if len = 3 then (match st with
    | .int x :: r => sm_jmp pc off fun t => sm_go (sm_br c x 0 t (pc + 3)) ls r w
    | _ => none) else none
  | .if_icmp c off => if len = 3 then (match st with
    | .int y :: .int x :: r => sm_jmp pc off fun t => sm_go (sm_br c x y t (pc + 3)) ls r w
    | _ => none) else none
  | .if_acmp .ne off => if len = 3 then (match st with
    | .ref y :: .ref x :: r => if x < sm_enN ∧ y < sm_enN then sm_jmp pc off fun t => sm_go (if x = y then pc + 3 else t) ls r w else none
    | _ => none) else none
  | .goto off => if len = 3 then sm_jmp pc off fun t => sm_go t ls st w else none
  | .tableswitch dflt lo hi offs => (match st with
    | .int x :: r => (match sm_tab pc dflt lo hi offs x with
      | some t => sm_go t ls r w
      | none => none)
    | _ => none)
  | .lookupswitch dflt ps => (match st with
    | .int x :: r => (match sm_look pc dflt ps x with
      | some t => sm_go t ls r w
      | none => none)
    | _ => none)
  | .iaload => if len = 1 then sm_aldi X pc ls st w else none
  | .laload => if len = 1 then sm_aldl pc ls st w else none
  | .aaload => if len = 1 then sm_alda X pc ls st w else none
  | .iastore => if len = 1 then sm_asti pc ls st w else none
  | .lastore => if len = 1 then sm_astl pc ls st w else none
  | .aastore => if len = 1 then sm_asta pc ls st w else none
  | .arraylength => if len = 1 then sm_len X pc ls st w else none
  | .getfield k => if len = 3 then sm_getf mi pc k ls st w else none
  | .putfield k => if len = 3 then sm_putf mi pc k ls st w else none
  | .getstatic k => if len = 3 then (match sm_gT (sm_own mi) k with
    | some a => sm_go (pc + 3) ls (.ref a :: st) w
    | none => none) else none
  | .new k => if len = 3 then (match sm_nT (sm_own mi) k with
    | some ci => sm_go (pc + 3) ls (.ref (100 + w.length) :: st) (w ++ [.inr (ci, sm_def ci)])
    | none => none) else none
  | .newarray .int => if len = 2 then sm_newa 0 (fun _ => .inl (fun _ => 0)) (pc + 2) ls st w else none
  | .newarray .long => if len = 2 then sm_newa 1 (fun _ => .inr (.inl (fun _ => 0))) (pc + 2) ls st w else none
  | .anewarray k => if len = 3 then (match sm_aT (sm_own mi) k with
    | some t => sm_newa t (fun _ => .inr (.inr (.inr (.inr (fun _ => none))))) (pc + 3) ls st w
    | none => none) else none
  | .multianewarray k d => if d = 2 then (if len = 4 then sm_mna mi pc k ls st w else none) else none
  | .invokestatic k => if len = 3 then sm_invs mi pc k ls st w else none
  | .invokevirtual k => if len = 3 then sm_inv mi k st w else none
  | .invokespecial k => if len = 3 then sm_ivs mi pc k ls st w else none
  | .ireturn => if len = 1 then (match st, sm_ret mi with
    | [.int x], some ty => if narrow ty (.int x) = .int x then some (.inr (.inl (some (.int x)))) else none
    | _, _ => none) else none
  | .lreturn => if len = 1 then (match st, sm_ret mi with
    | [.long x], some .long => some (.inr (.inl (some (.long x))))
    | _, _ => none) else none
  | .return_ => if len = 1 then (match st, sm_ret mi with
    | [], none => some (.inr (.inl none))
    | _, _ => none) else none
  | _ => none
/-- n steps at the most -/
def sm_ev (X : sm_X) : Nat → Nat → Nat → List Value → List Value → sm_W → Option (Option Value × sm_W)
  | 0, _, _, _, _, _ => none
  | n + 1, mi, pc, ls, st, w => match decode (sm_code mi) pc with
    | .error _ => none
    | .ok (i, len) => match sm_act X mi pc i len ls st w with
      | none => none
      | some (.inl (pc', ls', st', w')) => sm_ev X n mi pc' ls' st' w'
      | some (.inr (.inl v)) => some (v, w)
      | some (.inr (.inr (k, args, rest))) => match sm_ev X n k 0 (sm_entry (sm_maxL k) args) [] w with
        | none => none
        | some (v, w') => sm_ev X n mi (pc + 3) ls (v.toList ++ rest) w'
