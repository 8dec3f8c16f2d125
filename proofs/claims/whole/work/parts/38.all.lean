/-! EVERY STEP, EVERY RUN -/
def sm_mw (k : Nat) : List Cond := Cond.code (sm_name k) (sm_code k) (sm_maxL k) (sm_ret k) :: sm_tbl
abbrev sm_rm (k mc ms : Nat) : Room := { frames := sm_lev k, cells := mc, slots := ms, locals := sm_loc k }
def sm_Pc (B : Nat) (sa : Nat → Nat) (dC : Nat → ClassId) (dI : Nat → Nat → Nat) (dA : Nat → ClassId) (X : sm_X) (as : List Value) (w : sm_W) : Array Value → State → Prop := fun a U =>
  a = (as.map (sm_mp B sa)).toArray ∧ U.heap.size = B + w.length ∧ va_P (dC, dI) sm_cls (sm_ws B sa dA w) U.heap ∧ va_K (dC, dI) sm_cls (sm_tys dA) U ∧ sm_TF B sa X U U.heap
def sm_Qc (B : Nat) (sa : Nat → Nat) (dC : Nat → ClassId) (dI : Nat → Nat → Nat) (dA : Nat → ClassId) (v : Option Value) (w : sm_W) : Array Value → State → Outcome → State → Prop := fun _ st o t =>
  o = .returned (v.map (sm_mp B sa)) ∧ va_P (dC, dI) sm_cls (sm_ws B sa dA w) t.heap ∧ va_F (sm_Ab B) st t
set_option maxHeartbeats 4000000 in
theorem sm_all {X : sm_X} {mi pc : Nat} {ls st : List Value} {w : sm_W} (i : Instr) : sm_OK X mi pc ls st w i := by
  cases i
  case if_acmp cd off =>
    cases cd
    case ne => exact sm_k_if_acmp_ne
    case eq =>
      intro B sa dC dI dA p l e R s m args below meth c Q L0 S0 H locs cells slots lsA len F St hL hR hd pc' ls' st' w' ha
      cases ha
  case newarray at_ =>
    cases at_
    case int => exact sm_k_newarray_int
    case long => exact sm_k_newarray_long
    all_goals
      intro B sa dC dI dA p l e R s m args below meth c Q L0 S0 H locs cells slots lsA len F St hL hR hd pc' ls' st' w' ha
      cases ha
  case multianewarray k d =>
    by_cases h : d = 2
    · subst h
      exact sm_k_mna
    · intro B sa dC dI dA p l e R s m args below meth c Q L0 S0 H locs cells slots lsA len F St hL hR hd pc' ls' st' w' ha
      dsimp only [sm_act] at ha
      rw [if_neg h] at ha
      cases ha
  case ireturn =>
    intro B sa dC dI dA p l e R s m args below meth c Q L0 S0 H locs cells slots lsA len F St hL hR hd pc' ls' st' w' ha
    exfalso
    dsimp only [sm_act] at ha
    repeat' (split at ha)
    all_goals cases ha
  case lreturn =>
    intro B sa dC dI dA p l e R s m args below meth c Q L0 S0 H locs cells slots lsA len F St hL hR hd pc' ls' st' w' ha
    exfalso
    dsimp only [sm_act] at ha
    repeat' (split at ha)
    all_goals cases ha
  case return_ =>
    intro B sa dC dI dA p l e R s m args below meth c Q L0 S0 H locs cells slots lsA len F St hL hR hd pc' ls' st' w' ha
    exfalso
    dsimp only [sm_act] at ha
    repeat' (split at ha)
    all_goals cases ha
  case iconst => exact sm_k_iconst
  case bipush => exact sm_k_bipush
  case sipush => exact sm_k_sipush
  case lconst => exact sm_k_lconst
  case ldc => exact sm_k_ldc
  case ldc2_w => exact sm_k_ldc2_w
  case ldc_w => exact sm_k_ldc_w
  case iload => exact sm_k_iload
  case iload_n => exact sm_k_iload_n
  case lload => exact sm_k_lload
  case lload_n => exact sm_k_lload_n
  case aload => exact sm_k_aload
  case aload_n => exact sm_k_aload_n
  case istore => exact sm_k_istore
  case istore_n => exact sm_k_istore_n
  case astore => exact sm_k_astore
  case astore_n => exact sm_k_astore_n
  case lstore => exact sm_k_lstore
  case lstore_n => exact sm_k_lstore_n
  case iinc => exact sm_k_iinc
  case iadd => exact sm_k_iadd
  case isub => exact sm_k_isub
  case imul => exact sm_k_imul
  case iand => exact sm_k_iand
  case ior => exact sm_k_ior
  case ixor => exact sm_k_ixor
  case ishl => exact sm_k_ishl
  case iushr => exact sm_k_iushr
  case ladd => exact sm_k_ladd
  case lsub => exact sm_k_lsub
  case lmul => exact sm_k_lmul
  case irem => exact sm_k_irem
  case ldiv => exact sm_k_ldiv
  case lcmp => exact sm_k_lcmp
  case i2l => exact sm_k_i2l
  case l2i => exact sm_k_l2i
  case dup => exact sm_k_dup
  case dup_x1 => exact sm_k_dup_x1
  case dup2 => exact sm_k_dup2
  case pop => exact sm_k_pop
  case ifCond => exact sm_k_ifCond
  case if_icmp => exact sm_k_if_icmp
  case goto => exact sm_k_goto
  case tableswitch => exact sm_k_tableswitch
  case lookupswitch => exact sm_k_lookupswitch
  case iaload => exact sm_k_iaload
  case laload => exact sm_k_laload
  case aaload => exact sm_k_aaload
  case iastore => exact sm_k_iastore
  case lastore => exact sm_k_lastore
  case aastore => exact sm_k_aastore
  case arraylength => exact sm_k_arraylength
  case getfield => exact sm_k_getfield
  case putfield => exact sm_k_putfield
  case getstatic => exact sm_k_getstatic
  case new => exact sm_k_new
  case anewarray => exact sm_k_anewarray
  case invokestatic => exact sm_k_invokestatic
  case invokevirtual => exact sm_k_invokevirtual
  case invokespecial => exact sm_k_invokespecial
  all_goals
    intro B sa dC dI dA p l e R s m args below meth c Q L0 S0 H locs cells slots lsA len F St hL hR hd pc' ls' st' w' ha
    cases ha
