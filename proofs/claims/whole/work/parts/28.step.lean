/-- what a step that goes on asks of the real machine -/
def sm_OK (X : sm_X) (mi pc : Nat) (ls st : List Value) (w : sm_W) (i : Instr) : Prop :=
  ∀ (B : Nat) (sa : Nat → Nat) (dC : Nat → ClassId) (dI : Nat → Nat → Nat) (dA : Nat → ClassId) (p : Program) (l : Launch) (e : Env) (R : Room) (s : State) (m : MethodId) (args : Array Value) (below : List Frame) (meth : Method) (c : Code) (Q : State → Prop) (L0 S0 : Nat) (H : Heap) (locs : List Loc) (cells slots : Nat) (lsA : Array Slot) (len : Nat),
    sm_Fr B sa dC dI dA X mi p s m args meth c → sm_St B sa dC dI dA s L0 S0 w H locs cells slots → sm_L B sa lsA (sm_maxL mi) ls → sm_lev mi ≤ R.frames ∧ sm_loc mi ≤ R.locals → decode (sm_code mi) pc = .ok (i, len) →
    ∀ (pc' : Nat) (ls' st' : List Value) (w' : sm_W), sm_act X mi pc i len ls st w = some (.inl (pc', ls', st', w')) → w'.length ≤ L0 + R.cells → sm_sl w' ≤ S0 + R.slots →
    (∀ (lsA' : Array Slot) (H' : Heap) (locs' : List Loc) (cells' slots' : Nat), sm_St B sa dC dI dA s L0 S0 w' H' locs' cells' slots' → sm_L B sa lsA' (sm_maxL mi) ls' → W p l e R s m args below meth c H' locs' cells' slots' Q (F0 m pc' lsA' (st'.map (sm_mp B sa)))) →
    W p l e R s m args below meth c H locs cells slots Q (F0 m pc lsA (st.map (sm_mp B sa)))
section SMS
variable {X : sm_X} {mi pc : Nat} {ls st : List Value} {w : sm_W}
theorem sm_jmp_in {off : Int} {k : Nat → Option sm_A} {a : sm_A} (h : sm_jmp pc off k = some a) : (pc : Int) + off = (sm_tgt pc off : Int) ∧ k (sm_tgt pc off) = some a := by
  unfold sm_jmp at h
  split at h
  next q => exact ⟨q, h⟩
  next => cases h
set_option maxHeartbeats 1000000 in
theorem sm_k_iconst {n : Int} : sm_OK X mi pc ls st w (.iconst n) := by
  intro B sa dC dI dA p l e R s m args below meth c Q L0 S0 H locs cells slots lsA len F St hL hR hd pc' ls' st' w' ha hz1 hz2 kk
  obtain ⟨hx, hb, hr, hml, hown, hts, hlk, hin, hK, hTF⟩ := F
  dsimp only [sm_act] at ha
  split at ha
  next hq =>
    subst hq
    cases ha
    exact lv_iconst hx hb hd rfl (kk _ _ _ _ _ St hL)
  next => cases ha
set_option maxHeartbeats 1000000 in
theorem sm_k_bipush {n : Int} : sm_OK X mi pc ls st w (.bipush n) := by
  intro B sa dC dI dA p l e R s m args below meth c Q L0 S0 H locs cells slots lsA len F St hL hR hd pc' ls' st' w' ha hz1 hz2 kk
  obtain ⟨hx, hb, hr, hml, hown, hts, hlk, hin, hK, hTF⟩ := F
  dsimp only [sm_act] at ha
  split at ha
  next hq =>
    subst hq
    cases ha
    exact lv_bipush hx hb hd rfl (kk _ _ _ _ _ St hL)
  next => cases ha
set_option maxHeartbeats 1000000 in
theorem sm_k_sipush {n : Int} : sm_OK X mi pc ls st w (.sipush n) := by
  intro B sa dC dI dA p l e R s m args below meth c Q L0 S0 H locs cells slots lsA len F St hL hR hd pc' ls' st' w' ha hz1 hz2 kk
  obtain ⟨hx, hb, hr, hml, hown, hts, hlk, hin, hK, hTF⟩ := F
  dsimp only [sm_act] at ha
  split at ha
  next hq =>
    subst hq
    cases ha
    exact lv_sipush hx hb hd rfl (kk _ _ _ _ _ St hL)
  next => cases ha
set_option maxHeartbeats 1000000 in
theorem sm_k_lconst {n : Fin 2} : sm_OK X mi pc ls st w (.lconst n) := by
  intro B sa dC dI dA p l e R s m args below meth c Q L0 S0 H locs cells slots lsA len F St hL hR hd pc' ls' st' w' ha hz1 hz2 kk
  obtain ⟨hx, hb, hr, hml, hown, hts, hlk, hin, hK, hTF⟩ := F
  dsimp only [sm_act] at ha
  split at ha
  next hq =>
    subst hq
    cases ha
    exact lv_lconst hx hb hd rfl (kk _ _ _ _ _ St hL)
  next => cases ha
set_option maxHeartbeats 1000000 in
theorem sm_k_ldc {n : Nat} : sm_OK X mi pc ls st w (.ldc n) := by
  intro B sa dC dI dA p l e R s m args below meth c Q L0 S0 H locs cells slots lsA len F St hL hR hd pc' ls' st' w' ha hz1 hz2 kk
  obtain ⟨hx, hb, hr, hml, hown, hts, hlk, hin, hK, hTF⟩ := F
  dsimp only [sm_act] at ha
  split at ha
  next hq =>
    subst hq
    split at ha
    next v hk => cases ha; exact lv_ldc hx hb hown (hts _ (st_kI hk)) hd (kk _ _ _ _ _ St hL)
    next => cases ha
  next => cases ha
set_option maxHeartbeats 1000000 in
theorem sm_k_ldc_w {n : Nat} : sm_OK X mi pc ls st w (.ldc_w n) := by
  intro B sa dC dI dA p l e R s m args below meth c Q L0 S0 H locs cells slots lsA len F St hL hR hd pc' ls' st' w' ha hz1 hz2 kk
  obtain ⟨hx, hb, hr, hml, hown, hts, hlk, hin, hK, hTF⟩ := F
  dsimp only [sm_act] at ha
  split at ha
  next hq =>
    subst hq
    split at ha
    next v hk => cases ha; exact lv_ldcw hx hb hown (hts _ (st_kI hk)) hd (kk _ _ _ _ _ St hL)
    next => cases ha
  next => cases ha
set_option maxHeartbeats 1000000 in
theorem sm_k_ldc2_w {n : Nat} : sm_OK X mi pc ls st w (.ldc2_w n) := by
  intro B sa dC dI dA p l e R s m args below meth c Q L0 S0 H locs cells slots lsA len F St hL hR hd pc' ls' st' w' ha hz1 hz2 kk
  obtain ⟨hx, hb, hr, hml, hown, hts, hlk, hin, hK, hTF⟩ := F
  dsimp only [sm_act] at ha
  split at ha
  next hq =>
    subst hq
    split at ha
    next v hk => cases ha; exact lv_ldc2 hx hb hown (hts _ (st_kL hk)) hd (kk _ _ _ _ _ St hL)
    next => cases ha
  next => cases ha
set_option maxHeartbeats 1000000 in
theorem sm_k_iload {k : Nat} : sm_OK X mi pc ls st w (.iload k) := by
  intro B sa dC dI dA p l e R s m args below meth c Q L0 S0 H locs cells slots lsA len F St hL hR hd pc' ls' st' w' ha hz1 hz2 kk
  obtain ⟨hx, hb, hr, hml, hown, hts, hlk, hin, hK, hTF⟩ := F
  dsimp only [sm_act] at ha
  split at ha
  next hq =>
    subst hq
    unfold sm_ldi at ha
    split at ha
    next x hk => cases ha; exact lv_iload hx hb hd (hL.2.2 _ _ hk (by intro q; cases q)) (kk _ _ _ _ _ St hL)
    next => cases ha
  next => cases ha
set_option maxHeartbeats 1000000 in
theorem sm_k_iload_n {k : Fin 4} : sm_OK X mi pc ls st w (.iload_n k) := by
  intro B sa dC dI dA p l e R s m args below meth c Q L0 S0 H locs cells slots lsA len F St hL hR hd pc' ls' st' w' ha hz1 hz2 kk
  obtain ⟨hx, hb, hr, hml, hown, hts, hlk, hin, hK, hTF⟩ := F
  dsimp only [sm_act] at ha
  split at ha
  next hq =>
    subst hq
    unfold sm_ldi at ha
    split at ha
    next x hk => cases ha; exact lv_iload_n hx hb hd rfl (hL.2.2 _ _ hk (by intro q; cases q)) (kk _ _ _ _ _ St hL)
    next => cases ha
  next => cases ha
set_option maxHeartbeats 1000000 in
theorem sm_k_lload {k : Nat} : sm_OK X mi pc ls st w (.lload k) := by
  intro B sa dC dI dA p l e R s m args below meth c Q L0 S0 H locs cells slots lsA len F St hL hR hd pc' ls' st' w' ha hz1 hz2 kk
  obtain ⟨hx, hb, hr, hml, hown, hts, hlk, hin, hK, hTF⟩ := F
  dsimp only [sm_act] at ha
  split at ha
  next hq =>
    subst hq
    unfold sm_ldl at ha
    split at ha
    next x hk => cases ha; exact lv_lload hx hb hd (hL.2.2 _ _ hk (by intro q; cases q)) (kk _ _ _ _ _ St hL)
    next => cases ha
  next => cases ha
set_option maxHeartbeats 1000000 in
theorem sm_k_lload_n {k : Fin 4} : sm_OK X mi pc ls st w (.lload_n k) := by
  intro B sa dC dI dA p l e R s m args below meth c Q L0 S0 H locs cells slots lsA len F St hL hR hd pc' ls' st' w' ha hz1 hz2 kk
  obtain ⟨hx, hb, hr, hml, hown, hts, hlk, hin, hK, hTF⟩ := F
  dsimp only [sm_act] at ha
  split at ha
  next hq =>
    subst hq
    unfold sm_ldl at ha
    split at ha
    next x hk => cases ha; exact lv_lload_n hx hb hd rfl (hL.2.2 _ _ hk (by intro q; cases q)) (kk _ _ _ _ _ St hL)
    next => cases ha
  next => cases ha
set_option maxHeartbeats 1000000 in
theorem sm_k_aload {k : Nat} : sm_OK X mi pc ls st w (.aload k) := by
  intro B sa dC dI dA p l e R s m args below meth c Q L0 S0 H locs cells slots lsA len F St hL hR hd pc' ls' st' w' ha hz1 hz2 kk
  obtain ⟨hx, hb, hr, hml, hown, hts, hlk, hin, hK, hTF⟩ := F
  dsimp only [sm_act] at ha
  split at ha
  next hq =>
    subst hq
    unfold sm_lda at ha
    split at ha
    next x hk => cases ha; exact lv_aload hx hb hd (hL.2.2 _ _ hk (by intro q; cases q)) (kk _ _ _ _ _ St hL)
    next => cases ha
  next => cases ha
set_option maxHeartbeats 1000000 in
theorem sm_k_aload_n {k : Fin 4} : sm_OK X mi pc ls st w (.aload_n k) := by
  intro B sa dC dI dA p l e R s m args below meth c Q L0 S0 H locs cells slots lsA len F St hL hR hd pc' ls' st' w' ha hz1 hz2 kk
  obtain ⟨hx, hb, hr, hml, hown, hts, hlk, hin, hK, hTF⟩ := F
  dsimp only [sm_act] at ha
  split at ha
  next hq =>
    subst hq
    unfold sm_lda at ha
    split at ha
    next x hk => cases ha; exact lv_aload_n hx hb hd rfl (hL.2.2 _ _ hk (by intro q; cases q)) (kk _ _ _ _ _ St hL)
    next => cases ha
  next => cases ha
set_option maxHeartbeats 1000000 in
theorem sm_k_istore {k : Nat} : sm_OK X mi pc ls st w (.istore k) := by
  intro B sa dC dI dA p l e R s m args below meth c Q L0 S0 H locs cells slots lsA len F St hL hR hd pc' ls' st' w' ha hz1 hz2 kk
  obtain ⟨hx, hb, hr, hml, hown, hts, hlk, hin, hK, hTF⟩ := F
  dsimp only [sm_act] at ha
  split at ha
  next hq =>
    subst hq
    unfold sm_sti at ha
    split at ha
    next x r =>
      split at ha
      next hlt => cases ha; exact lv_istore hx hb hd hL.has hlt rfl (fun ls2 h2 => kk _ _ _ _ _ St (hL.put1 (v := .int x) h2))
      next => cases ha
    next => cases ha
  next => cases ha
set_option maxHeartbeats 1000000 in
theorem sm_k_istore_n {k : Fin 4} : sm_OK X mi pc ls st w (.istore_n k) := by
  intro B sa dC dI dA p l e R s m args below meth c Q L0 S0 H locs cells slots lsA len F St hL hR hd pc' ls' st' w' ha hz1 hz2 kk
  obtain ⟨hx, hb, hr, hml, hown, hts, hlk, hin, hK, hTF⟩ := F
  dsimp only [sm_act] at ha
  split at ha
  next hq =>
    subst hq
    unfold sm_sti at ha
    split at ha
    next x r =>
      split at ha
      next hlt => cases ha; exact lv_istore_n hx hb hd rfl hL.has hlt rfl (fun ls2 h2 => kk _ _ _ _ _ St (hL.put1 (v := .int x) h2))
      next => cases ha
    next => cases ha
  next => cases ha
set_option maxHeartbeats 1000000 in
theorem sm_k_astore {k : Nat} : sm_OK X mi pc ls st w (.astore k) := by
  intro B sa dC dI dA p l e R s m args below meth c Q L0 S0 H locs cells slots lsA len F St hL hR hd pc' ls' st' w' ha hz1 hz2 kk
  obtain ⟨hx, hb, hr, hml, hown, hts, hlk, hin, hK, hTF⟩ := F
  dsimp only [sm_act] at ha
  split at ha
  next hq =>
    subst hq
    unfold sm_sta1 at ha
    split at ha
    next x r =>
      split at ha
      next hlt => cases ha; exact lv_astore hx hb hd hL.has hlt rfl (fun ls2 h2 => kk _ _ _ _ _ St (hL.put1 (v := .ref x) h2))
      next => cases ha
    next => cases ha
  next => cases ha
set_option maxHeartbeats 1000000 in
theorem sm_k_astore_n {k : Fin 4} : sm_OK X mi pc ls st w (.astore_n k) := by
  intro B sa dC dI dA p l e R s m args below meth c Q L0 S0 H locs cells slots lsA len F St hL hR hd pc' ls' st' w' ha hz1 hz2 kk
  obtain ⟨hx, hb, hr, hml, hown, hts, hlk, hin, hK, hTF⟩ := F
  dsimp only [sm_act] at ha
  split at ha
  next hq =>
    subst hq
    unfold sm_sta1 at ha
    split at ha
    next x r =>
      split at ha
      next hlt => cases ha; exact lv_astore_n hx hb hd rfl hL.has hlt rfl (fun ls2 h2 => kk _ _ _ _ _ St (hL.put1 (v := .ref x) h2))
      next => cases ha
    next => cases ha
  next => cases ha
set_option maxHeartbeats 1000000 in
theorem sm_k_lstore {k : Nat} : sm_OK X mi pc ls st w (.lstore k) := by
  intro B sa dC dI dA p l e R s m args below meth c Q L0 S0 H locs cells slots lsA len F St hL hR hd pc' ls' st' w' ha hz1 hz2 kk
  obtain ⟨hx, hb, hr, hml, hown, hts, hlk, hin, hK, hTF⟩ := F
  dsimp only [sm_act] at ha
  split at ha
  next hq =>
    subst hq
    unfold sm_stl at ha
    split at ha
    next x r =>
      split at ha
      next hlt => cases ha; exact lv_lstore hx hb hd hL.has hlt rfl (fun ls2 h2 => kk _ _ _ _ _ St (hL.put2 (v := .long x) h2))
      next => cases ha
    next => cases ha
  next => cases ha
set_option maxHeartbeats 1000000 in
theorem sm_k_lstore_n {k : Fin 4} : sm_OK X mi pc ls st w (.lstore_n k) := by
  intro B sa dC dI dA p l e R s m args below meth c Q L0 S0 H locs cells slots lsA len F St hL hR hd pc' ls' st' w' ha hz1 hz2 kk
  obtain ⟨hx, hb, hr, hml, hown, hts, hlk, hin, hK, hTF⟩ := F
  dsimp only [sm_act] at ha
  split at ha
  next hq =>
    subst hq
    unfold sm_stl at ha
    split at ha
    next x r =>
      split at ha
      next hlt => cases ha; exact lv_lstore_n hx hb hd rfl hL.has hlt rfl (fun ls2 h2 => kk _ _ _ _ _ St (hL.put2 (v := .long x) h2))
      next => cases ha
    next => cases ha
  next => cases ha
set_option maxHeartbeats 1000000 in
theorem sm_k_iinc {k : Nat} {n : Int} : sm_OK X mi pc ls st w (.iinc k n) := by
  intro B sa dC dI dA p l e R s m args below meth c Q L0 S0 H locs cells slots lsA len F St hL hR hd pc' ls' st' w' ha hz1 hz2 kk
  obtain ⟨hx, hb, hr, hml, hown, hts, hlk, hin, hK, hTF⟩ := F
  dsimp only [sm_act] at ha
  split at ha
  next hq =>
    subst hq
    split at ha
    next x hk =>
      split at ha
      next hlt =>
        cases ha
        obtain ⟨j, hj⟩ := List.getElem?_of_mem (sm_lv_mem (B := B) (sa := sa) (q := (k, .int x)).mpr ⟨.int x, hk, (by intro q; cases q), rfl⟩)
        exact lv_iinc hx hb hd hL.has hj rfl hlt rfl (fun ls2 h2 => kk _ _ _ _ _ St (hL.put1 (v := .int (x + Int32.ofInt n)) h2))
      next => cases ha
    next => cases ha
  next => cases ha
set_option maxHeartbeats 1000000 in
theorem sm_k_iadd : sm_OK X mi pc ls st w (.iadd) := by
  intro B sa dC dI dA p l e R s m args below meth c Q L0 S0 H locs cells slots lsA len F St hL hR hd pc' ls' st' w' ha hz1 hz2 kk
  obtain ⟨hx, hb, hr, hml, hown, hts, hlk, hin, hK, hTF⟩ := F
  dsimp only [sm_act] at ha
  split at ha
  next hq =>
    subst hq
    unfold sm_ii at ha
    split at ha
    next y x r => cases ha; exact lv_iadd hx hb hd (kk _ _ _ _ _ St hL)
    next => cases ha
  next => cases ha
set_option maxHeartbeats 1000000 in
theorem sm_k_isub : sm_OK X mi pc ls st w (.isub) := by
  intro B sa dC dI dA p l e R s m args below meth c Q L0 S0 H locs cells slots lsA len F St hL hR hd pc' ls' st' w' ha hz1 hz2 kk
  obtain ⟨hx, hb, hr, hml, hown, hts, hlk, hin, hK, hTF⟩ := F
  dsimp only [sm_act] at ha
  split at ha
  next hq =>
    subst hq
    unfold sm_ii at ha
    split at ha
    next y x r => cases ha; exact lv_isub hx hb hd (kk _ _ _ _ _ St hL)
    next => cases ha
  next => cases ha
set_option maxHeartbeats 1000000 in
theorem sm_k_imul : sm_OK X mi pc ls st w (.imul) := by
  intro B sa dC dI dA p l e R s m args below meth c Q L0 S0 H locs cells slots lsA len F St hL hR hd pc' ls' st' w' ha hz1 hz2 kk
  obtain ⟨hx, hb, hr, hml, hown, hts, hlk, hin, hK, hTF⟩ := F
  dsimp only [sm_act] at ha
  split at ha
  next hq =>
    subst hq
    unfold sm_ii at ha
    split at ha
    next y x r => cases ha; exact lv_imul hx hb hd (kk _ _ _ _ _ St hL)
    next => cases ha
  next => cases ha
set_option maxHeartbeats 1000000 in
theorem sm_k_iand : sm_OK X mi pc ls st w (.iand) := by
  intro B sa dC dI dA p l e R s m args below meth c Q L0 S0 H locs cells slots lsA len F St hL hR hd pc' ls' st' w' ha hz1 hz2 kk
  obtain ⟨hx, hb, hr, hml, hown, hts, hlk, hin, hK, hTF⟩ := F
  dsimp only [sm_act] at ha
  split at ha
  next hq =>
    subst hq
    unfold sm_ii at ha
    split at ha
    next y x r => cases ha; exact lv_iand hx hb hd (kk _ _ _ _ _ St hL)
    next => cases ha
  next => cases ha
set_option maxHeartbeats 1000000 in
theorem sm_k_ior : sm_OK X mi pc ls st w (.ior) := by
  intro B sa dC dI dA p l e R s m args below meth c Q L0 S0 H locs cells slots lsA len F St hL hR hd pc' ls' st' w' ha hz1 hz2 kk
  obtain ⟨hx, hb, hr, hml, hown, hts, hlk, hin, hK, hTF⟩ := F
  dsimp only [sm_act] at ha
  split at ha
  next hq =>
    subst hq
    unfold sm_ii at ha
    split at ha
    next y x r => cases ha; exact lv_ior hx hb hd (kk _ _ _ _ _ St hL)
    next => cases ha
  next => cases ha
set_option maxHeartbeats 1000000 in
theorem sm_k_ixor : sm_OK X mi pc ls st w (.ixor) := by
  intro B sa dC dI dA p l e R s m args below meth c Q L0 S0 H locs cells slots lsA len F St hL hR hd pc' ls' st' w' ha hz1 hz2 kk
  obtain ⟨hx, hb, hr, hml, hown, hts, hlk, hin, hK, hTF⟩ := F
  dsimp only [sm_act] at ha
  split at ha
  next hq =>
    subst hq
    unfold sm_ii at ha
    split at ha
    next y x r => cases ha; exact lv_ixor hx hb hd (kk _ _ _ _ _ St hL)
    next => cases ha
  next => cases ha
set_option maxHeartbeats 1000000 in
theorem sm_k_ishl : sm_OK X mi pc ls st w (.ishl) := by
  intro B sa dC dI dA p l e R s m args below meth c Q L0 S0 H locs cells slots lsA len F St hL hR hd pc' ls' st' w' ha hz1 hz2 kk
  obtain ⟨hx, hb, hr, hml, hown, hts, hlk, hin, hK, hTF⟩ := F
  dsimp only [sm_act] at ha
  split at ha
  next hq =>
    subst hq
    unfold sm_ii at ha
    split at ha
    next y x r => cases ha; exact lv_ishl hx hb hd (kk _ _ _ _ _ St hL)
    next => cases ha
  next => cases ha
set_option maxHeartbeats 1000000 in
theorem sm_k_iushr : sm_OK X mi pc ls st w (.iushr) := by
  intro B sa dC dI dA p l e R s m args below meth c Q L0 S0 H locs cells slots lsA len F St hL hR hd pc' ls' st' w' ha hz1 hz2 kk
  obtain ⟨hx, hb, hr, hml, hown, hts, hlk, hin, hK, hTF⟩ := F
  dsimp only [sm_act] at ha
  split at ha
  next hq =>
    subst hq
    unfold sm_ii at ha
    split at ha
    next y x r => cases ha; exact lv_iushr hx hb hd rfl (kk _ _ _ _ _ St hL)
    next => cases ha
  next => cases ha
set_option maxHeartbeats 1000000 in
theorem sm_k_ladd : sm_OK X mi pc ls st w (.ladd) := by
  intro B sa dC dI dA p l e R s m args below meth c Q L0 S0 H locs cells slots lsA len F St hL hR hd pc' ls' st' w' ha hz1 hz2 kk
  obtain ⟨hx, hb, hr, hml, hown, hts, hlk, hin, hK, hTF⟩ := F
  dsimp only [sm_act] at ha
  split at ha
  next hq =>
    subst hq
    unfold sm_ll at ha
    split at ha
    next y x r => cases ha; exact lv_ladd hx hb hd (kk _ _ _ _ _ St hL)
    next => cases ha
  next => cases ha
set_option maxHeartbeats 1000000 in
theorem sm_k_lsub : sm_OK X mi pc ls st w (.lsub) := by
  intro B sa dC dI dA p l e R s m args below meth c Q L0 S0 H locs cells slots lsA len F St hL hR hd pc' ls' st' w' ha hz1 hz2 kk
  obtain ⟨hx, hb, hr, hml, hown, hts, hlk, hin, hK, hTF⟩ := F
  dsimp only [sm_act] at ha
  split at ha
  next hq =>
    subst hq
    unfold sm_ll at ha
    split at ha
    next y x r => cases ha; exact lv_lsub hx hb hd (kk _ _ _ _ _ St hL)
    next => cases ha
  next => cases ha
set_option maxHeartbeats 1000000 in
theorem sm_k_lmul : sm_OK X mi pc ls st w (.lmul) := by
  intro B sa dC dI dA p l e R s m args below meth c Q L0 S0 H locs cells slots lsA len F St hL hR hd pc' ls' st' w' ha hz1 hz2 kk
  obtain ⟨hx, hb, hr, hml, hown, hts, hlk, hin, hK, hTF⟩ := F
  dsimp only [sm_act] at ha
  split at ha
  next hq =>
    subst hq
    unfold sm_ll at ha
    split at ha
    next y x r => cases ha; exact lv_lmul hx hb hd (kk _ _ _ _ _ St hL)
    next => cases ha
  next => cases ha
set_option maxHeartbeats 1000000 in
theorem sm_k_irem : sm_OK X mi pc ls st w (.irem) := by
  intro B sa dC dI dA p l e R s m args below meth c Q L0 S0 H locs cells slots lsA len F St hL hR hd pc' ls' st' w' ha hz1 hz2 kk
  obtain ⟨hx, hb, hr, hml, hown, hts, hlk, hin, hK, hTF⟩ := F
  dsimp only [sm_act] at ha
  split at ha
  next hq =>
    subst hq
    split at ha
    next y x r =>
      split at ha
      next => cases ha
      next hy => cases ha; exact lv_irem hx hb hd hy (kk _ _ _ _ _ St hL)
    next => cases ha
  next => cases ha
set_option maxHeartbeats 1000000 in
theorem sm_k_ldiv : sm_OK X mi pc ls st w (.ldiv) := by
  intro B sa dC dI dA p l e R s m args below meth c Q L0 S0 H locs cells slots lsA len F St hL hR hd pc' ls' st' w' ha hz1 hz2 kk
  obtain ⟨hx, hb, hr, hml, hown, hts, hlk, hin, hK, hTF⟩ := F
  dsimp only [sm_act] at ha
  split at ha
  next hq =>
    subst hq
    split at ha
    next y x r =>
      split at ha
      next => cases ha
      next hy => cases ha; exact lv_ldiv hx hb hd hy (kk _ _ _ _ _ St hL)
    next => cases ha
  next => cases ha
set_option maxHeartbeats 1000000 in
theorem sm_k_lcmp : sm_OK X mi pc ls st w (.lcmp) := by
  intro B sa dC dI dA p l e R s m args below meth c Q L0 S0 H locs cells slots lsA len F St hL hR hd pc' ls' st' w' ha hz1 hz2 kk
  obtain ⟨hx, hb, hr, hml, hown, hts, hlk, hin, hK, hTF⟩ := F
  dsimp only [sm_act] at ha
  split at ha
  next hq =>
    subst hq
    split at ha
    next y x r => cases ha; exact W.lcmp hx hb hd (kk _ _ _ _ _ St hL)
    next => cases ha
  next => cases ha
set_option maxHeartbeats 1000000 in
theorem sm_k_i2l : sm_OK X mi pc ls st w (.i2l) := by
  intro B sa dC dI dA p l e R s m args below meth c Q L0 S0 H locs cells slots lsA len F St hL hR hd pc' ls' st' w' ha hz1 hz2 kk
  obtain ⟨hx, hb, hr, hml, hown, hts, hlk, hin, hK, hTF⟩ := F
  dsimp only [sm_act] at ha
  split at ha
  next hq =>
    subst hq
    split at ha
    next x r => cases ha; exact lv_i2l hx hb hd rfl (kk _ _ _ _ _ St hL)
    next => cases ha
  next => cases ha
set_option maxHeartbeats 1000000 in
theorem sm_k_l2i : sm_OK X mi pc ls st w (.l2i) := by
  intro B sa dC dI dA p l e R s m args below meth c Q L0 S0 H locs cells slots lsA len F St hL hR hd pc' ls' st' w' ha hz1 hz2 kk
  obtain ⟨hx, hb, hr, hml, hown, hts, hlk, hin, hK, hTF⟩ := F
  dsimp only [sm_act] at ha
  split at ha
  next hq =>
    subst hq
    split at ha
    next x r => cases ha; exact lv_l2i hx hb hd rfl (kk _ _ _ _ _ St hL)
    next => cases ha
  next => cases ha
set_option maxHeartbeats 1000000 in
theorem sm_k_dup : sm_OK X mi pc ls st w (.dup) := by
  intro B sa dC dI dA p l e R s m args below meth c Q L0 S0 H locs cells slots lsA len F St hL hR hd pc' ls' st' w' ha hz1 hz2 kk
  obtain ⟨hx, hb, hr, hml, hown, hts, hlk, hin, hK, hTF⟩ := F
  dsimp only [sm_act] at ha
  split at ha
  next hq =>
    subst hq
    unfold sm_dup0 at ha
    split at ha
    next a r =>
      split at ha
      next h1 => cases ha; exact lv_dup hx hb hd (by rw [sm_mp_cat]; exact h1) (kk _ _ _ _ _ St hL)
      next => cases ha
    next => cases ha
  next => cases ha
set_option maxHeartbeats 1000000 in
theorem sm_k_dup_x1 : sm_OK X mi pc ls st w (.dup_x1) := by
  intro B sa dC dI dA p l e R s m args below meth c Q L0 S0 H locs cells slots lsA len F St hL hR hd pc' ls' st' w' ha hz1 hz2 kk
  obtain ⟨hx, hb, hr, hml, hown, hts, hlk, hin, hK, hTF⟩ := F
  dsimp only [sm_act] at ha
  split at ha
  next hq =>
    subst hq
    unfold sm_dup1 at ha
    split at ha
    next a b r =>
      split at ha
      next h1 => cases ha; exact lv_dup_x1 hx hb hd (by rw [sm_mp_cat]; exact h1.1) (by rw [sm_mp_cat]; exact h1.2) (kk _ _ _ _ _ St hL)
      next => cases ha
    next => cases ha
  next => cases ha
set_option maxHeartbeats 1000000 in
theorem sm_k_dup2 : sm_OK X mi pc ls st w (.dup2) := by
  intro B sa dC dI dA p l e R s m args below meth c Q L0 S0 H locs cells slots lsA len F St hL hR hd pc' ls' st' w' ha hz1 hz2 kk
  obtain ⟨hx, hb, hr, hml, hown, hts, hlk, hin, hK, hTF⟩ := F
  dsimp only [sm_act] at ha
  split at ha
  next hq =>
    subst hq
    unfold sm_dup2 at ha
    split at ha
    next a b r =>
      split at ha
      next h1 => cases ha; exact lv_dup2_11 hx hb hd (by rw [sm_mp_cat]; exact h1.1) (by rw [sm_mp_cat]; exact h1.2) (kk _ _ _ _ _ St hL)
      next => cases ha
    next => cases ha
  next => cases ha
set_option maxHeartbeats 1000000 in
theorem sm_k_pop : sm_OK X mi pc ls st w (.pop) := by
  intro B sa dC dI dA p l e R s m args below meth c Q L0 S0 H locs cells slots lsA len F St hL hR hd pc' ls' st' w' ha hz1 hz2 kk
  obtain ⟨hx, hb, hr, hml, hown, hts, hlk, hin, hK, hTF⟩ := F
  dsimp only [sm_act] at ha
  split at ha
  next hq =>
    subst hq
    unfold sm_pop at ha
    split at ha
    next a r =>
      split at ha
      next h1 => cases ha; exact lv_pop hx hb hd (by rw [sm_mp_cat]; exact h1) (kk _ _ _ _ _ St hL)
      next => cases ha
    next => cases ha
  next => cases ha
set_option maxHeartbeats 1000000 in
theorem sm_k_ifCond {cd : ClassFile.Cond} {off : Int} : sm_OK X mi pc ls st w (.ifCond cd off) := by
  intro B sa dC dI dA p l e R s m args below meth c Q L0 S0 H locs cells slots lsA len F St hL hR hd pc' ls' st' w' ha hz1 hz2 kk
  obtain ⟨hx, hb, hr, hml, hown, hts, hlk, hin, hK, hTF⟩ := F
  dsimp only [sm_act] at ha
  split at ha
  next hq =>
    subst hq
    split at ha
    next x r =>
      obtain ⟨ht, ha⟩ := sm_jmp_in ha
      cases ha
      cases cd
      · dsimp only [sm_br] at kk
        exact lv_if_eq hx hb hd ht (fun q => by rw [if_pos q] at kk; exact kk _ _ _ _ _ St hL) (fun q => by rw [if_neg q] at kk; exact kk _ _ _ _ _ St hL)
      · dsimp only [sm_br] at kk
        exact lv_if_ne hx hb hd ht (fun q => by rw [if_neg q] at kk; exact kk _ _ _ _ _ St hL) (fun q => by rw [if_pos q] at kk; exact kk _ _ _ _ _ St hL)
      · dsimp only [sm_br] at kk
        exact lv_if_lt hx hb hd ht (fun q => by rw [if_pos q] at kk; exact kk _ _ _ _ _ St hL) (fun q => by rw [if_neg q] at kk; exact kk _ _ _ _ _ St hL)
      · dsimp only [sm_br] at kk
        exact lv_if_ge hx hb hd ht (fun q => by rw [if_pos q] at kk; exact kk _ _ _ _ _ St hL) (fun q => by rw [if_neg q] at kk; exact kk _ _ _ _ _ St hL)
      · dsimp only [sm_br] at kk
        exact lv_if_gt hx hb hd ht (fun q => by rw [if_pos q] at kk; exact kk _ _ _ _ _ St hL) (fun q => by rw [if_neg q] at kk; exact kk _ _ _ _ _ St hL)
      · dsimp only [sm_br] at kk
        exact lv_if_le hx hb hd ht (fun q => by rw [if_pos q] at kk; exact kk _ _ _ _ _ St hL) (fun q => by rw [if_neg q] at kk; exact kk _ _ _ _ _ St hL)
    next => cases ha
  next => cases ha
set_option maxHeartbeats 1000000 in
theorem sm_k_if_icmp {cd : ClassFile.Cond} {off : Int} : sm_OK X mi pc ls st w (.if_icmp cd off) := by
  intro B sa dC dI dA p l e R s m args below meth c Q L0 S0 H locs cells slots lsA len F St hL hR hd pc' ls' st' w' ha hz1 hz2 kk
  obtain ⟨hx, hb, hr, hml, hown, hts, hlk, hin, hK, hTF⟩ := F
  dsimp only [sm_act] at ha
  split at ha
  next hq =>
    subst hq
    split at ha
    next y x r =>
      obtain ⟨ht, ha⟩ := sm_jmp_in ha
      cases ha
      cases cd
      · dsimp only [sm_br] at kk
        exact lv_icmp_eq hx hb hd ht (fun q => by rw [if_pos q] at kk; exact kk _ _ _ _ _ St hL) (fun q => by rw [if_neg q] at kk; exact kk _ _ _ _ _ St hL)
      · dsimp only [sm_br] at kk
        exact lv_icmp_ne hx hb hd ht (fun q => by rw [if_neg q] at kk; exact kk _ _ _ _ _ St hL) (fun q => by rw [if_pos q] at kk; exact kk _ _ _ _ _ St hL)
      · dsimp only [sm_br] at kk
        exact lv_icmp_lt hx hb hd ht (fun q => by rw [if_pos q] at kk; exact kk _ _ _ _ _ St hL) (fun q => by rw [if_neg q] at kk; exact kk _ _ _ _ _ St hL)
      · dsimp only [sm_br] at kk
        exact lv_icmp_ge hx hb hd ht (fun q => by rw [if_pos q] at kk; exact kk _ _ _ _ _ St hL) (fun q => by rw [if_neg q] at kk; exact kk _ _ _ _ _ St hL)
      · dsimp only [sm_br] at kk
        exact lv_icmp_gt hx hb hd ht (fun q => by rw [if_pos q] at kk; exact kk _ _ _ _ _ St hL) (fun q => by rw [if_neg q] at kk; exact kk _ _ _ _ _ St hL)
      · dsimp only [sm_br] at kk
        exact lv_icmp_le hx hb hd ht (fun q => by rw [if_pos q] at kk; exact kk _ _ _ _ _ St hL) (fun q => by rw [if_neg q] at kk; exact kk _ _ _ _ _ St hL)
    next => cases ha
  next => cases ha
set_option maxHeartbeats 1000000 in
theorem sm_k_goto {off : Int} : sm_OK X mi pc ls st w (.goto off) := by
  intro B sa dC dI dA p l e R s m args below meth c Q L0 S0 H locs cells slots lsA len F St hL hR hd pc' ls' st' w' ha hz1 hz2 kk
  obtain ⟨hx, hb, hr, hml, hown, hts, hlk, hin, hK, hTF⟩ := F
  dsimp only [sm_act] at ha
  split at ha
  next hq =>
    subst hq
    obtain ⟨ht, ha⟩ := sm_jmp_in ha
    cases ha
    exact lv_goto hx hb hd ht (kk _ _ _ _ _ St hL)
  next => cases ha
set_option maxHeartbeats 1000000 in
theorem sm_k_tableswitch {dflt lo hi : Int} {offs : Array Int} : sm_OK X mi pc ls st w (.tableswitch dflt lo hi offs) := by
  intro B sa dC dI dA p l e R s m args below meth c Q L0 S0 H locs cells slots lsA len F St hL hR hd pc' ls' st' w' ha hz1 hz2 kk
  obtain ⟨hx, hb, hr, hml, hown, hts, hlk, hin, hK, hTF⟩ := F
  dsimp only [sm_act] at ha
  split at ha
  next x r =>
    split at ha
    next t ht =>
      cases ha
      unfold sm_tab at ht
      split at ht
      next h1 =>
        split at ht
        next h2 => cases ht; exact lv_tableOut hx hb hd h1 h2 (kk _ _ _ _ _ St hL)
        next => cases ht
      next h1 =>
        split at ht
        next off ho =>
          split at ht
          next h2 => cases ht; exact lv_tableIn hx hb hd (fun q => h1 (Or.inl q)) (fun q => h1 (Or.inr q)) ho h2 (kk _ _ _ _ _ St hL)
          next => cases ht
        next => cases ht
    next => cases ha
  next => cases ha
set_option maxHeartbeats 1000000 in
theorem sm_k_lookupswitch {dflt : Int} {ps : Array (Int × Int)} : sm_OK X mi pc ls st w (.lookupswitch dflt ps) := by
  intro B sa dC dI dA p l e R s m args below meth c Q L0 S0 H locs cells slots lsA len F St hL hR hd pc' ls' st' w' ha hz1 hz2 kk
  obtain ⟨hx, hb, hr, hml, hown, hts, hlk, hin, hK, hTF⟩ := F
  dsimp only [sm_act] at ha
  split at ha
  next x r =>
    split at ha
    next t ht =>
      cases ha
      unfold sm_look at ht
      split at ht
      next h1 => cases ht; exact lv_lookup hx hb hd h1.1 rfl h1.2 (kk _ _ _ _ _ St hL)
      next => cases ht
    next => cases ha
  next => cases ha
end SMS
