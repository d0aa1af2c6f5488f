abbrev Mi : Type := MethodName × ByteArray × Nat × Option FieldType
abbrev Gm : Type := va_G × (Nat → ClassId)
def isXt : Cond → Bool
  | .fieldLinkNest .. => true
  | .methodLinkNest .. => true
  | .arrayOver (.object _) => true
  | _ => false
def gdT : List Cond := lw_tbl.filter goodWord
def xtT : List Cond := lw_tbl.filter isXt
def tyG (g : Gm) : List (ClassId × FieldType) := [(g.2 0, .int), (g.2 1, .object RX1), (g.2 2, .object RX2), (g.2 3, .object RX7), (g.2 4, .object RX8), (g.2 5, .object RX3)]
def gL : Nat → List Value → Option Value
  | _, [] => none
  | 0, v :: _ => some v
  | k + 1, _ :: l => gL k l
def sL : Nat → Value → List Value → List Value
  | 0, v, l => v :: l.tail
  | k + 1, v, x :: l => x :: sL k v l
  | _ + 1, _, [] => []
def asc : Nat → List Value → List (Nat × Value)
  | _, [] => []
  | k, v :: l => (k, v) :: asc (k + 1) l
theorem asc_of : ∀ (L : List Value) (k : Nat) (q : Nat × Value), q ∈ asc k L → ∃ j, q.1 = k + j ∧ gL j L = some q.2
  | [], _, _, h => by cases h
  | v :: l, k, q, h => by
    rcases List.mem_cons.mp h with h | h
    · exact ⟨0, by rw [h]; rfl, by rw [h]; rfl⟩
    · obtain ⟨j, h1, h2⟩ := asc_of l (k + 1) q h
      exact ⟨j + 1, by rw [h1]; omega, h2⟩
theorem asc_mem : ∀ (L : List Value) (k j : Nat) (w : Value), gL j L = some w → (k + j, w) ∈ asc k L
  | [], _, j, _, h => by cases j <;> cases h
  | v :: l, k, 0, w, h => by cases h; exact List.mem_cons_self
  | v :: l, k, j + 1, w, h => by
    have := asc_mem l (k + 1) j w h
    rw [show k + 1 + j = k + (j + 1) by omega] at this
    exact List.mem_cons_of_mem _ this
theorem gL_sL : ∀ (i j : Nat) (v w : Value) (L : List Value), gL j (sL i v L) = some w → (j = i ∧ w = v) ∨ (j ≠ i ∧ gL j L = some w)
  | 0, 0, v, w, L, h => by cases h; exact Or.inl ⟨rfl, rfl⟩
  | 0, j + 1, v, w, [], h => by cases j <;> cases h
  | 0, j + 1, v, w, x :: l, h => Or.inr ⟨by omega, h⟩
  | i + 1, j, v, w, [], h => by cases j <;> cases h
  | i + 1, 0, v, w, x :: l, h => Or.inr ⟨by omega, h⟩
  | i + 1, j + 1, v, w, x :: l, h => by
    rcases gL_sL i j v w l h with h | h
    · exact Or.inl ⟨by omega, h.2⟩
    · exact Or.inr ⟨by omega, h.2⟩
def Lk (ls : Array Slot) (n : Nat) (L : List Value) : Prop := ls.size = n ∧ lv_wf ls ∧ ∀ i v, gL i L = some v → ls[i]? = some (.val v) ∧ v.category = 1
theorem Lk.has {ls : Array Slot} {n : Nat} {L : List Value} (h : Lk ls n L) : lv_has ls n (asc 0 L) := by
  refine ⟨h.1, h.2.1, fun q hq => ?_⟩
  obtain ⟨j, h1, h2⟩ := asc_of L 0 q hq
  rw [h1, Nat.zero_add]
  exact (h.2.2 j q.2 h2).1
theorem Lk.stored {ls ls' : Array Slot} {n i : Nat} {v : Value} {L : List Value} (h : Lk ls n L) (hv : v.category = 1) (h' : lv_has ls' n ((i, v) :: (asc 0 L).filter (fun q => !(q.1 == i) && !(q.1 + 1 == i && q.2.category == 2)))) : Lk ls' n (sL i v L) := by
  refine ⟨h'.1, h'.2.1, fun j w hj => ?_⟩
  rcases gL_sL i j v w L hj with ⟨rfl, rfl⟩ | ⟨hne, hw⟩
  · exact ⟨h'.2.2 _ List.mem_cons_self, hv⟩
  · have hc := (h.2.2 j w hw).2
    refine ⟨h'.2.2 (j, w) (List.mem_cons_of_mem _ (List.mem_filter.mpr ⟨?_, ?_⟩)), hc⟩
    · have := asc_mem L 0 j w hw
      rwa [Nat.zero_add] at this
    · simp [hne, hc]
theorem Lk.sub {ls : Array Slot} {n : Nat} {L L' : List Value} (h : Lk ls n L) (hs : ∀ i v, gL i L' = some v → gL i L = some v) : Lk ls n L' := ⟨h.1, h.2.1, fun i v q => h.2.2 i v (hs i v q)⟩
abbrev Ctx : Type := Gm × Nat × (Array Value → State → Prop) × (List Frame → Array Value → State → State → Prop) × Room
def CX (C : Ctx) (Y : Mi) (p : Program) (s : State) (m : MethodId) (args : Array Value) (meth : Method) (c : Code) : Prop :=
  p.tables.exec = Jvm.exec ∧ c.code = Y.2.1 ∧ c.maxLocals = Y.2.2.1 ∧ meth.sig.returnType = Y.2.2.2 ∧ meth.locks = false ∧ s.vm.findClass Y.1.cls = some m.cls ∧ (∀ w ∈ gdT, w.before args s = true) ∧ (∀ w ∈ xtT, va_Nw w s) ∧ va_K C.1.1 vwCl (tyG C.1) s ∧ C.2.2.1 args s
/-- THE JUDGEMENT: at this place of this method, with these locals, this stack, these cells: the machine comes to the context's end -/
def V (C : Ctx) (Y : Mi) (pc : Nat) (L st : List Value) (ws : va_W) (nc ns : Nat) : Prop :=
  ∀ (p : Program) (l : Launch) (e : Env) (s : State) (m : MethodId) (args : Array Value) (below : List Frame) (meth : Method) (c : Code), CX C Y p s m args meth c →
  ∀ (H : Heap) (locs : List Loc) (ls : Array Slot), va_P C.1.1 vwCl ws H → va_D (fun q => C.2.1 ≤ q) ws → va_S (fun q => C.2.1 ≤ q) s.heap H locs → Lk ls Y.2.2.1 L →
  W p l e C.2.2.2.2 s m args below meth c H locs nc ns (C.2.2.2.1 below args s) (F0 m pc ls st)
section VROWS
variable {C : Ctx} {Y : Mi} {pc : Nat} {L st : List Value} {ws : va_W} {nc ns : Nat}
theorem V_sub {L' : List Value} (hs : ∀ i v, gL i L' = some v → gL i L = some v) (k : V C Y pc L' st ws nc ns) : V C Y pc L st ws nc ns := by
  intro p l e s m args below meth c hc H locs ls h1 h2 h3 h4
  exact k p l e s m args below meth c hc H locs ls h1 h2 h3 (h4.sub hs)
theorem V_pc {pc' : Nat} (h : pc = pc') (k : V C Y pc' L st ws nc ns) : V C Y pc L st ws nc ns := h ▸ k

theorem V_iload_n {k0 : Fin 4} {x : Int32} (hd : decode Y.2.1 pc = .ok (.iload_n k0, 1)) (hl : gL k0 L = some (.int x)) (k : V C Y (pc + 1) L (.int x :: st) ws nc ns) : V C Y pc L (st) ws nc ns := by
  intro p l e s m args below meth c hc H locs ls h1 h2 h3 h4
  exact lv_iload_n hc.1 hc.2.1 hd rfl (h4.2.2 _ _ hl).1 (k p l e s m args below meth c hc H locs ls h1 h2 h3 h4)
theorem V_iload {i : Nat} {x : Int32} (hd : decode Y.2.1 pc = .ok (.iload i, 2)) (hl : gL i L = some (.int x)) (k : V C Y (pc + 2) L (.int x :: st) ws nc ns) : V C Y pc L (st) ws nc ns := by
  intro p l e s m args below meth c hc H locs ls h1 h2 h3 h4
  exact lv_iload hc.1 hc.2.1 hd (h4.2.2 _ _ hl).1 (k p l e s m args below meth c hc H locs ls h1 h2 h3 h4)
theorem V_aload_n {k0 : Fin 4} {x : Nat} (hd : decode Y.2.1 pc = .ok (.aload_n k0, 1)) (hl : gL k0 L = some (.ref x)) (k : V C Y (pc + 1) L (.ref x :: st) ws nc ns) : V C Y pc L (st) ws nc ns := by
  intro p l e s m args below meth c hc H locs ls h1 h2 h3 h4
  exact lv_aload_n hc.1 hc.2.1 hd rfl (h4.2.2 _ _ hl).1 (k p l e s m args below meth c hc H locs ls h1 h2 h3 h4)
theorem V_aload {i : Nat} {x : Nat} (hd : decode Y.2.1 pc = .ok (.aload i, 2)) (hl : gL i L = some (.ref x)) (k : V C Y (pc + 2) L (.ref x :: st) ws nc ns) : V C Y pc L (st) ws nc ns := by
  intro p l e s m args below meth c hc H locs ls h1 h2 h3 h4
  exact lv_aload hc.1 hc.2.1 hd (h4.2.2 _ _ hl).1 (k p l e s m args below meth c hc H locs ls h1 h2 h3 h4)
theorem V_iconst {n : Int} (v : Int32) (hd : decode Y.2.1 pc = .ok (.iconst n, 1)) (hv : Int32.ofInt n = v) (k : V C Y (pc + 1) L (.int v :: st) ws nc ns) : V C Y pc L (st) ws nc ns := by
  intro p l e s m args below meth c hc H locs ls h1 h2 h3 h4
  exact lv_iconst hc.1 hc.2.1 hd hv (k p l e s m args below meth c hc H locs ls h1 h2 h3 h4)
theorem V_bipush {n : Int} (v : Int32) (hd : decode Y.2.1 pc = .ok (.bipush n, 2)) (hv : (Int8.ofInt n).toInt32 = v) (k : V C Y (pc + 2) L (.int v :: st) ws nc ns) : V C Y pc L (st) ws nc ns := by
  intro p l e s m args below meth c hc H locs ls h1 h2 h3 h4
  exact lv_bipush hc.1 hc.2.1 hd hv (k p l e s m args below meth c hc H locs ls h1 h2 h3 h4)
theorem V_sipush {n : Int} (v : Int32) (hd : decode Y.2.1 pc = .ok (.sipush n, 3)) (hv : (Int16.ofInt n).toInt32 = v) (k : V C Y (pc + 3) L (.int v :: st) ws nc ns) : V C Y pc L (st) ws nc ns := by
  intro p l e s m args below meth c hc H locs ls h1 h2 h3 h4
  exact lv_sipush hc.1 hc.2.1 hd hv (k p l e s m args below meth c hc H locs ls h1 h2 h3 h4)
theorem V_iadd {x y : Int32} (hd : decode Y.2.1 pc = .ok (.iadd, 1)) (k : V C Y (pc + 1) L (.int (x + y) :: st) ws nc ns) : V C Y pc L (.int y :: .int x :: st) ws nc ns := by
  intro p l e s m args below meth c hc H locs ls h1 h2 h3 h4
  exact lv_iadd hc.1 hc.2.1 hd (k p l e s m args below meth c hc H locs ls h1 h2 h3 h4)
theorem V_isub {x y : Int32} (hd : decode Y.2.1 pc = .ok (.isub, 1)) (k : V C Y (pc + 1) L (.int (x - y) :: st) ws nc ns) : V C Y pc L (.int y :: .int x :: st) ws nc ns := by
  intro p l e s m args below meth c hc H locs ls h1 h2 h3 h4
  exact lv_isub hc.1 hc.2.1 hd (k p l e s m args below meth c hc H locs ls h1 h2 h3 h4)
theorem V_imul {x y : Int32} (hd : decode Y.2.1 pc = .ok (.imul, 1)) (k : V C Y (pc + 1) L (.int (x * y) :: st) ws nc ns) : V C Y pc L (.int y :: .int x :: st) ws nc ns := by
  intro p l e s m args below meth c hc H locs ls h1 h2 h3 h4
  exact lv_imul hc.1 hc.2.1 hd (k p l e s m args below meth c hc H locs ls h1 h2 h3 h4)
theorem V_iand {x y : Int32} (hd : decode Y.2.1 pc = .ok (.iand, 1)) (k : V C Y (pc + 1) L (.int (x &&& y) :: st) ws nc ns) : V C Y pc L (.int y :: .int x :: st) ws nc ns := by
  intro p l e s m args below meth c hc H locs ls h1 h2 h3 h4
  exact lv_iand hc.1 hc.2.1 hd (k p l e s m args below meth c hc H locs ls h1 h2 h3 h4)
theorem V_ior {x y : Int32} (hd : decode Y.2.1 pc = .ok (.ior, 1)) (k : V C Y (pc + 1) L (.int (x ||| y) :: st) ws nc ns) : V C Y pc L (.int y :: .int x :: st) ws nc ns := by
  intro p l e s m args below meth c hc H locs ls h1 h2 h3 h4
  exact lv_ior hc.1 hc.2.1 hd (k p l e s m args below meth c hc H locs ls h1 h2 h3 h4)
theorem V_ixor {x y : Int32} (hd : decode Y.2.1 pc = .ok (.ixor, 1)) (k : V C Y (pc + 1) L (.int (x ^^^ y) :: st) ws nc ns) : V C Y pc L (.int y :: .int x :: st) ws nc ns := by
  intro p l e s m args below meth c hc H locs ls h1 h2 h3 h4
  exact lv_ixor hc.1 hc.2.1 hd (k p l e s m args below meth c hc H locs ls h1 h2 h3 h4)
theorem V_ishl {x y : Int32} (hd : decode Y.2.1 pc = .ok (.ishl, 1)) (k : V C Y (pc + 1) L (.int (x <<< (y &&& 31)) :: st) ws nc ns) : V C Y pc L (.int y :: .int x :: st) ws nc ns := by
  intro p l e s m args below meth c hc H locs ls h1 h2 h3 h4
  exact lv_ishl hc.1 hc.2.1 hd (k p l e s m args below meth c hc H locs ls h1 h2 h3 h4)
theorem V_ishr {x y : Int32} (hd : decode Y.2.1 pc = .ok (.ishr, 1)) (k : V C Y (pc + 1) L (.int (x >>> (y &&& 31)) :: st) ws nc ns) : V C Y pc L (.int y :: .int x :: st) ws nc ns := by
  intro p l e s m args below meth c hc H locs ls h1 h2 h3 h4
  exact lv_ishr hc.1 hc.2.1 hd (k p l e s m args below meth c hc H locs ls h1 h2 h3 h4)
theorem V_idiv {x y : Int32} (hd : decode Y.2.1 pc = .ok (.idiv, 1)) (hne : ¬ y = 0) (k : V C Y (pc + 1) L (.int (x / y) :: st) ws nc ns) : V C Y pc L (.int y :: .int x :: st) ws nc ns := by
  intro p l e s m args below meth c hc H locs ls h1 h2 h3 h4
  exact lv_idiv hc.1 hc.2.1 hd hne (k p l e s m args below meth c hc H locs ls h1 h2 h3 h4)
theorem V_irem {x y : Int32} (hd : decode Y.2.1 pc = .ok (.irem, 1)) (hne : ¬ y = 0) (k : V C Y (pc + 1) L (.int (x - x / y * y) :: st) ws nc ns) : V C Y pc L (.int y :: .int x :: st) ws nc ns := by
  intro p l e s m args below meth c hc H locs ls h1 h2 h3 h4
  exact lv_irem hc.1 hc.2.1 hd hne (k p l e s m args below meth c hc H locs ls h1 h2 h3 h4)
theorem V_iushr {x y : Int32} (hd : decode Y.2.1 pc = .ok (.iushr, 1)) (k : V C Y (pc + 1) L (.int (x.toUInt32 >>> (y.toUInt32 &&& Int32.toUInt32 31)).toInt32 :: st) ws nc ns) : V C Y pc L (.int y :: .int x :: st) ws nc ns := by
  intro p l e s m args below meth c hc H locs ls h1 h2 h3 h4
  exact lv_iushr hc.1 hc.2.1 hd rfl (k p l e s m args below meth c hc H locs ls h1 h2 h3 h4)
theorem V_i2b {x : Int32} (hd : decode Y.2.1 pc = .ok (.i2b, 1)) (k : V C Y (pc + 1) L (.int x.toInt8.toInt32 :: st) ws nc ns) : V C Y pc L (.int x :: st) ws nc ns := by
  intro p l e s m args below meth c hc H locs ls h1 h2 h3 h4
  exact lv_i2b hc.1 hc.2.1 hd rfl (k p l e s m args below meth c hc H locs ls h1 h2 h3 h4)
theorem V_i2s {x : Int32} (hd : decode Y.2.1 pc = .ok (.i2s, 1)) (k : V C Y (pc + 1) L (.int x.toInt16.toInt32 :: st) ws nc ns) : V C Y pc L (.int x :: st) ws nc ns := by
  intro p l e s m args below meth c hc H locs ls h1 h2 h3 h4
  exact lv_i2s hc.1 hc.2.1 hd rfl (k p l e s m args below meth c hc H locs ls h1 h2 h3 h4)
theorem V_i2l {x : Int32} (hd : decode Y.2.1 pc = .ok (.i2l, 1)) (k : V C Y (pc + 1) L (.long x.toInt64 :: st) ws nc ns) : V C Y pc L (.int x :: st) ws nc ns := by
  intro p l e s m args below meth c hc H locs ls h1 h2 h3 h4
  exact lv_i2l hc.1 hc.2.1 hd rfl (k p l e s m args below meth c hc H locs ls h1 h2 h3 h4)
theorem V_lcmp {x y : Int64} (hd : decode Y.2.1 pc = .ok (.lcmp, 1)) (k : V C Y (pc + 1) L (.int (lg_cmp x y) :: st) ws nc ns) : V C Y pc L (.long y :: .long x :: st) ws nc ns := by
  intro p l e s m args below meth c hc H locs ls h1 h2 h3 h4
  exact W.lcmp hc.1 hc.2.1 hd (k p l e s m args below meth c hc H locs ls h1 h2 h3 h4)
theorem V_dup {va : Value} (hd : decode Y.2.1 pc = .ok (.dup, 1)) (hva : va.category = 1) (k : V C Y (pc + 1) L (va :: va :: st) ws nc ns) : V C Y pc L (va :: st) ws nc ns := by
  intro p l e s m args below meth c hc H locs ls h1 h2 h3 h4
  exact lv_dup hc.1 hc.2.1 hd hva (k p l e s m args below meth c hc H locs ls h1 h2 h3 h4)
theorem V_pop {va : Value} (hd : decode Y.2.1 pc = .ok (.pop, 1)) (hva : va.category = 1) (k : V C Y (pc + 1) L (st) ws nc ns) : V C Y pc L (va :: st) ws nc ns := by
  intro p l e s m args below meth c hc H locs ls h1 h2 h3 h4
  exact lv_pop hc.1 hc.2.1 hd hva (k p l e s m args below meth c hc H locs ls h1 h2 h3 h4)
theorem V_dup2 {va vb : Value} (hd : decode Y.2.1 pc = .ok (.dup2, 1)) (hva : va.category = 1) (hvb : vb.category = 1) (k : V C Y (pc + 1) L (va :: vb :: va :: vb :: st) ws nc ns) : V C Y pc L (va :: vb :: st) ws nc ns := by
  intro p l e s m args below meth c hc H locs ls h1 h2 h3 h4
  exact lv_dup2_11 hc.1 hc.2.1 hd hva hvb (k p l e s m args below meth c hc H locs ls h1 h2 h3 h4)
theorem V_ldc {i : Nat} (v : Int32) (hd : decode Y.2.1 pc = .ok (.ldc i, 2)) (hw : Cond.constant Y.1.cls i v ∈ gdT) (k : V C Y (pc + 2) L (.int v :: st) ws nc ns) : V C Y pc L (st) ws nc ns := by
  intro p l e s m args below meth c hc H locs ls h1 h2 h3 h4
  exact lv_ldc hc.1 hc.2.1 hc.2.2.2.2.2.1 (hc.2.2.2.2.2.2.1 _ hw) hd (k p l e s m args below meth c hc H locs ls h1 h2 h3 h4)
theorem V_ldcw {i : Nat} (v : Int32) (hd : decode Y.2.1 pc = .ok (.ldc_w i, 3)) (hw : Cond.constant Y.1.cls i v ∈ gdT) (k : V C Y (pc + 3) L (.int v :: st) ws nc ns) : V C Y pc L (st) ws nc ns := by
  intro p l e s m args below meth c hc H locs ls h1 h2 h3 h4
  exact lv_ldcw hc.1 hc.2.1 hc.2.2.2.2.2.1 (hc.2.2.2.2.2.2.1 _ hw) hd (k p l e s m args below meth c hc H locs ls h1 h2 h3 h4)
theorem V_ldc2 {i : Nat} (v : Int64) (hd : decode Y.2.1 pc = .ok (.ldc2_w i, 3)) (hw : Cond.constantLong Y.1.cls i v ∈ gdT) (k : V C Y (pc + 3) L (.long v :: st) ws nc ns) : V C Y pc L (st) ws nc ns := by
  intro p l e s m args below meth c hc H locs ls h1 h2 h3 h4
  exact lv_ldc2 hc.1 hc.2.1 hc.2.2.2.2.2.1 (hc.2.2.2.2.2.2.1 _ hw) hd (k p l e s m args below meth c hc H locs ls h1 h2 h3 h4)
theorem V_istore_n {k0 : Fin 4} {x : Int32} (hd : decode Y.2.1 pc = .ok (.istore_n k0, 1)) (hn : k0 < Y.2.2.1) (k : V C Y (pc + 1) (sL k0 (.int x) L) st ws nc ns) : V C Y pc L (.int x :: st) ws nc ns := by
  intro p l e s m args below meth c hc H locs ls h1 h2 h3 h4
  exact lv_istore_n hc.1 hc.2.1 hd rfl h4.has hn rfl (fun ls hl => k p l e s m args below meth c hc H locs ls h1 h2 h3 (h4.stored rfl hl))
theorem V_istore {i : Nat} {x : Int32} (hd : decode Y.2.1 pc = .ok (.istore i, 2)) (hn : i < Y.2.2.1) (k : V C Y (pc + 2) (sL i (.int x) L) st ws nc ns) : V C Y pc L (.int x :: st) ws nc ns := by
  intro p l e s m args below meth c hc H locs ls h1 h2 h3 h4
  exact lv_istore hc.1 hc.2.1 hd h4.has hn rfl (fun ls hl => k p l e s m args below meth c hc H locs ls h1 h2 h3 (h4.stored rfl hl))
theorem V_astore_n {k0 : Fin 4} {x : Nat} (hd : decode Y.2.1 pc = .ok (.astore_n k0, 1)) (hn : k0 < Y.2.2.1) (k : V C Y (pc + 1) (sL k0 (.ref x) L) st ws nc ns) : V C Y pc L (.ref x :: st) ws nc ns := by
  intro p l e s m args below meth c hc H locs ls h1 h2 h3 h4
  exact lv_astore_n hc.1 hc.2.1 hd rfl h4.has hn rfl (fun ls hl => k p l e s m args below meth c hc H locs ls h1 h2 h3 (h4.stored rfl hl))
theorem V_iinc {i : Nat} {n : Int} {x : Int32} (v : Int32) (hd : decode Y.2.1 pc = .ok (.iinc i n, 3)) (hn : i < Y.2.2.1) (hl : gL i L = some (.int x)) (hv : x + Int32.ofInt n = v) (k : V C Y (pc + 3) (sL i (.int v) L) st ws nc ns) : V C Y pc L st ws nc ns := by
  intro p l e s m args below meth c hc H locs ls h1 h2 h3 h4
  have hm := asc_mem L 0 i _ hl
  rw [Nat.zero_add] at hm
  obtain ⟨j, hj⟩ := List.getElem?_of_mem hm
  exact lv_iinc hc.1 hc.2.1 hd h4.has hj hv hn rfl (fun ls hl => k p l e s m args below meth c hc H locs ls h1 h2 h3 (h4.stored rfl hl))
theorem V_goto {off : Int} (tgt : Nat) (hd : decode Y.2.1 pc = .ok (.goto off, 3)) (ht : (pc : Int) + off = (tgt : Int)) (k : V C Y tgt L st ws nc ns) : V C Y pc L st ws nc ns := by
  intro p l e s m args below meth c hc H locs ls h1 h2 h3 h4
  exact lv_goto hc.1 hc.2.1 hd ht (k p l e s m args below meth c hc H locs ls h1 h2 h3 h4)
theorem V_if_eq {x : Int32} {off : Int} (tgt : Nat) (hd : decode Y.2.1 pc = .ok (.ifCond .eq off, 3)) (ht : (pc : Int) + off = (tgt : Int)) (kt : x = 0 → V C Y tgt L st ws nc ns) (kf : ¬ x = 0 → V C Y (pc + 3) L st ws nc ns) : V C Y pc L (.int x :: st) ws nc ns := by
  intro p l e s m args below meth c hc H locs ls h1 h2 h3 h4
  exact lv_if_eq hc.1 hc.2.1 hd ht (fun q => kt q p l e s m args below meth c hc H locs ls h1 h2 h3 h4) (fun q => kf q p l e s m args below meth c hc H locs ls h1 h2 h3 h4)
theorem V_if_ne {x : Int32} {off : Int} (tgt : Nat) (hd : decode Y.2.1 pc = .ok (.ifCond .ne off, 3)) (ht : (pc : Int) + off = (tgt : Int)) (kt : ¬ x = 0 → V C Y tgt L st ws nc ns) (kf : x = 0 → V C Y (pc + 3) L st ws nc ns) : V C Y pc L (.int x :: st) ws nc ns := by
  intro p l e s m args below meth c hc H locs ls h1 h2 h3 h4
  exact lv_if_ne hc.1 hc.2.1 hd ht (fun q => kt q p l e s m args below meth c hc H locs ls h1 h2 h3 h4) (fun q => kf q p l e s m args below meth c hc H locs ls h1 h2 h3 h4)
theorem V_if_lt {x : Int32} {off : Int} (tgt : Nat) (hd : decode Y.2.1 pc = .ok (.ifCond .lt off, 3)) (ht : (pc : Int) + off = (tgt : Int)) (kt : x < 0 → V C Y tgt L st ws nc ns) (kf : ¬ x < 0 → V C Y (pc + 3) L st ws nc ns) : V C Y pc L (.int x :: st) ws nc ns := by
  intro p l e s m args below meth c hc H locs ls h1 h2 h3 h4
  exact lv_if_lt hc.1 hc.2.1 hd ht (fun q => kt q p l e s m args below meth c hc H locs ls h1 h2 h3 h4) (fun q => kf q p l e s m args below meth c hc H locs ls h1 h2 h3 h4)
theorem V_if_ge {x : Int32} {off : Int} (tgt : Nat) (hd : decode Y.2.1 pc = .ok (.ifCond .ge off, 3)) (ht : (pc : Int) + off = (tgt : Int)) (kt : 0 ≤ x → V C Y tgt L st ws nc ns) (kf : ¬ 0 ≤ x → V C Y (pc + 3) L st ws nc ns) : V C Y pc L (.int x :: st) ws nc ns := by
  intro p l e s m args below meth c hc H locs ls h1 h2 h3 h4
  exact lv_if_ge hc.1 hc.2.1 hd ht (fun q => kt q p l e s m args below meth c hc H locs ls h1 h2 h3 h4) (fun q => kf q p l e s m args below meth c hc H locs ls h1 h2 h3 h4)
theorem V_if_gt {x : Int32} {off : Int} (tgt : Nat) (hd : decode Y.2.1 pc = .ok (.ifCond .gt off, 3)) (ht : (pc : Int) + off = (tgt : Int)) (kt : 0 < x → V C Y tgt L st ws nc ns) (kf : ¬ 0 < x → V C Y (pc + 3) L st ws nc ns) : V C Y pc L (.int x :: st) ws nc ns := by
  intro p l e s m args below meth c hc H locs ls h1 h2 h3 h4
  exact lv_if_gt hc.1 hc.2.1 hd ht (fun q => kt q p l e s m args below meth c hc H locs ls h1 h2 h3 h4) (fun q => kf q p l e s m args below meth c hc H locs ls h1 h2 h3 h4)
theorem V_if_le {x : Int32} {off : Int} (tgt : Nat) (hd : decode Y.2.1 pc = .ok (.ifCond .le off, 3)) (ht : (pc : Int) + off = (tgt : Int)) (kt : x ≤ 0 → V C Y tgt L st ws nc ns) (kf : ¬ x ≤ 0 → V C Y (pc + 3) L st ws nc ns) : V C Y pc L (.int x :: st) ws nc ns := by
  intro p l e s m args below meth c hc H locs ls h1 h2 h3 h4
  exact lv_if_le hc.1 hc.2.1 hd ht (fun q => kt q p l e s m args below meth c hc H locs ls h1 h2 h3 h4) (fun q => kf q p l e s m args below meth c hc H locs ls h1 h2 h3 h4)
theorem V_icmp_eq {x y : Int32} {off : Int} (tgt : Nat) (hd : decode Y.2.1 pc = .ok (.if_icmp .eq off, 3)) (ht : (pc : Int) + off = (tgt : Int)) (kt : x = y → V C Y tgt L st ws nc ns) (kf : ¬ x = y → V C Y (pc + 3) L st ws nc ns) : V C Y pc L (.int y :: .int x :: st) ws nc ns := by
  intro p l e s m args below meth c hc H locs ls h1 h2 h3 h4
  exact lv_icmp_eq hc.1 hc.2.1 hd ht (fun q => kt q p l e s m args below meth c hc H locs ls h1 h2 h3 h4) (fun q => kf q p l e s m args below meth c hc H locs ls h1 h2 h3 h4)
theorem V_icmp_ne {x y : Int32} {off : Int} (tgt : Nat) (hd : decode Y.2.1 pc = .ok (.if_icmp .ne off, 3)) (ht : (pc : Int) + off = (tgt : Int)) (kt : ¬ x = y → V C Y tgt L st ws nc ns) (kf : x = y → V C Y (pc + 3) L st ws nc ns) : V C Y pc L (.int y :: .int x :: st) ws nc ns := by
  intro p l e s m args below meth c hc H locs ls h1 h2 h3 h4
  exact lv_icmp_ne hc.1 hc.2.1 hd ht (fun q => kt q p l e s m args below meth c hc H locs ls h1 h2 h3 h4) (fun q => kf q p l e s m args below meth c hc H locs ls h1 h2 h3 h4)
theorem V_icmp_lt {x y : Int32} {off : Int} (tgt : Nat) (hd : decode Y.2.1 pc = .ok (.if_icmp .lt off, 3)) (ht : (pc : Int) + off = (tgt : Int)) (kt : x < y → V C Y tgt L st ws nc ns) (kf : ¬ x < y → V C Y (pc + 3) L st ws nc ns) : V C Y pc L (.int y :: .int x :: st) ws nc ns := by
  intro p l e s m args below meth c hc H locs ls h1 h2 h3 h4
  exact lv_icmp_lt hc.1 hc.2.1 hd ht (fun q => kt q p l e s m args below meth c hc H locs ls h1 h2 h3 h4) (fun q => kf q p l e s m args below meth c hc H locs ls h1 h2 h3 h4)
theorem V_icmp_ge {x y : Int32} {off : Int} (tgt : Nat) (hd : decode Y.2.1 pc = .ok (.if_icmp .ge off, 3)) (ht : (pc : Int) + off = (tgt : Int)) (kt : y ≤ x → V C Y tgt L st ws nc ns) (kf : ¬ y ≤ x → V C Y (pc + 3) L st ws nc ns) : V C Y pc L (.int y :: .int x :: st) ws nc ns := by
  intro p l e s m args below meth c hc H locs ls h1 h2 h3 h4
  exact lv_icmp_ge hc.1 hc.2.1 hd ht (fun q => kt q p l e s m args below meth c hc H locs ls h1 h2 h3 h4) (fun q => kf q p l e s m args below meth c hc H locs ls h1 h2 h3 h4)
theorem V_icmp_gt {x y : Int32} {off : Int} (tgt : Nat) (hd : decode Y.2.1 pc = .ok (.if_icmp .gt off, 3)) (ht : (pc : Int) + off = (tgt : Int)) (kt : y < x → V C Y tgt L st ws nc ns) (kf : ¬ y < x → V C Y (pc + 3) L st ws nc ns) : V C Y pc L (.int y :: .int x :: st) ws nc ns := by
  intro p l e s m args below meth c hc H locs ls h1 h2 h3 h4
  exact lv_icmp_gt hc.1 hc.2.1 hd ht (fun q => kt q p l e s m args below meth c hc H locs ls h1 h2 h3 h4) (fun q => kf q p l e s m args below meth c hc H locs ls h1 h2 h3 h4)
theorem V_icmp_le {x y : Int32} {off : Int} (tgt : Nat) (hd : decode Y.2.1 pc = .ok (.if_icmp .le off, 3)) (ht : (pc : Int) + off = (tgt : Int)) (kt : x ≤ y → V C Y tgt L st ws nc ns) (kf : ¬ x ≤ y → V C Y (pc + 3) L st ws nc ns) : V C Y pc L (.int y :: .int x :: st) ws nc ns := by
  intro p l e s m args below meth c hc H locs ls h1 h2 h3 h4
  exact lv_icmp_le hc.1 hc.2.1 hd ht (fun q => kt q p l e s m args below meth c hc H locs ls h1 h2 h3 h4) (fun q => kf q p l e s m args below meth c hc H locs ls h1 h2 h3 h4)
theorem V_tableIn {dflt lo hi : Int} {offs : Array Int} {len : Nat} {x : Int32} {off : Int} (tgt : Nat) (hd : decode Y.2.1 pc = .ok (.tableswitch dflt lo hi offs, len)) (g1 : ¬ x.toInt < lo) (g2 : ¬ hi < x.toInt) (ho : offs[(x.toInt - lo).toNat]? = some off) (ht : (pc : Int) + off = (tgt : Int)) (k : V C Y tgt L st ws nc ns) : V C Y pc L (.int x :: st) ws nc ns := by
  intro p l e s m args below meth c hc H locs ls h1 h2 h3 h4
  exact lv_tableIn hc.1 hc.2.1 hd g1 g2 ho ht (k p l e s m args below meth c hc H locs ls h1 h2 h3 h4)
theorem V_tableOut {dflt lo hi : Int} {offs : Array Int} {len : Nat} {x : Int32} (tgt : Nat) (hd : decode Y.2.1 pc = .ok (.tableswitch dflt lo hi offs, len)) (g1 : x.toInt < lo ∨ hi < x.toInt) (ht : (pc : Int) + dflt = (tgt : Int)) (k : V C Y tgt L st ws nc ns) : V C Y pc L (.int x :: st) ws nc ns := by
  intro p l e s m args below meth c hc H locs ls h1 h2 h3 h4
  exact lv_tableOut hc.1 hc.2.1 hd g1 ht (k p l e s m args below meth c hc H locs ls h1 h2 h3 h4)
theorem V_lookup {dflt : Int} {ps : Array (Int × Int)} {len : Nat} {x : Int32} {off : Int} (tgt : Nat) (hd : decode Y.2.1 pc = .ok (.lookupswitch dflt ps, len)) (hp : (ps.toList.zip (ps.toList.drop 1)).all (fun (a, next) => a.1 < next.1) = true) (ho : Op.lookupswitch.offset ps.toList dflt x.toInt = off) (ht : (pc : Int) + off = (tgt : Int)) (k : V C Y tgt L st ws nc ns) : V C Y pc L (.int x :: st) ws nc ns := by
  intro p l e s m args below meth c hc H locs ls h1 h2 h3 h4
  exact lv_lookup hc.1 hc.2.1 hd hp ho ht (k p l e s m args below meth c hc H locs ls h1 h2 h3 h4)
/-- a field's link: entry idx of class own's pool is field k of class number ci -/
def FL (own : String) (idx ci k : Nat) : Prop := ∃ (c0 : String) (T : u_T) (N : Nat), vwCl[ci]? = some (c0, T, N) ∧ k < N ∧ (∀ w ∈ u_ws c0 T N, w ∈ gdT) ∧ (Cond.fieldLink own idx (T k).1 (T k).2.1 (T k).2.2.1 ∈ gdT ∨ ∃ host, Cond.fieldLinkNest own idx (T k).1 (T k).2.1 (T k).2.2.1 host ∈ xtT)
/-- and one that may be written -/
def FP (own : String) (idx ci k : Nat) (ty : FieldType) : Prop := ∃ (c0 : String) (T : u_T) (N : Nat) (ty0 : Nat → FieldType), vwCl[ci]? = some (c0, T, N) ∧ k < N ∧ (∀ w ∈ u_ws c0 T N, w ∈ gdT) ∧ (∀ k, k < N → parseFieldDescriptor (T k).2.2.1 = some (ty0 k)) ∧ (∀ a, a < N → ∀ b, b < N → a ≠ b → (T a).2.1 ≠ (T b).2.1) ∧ (T k).2.2.2 = false ∧ ty0 k = ty ∧ (Cond.fieldLink own idx (T k).1 (T k).2.1 (T k).2.2.1 ∈ gdT ∨ ∃ host, Cond.fieldLinkNest own idx (T k).1 (T k).2.1 (T k).2.2.1 host ∈ xtT)
theorem V_get {idx ci fk a : Nat} {fs : List Value} {v : Value} (f : FL Y.1.cls idx ci fk) (hd : decode Y.2.1 pc = .ok (.getfield idx, 3)) (q0 : Nat) (he : ws[q0]? = some (a, .inr (ci, fs))) (hv : fs[fk]? = some v) (k : V C Y (pc + 3) L (v :: st) ws nc ns) : V C Y pc L (.ref a :: st) ws nc ns := by
  intro p l e s m args below meth c hc H locs ls h1 h2 h3 h4
  have hx := k p l e s m args below meth c hc H locs ls h1 h2 h3 h4
  obtain ⟨c0, T, N, f1, f2, f3, f4 | ⟨host, f4⟩⟩ := f
  · exact va_get hc.1 hc.2.1 hc.2.2.2.2.2.2.1 f3 hc.2.2.2.2.2.1 hc.2.2.2.2.2.2.2.2.1 h1 q0 he f1 fk f2 (hc.2.2.2.2.2.2.1 _ f4) (fun _ h => h) hv hd hx
  · exact va_getN hc.1 hc.2.1 hc.2.2.2.2.2.2.1 f3 hc.2.2.2.2.2.1 hc.2.2.2.2.2.2.2.2.1 h1 q0 he f1 fk f2 (va_Nw.use rfl (hc.2.2.2.2.2.2.2.1 _ f4)) (fun _ h => h) hv hd hx
theorem V_put {idx ci fk a : Nat} {fs : List Value} {v : Value} {ty : FieldType} (f : FP Y.1.cls idx ci fk ty) (hd : decode Y.2.1 pc = .ok (.putfield idx, 3)) (q0 : Nat) (he : ws[q0]? = some (a, .inr (ci, fs))) (hn : narrow ty v = v) (hfit : fits ty v = true) (hl : fk < fs.length) (k : V C Y (pc + 3) L st (ws.set q0 (a, .inr (ci, fs.set fk v))) nc ns) : V C Y pc L (v :: .ref a :: st) ws nc ns := by
  intro p l e s m args below meth c hc H locs ls h1 h2 h3 h4
  obtain ⟨c0, T, N, ty0, f1, f2, f3, f5, f6, f7, f8, f4 | ⟨host, f4⟩⟩ := f
  · exact va_put hc.1 hc.2.1 hc.2.2.2.2.2.2.1 f3 ty0 f5 f6 hc.2.2.2.2.2.1 hc.2.2.2.2.2.2.2.2.1 h1 h2 h3 q0 he f1 fk f2 (hc.2.2.2.2.2.2.1 _ f4) (fun _ h => h) f7 (by rw [← f8]; exact f5 fk f2) hn hfit hl hd (fun H1 l1 g1 g2 g3 => k p l e s m args below meth c hc H1 l1 ls g1 g2 g3 h4)
  · exact va_putN hc.1 hc.2.1 hc.2.2.2.2.2.2.1 f3 ty0 f5 f6 hc.2.2.2.2.2.1 hc.2.2.2.2.2.2.2.2.1 h1 h2 h3 q0 he f1 fk f2 (va_Nw.use rfl (hc.2.2.2.2.2.2.2.1 _ f4)) (fun _ h => h) f7 (by rw [← f8]; exact f5 fk f2) hn hfit hl hd (fun H1 l1 g1 g2 g3 => k p l e s m args below meth c hc H1 l1 ls g1 g2 g3 h4)
theorem V_iald {a n : Nat} {f : Nat → Int32} {i : Int32} (hd : decode Y.2.1 pc = .ok (.iaload, 1)) (q0 : Nat) (ha : ws[q0]? = some (a, .inl (C.1.2 0, n, .inl f))) (hin : vp_in i n) (k : V C Y (pc + 1) L (.int (f i.toNatClampNeg) :: st) ws nc ns) : V C Y pc L (.int i :: .ref a :: st) ws nc ns := by
  intro p l e s m args below meth c hc H locs ls h1 h2 h3 h4
  exact va_iald hc.1 hc.2.1 hc.2.2.2.2.2.2.2.2.1 h1 q0 0 ha rfl hin hd (k p l e s m args below meth c hc H locs ls h1 h2 h3 h4)
theorem V_iast {a n : Nat} {f : Nat → Int32} {i x : Int32} (hd : decode Y.2.1 pc = .ok (.iastore, 1)) (q0 : Nat) (ha : ws[q0]? = some (a, .inl (C.1.2 0, n, .inl f))) (hin : vp_in i n) (k : V C Y (pc + 1) L st (ws.set q0 (a, .inl (C.1.2 0, n, .inl (upd f i.toNatClampNeg x)))) nc ns) : V C Y pc L (.int x :: .int i :: .ref a :: st) ws nc ns := by
  intro p l e s m args below meth c hc H locs ls h1 h2 h3 h4
  exact va_iast hc.1 hc.2.1 hc.2.2.2.2.2.2.2.2.1 h1 h2 h3 q0 0 ha rfl hin hd (fun H1 l1 g1 g2 g3 => k p l e s m args below meth c hc H1 l1 ls g1 g2 g3 h4)
theorem V_aald {a n t0 : Nat} {cA : ClassId} {nm : String} {f : Nat → Option Nat} {i : Int32} (hd : decode Y.2.1 pc = .ok (.aaload, 1)) (q0 : Nat) (ha : ws[q0]? = some (a, .inl (cA, n, .inr (.inr (.inr (.inr f)))))) (ht : (tyG C.1)[t0]? = some (cA, .object nm)) (hin : vp_in i n) (k : V C Y (pc + 1) L (va_rf (f i.toNatClampNeg) :: st) ws nc ns) : V C Y pc L (.int i :: .ref a :: st) ws nc ns := by
  intro p l e s m args below meth c hc H locs ls h1 h2 h3 h4
  exact va_aldq hc.1 hc.2.1 hc.2.2.2.2.2.2.2.2.1 h1 q0 t0 ha ht hin hd (k p l e s m args below meth c hc H locs ls h1 h2 h3 h4)
theorem V_alen {a n : Nat} {f : Nat → Int32} (hd : decode Y.2.1 pc = .ok (.arraylength, 1)) (q0 : Nat) (ha : ws[q0]? = some (a, .inl (C.1.2 0, n, .inl f))) (k : V C Y (pc + 1) L (.int (Int32.ofNat n) :: st) ws nc ns) : V C Y pc L (.ref a :: st) ws nc ns := by
  intro p l e s m args below meth c hc H locs ls h1 h2 h3 h4
  exact va_alen hc.1 hc.2.1 hc.2.2.2.2.2.2.2.2.1 h1 q0 0 ha rfl rfl hd (k p l e s m args below meth c hc H locs ls h1 h2 h3 h4)
/-- the link of System.arraycopy -/
def LC (own : String) (idx : Nat) : Prop := Cond.methodLink own idx arraycopyName ∈ gdT ∧ Cond.native arraycopyName ∈ gdT ∧ Cond.static arraycopyName ∈ gdT ∧ Cond.initialized "java/lang/System" ∈ gdT
theorem V_copy {idx a a0 n0 n1 : Nat} {f g : Nat → Int32} {sp dp n : Int32} (lc : LC Y.1.cls idx) (hd : decode Y.2.1 pc = .ok (.invokestatic idx, 3)) (q0 q1 : Nat) (ha0 : ws[q0]? = some (a0, .inl (C.1.2 0, n0, .inl f))) (ha1 : ws[q1]? = some (a, .inl (C.1.2 0, n1, .inl g))) (g1 : ¬ sp < 0) (g2 : ¬ dp < 0) (g3 : ¬ n < 0) (g4 : sp.toNatClampNeg + n.toNatClampNeg ≤ n0) (g5 : dp.toNatClampNeg + n.toNatClampNeg ≤ n1) (hf : 1 ≤ C.2.2.2.2.frames) (hl : (st.map fun v => v.category).sum + (nativeFrameWords "java/lang/System" "arraycopy" 5 + 11) ≤ C.2.2.2.2.locals)
    (k : V C Y (pc + 3) L st (ws.set q1 (a, .inl (C.1.2 0, n1, .inl (va_cpy f g sp.toNatClampNeg dp.toNatClampNeg n.toNatClampNeg)))) nc ns) : V C Y pc L (.int n :: .int dp :: .ref a :: .int sp :: .ref a0 :: st) ws nc ns := by
  intro p l e s m args below meth c hc H locs ls h1 h2 h3 h4
  exact va_copyi hc.1 hc.2.1 (by rw [hc.2.2.1, h4.1]) hc.2.2.2.2.2.1 (hc.2.2.2.2.2.2.1 _ lc.1) (hc.2.2.2.2.2.2.1 _ lc.2.1) (hc.2.2.2.2.2.2.1 _ lc.2.2.1) (hc.2.2.2.2.2.2.1 _ lc.2.2.2) hc.2.2.2.2.2.2.2.2.1 h1 h2 h3 q0 q1 0 0 ha0 ha1 rfl rfl rfl g1 g2 g3 g4 g5 (fun _ _ => rfl) hf hl hd (fun H1 l1 g1 g2 g3 => k p l e s m args below meth c hc H1 l1 ls g1 g2 g3 h4)
end VROWS
/-! contracts -/
def rmD (d mc ms : Nat) : Room := { frames := d, cells := mc, slots := ms, locals := 40 * d }
def wsY (Y : Mi) : List Cond := .code Y.1 Y.2.1 Y.2.2.1 Y.2.2.2 :: gdT
def Nx (U : State) : Prop := ∀ w ∈ xtT, va_Nw w U
def PcY (g : Gm) (B : Nat) (as : List Value) (ws : va_W) : Array Value → State → Prop := va_Pc as (fun U => va_P g.1 vwCl ws U.heap ∧ va_D (fun q => B ≤ q) ws ∧ B ≤ U.heap.size ∧ va_K g.1 vwCl (tyG g) U ∧ Nx U)
def QcY (g : Gm) (B : Nat) (Q : Option Value → va_W → Prop) : Array Value → State → Outcome → State → Prop := fun _ st oc t => (∃ (v : Option Value) (ws' : va_W), oc = .returned v ∧ Q v ws' ∧ va_P g.1 vwCl ws' t.heap ∧ va_D (fun q => B ≤ q) ws') ∧ va_F (fun q => B ≤ q) st t
/-- a method's contract: from these arguments and cells it comes to an answer and cells with Q -/
def CT (g : Gm) (B d mc ms : Nat) (Y : Mi) (as : List Value) (ws : va_W) (Q : Option Value → va_W → Prop) : Prop := ∀ l, Met l Y.1 (wsY Y) (rmD d mc ms) (PcY g B as ws) (QcY g B Q) mc ms (fun q => B ≤ q)
def CQ (g : Gm) (B d mc ms : Nat) (Q : Option Value → va_W → Prop) : Ctx := (g, B, (fun _ s => B ≤ s.heap.size), (fun below args s => MQ below (QcY g B Q) args s mc ms (fun q => B ≤ q)), rmD d mc ms)
theorem xt_link {w : Cond} (h : w ∈ xtT) : isXt w = true := (List.mem_filter.mp h).2
theorem Nx.moved {s U : State} (hW : s.WarmedH U.vm) (h : Nx s) : Nx U := by
  intro w hw
  have hi := xt_link hw
  have h1 := h w hw
  cases w <;> first | exact va_Nw.warmF hW h1 | exact va_Nw.warmM hW h1 | cases hi | (rename_i ty; cases ty <;> first | exact va_AO.moved hW.alike h1 | cases hi)
theorem Nx_same {u U : State} (hv : u.vm = U.vm) (h : Nx u) : Nx U := by
  intro w hw
  have hi := xt_link hw
  have h1 := h w hw
  cases w <;> first | exact va_Nw.same rfl hv h1 | cases hi | (rename_i ty; cases ty <;> first | exact va_AO.moved (by rw [hv]; exact Vm.Alike.refl _) h1 | cases hi)
theorem gd_good : GoodIn gdT gdT := fun w h => ⟨h, good_of_word (List.mem_filter.mp h).2⟩
theorem gd_goodY {Y : Mi} (h : Cond.code Y.1 Y.2.1 Y.2.2.1 Y.2.2.2 ∈ gdT) : GoodIn gdT (wsY Y) := fun w hw => by
  rcases List.mem_cons.mp hw with rfl | hw
  · exact gd_good _ h
  · exact gd_good _ hw
theorem Lk.entry (vs : List Value) (n : Nat) (hc : ∀ v ∈ vs, v.category = 1) (hn : vs.length ≤ n) : (lg_sl vs).length ≤ n ∧ lv_args 0 vs = asc 0 vs := by
  have h1 : ∀ (vs : List Value), (∀ v ∈ vs, v.category = 1) → (lg_sl vs).length = vs.length := by
    intro vs
    induction vs with
    | nil => intro _; rfl
    | cons v l ih =>
      intro h
      have h0 := h v List.mem_cons_self
      have := ih (fun w hw => h w (List.mem_cons_of_mem _ hw))
      simp only [lg_sl, List.flatMap_cons, List.length_append, List.length_cons] at this ⊢
      rw [this, if_neg (by rw [h0]; decide)]
      simp only [List.length_cons, List.length_nil]
      omega
  have h2 : ∀ (vs : List Value) (k : Nat), (∀ v ∈ vs, v.category = 1) → lv_args k vs = asc k vs := by
    intro vs
    induction vs with
    | nil => intro _ _; rfl
    | cons v l ih =>
      intro k h
      have h0 := h v List.mem_cons_self
      rw [lv_args, asc, if_neg (by rw [h0]; decide), ih _ (fun w hw => h w (List.mem_cons_of_mem _ hw))]
  exact ⟨by rw [h1 vs hc]; exact hn, h2 vs 0 hc⟩
theorem gL_mem : ∀ (L : List Value) (i : Nat) (v : Value), gL i L = some v → v ∈ L
  | [], i, _, h => by cases i <;> cases h
  | _ :: _, 0, _, h => by cases h; exact List.mem_cons_self
  | _ :: l, i + 1, v, h => List.mem_cons_of_mem _ (gL_mem l i v h)
theorem CT.ofV {g : Gm} {B d mc ms : Nat} {Y : Mi} {as : List Value} {ws : va_W} {Q : Option Value → va_W → Prop} (hy : plainName Y.1.cls = true) (hc : as.all (fun v => v.category == 1) = true) (hn : as.length ≤ Y.2.2.1) (h : V (CQ g B d mc ms Q) Y 0 as [] ws 0 0) : CT g B d mc ms Y as ws Q := by
  have hcat : ∀ v ∈ as, v.category = 1 := fun v hv => by simpa using List.all_eq_true.mp hc v hv
  intro l
  refine Met.ofW (cc := Y.2.1) (maxL := Y.2.2.1) (ret := Y.2.2.2) hy rfl ?_
  intro p e s m args below meth c s₁ B hml hv
  obtain ⟨rfl, hP, hD, hB, hK, hN⟩ := hv
  have hts := atoms_spec (ws := wsY Y) B.pre
  have hown : s.vm.findClass Y.1.cls = some m.cls := findClass_of_methodNamed B.named
  obtain ⟨e1, e2⟩ := Lk.entry as Y.2.2.1 hcat hn
  have hl := lv_entry as e1
  rw [e2] at hl
  rw [lg_entry_eq]
  refine h p l e s m as.toArray below meth c ⟨B.exec, B.bytes, hml, B.returns, B.notSynchronized, hown, fun w hw => hts w (List.mem_cons_of_mem _ hw), hN, hK, hB⟩ s.heap [] _ hP hD va_S.rf ⟨hl.1, hl.2.1, fun i v hi => ⟨?_, hcat v (gL_mem as i v hi)⟩⟩
  have := hl.2.2 _ (asc_mem as 0 i v hi)
  rwa [Nat.zero_add] at this
section VRET
variable {g : Gm} {B d mc ms : Nat} {Q : Option Value → va_W → Prop} {Y : Mi} {pc : Nat} {L : List Value} {ws : va_W}
theorem V_iret {ty : FieldType} {v : Int32} (hd : decode Y.2.1 pc = .ok (.ireturn, 1)) (hY : Y.2.2.2 = some ty) (hn : narrow ty (.int v) = .int v) (hq : Q (some (.int v)) ws) : V (CQ g B d mc ms Q) Y pc L [.int v] ws mc ms := by
  intro p l e s m args below meth c hc H locs ls h1 h2 h3 h4
  exact W.zret hc.1 hc.2.1 (by rw [hc.2.2.2.1]; exact hY) hn (fun t ht _ => ⟨⟨_, ws, rfl, hq, by rw [ht]; exact h1, h2⟩, h3.F ht⟩) h3.2.2 hd hc.2.2.2.2.1
theorem V_lret {v : Int64} (hd : decode Y.2.1 pc = .ok (.lreturn, 1)) (hY : Y.2.2.2 = some .long) (hq : Q (some (.long v)) ws) : V (CQ g B d mc ms Q) Y pc L [.long v] ws mc ms := by
  intro p l e s m args below meth c hc H locs ls h1 h2 h3 h4
  exact W.lret hc.1 hc.2.1 (by rw [hc.2.2.2.1]; exact hY) (fun t ht _ => ⟨⟨_, ws, rfl, hq, by rw [ht]; exact h1, h2⟩, h3.F ht⟩) h3.2.2 hd hc.2.2.2.2.1
theorem V_vret (hd : decode Y.2.1 pc = .ok (.return_, 1)) (hY : Y.2.2.2 = none) (hq : Q none ws) : V (CQ g B d mc ms Q) Y pc L [] ws mc ms := by
  intro p l e s m args below meth c hc H locs ls h1 h2 h3 h4
  exact W.vret hc.1 hc.2.1 (by rw [hc.2.2.2.1]; exact hY) (fun t ht _ => ⟨⟨_, ws, rfl, hq, by rw [ht]; exact h1, h2⟩, h3.F ht⟩) h3.2.2 hd hc.2.2.2.2.1
end VRET
/-! calls -/
def LkM (own : String) (idx : Nat) (y : MethodName) : Prop := Cond.methodLink own idx y ∈ gdT ∨ ∃ host, Cond.methodLinkNest own idx y host ∈ xtT
/-- what the tables say of a method that is called, by its number of arguments -/
def MB (Y : Mi) (n : Nat) : Prop := Cond.initialized Y.1.cls ∈ gdT ∧ Cond.code Y.1 Y.2.1 Y.2.2.1 Y.2.2.2 ∈ gdT ∧ Y.1.cls ≠ "java/lang/invoke/MethodHandle" ∧ Y.1.cls ≠ "java/lang/invoke/VarHandle" ∧ (parseMethodDescriptor Y.1.desc).map (fun d => d.parameters.length) = some n
def MS (Y : Mi) (n : Nat) : Prop := MB Y n ∧ Cond.static Y.1 ∈ gdT
def MV (Y : Mi) (n : Nat) : Prop := MB Y n ∧ Cond.instanceMethod Y.1 ∈ gdT ∧ Cond.selects Y.1.cls Y.1 Y.1 ∈ gdT
def MI (Y : Mi) (n : Nat) : Prop := MB Y n ∧ Cond.instanceMethod Y.1 ∈ gdT ∧ Y.1.name = "<init>" ∧ Y.2.2.2 = none
theorem Pc_blind {g : Gm} {B : Nat} {as : List Value} {ws : va_W} : FrameBlind (PcY g B as ws) := by
  intro a U fr mk q
  obtain ⟨q0, q1, q2, q3, q4, q5⟩ := q
  exact ⟨q0, q1, q2, q3, va_K.moved (u := U) (U := U.calling fr mk a) (Vm.Alike.refl U.vm) q4, fun w hw => Nx_same (u := U) (U := U.calling fr mk a) rfl q5 w hw⟩
theorem Pc_at {g : Gm} {B : Nat} {as : List Value} {ws : va_W} {s : State} {H : Heap} (h1 : va_P g.1 vwCl ws H) (h2 : va_D (fun q => B ≤ q) ws) (h3 : B ≤ H.size) (hK : va_K g.1 vwCl (tyG g) s) (hN : Nx s) : ∀ U : State, U.heap = H → s.WarmedH U.vm → PcY g B as ws as.toArray U :=
  fun U hU hW => ⟨rfl, by rw [hU]; exact h1, h2, by rw [hU]; exact h3, va_K.moved hW.alike hK, hN.moved hW⟩
theorem V_run {C : Ctx} {Y : Mi} {pc : Nat} {L : List Value} {stk rest : List Value} {nc ns mc ms : Nat} {Q : Option Value → va_W → Prop} (kk : ∀ (v : Option Value) (ws' : va_W), Q v ws' → V C Y (pc + 3) L (v.toList ++ rest) ws' (nc + mc) (ns + ms))
    {p : Program} {l : Launch} {e : Env} {s : State} {m : MethodId} {args : Array Value} {below : List Frame} {meth : Method} {c : Code} (hc : CX C Y p s m args meth c) {H : Heap} {locs : List Loc} {ls : Array Slot} {a : Array Value} (h3 : va_S (fun q => C.2.1 ≤ q) s.heap H locs) (h4 : Lk ls Y.2.2.1 L)
    (hr : va_Run p l e C.2.2.2.2 s m args below meth c H locs nc ns mc ms (F0 m pc ls stk) rest (QcY C.1 C.2.1 Q a) (fun q => C.2.1 ≤ q)) : W p l e C.2.2.2.2 s m args below meth c H locs nc ns (C.2.2.2.1 below args s) (F0 m pc ls stk) := by
  intro T hT X
  obtain ⟨v, st₀, t, T', L1, e0, X', hL, e1, e2, ⟨⟨v1, ws', hv, hq, hP, hD⟩, hz, hk⟩, st⟩ := hr T hT X
  cases hv
  rw [e0] at hz hk
  obtain ⟨t2, a1, b1⟩ := kk v ws' hq p l e s m args below meth c hc T'.heap (locs ++ L1) ls (by rw [e1]; exact hP) hD
    ⟨Nat.le_trans h3.1 (by rw [e1]; exact hz), fun q g1 g2 => by rw [e1, hk q (Nat.lt_of_lt_of_le g1 h3.1) g2]; exact h3.2.1 q g1 g2, fun q hq => by
      rcases List.mem_append.mp hq with h | h
      · exact h3.2.2 q h
      · exact hL q h⟩ h4 T' rfl X'
  exact ⟨t2, st t2 a1, b1⟩
section VCALLS
variable {C : Ctx} {Y : Mi} {pc : Nat} {L : List Value} {stk rest : List Value} {ws : va_W} {nc ns d mc ms n idx : Nat} {Q : Option Value → va_W → Prop} {Y' : Mi}
theorem V_callS {as : List Value} (hM : MS Y' n) (hl : LkM Y.1.cls idx Y'.1) (hd : decode Y.2.1 pc = .ok (.invokestatic idx, 3)) (hct : CT C.1 C.2.1 d mc ms Y' as ws Q) (hB : ∀ args s, C.2.2.1 args s → C.2.1 ≤ s.heap.size) (hst : stk = as.reverse ++ rest) (hn : as.length = n) (hw : (rest.map fun v => v.category).sum ≤ 8) (hf : d + 1 ≤ C.2.2.2.2.frames) (hlo : 8 + (Y'.2.2.1 + 11) + 40 * d ≤ C.2.2.2.2.locals) (hcc : nc + mc ≤ C.2.2.2.2.cells) (hss : ns + ms ≤ C.2.2.2.2.slots)
    (kk : ∀ (v : Option Value) (ws' : va_W), Q v ws' → V C Y (pc + 3) L (v.toList ++ rest) ws' (nc + mc) (ns + ms)) : V C Y pc L stk ws nc ns := by
  intro p l e s m args below meth c hc H locs ls h1 h2 h3 h4
  subst hst
  have hB' : C.2.1 ≤ H.size := Nat.le_trans (hB _ _ hc.2.2.2.2.2.2.2.2.2) h3.1
  have hts := hc.2.2.2.2.2.2.1
  rcases hl with hl | ⟨host, hl⟩
  · exact V_run kk hc h3 h4 (va_runS (n := n) (Ts := gdT) (own := Y.1.cls) (bytes := Y'.2.1) (maxL := Y'.2.2.1) (ret := Y'.2.2.2) (As := as) ⟨hc.1, hc.2.1, hc.2.2.1, hc.2.2.2.2.2.1, hts⟩ (hct l) ⟨callB_of n hts (gd_goodY hM.1.2.1) rfl rfl rfl (hts _ hM.1.1) (hts _ hl) ⟨hM.1.2.2.1, hM.1.2.2.2.1, hM.1.2.2.2.2⟩ ⟨hf, hlo⟩, hts _ hM.2⟩ ⟨Pc_blind, Pc_at h1 h2 hB' hc.2.2.2.2.2.2.2.2.1 hc.2.2.2.2.2.2.2.1⟩ rfl hn h4.1 rfl (lv_room hw) hd ⟨hcc, hss⟩)
  · exact V_run kk hc h3 h4 (va_runSN (n := n) (Ts := gdT) (own := Y.1.cls) (host := host) (bytes := Y'.2.1) (maxL := Y'.2.2.1) (ret := Y'.2.2.2) (As := as) ⟨hc.1, hc.2.1, hc.2.2.1, hc.2.2.2.2.2.1, hts⟩ (hct l) ⟨va_cnB n hts (gd_goodY hM.1.2.1) rfl rfl rfl (hc.2.2.2.2.2.2.2.1 _ hl) (hts _ hM.1.1) ⟨hM.1.2.2.1, hM.1.2.2.2.1, hM.1.2.2.2.2⟩ ⟨hf, hlo⟩, hts _ hM.2, trivial⟩ ⟨Pc_blind, Pc_at h1 h2 hB' hc.2.2.2.2.2.2.2.2.1 hc.2.2.2.2.2.2.2.1⟩ rfl hn h4.1 rfl (lv_room hw) hd ⟨hcc, hss⟩)
theorem V_callV {as : List Value} {b q0 ci N : Nat} {T : u_T} {fs : List Value} (hM : MV Y' n) (hl : LkM Y.1.cls idx Y'.1) (hd : decode Y.2.1 pc = .ok (.invokevirtual idx, 3)) (hci : vwCl[ci]? = some (Y'.1.cls, T, N)) (he : ws[q0]? = some (b, .inr (ci, fs))) (hct : CT C.1 C.2.1 d mc ms Y' (.ref b :: as) ws Q) (hB : ∀ args s, C.2.2.1 args s → C.2.1 ≤ s.heap.size) (hst : stk = as.reverse ++ .ref b :: rest) (hn : as.length = n) (hw : (rest.map fun v => v.category).sum ≤ 8) (hf : d + 1 ≤ C.2.2.2.2.frames) (hlo : 8 + (Y'.2.2.1 + 11) + 40 * d ≤ C.2.2.2.2.locals) (hcc : nc + mc ≤ C.2.2.2.2.cells) (hss : ns + ms ≤ C.2.2.2.2.slots)
    (kk : ∀ (v : Option Value) (ws' : va_W), Q v ws' → V C Y (pc + 3) L (v.toList ++ rest) ws' (nc + mc) (ns + ms)) : V C Y pc L stk ws nc ns := by
  intro p l e s m args below meth c hc H locs ls h1 h2 h3 h4
  subst hst
  have hB' : C.2.1 ≤ H.size := Nat.le_trans (hB _ _ hc.2.2.2.2.2.2.2.2.2) h3.1
  have hts := hc.2.2.2.2.2.2.1
  have hrc := va_recv hc.2.2.2.2.2.2.2.2.1 h1 hci he
  rcases hl with hl | ⟨host, hl⟩
  · exact V_run kk hc h3 h4 (va_runV (n := n) (Ts := gdT) (C := Y'.1.cls) (own := Y.1.cls) (bytes := Y'.2.1) (maxL := Y'.2.2.1) (ret := Y'.2.2.2) (As := as) ⟨hc.1, hc.2.1, hc.2.2.1, hc.2.2.2.2.2.1, hts⟩ (hct l) ⟨callB_of n hts (gd_goodY hM.1.2.1) rfl rfl rfl (hts _ hM.1.1) (hts _ hl) ⟨hM.1.2.2.1, hM.1.2.2.2.1, hM.1.2.2.2.2⟩ ⟨hf, hlo⟩, hts _ hM.2.1, hts _ hM.2.2⟩ ⟨Pc_blind, hrc, Pc_at h1 h2 hB' hc.2.2.2.2.2.2.2.2.1 hc.2.2.2.2.2.2.2.1⟩ rfl hn h4.1 rfl (lv_room hw) hd ⟨hcc, hss⟩)
  · exact V_run kk hc h3 h4 (va_runVN (n := n) (Ts := gdT) (C := Y'.1.cls) (own := Y.1.cls) (host := host) (bytes := Y'.2.1) (maxL := Y'.2.2.1) (ret := Y'.2.2.2) (As := as) ⟨hc.1, hc.2.1, hc.2.2.1, hc.2.2.2.2.2.1, hts⟩ (hct l) ⟨va_cnB n hts (gd_goodY hM.1.2.1) rfl rfl rfl (hc.2.2.2.2.2.2.2.1 _ hl) (hts _ hM.1.1) ⟨hM.1.2.2.1, hM.1.2.2.2.1, hM.1.2.2.2.2⟩ ⟨hf, hlo⟩, hts _ hM.2.1, hts _ hM.2.2⟩ ⟨Pc_blind, hrc, Pc_at h1 h2 hB' hc.2.2.2.2.2.2.2.2.1 hc.2.2.2.2.2.2.2.1⟩ rfl hn h4.1 rfl (lv_room hw) hd ⟨hcc, hss⟩)
theorem V_callI {as : List Value} {b : Nat} (hM : MI Y' n) (hl : LkM Y.1.cls idx Y'.1) (hd : decode Y.2.1 pc = .ok (.invokespecial idx, 3)) (hct : CT C.1 C.2.1 d mc ms Y' (.ref b :: as) ws Q) (hB : ∀ args s, C.2.2.1 args s → C.2.1 ≤ s.heap.size) (hst : stk = as.reverse ++ .ref b :: rest) (hn : as.length = n) (hw : (rest.map fun v => v.category).sum ≤ 8) (hf : d + 1 ≤ C.2.2.2.2.frames) (hlo : 8 + (Y'.2.2.1 + 11) + 40 * d ≤ C.2.2.2.2.locals) (hcc : nc + mc ≤ C.2.2.2.2.cells) (hss : ns + ms ≤ C.2.2.2.2.slots)
    (kk : ∀ (v : Option Value) (ws' : va_W), Q v ws' → V C Y (pc + 3) L (v.toList ++ rest) ws' (nc + mc) (ns + ms)) : V C Y pc L stk ws nc ns := by
  intro p l e s m args below meth c hc H locs ls h1 h2 h3 h4
  subst hst
  have hB' : C.2.1 ≤ H.size := Nat.le_trans (hB _ _ hc.2.2.2.2.2.2.2.2.2) h3.1
  have hts := hc.2.2.2.2.2.2.1
  obtain ⟨y, bytes, maxL, ret⟩ := Y'
  obtain ⟨hM, hM2, hM3, hM4⟩ := hM
  dsimp only at hM4
  subst hM4
  rcases hl with hl | ⟨host, hl⟩
  · exact V_run kk hc h3 h4 (va_runI (n := n) (Ts := gdT) (own := Y.1.cls) (bytes := bytes) (maxL := maxL) (As := as) ⟨hc.1, hc.2.1, hc.2.2.1, hc.2.2.2.2.2.1, hts⟩ (hct l) ⟨callB_of n hts (gd_goodY hM.2.1) rfl rfl rfl (hts _ hM.1) (hts _ hl) ⟨hM.2.2.1, hM.2.2.2.1, hM.2.2.2.2⟩ ⟨hf, hlo⟩, hM3, hts _ hM2⟩ ⟨Pc_blind, Pc_at h1 h2 hB' hc.2.2.2.2.2.2.2.2.1 hc.2.2.2.2.2.2.2.1⟩ rfl hn h4.1 rfl (lv_room hw) hd ⟨hcc, hss⟩)
  · exact V_run kk hc h3 h4 (va_runIN (n := n) (Ts := gdT) (own := Y.1.cls) (host := host) (bytes := bytes) (maxL := maxL) (As := as) ⟨hc.1, hc.2.1, hc.2.2.1, hc.2.2.2.2.2.1, hts⟩ (hct l) ⟨va_cnB n hts (gd_goodY hM.2.1) rfl rfl rfl (hc.2.2.2.2.2.2.2.1 _ hl) (hts _ hM.1) ⟨hM.2.2.1, hM.2.2.2.1, hM.2.2.2.2⟩ ⟨hf, hlo⟩, hM3, hts _ hM2⟩ ⟨Pc_blind, Pc_at h1 h2 hB' hc.2.2.2.2.2.2.2.2.1 hc.2.2.2.2.2.2.2.1⟩ rfl hn h4.1 rfl (lv_room hw) hd ⟨hcc, hss⟩)
end VCALLS

