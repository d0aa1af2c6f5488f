/-! rows for the constructors: cells come in front -/
theorem va_P.perm {D : va_G} {cl : List vw_C} {ws ws' : va_W} {H : Heap} (hp : ws'.Perm ws) (h : va_P D cl ws H) : va_P D cl ws' H := by
  intro k q hk
  obtain ⟨i, hi⟩ := List.getElem?_of_mem (hp.mem_iff.mp (List.mem_of_getElem? hk))
  exact h i q hi
theorem va_D.nd {A : Nat → Prop} {ws : va_W} (h : va_D A ws) : (ws.map (fun q => q.1)).Nodup := by
  refine List.pairwise_iff_getElem.mpr (fun i j hi hj hij => ?_)
  rw [List.length_map] at hi hj
  intro e
  simp only [List.getElem_map] at e
  have := h.1 i j _ _ (List.getElem?_eq_getElem hi) (List.getElem?_eq_getElem hj) e
  omega
theorem va_D.ofnd {A : Nat → Prop} {ws : va_W} (h : (ws.map (fun q => q.1)).Nodup) (hA : ∀ q ∈ ws, A q.1) : va_D A ws := by
  refine ⟨fun i j p q hi hj e => ?_, fun k q hk => hA q (List.mem_of_getElem? hk)⟩
  have h1 : (ws.map (fun q => q.1))[i]? = some p.1 := by rw [List.getElem?_map, hi]; rfl
  have h2 : (ws.map (fun q => q.1))[j]? = some q.1 := by rw [List.getElem?_map, hj]; rfl
  have hl : i < (ws.map (fun q => q.1)).length := (List.getElem?_eq_some_iff.mp h1).1
  exact (List.getElem?_inj hl h).mp (by rw [h1, h2, e])
theorem va_D.perm {A : Nat → Prop} {ws ws' : va_W} (hp : ws'.Perm ws) (h : va_D A ws) : va_D A ws' := by
  refine va_D.ofnd ((hp.map _).nodup_iff.mpr h.nd) (fun q hq => ?_)
  obtain ⟨i, hi⟩ := List.getElem?_of_mem (hp.mem_iff.mp hq)
  exact h.2 i q hi
def Xc (B : Nat) : Array Value → State → Prop := fun args s => B ≤ s.heap.size ∧ ∀ (m : MethodId) (below : List Frame) (meth : Method), s.frames = .invoking m args :: below → s.vm.method? m = some meth → meth.name = "<init>"
def CQc (g : Gm) (B d mc ms : Nat) (Q : Option Value → va_W → Prop) : Ctx := (g, B, Xc B, (fun below args s => MQ below (QcY g B Q) args s mc ms (fun q => B ≤ q)), rmD d mc ms)
theorem CT.ofVc {g : Gm} {B d mc ms : Nat} {Y : Mi} {as : List Value} {ws : va_W} {Q : Option Value → va_W → Prop} (hy : plainName Y.1.cls = true) (hi : Y.1.name = "<init>") (hc : as.all (fun v => v.category == 1) = true) (hn : as.length ≤ Y.2.2.1) (h : V (CQc g B d mc ms Q) Y 0 as [] ws 0 0) : CT g B d mc ms Y as ws Q := by
  have hcat : ∀ v ∈ as, v.category = 1 := fun v hv => by simpa using List.all_eq_true.mp hc v hv
  intro l
  refine Met.ofW (cc := Y.2.1) (maxL := Y.2.2.1) (ret := Y.2.2.2) hy rfl ?_
  intro p e s m args below meth c s₁ B hml hv
  obtain ⟨rfl, hP, hD, hB, hK, hN⟩ := hv
  have hts := atoms_spec (ws := wsY Y) B.pre
  have hown : s.vm.findClass Y.1.cls = some m.cls := findClass_of_methodNamed B.named
  have hnm := (name_of_methodNamed B.named B.method).1
  obtain ⟨e1, e2⟩ := Lk.entry as Y.2.2.1 hcat hn
  have hl := lv_entry as e1
  rw [e2] at hl
  rw [lg_entry_eq]
  refine h p l e s m as.toArray below meth c ⟨B.exec, B.bytes, hml, B.returns, B.notSynchronized, hown, fun w hw => hts w (List.mem_cons_of_mem _ hw), hN, hK, hB, fun m' below' meth' hf hm => ?_⟩ s.heap [] _ hP hD va_S.rf ⟨hl.1, hl.2.1, fun i v hi => ⟨?_, hcat v (gL_mem as i v hi)⟩⟩
  · have h1 := hf.symm.trans B.frames
    cases h1
    have h2 := hm.symm.trans B.method
    cases h2
    rw [hnm]
    exact hi
  · have := hl.2.2 _ (asc_mem as 0 i v hi)
    rwa [Nat.zero_add] at this
section CROWS
variable {C : Ctx} {Y : Mi} {pc : Nat} {L st : List Value} {ws : va_W} {nc ns : Nat}
theorem V_perm {ws' : va_W} (hp : ws'.Perm ws) (k : V C Y pc L st ws' nc ns) : V C Y pc L st ws nc ns := by
  intro p l e s m args below meth c hc H locs ls h1 h2 h3 h4
  exact k p l e s m args below meth c hc H locs ls (h1.perm hp) (h2.perm hp) h3 h4
theorem V_ws {ws' : va_W} (h : ws = ws') (k : V C Y pc L st ws' nc ns) : V C Y pc L st ws nc ns := h ▸ k
theorem V_new {idx ci N : Nat} {c0 : String} {T : u_T} (ty0 : Nat → FieldType) (fs : List Value) (hB : ∀ args s, C.2.2.1 args s → C.2.1 ≤ s.heap.size) (hd : decode Y.2.1 pc = .ok (.new idx, 3)) (hci : vwCl[ci]? = some (c0, T, N)) (hin : ∀ w ∈ u_ws c0 T N, w ∈ gdT) (hty : ∀ k, k < N → parseFieldDescriptor (T k).2.2.1 = some (ty0 k)) (hcl : Cond.classLink Y.1.cls idx c0 ∈ gdT) (hib : Cond.instantiable c0 N ∈ gdT) (hiz : Cond.initialized c0 ∈ gdT) (hfs : ∀ j, j < N → defaultValue (ty0 j) = vp_V fs j) (hcc : nc + 1 ≤ C.2.2.2.2.cells) (hss : ns + N ≤ C.2.2.2.2.slots)
    (k : ∀ q, V C Y (pc + 3) L (.ref q :: st) ((q, .inr (ci, fs)) :: ws) (nc + 1) (ns + N)) : V C Y pc L st ws nc ns := by
  intro p l e s m args below meth c hc H locs ls h1 h2 h3 h4
  have hts := hc.2.2.2.2.2.2.1
  exact va_new hc.1 hc.2.1 hts hin ty0 hty hc.2.2.2.2.2.1 (hts _ hcl) (hts _ hib) (hts _ hiz) hc.2.2.2.2.2.2.2.2.1 h1 h2 h3 (fun q hq => Nat.le_trans (hB _ _ hc.2.2.2.2.2.2.2.2.2) hq) hci hfs hcc hss hd
    (fun q H1 g1 g2 g3 => k q p l e s m args below meth c hc H1 locs ls (g1.perm (List.perm_append_singleton _ _).symm) (g2.perm (List.perm_append_singleton _ _).symm) g3 h4)
theorem V_newaI {n : Int32} (N : Nat) (hB : ∀ args s, C.2.2.1 args s → C.2.1 ≤ s.heap.size) (hd : decode Y.2.1 pc = .ok (.newarray .int, 2)) (hn : ¬ n < 0) (hN : n.toNatClampNeg = N) (hb : N * 4 ≤ 536870912) (hcc : nc + 1 ≤ C.2.2.2.2.cells) (hss : ns + N ≤ C.2.2.2.2.slots)
    (k : ∀ q, V C Y (pc + 2) L (.ref q :: st) ((q, .inl (C.1.2 0, N, .inl (fun _ => 0))) :: ws) (nc + 1) (ns + N)) : V C Y pc L (.int n :: st) ws nc ns := by
  intro p l e s m args below meth c hc H locs ls h1 h2 h3 h4
  have hts := hc.2.2.2.2.2.2.1
  have hK := hc.2.2.2.2.2.2.2.2.1
  refine va_newa (atype := .int) (ty := .int) (a0 := (N, .inl (fun _ => 0))) hc.1 hc.2.1 (hts _ ac_int) rfl hK h1 h2 h3 (fun q hq => Nat.le_trans (hB _ _ hc.2.2.2.2.2.2.2.2.2) hq) (fun _ => rfl) hn hN hb hcc hss hd (fun q cA H1 g0 g1 g2 g3 => ?_)
  have e1 := (g0.2 6 (cA, .int) rfl).2
  have e2 := (hK.2 0 (C.1.2 0, .int) rfl).2
  have e3 : cA = C.1.2 0 := Option.some.inj (e1.symm.trans e2)
  subst e3
  exact k q p l e s m args below meth c hc H1 locs ls (g1.perm (List.perm_append_singleton _ _).symm) (g2.perm (List.perm_append_singleton _ _).symm) g3 h4
theorem V_newaR {n : Int32} {idx t0 : Nat} {c0 : String} (N : Nat) (hB : ∀ args s, C.2.2.1 args s → C.2.1 ≤ s.heap.size) (hd : decode Y.2.1 pc = .ok (.anewarray idx, 3)) (hcl : Cond.classLink Y.1.cls idx c0 ∈ gdT) (hao : Cond.arrayOver (.object c0) ∈ xtT) (ht : (tyG C.1)[t0]? = some (C.1.2 t0, .object c0)) (hn : ¬ n < 0) (hN : n.toNatClampNeg = N) (hb : N * 4 ≤ 536870912) (hcc : nc + 1 ≤ C.2.2.2.2.cells) (hss : ns + N ≤ C.2.2.2.2.slots)
    (k : ∀ q, V C Y (pc + 3) L (.ref q :: st) ((q, .inl (C.1.2 t0, N, .inr (.inr (.inr (.inr (fun _ => none)))))) :: ws) (nc + 1) (ns + N)) : V C Y pc L (.int n :: st) ws nc ns := by
  intro p l e s m args below meth c hc H locs ls h1 h2 h3 h4
  have hts := hc.2.2.2.2.2.2.1
  have hK := hc.2.2.2.2.2.2.2.2.1
  refine va_newq hc.1 hc.2.1 hc.2.2.2.2.2.1 (hts _ hcl) (hc.2.2.2.2.2.2.2.1 _ hao) hK h1 h2 h3 (fun q hq => Nat.le_trans (hB _ _ hc.2.2.2.2.2.2.2.2.2) hq) hn hN hb hcc hss hd (fun q cA H1 g0 g1 g2 g3 => ?_)
  obtain ⟨-, -, -, -, -, e1⟩ := (g0.2 6 (cA, .object c0) rfl).2
  obtain ⟨-, -, -, -, -, e2⟩ := (hK.2 t0 (C.1.2 t0, .object c0) ht).2
  have e3 : cA = C.1.2 t0 := Option.some.inj (e1.symm.trans e2)
  subst e3
  exact k q p l e s m args below meth c hc H1 locs ls (g1.perm (List.perm_append_singleton _ _).symm) (g2.perm (List.perm_append_singleton _ _).symm) g3 h4
theorem V_aast {a n t0 ci v : Nat} {cA : ClassId} {r : vw_C} {vs : List Value} {f : Nat → Option Nat} {i : Int32} (hd : decode Y.2.1 pc = .ok (.aastore, 1)) (q0 qk : Nat) (ha : ws[q0]? = some (a, .inl (cA, n, .inr (.inr (.inr (.inr f)))))) (ht : (tyG C.1)[t0]? = some (cA, .object r.1)) (hv : ws[qk]? = some (v, .inr (ci, vs))) (hci : vwCl[ci]? = some r) (hin : vp_in i n) (k : V C Y (pc + 1) L st (ws.set q0 (a, .inl (cA, n, .inr (.inr (.inr (.inr (va_up f i.toNatClampNeg (some v)))))))) nc ns) : V C Y pc L (.ref v :: .int i :: .ref a :: st) ws nc ns := by
  intro p l e s m args below meth c hc H locs ls h1 h2 h3 h4
  exact va_astq hc.1 hc.2.1 hc.2.2.2.2.2.2.2.2.1 h1 h2 h3 q0 t0 qk ci ha ht hv hci hin hd (fun H1 l1 g1 g2 g3 => k p l e s m args below meth c hc H1 l1 ls g1 g2 g3 h4)
/-- a final field's link -/
def FF (own : String) (idx ci k : Nat) (ty : FieldType) : Prop := ∃ (T : u_T) (N : Nat) (ty0 : Nat → FieldType), vwCl[ci]? = some (own, T, N) ∧ k < N ∧ (∀ w ∈ u_ws own T N, w ∈ gdT) ∧ (∀ k, k < N → parseFieldDescriptor (T k).2.2.1 = some (ty0 k)) ∧ (∀ a, a < N → ∀ b, b < N → a ≠ b → (T a).2.1 ≠ (T b).2.1) ∧ (T k).2.2.2 = true ∧ (T k).1 = own ∧ ty0 k = ty ∧ Cond.fieldLink own idx (T k).1 (T k).2.1 (T k).2.2.1 ∈ gdT
theorem V_putF {idx ci fk a : Nat} {fs : List Value} {v : Value} {ty : FieldType} (hX : ∀ args s, C.2.2.1 args s → Xc C.2.1 args s) (f : FF Y.1.cls idx ci fk ty) (hd : decode Y.2.1 pc = .ok (.putfield idx, 3)) (q0 : Nat) (he : ws[q0]? = some (a, .inr (ci, fs))) (hn : narrow ty v = v) (hfit : fits ty v = true) (hl : fk < fs.length) (k : V C Y (pc + 3) L st (ws.set q0 (a, .inr (ci, fs.set fk v))) nc ns) : V C Y pc L (v :: .ref a :: st) ws nc ns := by
  intro p l e s m args below meth c hc H locs ls h1 h2 h3 h4
  obtain ⟨T, N, ty0, f1, f2, f3, f5, f6, f7, f9, f8, f4⟩ := f
  intro U hU S
  have hnm := (hX _ _ hc.2.2.2.2.2.2.2.2.2).2 m below meth S.frames S.method
  exact va_putF hc.1 hc.2.1 hc.2.2.2.2.2.2.1 f3 ty0 f5 f6 hc.2.2.2.2.2.1 hc.2.2.2.2.2.2.2.2.1 h1 h2 h3 q0 he f1 fk f2 (hc.2.2.2.2.2.2.1 _ f4) (fun _ h => h) f7 hnm f9 (by rw [← f8]; exact f5 fk f2) hn hfit hl hd (fun H1 l1 g1 g2 g3 => k p l e s m args below meth c hc H1 l1 ls g1 g2 g3 h4) U hU S
theorem V_objI {idx a : Nat} (hl : Cond.methodLink Y.1.cls idx objectInit ∈ gdT) (hd : decode Y.2.1 pc = .ok (.invokespecial idx, 3)) (hf : 1 ≤ C.2.2.2.2.frames) (hlo : (st.map fun v => v.category).sum + 12 ≤ C.2.2.2.2.locals) (k : V C Y (pc + 3) L st ws nc ns) : V C Y pc L (.ref a :: st) ws nc ns := by
  intro p l e s m args below meth c hc H locs ls h1 h2 h3 h4
  have hts := hc.2.2.2.2.2.2.1
  exact W.objInit hc.1 hc.2.1 hc.2.2.2.2.2.1 (hts _ hl) (hts _ oc_inst) (hts _ oc_code) rfl (by rw [hc.2.2.1]; exact h4.1) rfl hd hf (by show 2 * 0 + _ + 12 ≤ _; omega) (k p l e s m args below meth c hc H locs ls h1 h2 h3 h4)
end CROWS
theorem V_vretc {g : Gm} {B d mc ms : Nat} {Q : Option Value → va_W → Prop} {Y : Mi} {pc : Nat} {L : List Value} {ws : va_W} (hd : decode Y.2.1 pc = .ok (.return_, 1)) (hY : Y.2.2.2 = none) (hq : Q none ws) : V (CQc g B d mc ms Q) Y pc L [] ws mc ms := by
  intro p l e s m args below meth c hc H locs ls h1 h2 h3 h4
  exact W.vret hc.1 hc.2.1 (by rw [hc.2.2.2.1]; exact hY) (fun t ht _ => ⟨⟨_, ws, rfl, hq, by rw [ht]; exact h1, h2⟩, h3.F ht⟩) h3.2.2 hd hc.2.2.2.2.1
theorem Xc_B {g : Gm} {B d mc ms : Nat} {Q : Option Value → va_W → Prop} : ∀ args s, (CQc g B d mc ms Q).2.2.1 args s → (CQc g B d mc ms Q).2.1 ≤ s.heap.size := fun _ _ h => h.1
theorem Xc_X {g : Gm} {B d mc ms : Nat} {Q : Option Value → va_W → Prop} : ∀ args s, (CQc g B d mc ms Q).2.2.1 args s → Xc (CQc g B d mc ms Q).2.1 args s := fun _ _ h => h
section CHEAD
variable {C : Ctx} {Y : Mi} {pc : Nat} {L st : List Value} {ws : va_W} {nc ns : Nat} {x c1 c2 c3 c4 c5 : Nat × va_E}
theorem V_r1 (k : V C Y pc L st (x :: c1 :: ws) nc ns) : V C Y pc L st (c1 :: x :: ws) nc ns := V_perm (List.perm_middle (l₁ := [c1]) (l₂ := ws) (a := x)).symm k
theorem V_r2 (k : V C Y pc L st (x :: c1 :: c2 :: ws) nc ns) : V C Y pc L st (c1 :: c2 :: x :: ws) nc ns := V_perm (List.perm_middle (l₁ := [c1, c2]) (l₂ := ws) (a := x)).symm k
theorem V_r3 (k : V C Y pc L st (x :: c1 :: c2 :: c3 :: ws) nc ns) : V C Y pc L st (c1 :: c2 :: c3 :: x :: ws) nc ns := V_perm (List.perm_middle (l₁ := [c1, c2, c3]) (l₂ := ws) (a := x)).symm k
theorem V_r4 (k : V C Y pc L st (x :: c1 :: c2 :: c3 :: c4 :: ws) nc ns) : V C Y pc L st (c1 :: c2 :: c3 :: c4 :: x :: ws) nc ns := V_perm (List.perm_middle (l₁ := [c1, c2, c3, c4]) (l₂ := ws) (a := x)).symm k
theorem V_putF0 {idx ci fk a : Nat} {fs : List Value} (fs' : List Value) {v : Value} {ty : FieldType} (hX : ∀ args s, C.2.2.1 args s → Xc C.2.1 args s) (f : FF Y.1.cls idx ci fk ty) (hd : decode Y.2.1 pc = .ok (.putfield idx, 3)) (hn : narrow ty v = v) (hfit : fits ty v = true) (hl : fk < fs.length) (hfs : fs.set fk v = fs') (k : V C Y (pc + 3) L st ((a, .inr (ci, fs')) :: ws) nc ns) : V C Y pc L (v :: .ref a :: st) ((a, .inr (ci, fs)) :: ws) nc ns := V_putF hX f hd 0 rfl hn hfit hl (by subst hfs; exact k)
theorem V_put0 {idx ci fk a : Nat} {fs : List Value} (fs' : List Value) {v : Value} {ty : FieldType} (f : FP Y.1.cls idx ci fk ty) (hd : decode Y.2.1 pc = .ok (.putfield idx, 3)) (hn : narrow ty v = v) (hfit : fits ty v = true) (hl : fk < fs.length) (hfs : fs.set fk v = fs') (k : V C Y (pc + 3) L st ((a, .inr (ci, fs')) :: ws) nc ns) : V C Y pc L (v :: .ref a :: st) ((a, .inr (ci, fs)) :: ws) nc ns := V_put f hd 0 rfl hn hfit hl (by subst hfs; exact k)
theorem V_iast1 {a n j : Nat} {f : Nat → Int32} {i y : Int32} (hd : decode Y.2.1 pc = .ok (.iastore, 1)) (hin : vp_in i n) (hj : i.toNatClampNeg = j) (k : V C Y (pc + 1) L st (x :: (a, .inl (C.1.2 0, n, .inl (upd f j y))) :: ws) nc ns) : V C Y pc L (.int y :: .int i :: .ref a :: st) (x :: (a, .inl (C.1.2 0, n, .inl f)) :: ws) nc ns := V_iast hd 1 rfl hin (by subst hj; exact k)
end CHEAD
