/-! the shape of the cells (what refers to what, never changed behind the constructors) and the memory (all the ints) -/
abbrev Mem : Type := Nat → Nat → Int32
def kdS : List Nat := [10, 9, 20, 20, 21, 20, 22, 20, 23, 4, 25, 5, 20, 6, 20, 0, 20, 24, 20, 20, 1, 1, 1, 20, 20, 20, 20, 20, 20, 20, 20, 20, 3, 3, 3, 3, 3, 3, 3, 3, 3, 8, 8, 8, 8, 20, 20, 20, 20, 11]
def lnS : List Nat := [0, 0, 16, 16, 3, 8, 40, 48, 6, 0, 9, 0, 60, 0, 81, 0, 5, 4, 60, 8, 0, 0, 0, 30, 30, 30, 10, 10, 10, 10, 10, 10, 0, 0, 0, 0, 0, 0, 0, 0, 0, 0, 0, 0, 0, 60, 60, 60, 60, 0]
def kdM : List Nat := [99, 99, 20, 20, 20, 20, 20, 20, 20, 20, 20, 99, 20, 99, 20, 20, 20, 20, 20, 20, 20, 20, 99, 20, 20, 20, 20, 20, 99, 99, 20, 20, 99, 20, 99, 20, 20, 20, 20, 99, 20, 99, 20, 20, 99, 20]
def lnM : List Nat := [0, 0, 4, 4, 240, 16, 16, 3, 30, 30, 90, 0, 8, 0, 40, 40, 40, 40, 320, 8, 6, 48, 0, 8, 8, 8, 8, 8, 0, 0, 4, 8, 0, 8, 0, 81, 8, 8, 3, 0, 5, 0, 6, 6, 0, 8]
def kd (i : Nat) : Nat := if i < 50 then kdS.getD i 99 else if i < 100 then 7 else if i < 150 then 20 else if i < 190 then 2 else kdM.getD (i - 190) 99
def ln (i : Nat) : Nat := if i < 50 then lnS.getD i 0 else if i < 100 then 0 else if i < 150 then 8 else if i < 190 then 0 else lnM.getD (i - 190) 0
def rfX : List Nat := [1, 4, 5, 6, 7, 8, 9, 13, 15, 17, 18, 97, 98, 99, 19]
def rf (i k : Nat) : Nat := if i = 0 then rfX.getD k 0 else if i = 1 then 2 + k else if i = 9 then [10, 11, 96, 1].getD k 0 else if i = 11 then 12 else if i = 13 then [14, 1].getD k 0 else if i = 15 then 16 else if i = 49 then 190 + k else if i < 23 then i + 3 + 3 * k else if i < 50 then i + 4 else if i < 100 then i + 50 else i - 100
def ra (i j : Nat) : Nat := if i = 4 then 20 + j else if i = 6 then 150 + j else if i = 8 then 90 + j else if i = 10 then 32 + j else 41 + j
def isR (ci k : Nat) : Bool := match ci with
  | 0 => k == 0
  | 1 => k < 3
  | 2 => k == 0
  | 3 => false
  | 4 => k < 4
  | 5 => k == 0
  | 6 => k < 2
  | 7 => k == 0
  | 8 => k == 0
  | 9 => true
  | 10 => k < 15
  | _ => kdM.getD k 99 == 20
def nF (ci : Nat) : Nat := [3, 4, 4, 5, 5, 3, 4, 2, 4, 2, 20, 46].getD ci 0
def ids : List Nat := (List.range 236).filter (fun i => kd i < 90)
def fvE (ad : Nat → Nat) (M : Mem) (id ci k : Nat) : Value := if isR ci k = true then .ref (ad (rf id k)) else .int (M id k)
def cellE (g : Gm) (ad : Nat → Nat) (M : Mem) (id : Nat) : va_E :=
  if kd id = 20 then .inl (g.2 0, ln id, .inl (M id))
  else if 20 < kd id then .inl (g.2 (kd id - 20), ln id, .inr (.inr (.inr (.inr (fun j => some (ad (ra id j)))))))
  else .inr (kd id, (List.range (nF (kd id))).map (fvE ad M id (kd id)))
def wsM (g : Gm) (ad : Nat → Nat) (M : Mem) : va_W := ids.map (fun id => (ad id, cellE g ad M id))
def mset (M : Mem) (i j : Nat) (v : Int32) : Mem := fun a b => if a = i ∧ b = j then v else M a b
def mcpy (M : Mem) (i0 i1 sp dp n : Nat) : Mem := fun a => if a = i1 then va_cpy (M i0) (M i1) sp dp n else M a
theorem mset_eq {M : Mem} {i j : Nat} {v : Int32} : mset M i j v i j = v := by simp [mset]
theorem mset_ne {M : Mem} {i j a b : Nat} {v : Int32} (h : ¬ (a = i ∧ b = j)) : mset M i j v a b = M a b := by simp only [mset, if_neg h]
theorem mset_row {M : Mem} {i j a : Nat} {v : Int32} (h : a ≠ i) : mset M i j v a = M a := by funext b; simp [mset, h]
theorem mcpy_ne {M : Mem} {i0 i1 sp dp n a : Nat} (h : a ≠ i1) : mcpy M i0 i1 sp dp n a = M a := by simp [mcpy, h]
theorem mcpy_eq {M : Mem} {i0 i1 sp dp n : Nat} : mcpy M i0 i1 sp dp n i1 = va_cpy (M i0) (M i1) sp dp n := by simp [mcpy]
theorem kd_in {id : Nat} (h : kd id < 90) : id ∈ ids := by
  refine List.mem_filter.mpr ⟨List.mem_range.mpr ?_, by simpa using h⟩
  rcases Nat.lt_or_ge id 236 with q | q
  · exact q
  · exfalso
    unfold kd at h
    rw [if_neg (by omega), if_neg (by omega), if_neg (by omega), if_neg (by omega)] at h
    rw [List.getD_eq_getElem?_getD, List.getElem?_eq_none (by show 46 ≤ _; omega)] at h
    simp at h
theorem ids_nd : ids.Nodup := List.Pairwise.sublist List.filter_sublist List.nodup_range
theorem ws_at {g : Gm} {ad : Nat → Nat} {M : Mem} {id : Nat} (h : kd id < 90) : ∃ q0 : Nat, ids[q0]? = some id ∧ (wsM g ad M)[q0]? = some (ad id, cellE g ad M id) := by
  obtain ⟨q0, hq⟩ := List.getElem?_of_mem (kd_in h)
  exact ⟨q0, hq, by rw [wsM, List.getElem?_map, hq]; rfl⟩
theorem ws_set {g : Gm} {ad : Nat → Nat} {M M' : Mem} {id q0 : Nat} (hq : ids[q0]? = some id) (h : ∀ i, i ≠ id → cellE g ad M' i = cellE g ad M i) : (wsM g ad M).set q0 (ad id, cellE g ad M' id) = wsM g ad M' := by
  apply List.ext_getElem?
  intro k
  rw [List.getElem?_set]
  by_cases hk : q0 = k
  · subst hk
    have hl := (List.getElem?_eq_some_iff.mp hq).1
    rw [if_pos rfl, if_pos (by rw [wsM, List.length_map]; exact hl), wsM, List.getElem?_map, hq]
    rfl
  · rw [if_neg hk, wsM, wsM, List.getElem?_map, List.getElem?_map]
    cases hi : ids[k]? with
    | none => rfl
    | some i =>
      have hne : i ≠ id := by
        intro e
        subst e
        exact hk ((List.getElem?_inj (List.getElem?_eq_some_iff.mp hq).1 ids_nd).mp (by rw [hq, hi]))
      simp only [Option.map_some, h i hne]
theorem cellE_obj {g : Gm} {ad : Nat → Nat} {M : Mem} {id ci : Nat} (h : kd id = ci) (hc : ci < 20) : cellE g ad M id = .inr (ci, (List.range (nF ci)).map (fvE ad M id ci)) := by
  subst h
  rw [cellE, if_neg (by omega), if_neg (by omega)]
theorem cellE_arr {g : Gm} {ad : Nat → Nat} {M : Mem} {id : Nat} (h : kd id = 20) : cellE g ad M id = .inl (g.2 0, ln id, .inl (M id)) := by
  rw [cellE, if_pos h]
theorem cellE_ref {g : Gm} {ad : Nat → Nat} {M : Mem} {id : Nat} (h : 20 < kd id) : cellE g ad M id = .inl (g.2 (kd id - 20), ln id, .inr (.inr (.inr (.inr (fun j => some (ad (ra id j))))))) := by
  rw [cellE, if_neg (by omega), if_pos h]
theorem cellE_same {g : Gm} {ad : Nat → Nat} {M M' : Mem} {id : Nat} (h : M' id = M id) : cellE g ad M' id = cellE g ad M id := by
  unfold cellE fvE
  rw [h]
theorem nF_ok {ci N : Nat} {c0 : String} {T : u_T} (h : vwCl[ci]? = some (c0, T, N)) : nF ci = N ∧ ci < 12 := by
  match ci, h with
  | 0, h => cases h; exact ⟨rfl, by decide⟩
  | 1, h => cases h; exact ⟨rfl, by decide⟩
  | 2, h => cases h; exact ⟨rfl, by decide⟩
  | 3, h => cases h; exact ⟨rfl, by decide⟩
  | 4, h => cases h; exact ⟨rfl, by decide⟩
  | 5, h => cases h; exact ⟨rfl, by decide⟩
  | 6, h => cases h; exact ⟨rfl, by decide⟩
  | 7, h => cases h; exact ⟨rfl, by decide⟩
  | 8, h => cases h; exact ⟨rfl, by decide⟩
  | 9, h => cases h; exact ⟨rfl, by decide⟩
  | 10, h => cases h; exact ⟨rfl, by decide⟩
  | 11, h => cases h; exact ⟨rfl, by decide⟩
  | k + 12, h => simp [vwCl] at h
section MROWS
variable {C : Ctx} {Y : Mi} {pc : Nat} {L st : List Value} {ad : Nat → Nat} {M : Mem} {nc ns : Nat}
theorem V_getI {idx ci fk id : Nat} (f : FL Y.1.cls idx ci fk) (hd : decode Y.2.1 pc = .ok (.getfield idx, 3)) (hk : kd id = ci) (hr : isR ci fk = false) (k : V C Y (pc + 3) L (.int (M id fk) :: st) (wsM C.1 ad M) nc ns) : V C Y pc L (.ref (ad id) :: st) (wsM C.1 ad M) nc ns := by
  have f0 := f
  obtain ⟨c0, T, N, f1, f2, f3⟩ := f0
  obtain ⟨e1, e2⟩ := nF_ok f1
  obtain ⟨q0, -, hq⟩ := ws_at (g := C.1) (ad := ad) (M := M) (id := id) (by omega)
  rw [cellE_obj hk (by omega)] at hq
  refine V_get f hd q0 hq (v := .int (M id fk)) ?_ k
  rw [List.getElem?_map, List.getElem?_range (by omega)]
  simp [fvE, hr]
theorem V_getR {idx ci fk id : Nat} (id' : Nat) (f : FL Y.1.cls idx ci fk) (hd : decode Y.2.1 pc = .ok (.getfield idx, 3)) (hk : kd id = ci) (hr : isR ci fk = true) (he : rf id fk = id') (k : V C Y (pc + 3) L (.ref (ad id') :: st) (wsM C.1 ad M) nc ns) : V C Y pc L (.ref (ad id) :: st) (wsM C.1 ad M) nc ns := by
  have f0 := f
  obtain ⟨c0, T, N, f1, f2, f3⟩ := f0
  obtain ⟨e1, e2⟩ := nF_ok f1
  obtain ⟨q0, -, hq⟩ := ws_at (g := C.1) (ad := ad) (M := M) (id := id) (by omega)
  rw [cellE_obj hk (by omega)] at hq
  refine V_get f hd q0 hq (v := .ref (ad id')) ?_ k
  rw [List.getElem?_map, List.getElem?_range (by omega)]
  simp [fvE, hr, he]
theorem V_putI {idx ci fk id : Nat} {ty : FieldType} {v : Int32} (f : FP Y.1.cls idx ci fk ty) (hd : decode Y.2.1 pc = .ok (.putfield idx, 3)) (hk : kd id = ci) (hr : isR ci fk = false) (hn : narrow ty (.int v) = .int v) (hfit : fits ty (.int v) = true) (k : V C Y (pc + 3) L st (wsM C.1 ad (mset M id fk v)) nc ns) : V C Y pc L (.int v :: .ref (ad id) :: st) (wsM C.1 ad M) nc ns := by
  have f0 := f
  obtain ⟨c0, T, N, ty0, f1, f2, f3⟩ := f0
  obtain ⟨e1, e2⟩ := nF_ok f1
  obtain ⟨q0, hq1, hq⟩ := ws_at (g := C.1) (ad := ad) (M := M) (id := id) (by omega)
  rw [cellE_obj hk (by omega)] at hq
  refine V_put f hd q0 hq hn hfit (by rw [List.length_map, List.length_range]; omega) ?_
  have hs : (Sum.inr (ci, ((List.range (nF ci)).map (fvE ad M id ci)).set fk (.int v)) : va_E) = cellE C.1 ad (mset M id fk v) id := by
    rw [cellE_obj hk (by omega)]
    congr 2
    apply List.ext_getElem?
    intro j
    rw [List.getElem?_set, List.getElem?_map, List.getElem?_map]
    by_cases hj : fk = j
    · subst hj
      rw [if_pos rfl, if_pos (by rw [List.length_map, List.length_range]; omega), List.getElem?_range (by omega)]
      simp [fvE, hr, mset]
    · rw [if_neg hj]
      by_cases hl : j < nF ci
      · rw [List.getElem?_range hl]
        simp [fvE, mset, Ne.symm hj]
      · rw [List.getElem?_eq_none (by rw [List.length_range]; omega)]
        rfl
  rw [hs, ws_set hq1 (fun i hi => cellE_same (mset_row hi))]
  exact k
theorem V_ialdM {id : Nat} {i : Int32} (hd : decode Y.2.1 pc = .ok (.iaload, 1)) (hk : kd id = 20) (hin : vp_in i (ln id)) (k : V C Y (pc + 1) L (.int (M id i.toNatClampNeg) :: st) (wsM C.1 ad M) nc ns) : V C Y pc L (.int i :: .ref (ad id) :: st) (wsM C.1 ad M) nc ns := by
  obtain ⟨q0, -, hq⟩ := ws_at (g := C.1) (ad := ad) (M := M) (id := id) (by omega)
  rw [cellE_arr hk] at hq
  exact V_iald hd q0 hq hin k
theorem V_iastM {id : Nat} {i x : Int32} (hd : decode Y.2.1 pc = .ok (.iastore, 1)) (hk : kd id = 20) (hin : vp_in i (ln id)) (k : V C Y (pc + 1) L st (wsM C.1 ad (mset M id i.toNatClampNeg x)) nc ns) : V C Y pc L (.int x :: .int i :: .ref (ad id) :: st) (wsM C.1 ad M) nc ns := by
  obtain ⟨q0, hq1, hq⟩ := ws_at (g := C.1) (ad := ad) (M := M) (id := id) (by omega)
  rw [cellE_arr hk] at hq
  refine V_iast hd q0 hq hin ?_
  have hs : (Sum.inl (C.1.2 0, ln id, Sum.inl (upd (M id) i.toNatClampNeg x)) : va_E) = cellE C.1 ad (mset M id i.toNatClampNeg x) id := by
    rw [cellE_arr hk]
    congr 4
    funext j
    simp [mset, upd]
  rw [hs, ws_set hq1 (fun i hi => cellE_same (mset_row hi))]
  exact k
theorem V_alenM {id : Nat} (hd : decode Y.2.1 pc = .ok (.arraylength, 1)) (hk : kd id = 20) (k : V C Y (pc + 1) L (.int (Int32.ofNat (ln id)) :: st) (wsM C.1 ad M) nc ns) : V C Y pc L (.ref (ad id) :: st) (wsM C.1 ad M) nc ns := by
  obtain ⟨q0, -, hq⟩ := ws_at (g := C.1) (ad := ad) (M := M) (id := id) (by omega)
  rw [cellE_arr hk] at hq
  exact V_alen hd q0 hq k
theorem V_aaldM {id kk : Nat} {i : Int32} (id' : Nat) (hd : decode Y.2.1 pc = .ok (.aaload, 1)) (hk : kd id = kk) (h1 : 20 < kk ∧ kk ≤ 25) (hin : vp_in i (ln id)) (he : ra id i.toNatClampNeg = id') (k : V C Y (pc + 1) L (.ref (ad id') :: st) (wsM C.1 ad M) nc ns) : V C Y pc L (.int i :: .ref (ad id) :: st) (wsM C.1 ad M) nc ns := by
  obtain ⟨q0, -, hq⟩ := ws_at (g := C.1) (ad := ad) (M := M) (id := id) (by omega)
  rw [cellE_ref (by omega), hk] at hq
  subst he
  have ht : ∃ nm, (tyG C.1)[kk - 20]? = some (C.1.2 (kk - 20), .object nm) := by
    have hc : kk = 21 ∨ kk = 22 ∨ kk = 23 ∨ kk = 24 ∨ kk = 25 := by omega
    rcases hc with rfl | rfl | rfl | rfl | rfl <;> exact ⟨_, rfl⟩
  obtain ⟨nm, ht⟩ := ht
  exact V_aald hd q0 hq ht hin k
theorem V_copyM {idx id0 id1 : Nat} {sp dp n : Int32} (lc : LC Y.1.cls idx) (hd : decode Y.2.1 pc = .ok (.invokestatic idx, 3)) (k0 : kd id0 = 20) (k1 : kd id1 = 20) (g1 : ¬ sp < 0) (g2 : ¬ dp < 0) (g3 : ¬ n < 0) (g4 : sp.toNatClampNeg + n.toNatClampNeg ≤ ln id0) (g5 : dp.toNatClampNeg + n.toNatClampNeg ≤ ln id1) (hf : 1 ≤ C.2.2.2.2.frames) (hl : (st.map fun v => v.category).sum + (nativeFrameWords "java/lang/System" "arraycopy" 5 + 11) ≤ C.2.2.2.2.locals)
    (k : V C Y (pc + 3) L st (wsM C.1 ad (mcpy M id0 id1 sp.toNatClampNeg dp.toNatClampNeg n.toNatClampNeg)) nc ns) : V C Y pc L (.int n :: .int dp :: .ref (ad id1) :: .int sp :: .ref (ad id0) :: st) (wsM C.1 ad M) nc ns := by
  obtain ⟨q0, hq1, hq⟩ := ws_at (g := C.1) (ad := ad) (M := M) (id := id0) (by omega)
  obtain ⟨q2, hq3, hq4⟩ := ws_at (g := C.1) (ad := ad) (M := M) (id := id1) (by omega)
  rw [cellE_arr k0] at hq
  rw [cellE_arr k1] at hq4
  refine V_copy lc hd q0 q2 hq hq4 g1 g2 g3 g4 g5 hf hl ?_
  have hs : (Sum.inl (C.1.2 0, ln id1, Sum.inl (va_cpy (M id0) (M id1) sp.toNatClampNeg dp.toNatClampNeg n.toNatClampNeg)) : va_E) = cellE C.1 ad (mcpy M id0 id1 sp.toNatClampNeg dp.toNatClampNeg n.toNatClampNeg) id1 := by
    rw [cellE_arr k1, mcpy_eq]
  rw [hs, ws_set hq3 (fun i hi => cellE_same (mcpy_ne hi))]
  exact k
end MROWS
/-! contracts over the memory -/
abbrev En : Type := Gm × Nat × (Nat → Nat)
def Qm (E : En) (Q : Option Value → Mem → Prop) : Option Value → va_W → Prop := fun v ws' => ∃ M', ws' = wsM E.1 E.2.2 M' ∧ Q v M'
def CM (E : En) (d : Nat) (Y : Mi) (as : List Value) (M : Mem) (Q : Option Value → Mem → Prop) : Prop := CT E.1 E.2.1 d 0 0 Y as (wsM E.1 E.2.2 M) (Qm E Q)
abbrev Km (E : En) (d : Nat) (Q : Option Value → Mem → Prop) : Ctx := CQ E.1 E.2.1 d 0 0 (Qm E Q)
def Pi (Q : Int32 → Mem → Prop) : Option Value → Mem → Prop := fun v M => ∃ r, v = some (.int r) ∧ Q r M
def Pl (Q : Int64 → Mem → Prop) : Option Value → Mem → Prop := fun v M => ∃ r, v = some (.long r) ∧ Q r M
def Pv (Q : Mem → Prop) : Option Value → Mem → Prop := fun v M => v = none ∧ Q M
section MCON
variable {E : En} {d : Nat} {Y : Mi} {pc : Nat} {L : List Value} {M : Mem}
theorem CM.of {as : List Value} {Q : Option Value → Mem → Prop} (hy : plainName Y.1.cls = true) (hc : as.all (fun v => v.category == 1) = true) (hn : as.length ≤ Y.2.2.1) (h : V (Km E d Q) Y 0 as [] (wsM E.1 E.2.2 M) 0 0) : CM E d Y as M Q := CT.ofV hy hc hn h
theorem V_reti {Q : Int32 → Mem → Prop} {ty : FieldType} {v : Int32} (hd : decode Y.2.1 pc = .ok (.ireturn, 1)) (hY : Y.2.2.2 = some ty) (hn : narrow ty (.int v) = .int v) (hq : Q v M) : V (Km E d (Pi Q)) Y pc L [.int v] (wsM E.1 E.2.2 M) 0 0 := V_iret hd hY hn ⟨M, rfl, v, rfl, hq⟩
theorem V_retl {Q : Int64 → Mem → Prop} {v : Int64} (hd : decode Y.2.1 pc = .ok (.lreturn, 1)) (hY : Y.2.2.2 = some .long) (hq : Q v M) : V (Km E d (Pl Q)) Y pc L [.long v] (wsM E.1 E.2.2 M) 0 0 := V_lret hd hY ⟨M, rfl, v, rfl, hq⟩
theorem V_retv {Q : Mem → Prop} (hd : decode Y.2.1 pc = .ok (.return_, 1)) (hY : Y.2.2.2 = none) (hq : Q M) : V (Km E d (Pv Q)) Y pc L [] (wsM E.1 E.2.2 M) 0 0 := V_vret hd hY ⟨M, rfl, rfl, hq⟩
theorem CM.mono {as : List Value} {Q Q' : Option Value → Mem → Prop} (h : CM E d Y as M Q) (hq : ∀ v M', Q v M' → Q' v M') : CM E d Y as M Q' := by
  intro l p e a1 a2 a3 s m args below hf ha hP hK
  obtain ⟨n, o, h1, h2, h3, ⟨⟨v, ws', e1, ⟨M', e2, e3⟩, e4⟩, e5⟩, e6⟩ := h l p e a1 a2 a3 s m args below hf ha hP hK
  exact ⟨n, o, h1, h2, h3, ⟨⟨v, ws', e1, ⟨M', e2, hq v M' e3⟩, e4⟩, e5⟩, e6⟩
end MCON
section MCALL
variable {E : En} {d d' : Nat} {Y Y' : Mi} {pc n idx : Nat} {L stk rest : List Value} {M : Mem} {P : Option Value → Mem → Prop}
theorem M_Si {as : List Value} {Q : Int32 → Mem → Prop} (hM : MS Y' n) (hl : LkM Y.1.cls idx Y'.1) (hd : decode Y.2.1 pc = .ok (.invokestatic idx, 3)) (hct : CM E d Y' as M (Pi Q)) (hst : stk = as.reverse ++ rest) (hn : as.length = n) (hw : (rest.map fun v => v.category).sum ≤ 8) (hdd : d < d') (hmx : Y'.2.2.1 ≤ 21) (kk : ∀ r M', Q r M' → V (Km E d' P) Y (pc + 3) L (.int r :: rest) (wsM E.1 E.2.2 M') 0 0) : V (Km E d' P) Y pc L stk (wsM E.1 E.2.2 M) 0 0 := by
  refine V_callS (d := d) hM hl hd hct (fun _ _ h => h) hst hn hw (by show d + 1 ≤ d'; omega) (by show 8 + (Y'.2.2.1 + 11) + 40 * d ≤ 40 * d'; omega) (Nat.le_refl 0) (Nat.le_refl 0) (fun v ws' hv => ?_)
  obtain ⟨M', e1, r, e2, e3⟩ := hv; subst e1; subst e2; exact kk r M' e3
theorem M_Si1 {as : List Value} {M0 : Mem} {r0 : Int32} (hM : MS Y' n) (hl : LkM Y.1.cls idx Y'.1) (hd : decode Y.2.1 pc = .ok (.invokestatic idx, 3)) (hct : CM E d Y' as M (Pi (fun r M' => r = r0 ∧ M' = M0))) (hst : stk = as.reverse ++ rest) (hn : as.length = n) (hw : (rest.map fun v => v.category).sum ≤ 8) (hdd : d < d') (hmx : Y'.2.2.1 ≤ 21) (kk : V (Km E d' P) Y (pc + 3) L (.int r0 :: rest) (wsM E.1 E.2.2 M0) 0 0) : V (Km E d' P) Y pc L stk (wsM E.1 E.2.2 M) 0 0 := by
  refine V_callS (d := d) hM hl hd hct (fun _ _ h => h) hst hn hw (by show d + 1 ≤ d'; omega) (by show 8 + (Y'.2.2.1 + 11) + 40 * d ≤ 40 * d'; omega) (Nat.le_refl 0) (Nat.le_refl 0) (fun v ws' hv => ?_)
  obtain ⟨M', e1, r, e2, e3⟩ := hv; subst e1; subst e2; obtain ⟨e4, e5⟩ := e3; subst e4; subst e5; exact kk
theorem M_Sl {as : List Value} {Q : Int64 → Mem → Prop} (hM : MS Y' n) (hl : LkM Y.1.cls idx Y'.1) (hd : decode Y.2.1 pc = .ok (.invokestatic idx, 3)) (hct : CM E d Y' as M (Pl Q)) (hst : stk = as.reverse ++ rest) (hn : as.length = n) (hw : (rest.map fun v => v.category).sum ≤ 8) (hdd : d < d') (hmx : Y'.2.2.1 ≤ 21) (kk : ∀ r M', Q r M' → V (Km E d' P) Y (pc + 3) L (.long r :: rest) (wsM E.1 E.2.2 M') 0 0) : V (Km E d' P) Y pc L stk (wsM E.1 E.2.2 M) 0 0 := by
  refine V_callS (d := d) hM hl hd hct (fun _ _ h => h) hst hn hw (by show d + 1 ≤ d'; omega) (by show 8 + (Y'.2.2.1 + 11) + 40 * d ≤ 40 * d'; omega) (Nat.le_refl 0) (Nat.le_refl 0) (fun v ws' hv => ?_)
  obtain ⟨M', e1, r, e2, e3⟩ := hv; subst e1; subst e2; exact kk r M' e3
theorem M_Sl1 {as : List Value} {M0 : Mem} {r0 : Int64} (hM : MS Y' n) (hl : LkM Y.1.cls idx Y'.1) (hd : decode Y.2.1 pc = .ok (.invokestatic idx, 3)) (hct : CM E d Y' as M (Pl (fun r M' => r = r0 ∧ M' = M0))) (hst : stk = as.reverse ++ rest) (hn : as.length = n) (hw : (rest.map fun v => v.category).sum ≤ 8) (hdd : d < d') (hmx : Y'.2.2.1 ≤ 21) (kk : V (Km E d' P) Y (pc + 3) L (.long r0 :: rest) (wsM E.1 E.2.2 M0) 0 0) : V (Km E d' P) Y pc L stk (wsM E.1 E.2.2 M) 0 0 := by
  refine V_callS (d := d) hM hl hd hct (fun _ _ h => h) hst hn hw (by show d + 1 ≤ d'; omega) (by show 8 + (Y'.2.2.1 + 11) + 40 * d ≤ 40 * d'; omega) (Nat.le_refl 0) (Nat.le_refl 0) (fun v ws' hv => ?_)
  obtain ⟨M', e1, r, e2, e3⟩ := hv; subst e1; subst e2; obtain ⟨e4, e5⟩ := e3; subst e4; subst e5; exact kk
theorem M_Sv {as : List Value} {Q : Mem → Prop} (hM : MS Y' n) (hl : LkM Y.1.cls idx Y'.1) (hd : decode Y.2.1 pc = .ok (.invokestatic idx, 3)) (hct : CM E d Y' as M (Pv Q)) (hst : stk = as.reverse ++ rest) (hn : as.length = n) (hw : (rest.map fun v => v.category).sum ≤ 8) (hdd : d < d') (hmx : Y'.2.2.1 ≤ 21) (kk : ∀ M', Q M' → V (Km E d' P) Y (pc + 3) L rest (wsM E.1 E.2.2 M') 0 0) : V (Km E d' P) Y pc L stk (wsM E.1 E.2.2 M) 0 0 := by
  refine V_callS (d := d) hM hl hd hct (fun _ _ h => h) hst hn hw (by show d + 1 ≤ d'; omega) (by show 8 + (Y'.2.2.1 + 11) + 40 * d ≤ 40 * d'; omega) (Nat.le_refl 0) (Nat.le_refl 0) (fun v ws' hv => ?_)
  obtain ⟨M', e1, e2, e3⟩ := hv; subst e1; subst e2; exact kk M' e3
theorem M_Sv1 {as : List Value} {M0 : Mem} (hM : MS Y' n) (hl : LkM Y.1.cls idx Y'.1) (hd : decode Y.2.1 pc = .ok (.invokestatic idx, 3)) (hct : CM E d Y' as M (Pv (fun M' => M' = M0))) (hst : stk = as.reverse ++ rest) (hn : as.length = n) (hw : (rest.map fun v => v.category).sum ≤ 8) (hdd : d < d') (hmx : Y'.2.2.1 ≤ 21) (kk : V (Km E d' P) Y (pc + 3) L rest (wsM E.1 E.2.2 M0) 0 0) : V (Km E d' P) Y pc L stk (wsM E.1 E.2.2 M) 0 0 := by
  refine V_callS (d := d) hM hl hd hct (fun _ _ h => h) hst hn hw (by show d + 1 ≤ d'; omega) (by show 8 + (Y'.2.2.1 + 11) + 40 * d ≤ 40 * d'; omega) (Nat.le_refl 0) (Nat.le_refl 0) (fun v ws' hv => ?_)
  obtain ⟨M', e1, e2, e3⟩ := hv; subst e1; subst e2; subst e3; exact kk
theorem M_Vi {as : List Value} {id ci N : Nat} {T : u_T} {Q : Int32 → Mem → Prop} (hM : MV Y' n) (hl : LkM Y.1.cls idx Y'.1) (hd : decode Y.2.1 pc = .ok (.invokevirtual idx, 3)) (hci : vwCl[ci]? = some (Y'.1.cls, T, N)) (hk : kd id = ci) (hct : CM E d Y' (.ref (E.2.2 id) :: as) M (Pi Q)) (hst : stk = as.reverse ++ .ref (E.2.2 id) :: rest) (hn : as.length = n) (hw : (rest.map fun v => v.category).sum ≤ 8) (hdd : d < d') (hmx : Y'.2.2.1 ≤ 21) (kk : ∀ r M', Q r M' → V (Km E d' P) Y (pc + 3) L (.int r :: rest) (wsM E.1 E.2.2 M') 0 0) : V (Km E d' P) Y pc L stk (wsM E.1 E.2.2 M) 0 0 := by
  obtain ⟨q0, -, hq⟩ := ws_at (g := E.1) (ad := E.2.2) (M := M) (id := id) (by have := (nF_ok hci).2; omega)
  rw [cellE_obj hk (by have := (nF_ok hci).2; omega)] at hq
  refine V_callV (d := d) hM hl hd hci hq hct (fun _ _ h => h) hst hn hw (by show d + 1 ≤ d'; omega) (by show 8 + (Y'.2.2.1 + 11) + 40 * d ≤ 40 * d'; omega) (Nat.le_refl 0) (Nat.le_refl 0) (fun v ws' hv => ?_)
  obtain ⟨M', e1, r, e2, e3⟩ := hv; subst e1; subst e2; exact kk r M' e3
theorem M_Vi1 {as : List Value} {id ci N : Nat} {T : u_T} {M0 : Mem} {r0 : Int32} (hM : MV Y' n) (hl : LkM Y.1.cls idx Y'.1) (hd : decode Y.2.1 pc = .ok (.invokevirtual idx, 3)) (hci : vwCl[ci]? = some (Y'.1.cls, T, N)) (hk : kd id = ci) (hct : CM E d Y' (.ref (E.2.2 id) :: as) M (Pi (fun r M' => r = r0 ∧ M' = M0))) (hst : stk = as.reverse ++ .ref (E.2.2 id) :: rest) (hn : as.length = n) (hw : (rest.map fun v => v.category).sum ≤ 8) (hdd : d < d') (hmx : Y'.2.2.1 ≤ 21) (kk : V (Km E d' P) Y (pc + 3) L (.int r0 :: rest) (wsM E.1 E.2.2 M0) 0 0) : V (Km E d' P) Y pc L stk (wsM E.1 E.2.2 M) 0 0 := by
  obtain ⟨q0, -, hq⟩ := ws_at (g := E.1) (ad := E.2.2) (M := M) (id := id) (by have := (nF_ok hci).2; omega)
  rw [cellE_obj hk (by have := (nF_ok hci).2; omega)] at hq
  refine V_callV (d := d) hM hl hd hci hq hct (fun _ _ h => h) hst hn hw (by show d + 1 ≤ d'; omega) (by show 8 + (Y'.2.2.1 + 11) + 40 * d ≤ 40 * d'; omega) (Nat.le_refl 0) (Nat.le_refl 0) (fun v ws' hv => ?_)
  obtain ⟨M', e1, r, e2, e3⟩ := hv; subst e1; subst e2; obtain ⟨e4, e5⟩ := e3; subst e4; subst e5; exact kk
theorem M_Vl {as : List Value} {id ci N : Nat} {T : u_T} {Q : Int64 → Mem → Prop} (hM : MV Y' n) (hl : LkM Y.1.cls idx Y'.1) (hd : decode Y.2.1 pc = .ok (.invokevirtual idx, 3)) (hci : vwCl[ci]? = some (Y'.1.cls, T, N)) (hk : kd id = ci) (hct : CM E d Y' (.ref (E.2.2 id) :: as) M (Pl Q)) (hst : stk = as.reverse ++ .ref (E.2.2 id) :: rest) (hn : as.length = n) (hw : (rest.map fun v => v.category).sum ≤ 8) (hdd : d < d') (hmx : Y'.2.2.1 ≤ 21) (kk : ∀ r M', Q r M' → V (Km E d' P) Y (pc + 3) L (.long r :: rest) (wsM E.1 E.2.2 M') 0 0) : V (Km E d' P) Y pc L stk (wsM E.1 E.2.2 M) 0 0 := by
  obtain ⟨q0, -, hq⟩ := ws_at (g := E.1) (ad := E.2.2) (M := M) (id := id) (by have := (nF_ok hci).2; omega)
  rw [cellE_obj hk (by have := (nF_ok hci).2; omega)] at hq
  refine V_callV (d := d) hM hl hd hci hq hct (fun _ _ h => h) hst hn hw (by show d + 1 ≤ d'; omega) (by show 8 + (Y'.2.2.1 + 11) + 40 * d ≤ 40 * d'; omega) (Nat.le_refl 0) (Nat.le_refl 0) (fun v ws' hv => ?_)
  obtain ⟨M', e1, r, e2, e3⟩ := hv; subst e1; subst e2; exact kk r M' e3
theorem M_Vl1 {as : List Value} {id ci N : Nat} {T : u_T} {M0 : Mem} {r0 : Int64} (hM : MV Y' n) (hl : LkM Y.1.cls idx Y'.1) (hd : decode Y.2.1 pc = .ok (.invokevirtual idx, 3)) (hci : vwCl[ci]? = some (Y'.1.cls, T, N)) (hk : kd id = ci) (hct : CM E d Y' (.ref (E.2.2 id) :: as) M (Pl (fun r M' => r = r0 ∧ M' = M0))) (hst : stk = as.reverse ++ .ref (E.2.2 id) :: rest) (hn : as.length = n) (hw : (rest.map fun v => v.category).sum ≤ 8) (hdd : d < d') (hmx : Y'.2.2.1 ≤ 21) (kk : V (Km E d' P) Y (pc + 3) L (.long r0 :: rest) (wsM E.1 E.2.2 M0) 0 0) : V (Km E d' P) Y pc L stk (wsM E.1 E.2.2 M) 0 0 := by
  obtain ⟨q0, -, hq⟩ := ws_at (g := E.1) (ad := E.2.2) (M := M) (id := id) (by have := (nF_ok hci).2; omega)
  rw [cellE_obj hk (by have := (nF_ok hci).2; omega)] at hq
  refine V_callV (d := d) hM hl hd hci hq hct (fun _ _ h => h) hst hn hw (by show d + 1 ≤ d'; omega) (by show 8 + (Y'.2.2.1 + 11) + 40 * d ≤ 40 * d'; omega) (Nat.le_refl 0) (Nat.le_refl 0) (fun v ws' hv => ?_)
  obtain ⟨M', e1, r, e2, e3⟩ := hv; subst e1; subst e2; obtain ⟨e4, e5⟩ := e3; subst e4; subst e5; exact kk
theorem M_Vv {as : List Value} {id ci N : Nat} {T : u_T} {Q : Mem → Prop} (hM : MV Y' n) (hl : LkM Y.1.cls idx Y'.1) (hd : decode Y.2.1 pc = .ok (.invokevirtual idx, 3)) (hci : vwCl[ci]? = some (Y'.1.cls, T, N)) (hk : kd id = ci) (hct : CM E d Y' (.ref (E.2.2 id) :: as) M (Pv Q)) (hst : stk = as.reverse ++ .ref (E.2.2 id) :: rest) (hn : as.length = n) (hw : (rest.map fun v => v.category).sum ≤ 8) (hdd : d < d') (hmx : Y'.2.2.1 ≤ 21) (kk : ∀ M', Q M' → V (Km E d' P) Y (pc + 3) L rest (wsM E.1 E.2.2 M') 0 0) : V (Km E d' P) Y pc L stk (wsM E.1 E.2.2 M) 0 0 := by
  obtain ⟨q0, -, hq⟩ := ws_at (g := E.1) (ad := E.2.2) (M := M) (id := id) (by have := (nF_ok hci).2; omega)
  rw [cellE_obj hk (by have := (nF_ok hci).2; omega)] at hq
  refine V_callV (d := d) hM hl hd hci hq hct (fun _ _ h => h) hst hn hw (by show d + 1 ≤ d'; omega) (by show 8 + (Y'.2.2.1 + 11) + 40 * d ≤ 40 * d'; omega) (Nat.le_refl 0) (Nat.le_refl 0) (fun v ws' hv => ?_)
  obtain ⟨M', e1, e2, e3⟩ := hv; subst e1; subst e2; exact kk M' e3
theorem M_Vv1 {as : List Value} {id ci N : Nat} {T : u_T} {M0 : Mem} (hM : MV Y' n) (hl : LkM Y.1.cls idx Y'.1) (hd : decode Y.2.1 pc = .ok (.invokevirtual idx, 3)) (hci : vwCl[ci]? = some (Y'.1.cls, T, N)) (hk : kd id = ci) (hct : CM E d Y' (.ref (E.2.2 id) :: as) M (Pv (fun M' => M' = M0))) (hst : stk = as.reverse ++ .ref (E.2.2 id) :: rest) (hn : as.length = n) (hw : (rest.map fun v => v.category).sum ≤ 8) (hdd : d < d') (hmx : Y'.2.2.1 ≤ 21) (kk : V (Km E d' P) Y (pc + 3) L rest (wsM E.1 E.2.2 M0) 0 0) : V (Km E d' P) Y pc L stk (wsM E.1 E.2.2 M) 0 0 := by
  obtain ⟨q0, -, hq⟩ := ws_at (g := E.1) (ad := E.2.2) (M := M) (id := id) (by have := (nF_ok hci).2; omega)
  rw [cellE_obj hk (by have := (nF_ok hci).2; omega)] at hq
  refine V_callV (d := d) hM hl hd hci hq hct (fun _ _ h => h) hst hn hw (by show d + 1 ≤ d'; omega) (by show 8 + (Y'.2.2.1 + 11) + 40 * d ≤ 40 * d'; omega) (Nat.le_refl 0) (Nat.le_refl 0) (fun v ws' hv => ?_)
  obtain ⟨M', e1, e2, e3⟩ := hv; subst e1; subst e2; subst e3; exact kk
end MCALL
