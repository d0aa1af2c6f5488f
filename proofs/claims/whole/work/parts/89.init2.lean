theorem set_self {α : Type} {l : List α} {i : Nat} {x : α} (h : l[i]? = some x) : l.set i x = l := by
  obtain ⟨h1, h2⟩ := List.getElem?_eq_some_iff.mp h
  subst h2
  exact List.set_getElem_self h1
theorem V_pl {C : Ctx} {Y : Mi} {pc : Nat} {L st : List Value} {ws ws' : va_W} {nc ns : Nat} (is : List Nat) (hn : va_nd is = true) (hs : is.map (fun i => ws[i]?) = ws'.map some) (k : V C Y pc L st ws' nc ns) : V C Y pc L st ws nc ns := by
  intro p l e s m args below meth c hc H locs ls h1 h2 h3 h4
  refine k p l e s m args below meth c hc H locs ls (fun j q hq => ?_) (h2.sub is hn hs) h3 h4
  have h5 : (is.map (fun i => ws[i]?))[j]? = some (some q) := by rw [hs, List.getElem?_map, hq]; rfl
  rw [List.getElem?_map] at h5
  cases hi : is[j]? with
  | none => rw [hi] at h5; cases h5
  | some i => rw [hi] at h5; exact h1 i q (Option.some.inj h5)
theorem V_blk {C : Ctx} {Y : Mi} {pc : Nat} {L st : List Value} {ws : va_W} {nc ns : Nat} (l1 l2 : va_W) (k : V C Y pc L st (l2 ++ (l1 ++ ws)) nc ns) : V C Y pc L st (l1 ++ (l2 ++ ws)) nc ns := V_perm (by rw [← List.append_assoc, ← List.append_assoc]; exact List.perm_append_comm.append_right ws) k
def bk (b : (Nat → Nat) → Nat → va_W) (A : Nat → Nat) (R : va_W) : Nat → va_W
  | 0 => R
  | l + 1 => b A l ++ bk b A R l
theorem bk_congr {b : (Nat → Nat) → Nat → va_W} {A A' : Nat → Nat} {R : va_W} : ∀ (l : Nat), (∀ j, j < l → b A' j = b A j) → bk b A' R l = bk b A R l
  | 0, _ => rfl
  | l + 1, h => by rw [bk, bk, h l (Nat.lt_succ_self l), bk_congr l (fun j hj => h j (Nat.lt_succ_of_lt hj))]
def fl (k : Nat) (A : Nat → Nat) (l : Nat) : Nat → Option Nat := fun j => if j < l then some (A (k * j)) else none
def upA (A : Nat → Nat) (n : Nat) (qs : List Nat) : Nat → Nat := fun i => if n ≤ i then qs.getD (i - n) 0 else A i
theorem upA_lt {A : Nat → Nat} {n i : Nat} {qs : List Nat} (h : i < n) : upA A n qs i = A i := by rw [upA, if_neg (by omega)]
theorem upA_at {A : Nat → Nat} {n r : Nat} {qs : List Nat} : upA A n qs (n + r) = qs.getD r 0 := by rw [upA, if_pos (by omega), Nat.add_sub_cancel_left]
theorem upA_0 {A : Nat → Nat} {n : Nat} {qs : List Nat} : upA A n qs n = qs.getD 0 0 := upA_at (r := 0)
theorem fl_up {k : Nat} {A : Nat → Nat} {l q : Nat} {qs : List Nat} (hk : 0 < k) : va_up (fl k A l) l (some q) = fl k (upA A (k * l) (q :: qs)) (l + 1) := by
  funext j
  by_cases h1 : j = l
  · subst h1
    simp [va_up, fl, upA]
  · by_cases h2 : j < l
    · have h3 : k * j < k * l := Nat.mul_lt_mul_of_pos_left h2 hk
      rw [va_up, if_neg h1, fl, fl, if_pos h2, if_pos (by omega), upA_lt h3]
    · rw [va_up, if_neg h1, fl, fl, if_neg h2, if_neg (by omega)]
theorem fl_0 {k : Nat} {A : Nat → Nat} : fl k A 0 = (fun _ => none) := by funext j; rw [fl, if_neg (by omega)]
def bL (g : Gm) (A : Nat → Nat) (l : Nat) : va_W := [((A (1 * l)), .inr (3, [.int 0, .int 29, .int (-2), .int 29, .int 29]))]
theorem bL_lt {g : Gm} {A : Nat → Nat} {l j : Nat} {qs : List Nat} (h : j < l) : bL g (upA A (1 * l) qs) j = bL g A j := by
  simp only [bL]
  rw [upA_lt (i := 1 * j) (by omega)]
theorem bL_at {g : Gm} {A : Nat → Nat} {l u0 : Nat} : bL g (upA A (1 * l) [u0]) l = [(u0, .inr (3, [.int 0, .int 29, .int (-2), .int 29, .int 29]))] := by
  simp only [bL]
  rw [upA_0]
  rfl
def bC (g : Gm) (A : Nat → Nat) (l : Nat) : va_W := [((A (4 * l)), .inr (1, [.ref (A (4 * l + 3)), .ref (A (4 * l + 2)), .ref (A (4 * l + 1)), .int 0])), ((A (4 * l + 1)), .inl (g.2 0, 10, .inl (fun _ => 0))), ((A (4 * l + 2)), .inl (g.2 0, 10, .inl (fun _ => 0))), ((A (4 * l + 3)), .inl (g.2 0, 30, .inl (fun _ => 0)))]
theorem bC_lt {g : Gm} {A : Nat → Nat} {l j : Nat} {qs : List Nat} (h : j < l) : bC g (upA A (4 * l) qs) j = bC g A j := by
  simp only [bC]
  rw [upA_lt (i := 4 * j) (by omega), upA_lt (i := 4 * j + 1) (by omega), upA_lt (i := 4 * j + 2) (by omega), upA_lt (i := 4 * j + 3) (by omega)]
theorem bC_at {g : Gm} {A : Nat → Nat} {l u0 u1 u2 u3 : Nat} : bC g (upA A (4 * l) [u0, u1, u2, u3]) l = [(u0, .inr (1, [.ref u3, .ref u2, .ref u1, .int 0])), (u1, .inl (g.2 0, 10, .inl (fun _ => 0))), (u2, .inl (g.2 0, 10, .inl (fun _ => 0))), (u3, .inl (g.2 0, 30, .inl (fun _ => 0)))] := by
  simp only [bC]
  rw [upA_0, upA_at (r := 1), upA_at (r := 2), upA_at (r := 3)]
  rfl
def bF (g : Gm) (A : Nat → Nat) (l : Nat) : va_W := [((A (3 * l)), .inr (2, [.ref (A (3 * l + 1)), .int 0, .int 0, .int 0])), ((A (3 * l + 1)), .inr (7, [.ref (A (3 * l + 2)), .int 0])), ((A (3 * l + 2)), .inl (g.2 0, 8, .inl (fun _ => 0)))]
theorem bF_lt {g : Gm} {A : Nat → Nat} {l j : Nat} {qs : List Nat} (h : j < l) : bF g (upA A (3 * l) qs) j = bF g A j := by
  simp only [bF]
  rw [upA_lt (i := 3 * j) (by omega), upA_lt (i := 3 * j + 1) (by omega), upA_lt (i := 3 * j + 2) (by omega)]
theorem bF_at {g : Gm} {A : Nat → Nat} {l u0 u1 u2 : Nat} : bF g (upA A (3 * l) [u0, u1, u2]) l = [(u0, .inr (2, [.ref u1, .int 0, .int 0, .int 0])), (u1, .inr (7, [.ref u2, .int 0])), (u2, .inl (g.2 0, 8, .inl (fun _ => 0)))] := by
  simp only [bF]
  rw [upA_0, upA_at (r := 1), upA_at (r := 2)]
  rfl
def bR (g : Gm) (A : Nat → Nat) (l : Nat) : va_W := [((A (2 * l)), .inr (7, [.ref (A (2 * l + 1)), .int 0])), ((A (2 * l + 1)), .inl (g.2 0, 8, .inl (fun _ => 0)))]
theorem bR_lt {g : Gm} {A : Nat → Nat} {l j : Nat} {qs : List Nat} (h : j < l) : bR g (upA A (2 * l) qs) j = bR g A j := by
  simp only [bR]
  rw [upA_lt (i := 2 * j) (by omega), upA_lt (i := 2 * j + 1) (by omega)]
theorem bR_at {g : Gm} {A : Nat → Nat} {l u0 u1 : Nat} : bR g (upA A (2 * l) [u0, u1]) l = [(u0, .inr (7, [.ref u1, .int 0])), (u1, .inl (g.2 0, 8, .inl (fun _ => 0)))] := by
  simp only [bR]
  rw [upA_0, upA_at (r := 1)]
  rfl
def bS (g : Gm) (A : Nat → Nat) (l : Nat) : va_W := [((A (2 * l)), .inr (8, [.ref (A (2 * l + 1)), .int 0, .int 0, .int 0])), ((A (2 * l + 1)), .inl (g.2 0, 60, .inl (fun _ => 0)))]
theorem bS_lt {g : Gm} {A : Nat → Nat} {l j : Nat} {qs : List Nat} (h : j < l) : bS g (upA A (2 * l) qs) j = bS g A j := by
  simp only [bS]
  rw [upA_lt (i := 2 * j) (by omega), upA_lt (i := 2 * j + 1) (by omega)]
theorem bS_at {g : Gm} {A : Nat → Nat} {l u0 u1 : Nat} : bS g (upA A (2 * l) [u0, u1]) l = [(u0, .inr (8, [.ref u1, .int 0, .int 0, .int 0])), (u1, .inl (g.2 0, 60, .inl (fun _ => 0)))] := by
  simp only [bS]
  rw [upA_0, upA_at (r := 1)]
  rfl
set_option maxHeartbeats 1000000 in
theorem i_fill {g : Gm} {B a i n : Nat} {v : Int32} {f : Nat → Int32} {ws : va_W} (hi : ws[i]? = some (a, .inl (g.2 0, n, .inl f))) (hn : n < 2 ^ 31) : CT g B 1 0 0 mJ7_fill_53178 [.ref a, .int v] ws (fun r ws' => r = none ∧ ws' = ws.set i (a, .inl (g.2 0, n, .inl (fun k => if k < n then v else f k)))) := by
  refine CT.ofV (by decide) rfl (Nat.le_of_ble_eq_true rfl) ?_
  refine V_iconst 0 dJ7_fill_53178_0 (by decide) ?_
  refine V_istore_n dJ7_fill_53178_1 (by decide) ?_
  refine V_aload_n dJ7_fill_53178_2 rfl ?_
  refine V_alen dJ7_fill_53178_3 i hi ?_
  refine V_istore_n dJ7_fill_53178_4 (by decide) ?_
  have hil : i < ws.length := (List.getElem?_eq_some_iff.mp hi).1
  have key : ∀ (m k : Nat), n ≤ k + m → k ≤ n → V (CQ g B 1 0 0 (fun r ws' => r = none ∧ ws' = ws.set i (a, .inl (g.2 0, n, .inl (fun k => if k < n then v else f k))))) mJ7_fill_53178 5 [.ref a, .int v, .int (nI k), .int (Int32.ofNat n)] [] (ws.set i (a, .inl (g.2 0, n, .inl (fun j => if j < k then v else f j)))) 0 0 := by
    intro m
    induction m with
    | zero =>
      intro k h1 h2
      have hk : k = n := by omega
      subst hk
      refine V_iload_n dJ7_fill_53178_5 rfl ?_
      refine V_iload_n dJ7_fill_53178_6 rfl ?_
      refine V_icmp_ge 20 dJ7_fill_53178_7 (by decide) (fun q => ?_) (fun q => absurd (Int32.le_refl _) q)
      exact V_vret dJ7_fill_53178_20 rfl ⟨rfl, rfl⟩
    | succ m ih =>
      intro k h1 h2
      refine V_iload_n dJ7_fill_53178_5 rfl ?_
      refine V_iload_n dJ7_fill_53178_6 rfl ?_
      refine V_icmp_ge 20 dJ7_fill_53178_7 (by decide) (fun q => ?_) (fun q => ?_)
      · have hk : k = n := by
          rcases Nat.lt_or_ge k n with h | h
          · exact absurd q (nI_ge h hn)
          · omega
        subst hk
        exact V_vret dJ7_fill_53178_20 rfl ⟨rfl, rfl⟩
      · have hk : k < n := by
          rcases Nat.lt_or_ge k n with h | h
          · exact h
          · exact absurd (nI_le h (by omega)) q
        refine V_aload_n dJ7_fill_53178_10 rfl ?_
        refine V_iload_n dJ7_fill_53178_11 rfl ?_
        refine V_iload_n dJ7_fill_53178_12 rfl ?_
        refine V_iast dJ7_fill_53178_13 i (by rw [List.getElem?_set_self hil]; rfl) (vp_in_nI hk hn) ?_
        refine V_iincC 1 dJ7_fill_53178_14 (by decide) rfl (by decide) ?_
        refine V_goto 5 dJ7_fill_53178_17 (by decide) ?_
        have h5 := ih (k + 1) (by omega) (by omega)
        rw [nI_succ] at h5
        refine V_ws ?_ h5
        rw [List.set_set, nI_clamp (by omega)]
        congr 6
        funext j
        simp only [upd]
        by_cases hj : j = k
        · subst hj
          simp
        · rw [if_neg hj]
          by_cases hj2 : j < k
          · rw [if_pos hj2, if_pos (by omega)]
          · rw [if_neg hj2, if_neg (by omega)]
  have h0 := key n 0 (by omega) (by omega)
  refine V_ws ?_ h0
  simp only [Nat.not_lt_zero, if_false]
  exact (set_self hi).symm
set_option maxHeartbeats 4000000 in
set_option maxRecDepth 20000 in
theorem i_X4 {g : Gm} {B q es : Nat} {ws : va_W} : CT g B 2 14 127 mX4_init [.ref q, .ref es] ((q, .inr (4, [.null, .null, .null, .null, .int 0])) :: ws) (fun v ws' => v = none ∧ ∃ (q7 q14 q7_18 q25 q7_29 : Nat) (A : Nat → Nat), ws' = (q, .inr (4, [.ref q7, .ref q14, .ref q25, .ref es, .int 0])) :: (q7, .inl (g.2 5, 9, .inr (.inr (.inr (.inr (fl 1 A 9)))))) :: bk (bL g) A ((q25, .inr (7, [.ref q7_29, .int 0])) :: (q7_29, .inl (g.2 0, 8, .inl (fun _ => 0))) :: (q14, .inr (5, [.ref q7_18, .int 0, .int 0])) :: (q7_18, .inl (g.2 0, 60, .inl (fun _ => 0))) :: ws) 9) := by
  refine CT.ofVc (by decide) rfl rfl (Nat.le_of_ble_eq_true rfl) ?_
  refine V_aload_n dX4_init_0 rfl ?_
  refine V_objI lk_X4_3 dX4_init_1 (Nat.le_of_ble_eq_true rfl) (Nat.le_of_ble_eq_true rfl) ?_
  refine V_aload_n dX4_init_4 rfl ?_
  refine V_bipush 9 dX4_init_5 (by decide) ?_
  refine V_newaR (t0 := 5) 9 Xc_B dX4_init_7 cl_X4_9 ao_X3 rfl (by decide) (by decide) (by decide) (Nat.le_of_ble_eq_true rfl) (Nat.le_of_ble_eq_true rfl) (fun q7 => ?_)
  refine V_r1 ?_
  refine V_putF0 [.ref q7, .null, .null, .null, .int 0] Xc_X ff_X4_11 dX4_init_10 rfl rfl (Nat.le_of_ble_eq_true rfl) rfl ?_
  refine V_aload_n dX4_init_13 rfl ?_
  refine V_new (ci := 5) tyX5 [.null, .int 0, .int 0] Xc_B dX4_init_14 rfl inX5 tyX5_ok cl_X4_17 ib_X5 iz_X5 (by decide) (Nat.le_of_ble_eq_true rfl) (Nat.le_of_ble_eq_true rfl) (fun q14 => ?_)
  refine V_dup dX4_init_17 rfl ?_
  refine V_callI (d := 1) (mc := 1) (ms := 60) mi_X5_init lk_X4_19 dX4_init_18 i_X5 Xc_B rfl rfl (Nat.le_of_ble_eq_true rfl) (Nat.le_of_ble_eq_true rfl) (Nat.le_of_ble_eq_true rfl) (Nat.le_of_ble_eq_true rfl) (Nat.le_of_ble_eq_true rfl) (fun v ws' hv => ?_)
  obtain ⟨rfl, q7_18, rfl⟩ := hv
  refine V_r2 ?_
  refine V_putF0 [.ref q7, .ref q14, .null, .null, .int 0] Xc_X ff_X4_20 dX4_init_21 rfl rfl (Nat.le_of_ble_eq_true rfl) rfl ?_
  refine V_aload_n dX4_init_24 rfl ?_
  refine V_new (ci := 7) tyX7 [.null, .int 0] Xc_B dX4_init_25 rfl inX7 tyX7_ok cl_X4_24 ib_X7 iz_X7 (by decide) (Nat.le_of_ble_eq_true rfl) (Nat.le_of_ble_eq_true rfl) (fun q25 => ?_)
  refine V_dup dX4_init_28 rfl ?_
  refine V_callI (d := 1) (mc := 1) (ms := 8) mi_X7_init lk_X4_26 dX4_init_29 i_X7 Xc_B rfl rfl (Nat.le_of_ble_eq_true rfl) (Nat.le_of_ble_eq_true rfl) (Nat.le_of_ble_eq_true rfl) (Nat.le_of_ble_eq_true rfl) (Nat.le_of_ble_eq_true rfl) (fun v ws' hv => ?_)
  obtain ⟨rfl, q7_29, rfl⟩ := hv
  refine V_r2 ?_
  refine V_putF0 [.ref q7, .ref q14, .ref q25, .null, .int 0] Xc_X ff_X4_27 dX4_init_32 rfl rfl (Nat.le_of_ble_eq_true rfl) rfl ?_
  refine V_aload_n dX4_init_35 rfl ?_
  refine V_iconst 0 dX4_init_36 (by decide) ?_
  refine V_put0 [.ref q7, .ref q14, .ref q25, .null, .int 0] fp_X4_31 dX4_init_37 rfl rfl (Nat.le_of_ble_eq_true rfl) rfl ?_
  refine V_aload_n dX4_init_40 rfl ?_
  refine V_aload_n dX4_init_41 rfl ?_
  refine V_putF0 [.ref q7, .ref q14, .ref q25, .ref es, .int 0] Xc_X ff_X4_35 dX4_init_42 rfl rfl (Nat.le_of_ble_eq_true rfl) rfl ?_
  refine V_iconst 0 dX4_init_45 (by decide) ?_
  refine V_istore_n dX4_init_46 (by decide) ?_
  refine V_perm (ws' := (q, .inr (4, [.ref q7, .ref q14, .ref q25, .ref es, .int 0])) :: (q7, .inl (g.2 5, 9, .inr (.inr (.inr (.inr (fun _ => none)))))) :: ([(q25, .inr (7, [.ref q7_29, .int 0])), (q7_29, .inl (g.2 0, 8, .inl (fun _ => 0))), (q14, .inr (5, [.ref q7_18, .int 0, .int 0])), (q7_18, .inl (g.2 0, 60, .inl (fun _ => 0)))] ++ ws)) (List.Perm.cons _ (List.perm_middle (l₁ := [(q25, .inr (7, [.ref q7_29, .int 0])), (q7_29, .inl (g.2 0, 8, .inl (fun _ => 0))), (q14, .inr (5, [.ref q7_18, .int 0, .int 0])), (q7_18, .inl (g.2 0, 60, .inl (fun _ => 0)))]) (l₂ := ws)).symm) ?_
  have key : ∀ (m l : Nat) (A : Nat → Nat), l + m = 9 → V (CQc g B 2 14 127 (fun v ws' => v = none ∧ ∃ (q7 q14 q7_18 q25 q7_29 : Nat) (A : Nat → Nat), ws' = (q, .inr (4, [.ref q7, .ref q14, .ref q25, .ref es, .int 0])) :: (q7, .inl (g.2 5, 9, .inr (.inr (.inr (.inr (fl 1 A 9)))))) :: bk (bL g) A ((q25, .inr (7, [.ref q7_29, .int 0])) :: (q7_29, .inl (g.2 0, 8, .inl (fun _ => 0))) :: (q14, .inr (5, [.ref q7_18, .int 0, .int 0])) :: (q7_18, .inl (g.2 0, 60, .inl (fun _ => 0))) :: ws) 9)) mX4_init 47 [.ref q, .ref es, .int (nI l)] [] ((q, .inr (4, [.ref q7, .ref q14, .ref q25, .ref es, .int 0])) :: (q7, .inl (g.2 5, 9, .inr (.inr (.inr (.inr (fl 1 A l)))))) :: bk (bL g) A ((q25, .inr (7, [.ref q7_29, .int 0])) :: (q7_29, .inl (g.2 0, 8, .inl (fun _ => 0))) :: (q14, .inr (5, [.ref q7_18, .int 0, .int 0])) :: (q7_18, .inl (g.2 0, 60, .inl (fun _ => 0))) :: ws) l) (5 + l) (82 + 5 * l) := by
    intro m
    induction m with
    | zero =>
      intro l A h1
      have hl : l = 9 := by omega
      subst hl
      refine V_iload_n dX4_init_47 rfl ?_
      refine V_bipush 8 dX4_init_48 (by decide) ?_
      refine V_icmp_gt 72 dX4_init_50 (by decide) (fun q => ?_) (fun q => absurd (by decide) q)
      exact V_vretc dX4_init_72 rfl ⟨rfl, q7, q14, q7_18, q25, q7_29, A, rfl⟩
    | succ m ih =>
      intro l A h1
      refine V_iload_n dX4_init_47 rfl ?_
      refine V_bipush 8 dX4_init_48 (by decide) ?_
      refine V_icmp_gt 72 dX4_init_50 (by decide) (fun q => ?_) (fun _ => ?_)
      · exact absurd q (nI_nlt (a := 8) (by omega) (by omega))
      · refine V_aload_n dX4_init_53 rfl ?_
        refine V_get fl_X4_11 dX4_init_54 0 rfl rfl ?_
        refine V_iload_n dX4_init_57 rfl ?_
        refine V_new (ci := 3) tyX3 [.int 0, .int 0, .int 0, .int 0, .int 0] Xc_B dX4_init_58 rfl inX3 tyX3_ok cl_X4_9 ib_X3 iz_X3 (by decide) (by show 5 + l + 1 ≤ 14; omega) (by show 82 + 5 * l + 5 ≤ 127; omega) (fun u => ?_)
        refine V_dup dX4_init_61 rfl ?_
        refine V_callI (d := 1) (mc := 0) (ms := 0) mi_X3_init lk_X4_39 dX4_init_62 i_X3 Xc_B rfl rfl (Nat.le_of_ble_eq_true rfl) (Nat.le_of_ble_eq_true rfl) (Nat.le_of_ble_eq_true rfl) (by show 5 + l + 1 + 0 ≤ 14; omega) (by show 82 + 5 * l + 5 + 0 ≤ 127; omega) (fun v ws' hv => ?_)
        obtain ⟨rfl, rfl⟩ := hv
        refine V_aast (t0 := 5) (ci := 3) dX4_init_65 2 0 rfl rfl rfl rfl (vp_in_nI (by omega) (by omega)) ?_
        refine V_iincC 1 dX4_init_66 (by decide) rfl (by decide) ?_
        refine V_goto 47 dX4_init_69 (by decide) ?_
        rw [nI_clamp (by omega), fl_up (qs := []) (by decide)]
        refine V_blk [_] [_, _] ?_
        have h5 := ih (l + 1) (upA A (1 * l) [u]) (by omega)
        rw [bk, bk_congr l (fun j hj => bL_lt hj), bL_at, nI_succ] at h5
        exact h5
  have h0 := key 9 0 (fun _ => 0) rfl
  rw [fl_0] at h0
  exact h0
