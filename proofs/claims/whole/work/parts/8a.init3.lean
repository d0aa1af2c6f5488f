theorem V_nn {C : Ctx} {Y : Mi} {pc : Nat} {L st : List Value} {ws : va_W} {nc ns nc' ns' : Nat} (h1 : nc' = nc) (h2 : ns' = ns) (k : V C Y pc L st ws nc' ns') : V C Y pc L st ws nc ns := by subst h1; subst h2; exact k
theorem V_rl {C : Ctx} {Y : Mi} {pc : Nat} {L st : List Value} {ws : va_W} {nc ns : Nat} {x : Nat × va_E} (l1 : va_W) (k : V C Y pc L st (x :: (l1 ++ ws)) nc ns) : V C Y pc L st (l1 ++ x :: ws) nc ns := V_perm (List.perm_middle (l₁ := l1) (l₂ := ws) (a := x)).symm k
set_option maxHeartbeats 8000000 in
set_option maxRecDepth 40000 in
theorem i_X10 {g : Gm} {B q : Nat} : CT g B 3 188 1504 mX10_init [.ref q] [(q, .inr (10, [.null, .null, .null, .null, .null, .null, .null, .null, .null, .null, .null, .null, .null, .null, .null, .int 0, .int 0, .int 0, .int 0, .int 0]))] (fun v ws' => v = none ∧ ∃ (q5 q7_9 q15_9 q17 q26 q34 q43 q51 q58 q7_66 q14_66 q7_18_66 q25_66 q7_29_66 q73 q7_81 q88 q6_92 q100 q109 q115 q7_119 q126 q7_130 q137 q7_141 q150 : Nat) (AL AC AF AR AS : Nat → Nat), ws' = (q, .inr (10, [.ref q5, .ref q17, .ref q26, .ref q34, .ref q43, .ref q51, .ref q58, .ref q73, .ref q88, .ref q100, .ref q109, .ref q115, .ref q126, .ref q137, .ref q150, .int 0, .int 0, .int 0, .int 0, .int 0])) :: (q17, .inl (g.2 1, 3, .inr (.inr (.inr (.inr (fl 4 AC 3)))))) :: (q34, .inl (g.2 2, 40, .inr (.inr (.inr (.inr (fl 3 AF 40)))))) :: (q51, .inl (g.2 3, 6, .inr (.inr (.inr (.inr (fl 2 AR 6)))))) :: (q100, .inl (g.2 4, 4, .inr (.inr (.inr (.inr (fl 2 AS 4)))))) :: (q43, .inl (g.2 0, 48, .inl (fun k => if k < 48 then -9 else (fun _ => 0 : Nat → Int32) k))) :: (bk (bS g) AS (bk (bR g) AR (bk (bF g) AF (bk (bC g) AC [(q150, .inl (g.2 0, 8, .inl (fun _ => 0))), (q137, .inr (7, [.ref q7_141, .int 0])), (q7_141, .inl (g.2 0, 8, .inl (fun _ => 0))), (q126, .inr (7, [.ref q7_130, .int 0])), (q7_130, .inl (g.2 0, 8, .inl (fun _ => 0))), (q115, .inr (7, [.ref q7_119, .int 0])), (q7_119, .inl (g.2 0, 8, .inl (fun _ => 0))), (q109, .inl (g.2 0, 60, .inl (fun _ => 0))), (q88, .inr (0, [.ref q6_92, .int 0, .int 0])), (q6_92, .inl (g.2 0, 5, .inl (fun _ => 0))), (q73, .inr (6, [.ref q7_81, .ref q5, .int 6, .int 3])), (q7_81, .inl (g.2 0, 81, .inl (fun _ => 0))), (q58, .inr (4, [.ref q7_66, .ref q14_66, .ref q25_66, .ref q5, .int 0])), (q7_66, .inl (g.2 5, 9, .inr (.inr (.inr (.inr (fl 1 AL 9)))))), (AL 8, .inr (3, [.int 0, .int 29, .int (-2), .int 29, .int 29])), (AL 7, .inr (3, [.int 0, .int 29, .int (-2), .int 29, .int 29])), (AL 6, .inr (3, [.int 0, .int 29, .int (-2), .int 29, .int 29])), (AL 5, .inr (3, [.int 0, .int 29, .int (-2), .int 29, .int 29])), (AL 4, .inr (3, [.int 0, .int 29, .int (-2), .int 29, .int 29])), (AL 3, .inr (3, [.int 0, .int 29, .int (-2), .int 29, .int 29])), (AL 2, .inr (3, [.int 0, .int 29, .int (-2), .int 29, .int 29])), (AL 1, .inr (3, [.int 0, .int 29, .int (-2), .int 29, .int 29])), (AL 0, .inr (3, [.int 0, .int 29, .int (-2), .int 29, .int 29])), (q25_66, .inr (7, [.ref q7_29_66, .int 0])), (q7_29_66, .inl (g.2 0, 8, .inl (fun _ => 0))), (q14_66, .inr (5, [.ref q7_18_66, .int 0, .int 0])), (q7_18_66, .inl (g.2 0, 60, .inl (fun _ => 0))), (q26, .inl (g.2 0, 8, .inl (fun _ => 0))), (q5, .inr (9, [.ref q7_9, .ref q15_9])), (q15_9, .inl (g.2 0, 16, .inl (fun _ => 0))), (q7_9, .inl (g.2 0, 16, .inl (fun _ => 0)))] 3) 40) 6) 4)) := by
  refine CT.ofVc (by decide) rfl rfl (Nat.le_of_ble_eq_true rfl) ?_
  refine V_aload_n dX10_init_0 rfl ?_
  refine V_objI lk_X10_3 dX10_init_1 (Nat.le_of_ble_eq_true rfl) (Nat.le_of_ble_eq_true rfl) ?_
  refine V_aload_n dX10_init_4 rfl ?_
  refine V_new (ci := 9) tyX9 [.null, .null] Xc_B dX10_init_5 rfl inX9 tyX9_ok cl_X10_9 ib_X9 iz_X9 (by decide) (Nat.le_of_ble_eq_true rfl) (Nat.le_of_ble_eq_true rfl) (fun q5 => ?_)
  refine V_dup dX10_init_8 rfl ?_
  refine V_callI (d := 1) (mc := 2) (ms := 32) mi_X9_init lk_X10_11 dX10_init_9 i_X9 Xc_B rfl rfl (Nat.le_of_ble_eq_true rfl) (Nat.le_of_ble_eq_true rfl) (Nat.le_of_ble_eq_true rfl) (Nat.le_of_ble_eq_true rfl) (Nat.le_of_ble_eq_true rfl) (fun v ws' hv => ?_)
  obtain ⟨rfl, q7_9, q15_9, rfl⟩ := hv
  refine V_r3 ?_
  refine V_putF0 [.ref q5, .null, .null, .null, .null, .null, .null, .null, .null, .null, .null, .null, .null, .null, .null, .int 0, .int 0, .int 0, .int 0, .int 0] Xc_X ff_X10_12 dX10_init_12 rfl rfl (Nat.le_of_ble_eq_true rfl) rfl ?_
  refine V_aload_n dX10_init_15 rfl ?_
  refine V_iconst 3 dX10_init_16 (by decide) ?_
  refine V_newaR (t0 := 1) 3 Xc_B dX10_init_17 cl_X10_18 ao_X1 rfl (by decide) (by decide) (by decide) (Nat.le_of_ble_eq_true rfl) (Nat.le_of_ble_eq_true rfl) (fun q17 => ?_)
  refine V_r1 ?_
  refine V_putF0 [.ref q5, .ref q17, .null, .null, .null, .null, .null, .null, .null, .null, .null, .null, .null, .null, .null, .int 0, .int 0, .int 0, .int 0, .int 0] Xc_X ff_X10_20 dX10_init_20 rfl rfl (Nat.le_of_ble_eq_true rfl) rfl ?_
  refine V_aload_n dX10_init_23 rfl ?_
  refine V_bipush 8 dX10_init_24 (by decide) ?_
  refine V_newaI 8 Xc_B dX10_init_26 (by decide) (by decide) (by decide) (Nat.le_of_ble_eq_true rfl) (Nat.le_of_ble_eq_true rfl) (fun q26 => ?_)
  refine V_r1 ?_
  refine V_putF0 [.ref q5, .ref q17, .ref q26, .null, .null, .null, .null, .null, .null, .null, .null, .null, .null, .null, .null, .int 0, .int 0, .int 0, .int 0, .int 0] Xc_X ff_X10_24 dX10_init_28 rfl rfl (Nat.le_of_ble_eq_true rfl) rfl ?_
  refine V_aload_n dX10_init_31 rfl ?_
  refine V_bipush 40 dX10_init_32 (by decide) ?_
  refine V_newaR (t0 := 2) 40 Xc_B dX10_init_34 cl_X10_28 ao_X2 rfl (by decide) (by decide) (by decide) (Nat.le_of_ble_eq_true rfl) (Nat.le_of_ble_eq_true rfl) (fun q34 => ?_)
  refine V_r1 ?_
  refine V_putF0 [.ref q5, .ref q17, .ref q26, .ref q34, .null, .null, .null, .null, .null, .null, .null, .null, .null, .null, .null, .int 0, .int 0, .int 0, .int 0, .int 0] Xc_X ff_X10_30 dX10_init_37 rfl rfl (Nat.le_of_ble_eq_true rfl) rfl ?_
  refine V_aload_n dX10_init_40 rfl ?_
  refine V_bipush 48 dX10_init_41 (by decide) ?_
  refine V_newaI 48 Xc_B dX10_init_43 (by decide) (by decide) (by decide) (Nat.le_of_ble_eq_true rfl) (Nat.le_of_ble_eq_true rfl) (fun q43 => ?_)
  refine V_r1 ?_
  refine V_putF0 [.ref q5, .ref q17, .ref q26, .ref q34, .ref q43, .null, .null, .null, .null, .null, .null, .null, .null, .null, .null, .int 0, .int 0, .int 0, .int 0, .int 0] Xc_X ff_X10_34 dX10_init_45 rfl rfl (Nat.le_of_ble_eq_true rfl) rfl ?_
  refine V_aload_n dX10_init_48 rfl ?_
  refine V_bipush 6 dX10_init_49 (by decide) ?_
  refine V_newaR (t0 := 3) 6 Xc_B dX10_init_51 cl_X10_37 ao_X7 rfl (by decide) (by decide) (by decide) (Nat.le_of_ble_eq_true rfl) (Nat.le_of_ble_eq_true rfl) (fun q51 => ?_)
  refine V_r1 ?_
  refine V_putF0 [.ref q5, .ref q17, .ref q26, .ref q34, .ref q43, .ref q51, .null, .null, .null, .null, .null, .null, .null, .null, .null, .int 0, .int 0, .int 0, .int 0, .int 0] Xc_X ff_X10_39 dX10_init_54 rfl rfl (Nat.le_of_ble_eq_true rfl) rfl ?_
  refine V_aload_n dX10_init_57 rfl ?_
  refine V_new (ci := 4) tyX4 [.null, .null, .null, .null, .int 0] Xc_B dX10_init_58 rfl inX4 tyX4_ok cl_X10_43 ib_X4 iz_X4 (by decide) (Nat.le_of_ble_eq_true rfl) (Nat.le_of_ble_eq_true rfl) (fun q58 => ?_)
  refine V_dup dX10_init_61 rfl ?_
  refine V_aload_n dX10_init_62 rfl ?_
  refine V_get fl_X10_12 dX10_init_63 1 rfl rfl ?_
  refine V_callI (d := 2) (mc := 14) (ms := 127) mi_X4_init lk_X10_45 dX10_init_66 i_X4 Xc_B rfl rfl (Nat.le_of_ble_eq_true rfl) (Nat.le_of_ble_eq_true rfl) (Nat.le_of_ble_eq_true rfl) (Nat.le_of_ble_eq_true rfl) (Nat.le_of_ble_eq_true rfl) (fun v ws' hv => ?_)
  obtain ⟨rfl, q7_66, q14_66, q7_18_66, q25_66, q7_29_66, AL, rfl⟩ := hv
  refine V_rl [(q58, .inr (4, [.ref q7_66, .ref q14_66, .ref q25_66, .ref q5, .int 0])), (q7_66, .inl (g.2 5, 9, .inr (.inr (.inr (.inr (fl 1 AL 9)))))), (AL 8, .inr (3, [.int 0, .int 29, .int (-2), .int 29, .int 29])), (AL 7, .inr (3, [.int 0, .int 29, .int (-2), .int 29, .int 29])), (AL 6, .inr (3, [.int 0, .int 29, .int (-2), .int 29, .int 29])), (AL 5, .inr (3, [.int 0, .int 29, .int (-2), .int 29, .int 29])), (AL 4, .inr (3, [.int 0, .int 29, .int (-2), .int 29, .int 29])), (AL 3, .inr (3, [.int 0, .int 29, .int (-2), .int 29, .int 29])), (AL 2, .inr (3, [.int 0, .int 29, .int (-2), .int 29, .int 29])), (AL 1, .inr (3, [.int 0, .int 29, .int (-2), .int 29, .int 29])), (AL 0, .inr (3, [.int 0, .int 29, .int (-2), .int 29, .int 29])), (q25_66, .inr (7, [.ref q7_29_66, .int 0])), (q7_29_66, .inl (g.2 0, 8, .inl (fun _ => 0))), (q14_66, .inr (5, [.ref q7_18_66, .int 0, .int 0])), (q7_18_66, .inl (g.2 0, 60, .inl (fun _ => 0)))] ?_
  refine V_putF0 [.ref q5, .ref q17, .ref q26, .ref q34, .ref q43, .ref q51, .ref q58, .null, .null, .null, .null, .null, .null, .null, .null, .int 0, .int 0, .int 0, .int 0, .int 0] Xc_X ff_X10_48 dX10_init_69 rfl rfl (Nat.le_of_ble_eq_true rfl) rfl ?_
  refine V_aload_n dX10_init_72 rfl ?_
  refine V_new (ci := 6) tyX6 [.null, .null, .int 0, .int 0] Xc_B dX10_init_73 rfl inX6 tyX6_ok cl_X10_52 ib_X6 iz_X6 (by decide) (Nat.le_of_ble_eq_true rfl) (Nat.le_of_ble_eq_true rfl) (fun q73 => ?_)
  refine V_dup dX10_init_76 rfl ?_
  refine V_aload_n dX10_init_77 rfl ?_
  refine V_get fl_X10_12 dX10_init_78 1 rfl rfl ?_
  refine V_callI (d := 1) (mc := 1) (ms := 81) mi_X6_init lk_X10_54 dX10_init_81 i_X6 Xc_B rfl rfl (Nat.le_of_ble_eq_true rfl) (Nat.le_of_ble_eq_true rfl) (Nat.le_of_ble_eq_true rfl) (Nat.le_of_ble_eq_true rfl) (Nat.le_of_ble_eq_true rfl) (fun v ws' hv => ?_)
  obtain ⟨rfl, q7_81, rfl⟩ := hv
  refine V_r2 ?_
  refine V_putF0 [.ref q5, .ref q17, .ref q26, .ref q34, .ref q43, .ref q51, .ref q58, .ref q73, .null, .null, .null, .null, .null, .null, .null, .int 0, .int 0, .int 0, .int 0, .int 0] Xc_X ff_X10_55 dX10_init_84 rfl rfl (Nat.le_of_ble_eq_true rfl) rfl ?_
  refine V_aload_n dX10_init_87 rfl ?_
  refine V_new (ci := 0) tyX0 [.null, .int 0, .int 0] Xc_B dX10_init_88 rfl inX0 tyX0_ok cl_X10_59 ib_X0 iz_X0 (by decide) (Nat.le_of_ble_eq_true rfl) (Nat.le_of_ble_eq_true rfl) (fun q88 => ?_)
  refine V_dup dX10_init_91 rfl ?_
  refine V_callI (d := 1) (mc := 1) (ms := 5) mi_X0_init lk_X10_61 dX10_init_92 i_X0 Xc_B rfl rfl (Nat.le_of_ble_eq_true rfl) (Nat.le_of_ble_eq_true rfl) (Nat.le_of_ble_eq_true rfl) (Nat.le_of_ble_eq_true rfl) (Nat.le_of_ble_eq_true rfl) (fun v ws' hv => ?_)
  obtain ⟨rfl, q6_92, rfl⟩ := hv
  refine V_r2 ?_
  refine V_putF0 [.ref q5, .ref q17, .ref q26, .ref q34, .ref q43, .ref q51, .ref q58, .ref q73, .ref q88, .null, .null, .null, .null, .null, .null, .int 0, .int 0, .int 0, .int 0, .int 0] Xc_X ff_X10_62 dX10_init_95 rfl rfl (Nat.le_of_ble_eq_true rfl) rfl ?_
  refine V_aload_n dX10_init_98 rfl ?_
  refine V_iconst 4 dX10_init_99 (by decide) ?_
  refine V_newaR (t0 := 4) 4 Xc_B dX10_init_100 cl_X10_66 ao_X8 rfl (by decide) (by decide) (by decide) (Nat.le_of_ble_eq_true rfl) (Nat.le_of_ble_eq_true rfl) (fun q100 => ?_)
  refine V_r1 ?_
  refine V_putF0 [.ref q5, .ref q17, .ref q26, .ref q34, .ref q43, .ref q51, .ref q58, .ref q73, .ref q88, .ref q100, .null, .null, .null, .null, .null, .int 0, .int 0, .int 0, .int 0, .int 0] Xc_X ff_X10_68 dX10_init_103 rfl rfl (Nat.le_of_ble_eq_true rfl) rfl ?_
  refine V_aload_n dX10_init_106 rfl ?_
  refine V_bipush 60 dX10_init_107 (by decide) ?_
  refine V_newaI 60 Xc_B dX10_init_109 (by decide) (by decide) (by decide) (Nat.le_of_ble_eq_true rfl) (Nat.le_of_ble_eq_true rfl) (fun q109 => ?_)
  refine V_r1 ?_
  refine V_putF0 [.ref q5, .ref q17, .ref q26, .ref q34, .ref q43, .ref q51, .ref q58, .ref q73, .ref q88, .ref q100, .ref q109, .null, .null, .null, .null, .int 0, .int 0, .int 0, .int 0, .int 0] Xc_X ff_X10_72 dX10_init_111 rfl rfl (Nat.le_of_ble_eq_true rfl) rfl ?_
  refine V_aload_n dX10_init_114 rfl ?_
  refine V_new (ci := 7) tyX7 [.null, .int 0] Xc_B dX10_init_115 rfl inX7 tyX7_ok cl_X10_37 ib_X7 iz_X7 (by decide) (Nat.le_of_ble_eq_true rfl) (Nat.le_of_ble_eq_true rfl) (fun q115 => ?_)
  refine V_dup dX10_init_118 rfl ?_
  refine V_callI (d := 1) (mc := 1) (ms := 8) mi_X7_init lk_X10_75 dX10_init_119 i_X7 Xc_B rfl rfl (Nat.le_of_ble_eq_true rfl) (Nat.le_of_ble_eq_true rfl) (Nat.le_of_ble_eq_true rfl) (Nat.le_of_ble_eq_true rfl) (Nat.le_of_ble_eq_true rfl) (fun v ws' hv => ?_)
  obtain ⟨rfl, q7_119, rfl⟩ := hv
  refine V_r2 ?_
  refine V_putF0 [.ref q5, .ref q17, .ref q26, .ref q34, .ref q43, .ref q51, .ref q58, .ref q73, .ref q88, .ref q100, .ref q109, .ref q115, .null, .null, .null, .int 0, .int 0, .int 0, .int 0, .int 0] Xc_X ff_X10_76 dX10_init_122 rfl rfl (Nat.le_of_ble_eq_true rfl) rfl ?_
  refine V_aload_n dX10_init_125 rfl ?_
  refine V_new (ci := 7) tyX7 [.null, .int 0] Xc_B dX10_init_126 rfl inX7 tyX7_ok cl_X10_37 ib_X7 iz_X7 (by decide) (Nat.le_of_ble_eq_true rfl) (Nat.le_of_ble_eq_true rfl) (fun q126 => ?_)
  refine V_dup dX10_init_129 rfl ?_
  refine V_callI (d := 1) (mc := 1) (ms := 8) mi_X7_init lk_X10_75 dX10_init_130 i_X7 Xc_B rfl rfl (Nat.le_of_ble_eq_true rfl) (Nat.le_of_ble_eq_true rfl) (Nat.le_of_ble_eq_true rfl) (Nat.le_of_ble_eq_true rfl) (Nat.le_of_ble_eq_true rfl) (fun v ws' hv => ?_)
  obtain ⟨rfl, q7_130, rfl⟩ := hv
  refine V_r2 ?_
  refine V_putF0 [.ref q5, .ref q17, .ref q26, .ref q34, .ref q43, .ref q51, .ref q58, .ref q73, .ref q88, .ref q100, .ref q109, .ref q115, .ref q126, .null, .null, .int 0, .int 0, .int 0, .int 0, .int 0] Xc_X ff_X10_80 dX10_init_133 rfl rfl (Nat.le_of_ble_eq_true rfl) rfl ?_
  refine V_aload_n dX10_init_136 rfl ?_
  refine V_new (ci := 7) tyX7 [.null, .int 0] Xc_B dX10_init_137 rfl inX7 tyX7_ok cl_X10_37 ib_X7 iz_X7 (by decide) (Nat.le_of_ble_eq_true rfl) (Nat.le_of_ble_eq_true rfl) (fun q137 => ?_)
  refine V_dup dX10_init_140 rfl ?_
  refine V_callI (d := 1) (mc := 1) (ms := 8) mi_X7_init lk_X10_75 dX10_init_141 i_X7 Xc_B rfl rfl (Nat.le_of_ble_eq_true rfl) (Nat.le_of_ble_eq_true rfl) (Nat.le_of_ble_eq_true rfl) (Nat.le_of_ble_eq_true rfl) (Nat.le_of_ble_eq_true rfl) (fun v ws' hv => ?_)
  obtain ⟨rfl, q7_141, rfl⟩ := hv
  refine V_r2 ?_
  refine V_putF0 [.ref q5, .ref q17, .ref q26, .ref q34, .ref q43, .ref q51, .ref q58, .ref q73, .ref q88, .ref q100, .ref q109, .ref q115, .ref q126, .ref q137, .null, .int 0, .int 0, .int 0, .int 0, .int 0] Xc_X ff_X10_83 dX10_init_144 rfl rfl (Nat.le_of_ble_eq_true rfl) rfl ?_
  refine V_aload_n dX10_init_147 rfl ?_
  refine V_bipush 8 dX10_init_148 (by decide) ?_
  refine V_newaI 8 Xc_B dX10_init_150 (by decide) (by decide) (by decide) (Nat.le_of_ble_eq_true rfl) (Nat.le_of_ble_eq_true rfl) (fun q150 => ?_)
  refine V_r1 ?_
  refine V_putF0 [.ref q5, .ref q17, .ref q26, .ref q34, .ref q43, .ref q51, .ref q58, .ref q73, .ref q88, .ref q100, .ref q109, .ref q115, .ref q126, .ref q137, .ref q150, .int 0, .int 0, .int 0, .int 0, .int 0] Xc_X ff_X10_86 dX10_init_152 rfl rfl (Nat.le_of_ble_eq_true rfl) rfl ?_
  refine V_aload_n dX10_init_155 rfl ?_
  refine V_iconst 0 dX10_init_156 (by decide) ?_
  refine V_put0 [.ref q5, .ref q17, .ref q26, .ref q34, .ref q43, .ref q51, .ref q58, .ref q73, .ref q88, .ref q100, .ref q109, .ref q115, .ref q126, .ref q137, .ref q150, .int 0, .int 0, .int 0, .int 0, .int 0] fp_X10_89 dX10_init_157 rfl rfl (Nat.le_of_ble_eq_true rfl) rfl ?_
  refine V_aload_n dX10_init_160 rfl ?_
  refine V_iconst 0 dX10_init_161 (by decide) ?_
  refine V_put0 [.ref q5, .ref q17, .ref q26, .ref q34, .ref q43, .ref q51, .ref q58, .ref q73, .ref q88, .ref q100, .ref q109, .ref q115, .ref q126, .ref q137, .ref q150, .int 0, .int 0, .int 0, .int 0, .int 0] fp_X10_93 dX10_init_162 rfl rfl (Nat.le_of_ble_eq_true rfl) rfl ?_
  refine V_aload_n dX10_init_165 rfl ?_
  refine V_iconst 0 dX10_init_166 (by decide) ?_
  refine V_put0 [.ref q5, .ref q17, .ref q26, .ref q34, .ref q43, .ref q51, .ref q58, .ref q73, .ref q88, .ref q100, .ref q109, .ref q115, .ref q126, .ref q137, .ref q150, .int 0, .int 0, .int 0, .int 0, .int 0] fp_X10_96 dX10_init_167 rfl rfl (Nat.le_of_ble_eq_true rfl) rfl ?_
  refine V_aload_n dX10_init_170 rfl ?_
  refine V_iconst 0 dX10_init_171 (by decide) ?_
  refine V_put0 [.ref q5, .ref q17, .ref q26, .ref q34, .ref q43, .ref q51, .ref q58, .ref q73, .ref q88, .ref q100, .ref q109, .ref q115, .ref q126, .ref q137, .ref q150, .int 0, .int 0, .int 0, .int 0, .int 0] fp_X10_99 dX10_init_172 rfl rfl (Nat.le_of_ble_eq_true rfl) rfl ?_
  refine V_aload_n dX10_init_175 rfl ?_
  refine V_iconst 0 dX10_init_176 (by decide) ?_
  refine V_put0 [.ref q5, .ref q17, .ref q26, .ref q34, .ref q43, .ref q51, .ref q58, .ref q73, .ref q88, .ref q100, .ref q109, .ref q115, .ref q126, .ref q137, .ref q150, .int 0, .int 0, .int 0, .int 0, .int 0] fp_X10_102 dX10_init_177 rfl rfl (Nat.le_of_ble_eq_true rfl) rfl ?_
  refine V_iconst 0 dX10_init_180 (by decide) ?_
  refine V_istore_n dX10_init_181 (by decide) ?_
  refine V_pl (ws' := (q, .inr (10, [.ref q5, .ref q17, .ref q26, .ref q34, .ref q43, .ref q51, .ref q58, .ref q73, .ref q88, .ref q100, .ref q109, .ref q115, .ref q126, .ref q137, .ref q150, .int 0, .int 0, .int 0, .int 0, .int 0])) :: (q17, .inl (g.2 1, 3, .inr (.inr (.inr (.inr (fun _ => none)))))) :: (q34, .inl (g.2 2, 40, .inr (.inr (.inr (.inr (fun _ => none)))))) :: (q51, .inl (g.2 3, 6, .inr (.inr (.inr (.inr (fun _ => none)))))) :: (q100, .inl (g.2 4, 4, .inr (.inr (.inr (.inr (fun _ => none)))))) :: (q43, .inl (g.2 0, 48, .inl (fun _ => 0))) :: [(q150, .inl (g.2 0, 8, .inl (fun _ => 0))), (q137, .inr (7, [.ref q7_141, .int 0])), (q7_141, .inl (g.2 0, 8, .inl (fun _ => 0))), (q126, .inr (7, [.ref q7_130, .int 0])), (q7_130, .inl (g.2 0, 8, .inl (fun _ => 0))), (q115, .inr (7, [.ref q7_119, .int 0])), (q7_119, .inl (g.2 0, 8, .inl (fun _ => 0))), (q109, .inl (g.2 0, 60, .inl (fun _ => 0))), (q88, .inr (0, [.ref q6_92, .int 0, .int 0])), (q6_92, .inl (g.2 0, 5, .inl (fun _ => 0))), (q73, .inr (6, [.ref q7_81, .ref q5, .int 6, .int 3])), (q7_81, .inl (g.2 0, 81, .inl (fun _ => 0))), (q58, .inr (4, [.ref q7_66, .ref q14_66, .ref q25_66, .ref q5, .int 0])), (q7_66, .inl (g.2 5, 9, .inr (.inr (.inr (.inr (fl 1 AL 9)))))), (AL 8, .inr (3, [.int 0, .int 29, .int (-2), .int 29, .int 29])), (AL 7, .inr (3, [.int 0, .int 29, .int (-2), .int 29, .int 29])), (AL 6, .inr (3, [.int 0, .int 29, .int (-2), .int 29, .int 29])), (AL 5, .inr (3, [.int 0, .int 29, .int (-2), .int 29, .int 29])), (AL 4, .inr (3, [.int 0, .int 29, .int (-2), .int 29, .int 29])), (AL 3, .inr (3, [.int 0, .int 29, .int (-2), .int 29, .int 29])), (AL 2, .inr (3, [.int 0, .int 29, .int (-2), .int 29, .int 29])), (AL 1, .inr (3, [.int 0, .int 29, .int (-2), .int 29, .int 29])), (AL 0, .inr (3, [.int 0, .int 29, .int (-2), .int 29, .int 29])), (q25_66, .inr (7, [.ref q7_29_66, .int 0])), (q7_29_66, .inl (g.2 0, 8, .inl (fun _ => 0))), (q14_66, .inr (5, [.ref q7_18_66, .int 0, .int 0])), (q7_18_66, .inl (g.2 0, 60, .inl (fun _ => 0))), (q26, .inl (g.2 0, 8, .inl (fun _ => 0))), (q5, .inr (9, [.ref q7_9, .ref q15_9])), (q15_9, .inl (g.2 0, 16, .inl (fun _ => 0))), (q7_9, .inl (g.2 0, 16, .inl (fun _ => 0)))]) [0, 33, 31, 29, 9, 30, 1, 2, 3, 4, 5, 6, 7, 8, 10, 11, 12, 13, 14, 15, 16, 17, 18, 19, 20, 21, 22, 23, 24, 25, 26, 27, 28, 32, 34, 35, 36] (by decide) rfl ?_
  generalize hW0 : ([(q150, .inl (g.2 0, 8, .inl (fun _ => 0))), (q137, .inr (7, [.ref q7_141, .int 0])), (q7_141, .inl (g.2 0, 8, .inl (fun _ => 0))), (q126, .inr (7, [.ref q7_130, .int 0])), (q7_130, .inl (g.2 0, 8, .inl (fun _ => 0))), (q115, .inr (7, [.ref q7_119, .int 0])), (q7_119, .inl (g.2 0, 8, .inl (fun _ => 0))), (q109, .inl (g.2 0, 60, .inl (fun _ => 0))), (q88, .inr (0, [.ref q6_92, .int 0, .int 0])), (q6_92, .inl (g.2 0, 5, .inl (fun _ => 0))), (q73, .inr (6, [.ref q7_81, .ref q5, .int 6, .int 3])), (q7_81, .inl (g.2 0, 81, .inl (fun _ => 0))), (q58, .inr (4, [.ref q7_66, .ref q14_66, .ref q25_66, .ref q5, .int 0])), (q7_66, .inl (g.2 5, 9, .inr (.inr (.inr (.inr (fl 1 AL 9)))))), (AL 8, .inr (3, [.int 0, .int 29, .int (-2), .int 29, .int 29])), (AL 7, .inr (3, [.int 0, .int 29, .int (-2), .int 29, .int 29])), (AL 6, .inr (3, [.int 0, .int 29, .int (-2), .int 29, .int 29])), (AL 5, .inr (3, [.int 0, .int 29, .int (-2), .int 29, .int 29])), (AL 4, .inr (3, [.int 0, .int 29, .int (-2), .int 29, .int 29])), (AL 3, .inr (3, [.int 0, .int 29, .int (-2), .int 29, .int 29])), (AL 2, .inr (3, [.int 0, .int 29, .int (-2), .int 29, .int 29])), (AL 1, .inr (3, [.int 0, .int 29, .int (-2), .int 29, .int 29])), (AL 0, .inr (3, [.int 0, .int 29, .int (-2), .int 29, .int 29])), (q25_66, .inr (7, [.ref q7_29_66, .int 0])), (q7_29_66, .inl (g.2 0, 8, .inl (fun _ => 0))), (q14_66, .inr (5, [.ref q7_18_66, .int 0, .int 0])), (q7_18_66, .inl (g.2 0, 60, .inl (fun _ => 0))), (q26, .inl (g.2 0, 8, .inl (fun _ => 0))), (q5, .inr (9, [.ref q7_9, .ref q15_9])), (q15_9, .inl (g.2 0, 16, .inl (fun _ => 0))), (q7_9, .inl (g.2 0, 16, .inl (fun _ => 0)))] : va_W) = W0
  have hend : ∀ (AC AF AR AS : Nat → Nat), V (CQc g B 3 188 1504 (fun v ws' => v = none ∧ ∃ (q5 q7_9 q15_9 q17 q26 q34 q43 q51 q58 q7_66 q14_66 q7_18_66 q25_66 q7_29_66 q73 q7_81 q88 q6_92 q100 q109 q115 q7_119 q126 q7_130 q137 q7_141 q150 : Nat) (AL AC AF AR AS : Nat → Nat), ws' = (q, .inr (10, [.ref q5, .ref q17, .ref q26, .ref q34, .ref q43, .ref q51, .ref q58, .ref q73, .ref q88, .ref q100, .ref q109, .ref q115, .ref q126, .ref q137, .ref q150, .int 0, .int 0, .int 0, .int 0, .int 0])) :: (q17, .inl (g.2 1, 3, .inr (.inr (.inr (.inr (fl 4 AC 3)))))) :: (q34, .inl (g.2 2, 40, .inr (.inr (.inr (.inr (fl 3 AF 40)))))) :: (q51, .inl (g.2 3, 6, .inr (.inr (.inr (.inr (fl 2 AR 6)))))) :: (q100, .inl (g.2 4, 4, .inr (.inr (.inr (.inr (fl 2 AS 4)))))) :: (q43, .inl (g.2 0, 48, .inl (fun k => if k < 48 then -9 else (fun _ => 0 : Nat → Int32) k))) :: (bk (bS g) AS (bk (bR g) AR (bk (bF g) AF (bk (bC g) AC [(q150, .inl (g.2 0, 8, .inl (fun _ => 0))), (q137, .inr (7, [.ref q7_141, .int 0])), (q7_141, .inl (g.2 0, 8, .inl (fun _ => 0))), (q126, .inr (7, [.ref q7_130, .int 0])), (q7_130, .inl (g.2 0, 8, .inl (fun _ => 0))), (q115, .inr (7, [.ref q7_119, .int 0])), (q7_119, .inl (g.2 0, 8, .inl (fun _ => 0))), (q109, .inl (g.2 0, 60, .inl (fun _ => 0))), (q88, .inr (0, [.ref q6_92, .int 0, .int 0])), (q6_92, .inl (g.2 0, 5, .inl (fun _ => 0))), (q73, .inr (6, [.ref q7_81, .ref q5, .int 6, .int 3])), (q7_81, .inl (g.2 0, 81, .inl (fun _ => 0))), (q58, .inr (4, [.ref q7_66, .ref q14_66, .ref q25_66, .ref q5, .int 0])), (q7_66, .inl (g.2 5, 9, .inr (.inr (.inr (.inr (fl 1 AL 9)))))), (AL 8, .inr (3, [.int 0, .int 29, .int (-2), .int 29, .int 29])), (AL 7, .inr (3, [.int 0, .int 29, .int (-2), .int 29, .int 29])), (AL 6, .inr (3, [.int 0, .int 29, .int (-2), .int 29, .int 29])), (AL 5, .inr (3, [.int 0, .int 29, .int (-2), .int 29, .int 29])), (AL 4, .inr (3, [.int 0, .int 29, .int (-2), .int 29, .int 29])), (AL 3, .inr (3, [.int 0, .int 29, .int (-2), .int 29, .int 29])), (AL 2, .inr (3, [.int 0, .int 29, .int (-2), .int 29, .int 29])), (AL 1, .inr (3, [.int 0, .int 29, .int (-2), .int 29, .int 29])), (AL 0, .inr (3, [.int 0, .int 29, .int (-2), .int 29, .int 29])), (q25_66, .inr (7, [.ref q7_29_66, .int 0])), (q7_29_66, .inl (g.2 0, 8, .inl (fun _ => 0))), (q14_66, .inr (5, [.ref q7_18_66, .int 0, .int 0])), (q7_18_66, .inl (g.2 0, 60, .inl (fun _ => 0))), (q26, .inl (g.2 0, 8, .inl (fun _ => 0))), (q5, .inr (9, [.ref q7_9, .ref q15_9])), (q15_9, .inl (g.2 0, 16, .inl (fun _ => 0))), (q7_9, .inl (g.2 0, 16, .inl (fun _ => 0)))] 3) 40) 6) 4))) mX10_init 286 [.ref q] [] ((q, .inr (10, [.ref q5, .ref q17, .ref q26, .ref q34, .ref q43, .ref q51, .ref q58, .ref q73, .ref q88, .ref q100, .ref q109, .ref q115, .ref q126, .ref q137, .ref q150, .int 0, .int 0, .int 0, .int 0, .int 0])) :: (q17, .inl (g.2 1, 3, .inr (.inr (.inr (.inr (fl 4 AC 3)))))) :: (q34, .inl (g.2 2, 40, .inr (.inr (.inr (.inr (fl 3 AF 40)))))) :: (q51, .inl (g.2 3, 6, .inr (.inr (.inr (.inr (fl 2 AR 6)))))) :: (q100, .inl (g.2 4, 4, .inr (.inr (.inr (.inr (fl 2 AS 4)))))) :: (q43, .inl (g.2 0, 48, .inl (fun _ => 0))) :: (bk (bS g) AS (bk (bR g) AR (bk (bF g) AF (bk (bC g) AC W0 3) 40) 6) 4)) 188 1504 := by
    intro AC AF AR AS
    refine V_aload_n dX10_init_286 rfl ?_
    refine V_get fl_X10_34 dX10_init_287 0 rfl rfl ?_
    refine V_bipush (-9) dX10_init_290 (by decide) ?_
    refine V_callS (d := 1) (mc := 0) (ms := 0) ms_J7_fill_53178 lk_X10_108 dX10_init_292 (i_fill (i := 5) rfl (by decide)) Xc_B rfl rfl (Nat.le_of_ble_eq_true rfl) (Nat.le_of_ble_eq_true rfl) (Nat.le_of_ble_eq_true rfl) (Nat.le_of_ble_eq_true rfl) (Nat.le_of_ble_eq_true rfl) (fun v ws' hv => ?_)
    obtain ⟨rfl, rfl⟩ := hv
    subst hW0
    exact V_vretc dX10_init_295 rfl ⟨rfl, q5, q7_9, q15_9, q17, q26, q34, q43, q51, q58, q7_66, q14_66, q7_18_66, q25_66, q7_29_66, q73, q7_81, q88, q6_92, q100, q109, q115, q7_119, q126, q7_130, q137, q7_141, q150, AL, AC, AF, AR, AS, rfl⟩
  have key3 : ∀ (m l : Nat) (AC AF AR A : Nat → Nat), l + m = 4 → V (CQc g B 3 188 1504 (fun v ws' => v = none ∧ ∃ (q5 q7_9 q15_9 q17 q26 q34 q43 q51 q58 q7_66 q14_66 q7_18_66 q25_66 q7_29_66 q73 q7_81 q88 q6_92 q100 q109 q115 q7_119 q126 q7_130 q137 q7_141 q150 : Nat) (AL AC AF AR AS : Nat → Nat), ws' = (q, .inr (10, [.ref q5, .ref q17, .ref q26, .ref q34, .ref q43, .ref q51, .ref q58, .ref q73, .ref q88, .ref q100, .ref q109, .ref q115, .ref q126, .ref q137, .ref q150, .int 0, .int 0, .int 0, .int 0, .int 0])) :: (q17, .inl (g.2 1, 3, .inr (.inr (.inr (.inr (fl 4 AC 3)))))) :: (q34, .inl (g.2 2, 40, .inr (.inr (.inr (.inr (fl 3 AF 40)))))) :: (q51, .inl (g.2 3, 6, .inr (.inr (.inr (.inr (fl 2 AR 6)))))) :: (q100, .inl (g.2 4, 4, .inr (.inr (.inr (.inr (fl 2 AS 4)))))) :: (q43, .inl (g.2 0, 48, .inl (fun k => if k < 48 then -9 else (fun _ => 0 : Nat → Int32) k))) :: (bk (bS g) AS (bk (bR g) AR (bk (bF g) AF (bk (bC g) AC [(q150, .inl (g.2 0, 8, .inl (fun _ => 0))), (q137, .inr (7, [.ref q7_141, .int 0])), (q7_141, .inl (g.2 0, 8, .inl (fun _ => 0))), (q126, .inr (7, [.ref q7_130, .int 0])), (q7_130, .inl (g.2 0, 8, .inl (fun _ => 0))), (q115, .inr (7, [.ref q7_119, .int 0])), (q7_119, .inl (g.2 0, 8, .inl (fun _ => 0))), (q109, .inl (g.2 0, 60, .inl (fun _ => 0))), (q88, .inr (0, [.ref q6_92, .int 0, .int 0])), (q6_92, .inl (g.2 0, 5, .inl (fun _ => 0))), (q73, .inr (6, [.ref q7_81, .ref q5, .int 6, .int 3])), (q7_81, .inl (g.2 0, 81, .inl (fun _ => 0))), (q58, .inr (4, [.ref q7_66, .ref q14_66, .ref q25_66, .ref q5, .int 0])), (q7_66, .inl (g.2 5, 9, .inr (.inr (.inr (.inr (fl 1 AL 9)))))), (AL 8, .inr (3, [.int 0, .int 29, .int (-2), .int 29, .int 29])), (AL 7, .inr (3, [.int 0, .int 29, .int (-2), .int 29, .int 29])), (AL 6, .inr (3, [.int 0, .int 29, .int (-2), .int 29, .int 29])), (AL 5, .inr (3, [.int 0, .int 29, .int (-2), .int 29, .int 29])), (AL 4, .inr (3, [.int 0, .int 29, .int (-2), .int 29, .int 29])), (AL 3, .inr (3, [.int 0, .int 29, .int (-2), .int 29, .int 29])), (AL 2, .inr (3, [.int 0, .int 29, .int (-2), .int 29, .int 29])), (AL 1, .inr (3, [.int 0, .int 29, .int (-2), .int 29, .int 29])), (AL 0, .inr (3, [.int 0, .int 29, .int (-2), .int 29, .int 29])), (q25_66, .inr (7, [.ref q7_29_66, .int 0])), (q7_29_66, .inl (g.2 0, 8, .inl (fun _ => 0))), (q14_66, .inr (5, [.ref q7_18_66, .int 0, .int 0])), (q7_18_66, .inl (g.2 0, 60, .inl (fun _ => 0))), (q26, .inl (g.2 0, 8, .inl (fun _ => 0))), (q5, .inr (9, [.ref q7_9, .ref q15_9])), (q15_9, .inl (g.2 0, 16, .inl (fun _ => 0))), (q7_9, .inl (g.2 0, 16, .inl (fun _ => 0)))] 3) 40) 6) 4))) mX10_init 262 [.ref q, .int (nI l)] [] ((q, .inr (10, [.ref q5, .ref q17, .ref q26, .ref q34, .ref q43, .ref q51, .ref q58, .ref q73, .ref q88, .ref q100, .ref q109, .ref q115, .ref q126, .ref q137, .ref q150, .int 0, .int 0, .int 0, .int 0, .int 0])) :: (q17, .inl (g.2 1, 3, .inr (.inr (.inr (.inr (fl 4 AC 3)))))) :: (q34, .inl (g.2 2, 40, .inr (.inr (.inr (.inr (fl 3 AF 40)))))) :: (q51, .inl (g.2 3, 6, .inr (.inr (.inr (.inr (fl 2 AR 6)))))) :: (q100, .inl (g.2 4, 4, .inr (.inr (.inr (.inr (fl 2 A l)))))) :: (q43, .inl (g.2 0, 48, .inl (fun _ => 0))) :: (bk (bS g) A (bk (bR g) AR (bk (bF g) AF (bk (bC g) AC W0 3) 40) 6) l)) (180 + 2 * l) (1248 + 64 * l) := by
    intro m
    induction m with
    | zero =>
      intro l AC AF AR A h1
      have hl : l = 4 := by omega
      subst hl
      refine V_iload_n dX10_init_262 rfl ?_
      refine V_iconst 4 dX10_init_263 (by decide) ?_
      refine V_icmp_ge 286 dX10_init_264 (by decide) (fun _ => ?_) (fun q => absurd (by decide) q)
      refine V_take 1 ?_
      exact hend AC AF AR A
    | succ m ih =>
      intro l AC AF AR A h1
      refine V_iload_n dX10_init_262 rfl ?_
      refine V_iconst 4 dX10_init_263 (by decide) ?_
      refine V_icmp_ge 286 dX10_init_264 (by decide) (fun q => ?_) (fun _ => ?_)
      · exact absurd q (nI_ge (b := 4) (by omega) (by omega))
      · refine V_aload_n dX10_init_267 rfl ?_
        refine V_get fl_X10_68 dX10_init_268 0 rfl rfl ?_
        refine V_iload_n dX10_init_271 rfl ?_
        refine V_new (ci := 8) tyX8 [.null, .int 0, .int 0, .int 0] Xc_B dX10_init_272 rfl inX8 tyX8_ok cl_X10_66 ib_X8 iz_X8 (by decide) (by show 180 + 2 * l + 1 ≤ 188; omega) (by show 1248 + 64 * l + 4 ≤ 1504; omega) (fun u0 => ?_)
        refine V_dup dX10_init_275 rfl ?_
        refine V_callI (d := 1) (mc := 1) (ms := 60) mi_X8_init lk_X10_107 dX10_init_276 i_X8 Xc_B rfl rfl (Nat.le_of_ble_eq_true rfl) (Nat.le_of_ble_eq_true rfl) (Nat.le_of_ble_eq_true rfl) (by show 180 + 2 * l + 1 + 1 ≤ 188; omega) (by show 1248 + 64 * l + 4 + 60 ≤ 1504; omega) (fun v ws' hv => ?_)
        obtain ⟨rfl, u1, rfl⟩ := hv
        refine V_aast (t0 := 4) (ci := 8) dX10_init_279 6 0 rfl rfl rfl rfl (vp_in_nI (by omega) (by omega)) ?_
        refine V_iincC 1 dX10_init_280 (by decide) rfl (by decide) ?_
        refine V_goto 262 dX10_init_283 (by decide) ?_
        rw [nI_clamp (by omega), fl_up (qs := [u1]) (by decide)]
        refine V_blk [_, _] [_, _, _, _, _, _] ?_
        have h5 := ih (l + 1) AC AF AR (upA A (2 * l) [u0, u1]) (by omega)
        rw [bk, bk_congr l (fun j hj => bS_lt hj), bS_at, nI_succ] at h5
        exact V_nn (by omega) (by omega) h5
  have key2 : ∀ (m l : Nat) (AC AF A : Nat → Nat), l + m = 6 → V (CQc g B 3 188 1504 (fun v ws' => v = none ∧ ∃ (q5 q7_9 q15_9 q17 q26 q34 q43 q51 q58 q7_66 q14_66 q7_18_66 q25_66 q7_29_66 q73 q7_81 q88 q6_92 q100 q109 q115 q7_119 q126 q7_130 q137 q7_141 q150 : Nat) (AL AC AF AR AS : Nat → Nat), ws' = (q, .inr (10, [.ref q5, .ref q17, .ref q26, .ref q34, .ref q43, .ref q51, .ref q58, .ref q73, .ref q88, .ref q100, .ref q109, .ref q115, .ref q126, .ref q137, .ref q150, .int 0, .int 0, .int 0, .int 0, .int 0])) :: (q17, .inl (g.2 1, 3, .inr (.inr (.inr (.inr (fl 4 AC 3)))))) :: (q34, .inl (g.2 2, 40, .inr (.inr (.inr (.inr (fl 3 AF 40)))))) :: (q51, .inl (g.2 3, 6, .inr (.inr (.inr (.inr (fl 2 AR 6)))))) :: (q100, .inl (g.2 4, 4, .inr (.inr (.inr (.inr (fl 2 AS 4)))))) :: (q43, .inl (g.2 0, 48, .inl (fun k => if k < 48 then -9 else (fun _ => 0 : Nat → Int32) k))) :: (bk (bS g) AS (bk (bR g) AR (bk (bF g) AF (bk (bC g) AC [(q150, .inl (g.2 0, 8, .inl (fun _ => 0))), (q137, .inr (7, [.ref q7_141, .int 0])), (q7_141, .inl (g.2 0, 8, .inl (fun _ => 0))), (q126, .inr (7, [.ref q7_130, .int 0])), (q7_130, .inl (g.2 0, 8, .inl (fun _ => 0))), (q115, .inr (7, [.ref q7_119, .int 0])), (q7_119, .inl (g.2 0, 8, .inl (fun _ => 0))), (q109, .inl (g.2 0, 60, .inl (fun _ => 0))), (q88, .inr (0, [.ref q6_92, .int 0, .int 0])), (q6_92, .inl (g.2 0, 5, .inl (fun _ => 0))), (q73, .inr (6, [.ref q7_81, .ref q5, .int 6, .int 3])), (q7_81, .inl (g.2 0, 81, .inl (fun _ => 0))), (q58, .inr (4, [.ref q7_66, .ref q14_66, .ref q25_66, .ref q5, .int 0])), (q7_66, .inl (g.2 5, 9, .inr (.inr (.inr (.inr (fl 1 AL 9)))))), (AL 8, .inr (3, [.int 0, .int 29, .int (-2), .int 29, .int 29])), (AL 7, .inr (3, [.int 0, .int 29, .int (-2), .int 29, .int 29])), (AL 6, .inr (3, [.int 0, .int 29, .int (-2), .int 29, .int 29])), (AL 5, .inr (3, [.int 0, .int 29, .int (-2), .int 29, .int 29])), (AL 4, .inr (3, [.int 0, .int 29, .int (-2), .int 29, .int 29])), (AL 3, .inr (3, [.int 0, .int 29, .int (-2), .int 29, .int 29])), (AL 2, .inr (3, [.int 0, .int 29, .int (-2), .int 29, .int 29])), (AL 1, .inr (3, [.int 0, .int 29, .int (-2), .int 29, .int 29])), (AL 0, .inr (3, [.int 0, .int 29, .int (-2), .int 29, .int 29])), (q25_66, .inr (7, [.ref q7_29_66, .int 0])), (q7_29_66, .inl (g.2 0, 8, .inl (fun _ => 0))), (q14_66, .inr (5, [.ref q7_18_66, .int 0, .int 0])), (q7_18_66, .inl (g.2 0, 60, .inl (fun _ => 0))), (q26, .inl (g.2 0, 8, .inl (fun _ => 0))), (q5, .inr (9, [.ref q7_9, .ref q15_9])), (q15_9, .inl (g.2 0, 16, .inl (fun _ => 0))), (q7_9, .inl (g.2 0, 16, .inl (fun _ => 0)))] 3) 40) 6) 4))) mX10_init 235 [.ref q, .int (nI l)] [] ((q, .inr (10, [.ref q5, .ref q17, .ref q26, .ref q34, .ref q43, .ref q51, .ref q58, .ref q73, .ref q88, .ref q100, .ref q109, .ref q115, .ref q126, .ref q137, .ref q150, .int 0, .int 0, .int 0, .int 0, .int 0])) :: (q17, .inl (g.2 1, 3, .inr (.inr (.inr (.inr (fl 4 AC 3)))))) :: (q34, .inl (g.2 2, 40, .inr (.inr (.inr (.inr (fl 3 AF 40)))))) :: (q51, .inl (g.2 3, 6, .inr (.inr (.inr (.inr (fl 2 A l)))))) :: (q100, .inl (g.2 4, 4, .inr (.inr (.inr (.inr (fun _ => none)))))) :: (q43, .inl (g.2 0, 48, .inl (fun _ => 0))) :: (bk (bR g) A (bk (bF g) AF (bk (bC g) AC W0 3) 40) l)) (168 + 2 * l) (1188 + 10 * l) := by
    intro m
    induction m with
    | zero =>
      intro l AC AF A h1
      have hl : l = 6 := by omega
      subst hl
      refine V_iload_n dX10_init_235 rfl ?_
      refine V_bipush 6 dX10_init_236 (by decide) ?_
      refine V_icmp_ge 260 dX10_init_238 (by decide) (fun _ => ?_) (fun q => absurd (by decide) q)
      refine V_iconst 0 dX10_init_260 (by decide) ?_
      refine V_istore_n dX10_init_261 (by decide) ?_
      have h0 := key3 4 0 AC AF A (fun _ => 0) rfl
      rw [fl_0] at h0
      exact h0
    | succ m ih =>
      intro l AC AF A h1
      refine V_iload_n dX10_init_235 rfl ?_
      refine V_bipush 6 dX10_init_236 (by decide) ?_
      refine V_icmp_ge 260 dX10_init_238 (by decide) (fun q => ?_) (fun _ => ?_)
      · exact absurd q (nI_ge (b := 6) (by omega) (by omega))
      · refine V_aload_n dX10_init_241 rfl ?_
        refine V_get fl_X10_39 dX10_init_242 0 rfl rfl ?_
        refine V_iload_n dX10_init_245 rfl ?_
        refine V_new (ci := 7) tyX7 [.null, .int 0] Xc_B dX10_init_246 rfl inX7 tyX7_ok cl_X10_37 ib_X7 iz_X7 (by decide) (by show 168 + 2 * l + 1 ≤ 188; omega) (by show 1188 + 10 * l + 2 ≤ 1504; omega) (fun u0 => ?_)
        refine V_dup dX10_init_249 rfl ?_
        refine V_callI (d := 1) (mc := 1) (ms := 8) mi_X7_init lk_X10_75 dX10_init_250 i_X7 Xc_B rfl rfl (Nat.le_of_ble_eq_true rfl) (Nat.le_of_ble_eq_true rfl) (Nat.le_of_ble_eq_true rfl) (by show 168 + 2 * l + 1 + 1 ≤ 188; omega) (by show 1188 + 10 * l + 2 + 8 ≤ 1504; omega) (fun v ws' hv => ?_)
        obtain ⟨rfl, u1, rfl⟩ := hv
        refine V_aast (t0 := 3) (ci := 7) dX10_init_253 5 0 rfl rfl rfl rfl (vp_in_nI (by omega) (by omega)) ?_
        refine V_iincC 1 dX10_init_254 (by decide) rfl (by decide) ?_
        refine V_goto 235 dX10_init_257 (by decide) ?_
        rw [nI_clamp (by omega), fl_up (qs := [u1]) (by decide)]
        refine V_blk [_, _] [_, _, _, _, _, _] ?_
        have h5 := ih (l + 1) AC AF (upA A (2 * l) [u0, u1]) (by omega)
        rw [bk, bk_congr l (fun j hj => bR_lt hj), bR_at, nI_succ] at h5
        exact V_nn (by omega) (by omega) h5
  have key1 : ∀ (m l : Nat) (AC A : Nat → Nat), l + m = 40 → V (CQc g B 3 188 1504 (fun v ws' => v = none ∧ ∃ (q5 q7_9 q15_9 q17 q26 q34 q43 q51 q58 q7_66 q14_66 q7_18_66 q25_66 q7_29_66 q73 q7_81 q88 q6_92 q100 q109 q115 q7_119 q126 q7_130 q137 q7_141 q150 : Nat) (AL AC AF AR AS : Nat → Nat), ws' = (q, .inr (10, [.ref q5, .ref q17, .ref q26, .ref q34, .ref q43, .ref q51, .ref q58, .ref q73, .ref q88, .ref q100, .ref q109, .ref q115, .ref q126, .ref q137, .ref q150, .int 0, .int 0, .int 0, .int 0, .int 0])) :: (q17, .inl (g.2 1, 3, .inr (.inr (.inr (.inr (fl 4 AC 3)))))) :: (q34, .inl (g.2 2, 40, .inr (.inr (.inr (.inr (fl 3 AF 40)))))) :: (q51, .inl (g.2 3, 6, .inr (.inr (.inr (.inr (fl 2 AR 6)))))) :: (q100, .inl (g.2 4, 4, .inr (.inr (.inr (.inr (fl 2 AS 4)))))) :: (q43, .inl (g.2 0, 48, .inl (fun k => if k < 48 then -9 else (fun _ => 0 : Nat → Int32) k))) :: (bk (bS g) AS (bk (bR g) AR (bk (bF g) AF (bk (bC g) AC [(q150, .inl (g.2 0, 8, .inl (fun _ => 0))), (q137, .inr (7, [.ref q7_141, .int 0])), (q7_141, .inl (g.2 0, 8, .inl (fun _ => 0))), (q126, .inr (7, [.ref q7_130, .int 0])), (q7_130, .inl (g.2 0, 8, .inl (fun _ => 0))), (q115, .inr (7, [.ref q7_119, .int 0])), (q7_119, .inl (g.2 0, 8, .inl (fun _ => 0))), (q109, .inl (g.2 0, 60, .inl (fun _ => 0))), (q88, .inr (0, [.ref q6_92, .int 0, .int 0])), (q6_92, .inl (g.2 0, 5, .inl (fun _ => 0))), (q73, .inr (6, [.ref q7_81, .ref q5, .int 6, .int 3])), (q7_81, .inl (g.2 0, 81, .inl (fun _ => 0))), (q58, .inr (4, [.ref q7_66, .ref q14_66, .ref q25_66, .ref q5, .int 0])), (q7_66, .inl (g.2 5, 9, .inr (.inr (.inr (.inr (fl 1 AL 9)))))), (AL 8, .inr (3, [.int 0, .int 29, .int (-2), .int 29, .int 29])), (AL 7, .inr (3, [.int 0, .int 29, .int (-2), .int 29, .int 29])), (AL 6, .inr (3, [.int 0, .int 29, .int (-2), .int 29, .int 29])), (AL 5, .inr (3, [.int 0, .int 29, .int (-2), .int 29, .int 29])), (AL 4, .inr (3, [.int 0, .int 29, .int (-2), .int 29, .int 29])), (AL 3, .inr (3, [.int 0, .int 29, .int (-2), .int 29, .int 29])), (AL 2, .inr (3, [.int 0, .int 29, .int (-2), .int 29, .int 29])), (AL 1, .inr (3, [.int 0, .int 29, .int (-2), .int 29, .int 29])), (AL 0, .inr (3, [.int 0, .int 29, .int (-2), .int 29, .int 29])), (q25_66, .inr (7, [.ref q7_29_66, .int 0])), (q7_29_66, .inl (g.2 0, 8, .inl (fun _ => 0))), (q14_66, .inr (5, [.ref q7_18_66, .int 0, .int 0])), (q7_18_66, .inl (g.2 0, 60, .inl (fun _ => 0))), (q26, .inl (g.2 0, 8, .inl (fun _ => 0))), (q5, .inr (9, [.ref q7_9, .ref q15_9])), (q15_9, .inl (g.2 0, 16, .inl (fun _ => 0))), (q7_9, .inl (g.2 0, 16, .inl (fun _ => 0)))] 3) 40) 6) 4))) mX10_init 208 [.ref q, .int (nI l)] [] ((q, .inr (10, [.ref q5, .ref q17, .ref q26, .ref q34, .ref q43, .ref q51, .ref q58, .ref q73, .ref q88, .ref q100, .ref q109, .ref q115, .ref q126, .ref q137, .ref q150, .int 0, .int 0, .int 0, .int 0, .int 0])) :: (q17, .inl (g.2 1, 3, .inr (.inr (.inr (.inr (fl 4 AC 3)))))) :: (q34, .inl (g.2 2, 40, .inr (.inr (.inr (.inr (fl 3 A l)))))) :: (q51, .inl (g.2 3, 6, .inr (.inr (.inr (.inr (fun _ => none)))))) :: (q100, .inl (g.2 4, 4, .inr (.inr (.inr (.inr (fun _ => none)))))) :: (q43, .inl (g.2 0, 48, .inl (fun _ => 0))) :: (bk (bF g) A (bk (bC g) AC W0 3) l)) (48 + 3 * l) (628 + 14 * l) := by
    intro m
    induction m with
    | zero =>
      intro l AC A h1
      have hl : l = 40 := by omega
      subst hl
      refine V_iload_n dX10_init_208 rfl ?_
      refine V_bipush 40 dX10_init_209 (by decide) ?_
      refine V_icmp_ge 233 dX10_init_211 (by decide) (fun _ => ?_) (fun q => absurd (by decide) q)
      refine V_iconst 0 dX10_init_233 (by decide) ?_
      refine V_istore_n dX10_init_234 (by decide) ?_
      have h0 := key2 6 0 AC A (fun _ => 0) rfl
      rw [fl_0] at h0
      exact h0
    | succ m ih =>
      intro l AC A h1
      refine V_iload_n dX10_init_208 rfl ?_
      refine V_bipush 40 dX10_init_209 (by decide) ?_
      refine V_icmp_ge 233 dX10_init_211 (by decide) (fun q => ?_) (fun _ => ?_)
      · exact absurd q (nI_ge (b := 40) (by omega) (by omega))
      · refine V_aload_n dX10_init_214 rfl ?_
        refine V_get fl_X10_30 dX10_init_215 0 rfl rfl ?_
        refine V_iload_n dX10_init_218 rfl ?_
        refine V_new (ci := 2) tyX2 [.null, .int 0, .int 0, .int 0] Xc_B dX10_init_219 rfl inX2 tyX2_ok cl_X10_28 ib_X2 iz_X2 (by decide) (by show 48 + 3 * l + 1 ≤ 188; omega) (by show 628 + 14 * l + 4 ≤ 1504; omega) (fun u0 => ?_)
        refine V_dup dX10_init_222 rfl ?_
        refine V_callI (d := 2) (mc := 2) (ms := 10) mi_X2_init lk_X10_106 dX10_init_223 i_X2 Xc_B rfl rfl (Nat.le_of_ble_eq_true rfl) (Nat.le_of_ble_eq_true rfl) (Nat.le_of_ble_eq_true rfl) (by show 48 + 3 * l + 1 + 2 ≤ 188; omega) (by show 628 + 14 * l + 4 + 10 ≤ 1504; omega) (fun v ws' hv => ?_)
        obtain ⟨rfl, u1, u2, rfl⟩ := hv
        refine V_aast (t0 := 2) (ci := 2) dX10_init_226 5 0 rfl rfl rfl rfl (vp_in_nI (by omega) (by omega)) ?_
        refine V_iincC 1 dX10_init_227 (by decide) rfl (by decide) ?_
        refine V_goto 208 dX10_init_230 (by decide) ?_
        rw [nI_clamp (by omega), fl_up (qs := [u1, u2]) (by decide)]
        refine V_blk [_, _, _] [_, _, _, _, _, _] ?_
        have h5 := ih (l + 1) AC (upA A (3 * l) [u0, u1, u2]) (by omega)
        rw [bk, bk_congr l (fun j hj => bF_lt hj), bF_at, nI_succ] at h5
        exact V_nn (by omega) (by omega) h5
  have key0 : ∀ (m l : Nat) (A : Nat → Nat), l + m = 3 → V (CQc g B 3 188 1504 (fun v ws' => v = none ∧ ∃ (q5 q7_9 q15_9 q17 q26 q34 q43 q51 q58 q7_66 q14_66 q7_18_66 q25_66 q7_29_66 q73 q7_81 q88 q6_92 q100 q109 q115 q7_119 q126 q7_130 q137 q7_141 q150 : Nat) (AL AC AF AR AS : Nat → Nat), ws' = (q, .inr (10, [.ref q5, .ref q17, .ref q26, .ref q34, .ref q43, .ref q51, .ref q58, .ref q73, .ref q88, .ref q100, .ref q109, .ref q115, .ref q126, .ref q137, .ref q150, .int 0, .int 0, .int 0, .int 0, .int 0])) :: (q17, .inl (g.2 1, 3, .inr (.inr (.inr (.inr (fl 4 AC 3)))))) :: (q34, .inl (g.2 2, 40, .inr (.inr (.inr (.inr (fl 3 AF 40)))))) :: (q51, .inl (g.2 3, 6, .inr (.inr (.inr (.inr (fl 2 AR 6)))))) :: (q100, .inl (g.2 4, 4, .inr (.inr (.inr (.inr (fl 2 AS 4)))))) :: (q43, .inl (g.2 0, 48, .inl (fun k => if k < 48 then -9 else (fun _ => 0 : Nat → Int32) k))) :: (bk (bS g) AS (bk (bR g) AR (bk (bF g) AF (bk (bC g) AC [(q150, .inl (g.2 0, 8, .inl (fun _ => 0))), (q137, .inr (7, [.ref q7_141, .int 0])), (q7_141, .inl (g.2 0, 8, .inl (fun _ => 0))), (q126, .inr (7, [.ref q7_130, .int 0])), (q7_130, .inl (g.2 0, 8, .inl (fun _ => 0))), (q115, .inr (7, [.ref q7_119, .int 0])), (q7_119, .inl (g.2 0, 8, .inl (fun _ => 0))), (q109, .inl (g.2 0, 60, .inl (fun _ => 0))), (q88, .inr (0, [.ref q6_92, .int 0, .int 0])), (q6_92, .inl (g.2 0, 5, .inl (fun _ => 0))), (q73, .inr (6, [.ref q7_81, .ref q5, .int 6, .int 3])), (q7_81, .inl (g.2 0, 81, .inl (fun _ => 0))), (q58, .inr (4, [.ref q7_66, .ref q14_66, .ref q25_66, .ref q5, .int 0])), (q7_66, .inl (g.2 5, 9, .inr (.inr (.inr (.inr (fl 1 AL 9)))))), (AL 8, .inr (3, [.int 0, .int 29, .int (-2), .int 29, .int 29])), (AL 7, .inr (3, [.int 0, .int 29, .int (-2), .int 29, .int 29])), (AL 6, .inr (3, [.int 0, .int 29, .int (-2), .int 29, .int 29])), (AL 5, .inr (3, [.int 0, .int 29, .int (-2), .int 29, .int 29])), (AL 4, .inr (3, [.int 0, .int 29, .int (-2), .int 29, .int 29])), (AL 3, .inr (3, [.int 0, .int 29, .int (-2), .int 29, .int 29])), (AL 2, .inr (3, [.int 0, .int 29, .int (-2), .int 29, .int 29])), (AL 1, .inr (3, [.int 0, .int 29, .int (-2), .int 29, .int 29])), (AL 0, .inr (3, [.int 0, .int 29, .int (-2), .int 29, .int 29])), (q25_66, .inr (7, [.ref q7_29_66, .int 0])), (q7_29_66, .inl (g.2 0, 8, .inl (fun _ => 0))), (q14_66, .inr (5, [.ref q7_18_66, .int 0, .int 0])), (q7_18_66, .inl (g.2 0, 60, .inl (fun _ => 0))), (q26, .inl (g.2 0, 8, .inl (fun _ => 0))), (q5, .inr (9, [.ref q7_9, .ref q15_9])), (q15_9, .inl (g.2 0, 16, .inl (fun _ => 0))), (q7_9, .inl (g.2 0, 16, .inl (fun _ => 0)))] 3) 40) 6) 4))) mX10_init 182 [.ref q, .int (nI l)] [] ((q, .inr (10, [.ref q5, .ref q17, .ref q26, .ref q34, .ref q43, .ref q51, .ref q58, .ref q73, .ref q88, .ref q100, .ref q109, .ref q115, .ref q126, .ref q137, .ref q150, .int 0, .int 0, .int 0, .int 0, .int 0])) :: (q17, .inl (g.2 1, 3, .inr (.inr (.inr (.inr (fl 4 A l)))))) :: (q34, .inl (g.2 2, 40, .inr (.inr (.inr (.inr (fun _ => none)))))) :: (q51, .inl (g.2 3, 6, .inr (.inr (.inr (.inr (fun _ => none)))))) :: (q100, .inl (g.2 4, 4, .inr (.inr (.inr (.inr (fun _ => none)))))) :: (q43, .inl (g.2 0, 48, .inl (fun _ => 0))) :: (bk (bC g) A W0 l)) (36 + 4 * l) (466 + 54 * l) := by
    intro m
    induction m with
    | zero =>
      intro l A h1
      have hl : l = 3 := by omega
      subst hl
      refine V_iload_n dX10_init_182 rfl ?_
      refine V_iconst 3 dX10_init_183 (by decide) ?_
      refine V_icmp_ge 206 dX10_init_184 (by decide) (fun _ => ?_) (fun q => absurd (by decide) q)
      refine V_iconst 0 dX10_init_206 (by decide) ?_
      refine V_istore_n dX10_init_207 (by decide) ?_
      have h0 := key1 40 0 A (fun _ => 0) rfl
      rw [fl_0] at h0
      exact h0
    | succ m ih =>
      intro l A h1
      refine V_iload_n dX10_init_182 rfl ?_
      refine V_iconst 3 dX10_init_183 (by decide) ?_
      refine V_icmp_ge 206 dX10_init_184 (by decide) (fun q => ?_) (fun _ => ?_)
      · exact absurd q (nI_ge (b := 3) (by omega) (by omega))
      · refine V_aload_n dX10_init_187 rfl ?_
        refine V_get fl_X10_20 dX10_init_188 0 rfl rfl ?_
        refine V_iload_n dX10_init_191 rfl ?_
        refine V_new (ci := 1) tyX1 [.null, .null, .null, .int 0] Xc_B dX10_init_192 rfl inX1 tyX1_ok cl_X10_18 ib_X1 iz_X1 (by decide) (by show 36 + 4 * l + 1 ≤ 188; omega) (by show 466 + 54 * l + 4 ≤ 1504; omega) (fun u0 => ?_)
        refine V_dup dX10_init_195 rfl ?_
        refine V_callI (d := 1) (mc := 3) (ms := 50) mi_X1_init lk_X10_105 dX10_init_196 i_X1 Xc_B rfl rfl (Nat.le_of_ble_eq_true rfl) (Nat.le_of_ble_eq_true rfl) (Nat.le_of_ble_eq_true rfl) (by show 36 + 4 * l + 1 + 3 ≤ 188; omega) (by show 466 + 54 * l + 4 + 50 ≤ 1504; omega) (fun v ws' hv => ?_)
        obtain ⟨rfl, u3, u2, u1, rfl⟩ := hv
        refine V_aast (t0 := 1) (ci := 1) dX10_init_199 5 0 rfl rfl rfl rfl (vp_in_nI (by omega) (by omega)) ?_
        refine V_iincC 1 dX10_init_200 (by decide) rfl (by decide) ?_
        refine V_goto 182 dX10_init_203 (by decide) ?_
        rw [nI_clamp (by omega), fl_up (qs := [u1, u2, u3]) (by decide)]
        refine V_blk [_, _, _, _] [_, _, _, _, _, _] ?_
        have h5 := ih (l + 1) (upA A (4 * l) [u0, u1, u2, u3]) (by omega)
        rw [bk, bk_congr l (fun j hj => bC_lt hj), bC_at, nI_succ] at h5
        exact V_nn (by omega) (by omega) h5
  have h0 := key0 3 0 (fun _ => 0) rfl
  rw [fl_0] at h0
  exact h0
