theorem ff_X0_9 : FF RX0 9 0 0 (.array .int) := ⟨TX0, 3, tyX0, rfl, by decide, inX0, tyX0_ok, nmX0, rfl, rfl, rfl, (gd_in1 166 (by decide +kernel) rfl)⟩
theorem ff_X1_9 : FF RX1 9 1 0 (.array .int) := ⟨TX1, 4, tyX1, rfl, by decide, inX1, tyX1_ok, nmX1, rfl, rfl, rfl, (gd_in1 185 (by decide +kernel) rfl)⟩
theorem ff_X1_15 : FF RX1 15 1 1 (.array .int) := ⟨TX1, 4, tyX1, rfl, by decide, inX1, tyX1_ok, nmX1, rfl, rfl, rfl, (gd_in1 186 (by decide +kernel) rfl)⟩
theorem ff_X1_18 : FF RX1 18 1 2 (.array .int) := ⟨TX1, 4, tyX1, rfl, by decide, inX1, tyX1_ok, nmX1, rfl, rfl, rfl, (gd_in1 187 (by decide +kernel) rfl)⟩
theorem ff_X10_12 : FF RX10 12 10 0 (.object "DialectForms$Sounds") := ⟨TX10, 20, tyX10, rfl, by decide, inX10, tyX10_ok, nmX10, rfl, rfl, rfl, (gd_in2 6 (by decide +kernel) rfl)⟩
theorem ff_X10_20 : FF RX10 20 10 1 (.array (.object "DialectForms$Collector")) := ⟨TX10, 20, tyX10, rfl, by decide, inX10, tyX10_ok, nmX10, rfl, rfl, rfl, (gd_in2 7 (by decide +kernel) rfl)⟩
theorem ff_X10_24 : FF RX10 24 10 2 (.array .int) := ⟨TX10, 20, tyX10, rfl, by decide, inX10, tyX10_ok, nmX10, rfl, rfl, rfl, (gd_in2 8 (by decide +kernel) rfl)⟩
theorem ff_X10_30 : FF RX10 30 10 3 (.array (.object "DialectForms$Form")) := ⟨TX10, 20, tyX10, rfl, by decide, inX10, tyX10_ok, nmX10, rfl, rfl, rfl, (gd_in2 9 (by decide +kernel) rfl)⟩
theorem ff_X10_34 : FF RX10 34 10 4 (.array .int) := ⟨TX10, 20, tyX10, rfl, by decide, inX10, tyX10_ok, nmX10, rfl, rfl, rfl, (gd_in2 10 (by decide +kernel) rfl)⟩
theorem ff_X10_39 : FF RX10 39 10 5 (.array (.object "DialectForms$Row")) := ⟨TX10, 20, tyX10, rfl, by decide, inX10, tyX10_ok, nmX10, rfl, rfl, rfl, (gd_in2 11 (by decide +kernel) rfl)⟩
theorem ff_X10_48 : FF RX10 48 10 6 (.object "DialectForms$LawBook") := ⟨TX10, 20, tyX10, rfl, by decide, inX10, tyX10_ok, nmX10, rfl, rfl, rfl, (gd_in2 12 (by decide +kernel) rfl)⟩
theorem ff_X10_55 : FF RX10 55 10 7 (.object "DialectForms$Laying") := ⟨TX10, 20, tyX10, rfl, by decide, inX10, tyX10_ok, nmX10, rfl, rfl, rfl, (gd_in2 13 (by decide +kernel) rfl)⟩
theorem ff_X10_62 : FF RX10 62 10 8 (.object "DialectForms$Candidates") := ⟨TX10, 20, tyX10, rfl, by decide, inX10, tyX10_ok, nmX10, rfl, rfl, rfl, (gd_in2 14 (by decide +kernel) rfl)⟩
theorem ff_X10_68 : FF RX10 68 10 9 (.array (.object "DialectForms$Sheet")) := ⟨TX10, 20, tyX10, rfl, by decide, inX10, tyX10_ok, nmX10, rfl, rfl, rfl, (gd_in2 15 (by decide +kernel) rfl)⟩
theorem ff_X10_72 : FF RX10 72 10 10 (.array .int) := ⟨TX10, 20, tyX10, rfl, by decide, inX10, tyX10_ok, nmX10, rfl, rfl, rfl, (gd_in2 16 (by decide +kernel) rfl)⟩
theorem ff_X10_76 : FF RX10 76 10 11 (.object "DialectForms$Row") := ⟨TX10, 20, tyX10, rfl, by decide, inX10, tyX10_ok, nmX10, rfl, rfl, rfl, (gd_in2 17 (by decide +kernel) rfl)⟩
theorem ff_X10_80 : FF RX10 80 10 12 (.object "DialectForms$Row") := ⟨TX10, 20, tyX10, rfl, by decide, inX10, tyX10_ok, nmX10, rfl, rfl, rfl, (gd_in2 18 (by decide +kernel) rfl)⟩
theorem ff_X10_83 : FF RX10 83 10 13 (.object "DialectForms$Row") := ⟨TX10, 20, tyX10, rfl, by decide, inX10, tyX10_ok, nmX10, rfl, rfl, rfl, (gd_in2 19 (by decide +kernel) rfl)⟩
theorem ff_X10_86 : FF RX10 86 10 14 (.array .int) := ⟨TX10, 20, tyX10, rfl, by decide, inX10, tyX10_ok, nmX10, rfl, rfl, rfl, (gd_in2 20 (by decide +kernel) rfl)⟩
theorem ff_X11_9 : FF RX11 9 11 2 (.array .int) := ⟨TX11, 46, tyX11, rfl, by decide, inX11, tyX11_ok, nmX11, rfl, rfl, rfl, (gd_in4 70 (by decide +kernel) rfl)⟩
theorem ff_X11_13 : FF RX11 13 11 3 (.array .int) := ⟨TX11, 46, tyX11, rfl, by decide, inX11, tyX11_ok, nmX11, rfl, rfl, rfl, (gd_in4 71 (by decide +kernel) rfl)⟩
theorem ff_X11_16 : FF RX11 16 11 4 (.array .int) := ⟨TX11, 46, tyX11, rfl, by decide, inX11, tyX11_ok, nmX11, rfl, rfl, rfl, (gd_in4 72 (by decide +kernel) rfl)⟩
theorem ff_X11_19 : FF RX11 19 11 5 (.array .int) := ⟨TX11, 46, tyX11, rfl, by decide, inX11, tyX11_ok, nmX11, rfl, rfl, rfl, (gd_in4 73 (by decide +kernel) rfl)⟩
theorem ff_X11_22 : FF RX11 22 11 6 (.array .int) := ⟨TX11, 46, tyX11, rfl, by decide, inX11, tyX11_ok, nmX11, rfl, rfl, rfl, (gd_in4 74 (by decide +kernel) rfl)⟩
theorem ff_X11_25 : FF RX11 25 11 7 (.array .int) := ⟨TX11, 46, tyX11, rfl, by decide, inX11, tyX11_ok, nmX11, rfl, rfl, rfl, (gd_in4 75 (by decide +kernel) rfl)⟩
theorem ff_X11_28 : FF RX11 28 11 8 (.array .int) := ⟨TX11, 46, tyX11, rfl, by decide, inX11, tyX11_ok, nmX11, rfl, rfl, rfl, (gd_in4 76 (by decide +kernel) rfl)⟩
theorem ff_X11_31 : FF RX11 31 11 9 (.array .int) := ⟨TX11, 46, tyX11, rfl, by decide, inX11, tyX11_ok, nmX11, rfl, rfl, rfl, (gd_in4 77 (by decide +kernel) rfl)⟩
theorem ff_X11_34 : FF RX11 34 11 10 (.array .int) := ⟨TX11, 46, tyX11, rfl, by decide, inX11, tyX11_ok, nmX11, rfl, rfl, rfl, (gd_in4 78 (by decide +kernel) rfl)⟩
theorem ff_X11_37 : FF RX11 37 11 12 (.array .int) := ⟨TX11, 46, tyX11, rfl, by decide, inX11, tyX11_ok, nmX11, rfl, rfl, rfl, (gd_in4 80 (by decide +kernel) rfl)⟩
theorem ff_X11_40 : FF RX11 40 11 14 (.array .int) := ⟨TX11, 46, tyX11, rfl, by decide, inX11, tyX11_ok, nmX11, rfl, rfl, rfl, (gd_in4 82 (by decide +kernel) rfl)⟩
theorem ff_X11_43 : FF RX11 43 11 15 (.array .int) := ⟨TX11, 46, tyX11, rfl, by decide, inX11, tyX11_ok, nmX11, rfl, rfl, rfl, (gd_in4 83 (by decide +kernel) rfl)⟩
theorem ff_X11_46 : FF RX11 46 11 16 (.array .int) := ⟨TX11, 46, tyX11, rfl, by decide, inX11, tyX11_ok, nmX11, rfl, rfl, rfl, (gd_in4 84 (by decide +kernel) rfl)⟩
theorem ff_X11_49 : FF RX11 49 11 17 (.array .int) := ⟨TX11, 46, tyX11, rfl, by decide, inX11, tyX11_ok, nmX11, rfl, rfl, rfl, (gd_in4 85 (by decide +kernel) rfl)⟩
theorem ff_X11_52 : FF RX11 52 11 18 (.array .int) := ⟨TX11, 46, tyX11, rfl, by decide, inX11, tyX11_ok, nmX11, rfl, rfl, rfl, (gd_in4 86 (by decide +kernel) rfl)⟩
theorem ff_X11_55 : FF RX11 55 11 19 (.array .int) := ⟨TX11, 46, tyX11, rfl, by decide, inX11, tyX11_ok, nmX11, rfl, rfl, rfl, (gd_in4 87 (by decide +kernel) rfl)⟩
theorem ff_X11_58 : FF RX11 58 11 20 (.array .int) := ⟨TX11, 46, tyX11, rfl, by decide, inX11, tyX11_ok, nmX11, rfl, rfl, rfl, (gd_in4 88 (by decide +kernel) rfl)⟩
theorem ff_X11_61 : FF RX11 61 11 21 (.array .int) := ⟨TX11, 46, tyX11, rfl, by decide, inX11, tyX11_ok, nmX11, rfl, rfl, rfl, (gd_in4 89 (by decide +kernel) rfl)⟩
theorem ff_X11_64 : FF RX11 64 11 23 (.array .int) := ⟨TX11, 46, tyX11, rfl, by decide, inX11, tyX11_ok, nmX11, rfl, rfl, rfl, (gd_in4 91 (by decide +kernel) rfl)⟩
theorem ff_X11_67 : FF RX11 67 11 24 (.array .int) := ⟨TX11, 46, tyX11, rfl, by decide, inX11, tyX11_ok, nmX11, rfl, rfl, rfl, (gd_in4 92 (by decide +kernel) rfl)⟩
theorem ff_X11_70 : FF RX11 70 11 25 (.array .int) := ⟨TX11, 46, tyX11, rfl, by decide, inX11, tyX11_ok, nmX11, rfl, rfl, rfl, (gd_in4 93 (by decide +kernel) rfl)⟩
theorem ff_X11_73 : FF RX11 73 11 26 (.array .int) := ⟨TX11, 46, tyX11, rfl, by decide, inX11, tyX11_ok, nmX11, rfl, rfl, rfl, (gd_in4 94 (by decide +kernel) rfl)⟩
theorem ff_X11_76 : FF RX11 76 11 27 (.array .int) := ⟨TX11, 46, tyX11, rfl, by decide, inX11, tyX11_ok, nmX11, rfl, rfl, rfl, (gd_in4 95 (by decide +kernel) rfl)⟩
theorem ff_X11_79 : FF RX11 79 11 30 (.array .int) := ⟨TX11, 46, tyX11, rfl, by decide, inX11, tyX11_ok, nmX11, rfl, rfl, rfl, (gd_in4 98 (by decide +kernel) rfl)⟩
theorem ff_X11_82 : FF RX11 82 11 31 (.array .int) := ⟨TX11, 46, tyX11, rfl, by decide, inX11, tyX11_ok, nmX11, rfl, rfl, rfl, (gd_in4 99 (by decide +kernel) rfl)⟩
theorem ff_X11_85 : FF RX11 85 11 33 (.array .int) := ⟨TX11, 46, tyX11, rfl, by decide, inX11, tyX11_ok, nmX11, rfl, rfl, rfl, (gd_in4 101 (by decide +kernel) rfl)⟩
theorem ff_X11_92 : FF RX11 92 11 35 (.array .int) := ⟨TX11, 46, tyX11, rfl, by decide, inX11, tyX11_ok, nmX11, rfl, rfl, rfl, (gd_in4 103 (by decide +kernel) rfl)⟩
theorem ff_X11_95 : FF RX11 95 11 36 (.array .int) := ⟨TX11, 46, tyX11, rfl, by decide, inX11, tyX11_ok, nmX11, rfl, rfl, rfl, (gd_in4 104 (by decide +kernel) rfl)⟩
theorem ff_X11_98 : FF RX11 98 11 37 (.array .int) := ⟨TX11, 46, tyX11, rfl, by decide, inX11, tyX11_ok, nmX11, rfl, rfl, rfl, (gd_in4 105 (by decide +kernel) rfl)⟩
theorem ff_X11_101 : FF RX11 101 11 38 (.array .int) := ⟨TX11, 46, tyX11, rfl, by decide, inX11, tyX11_ok, nmX11, rfl, rfl, rfl, (gd_in4 106 (by decide +kernel) rfl)⟩
theorem ff_X11_104 : FF RX11 104 11 40 (.array .int) := ⟨TX11, 46, tyX11, rfl, by decide, inX11, tyX11_ok, nmX11, rfl, rfl, rfl, (gd_in4 108 (by decide +kernel) rfl)⟩
theorem ff_X11_107 : FF RX11 107 11 42 (.array .int) := ⟨TX11, 46, tyX11, rfl, by decide, inX11, tyX11_ok, nmX11, rfl, rfl, rfl, (gd_in4 110 (by decide +kernel) rfl)⟩
theorem ff_X11_110 : FF RX11 110 11 43 (.array .int) := ⟨TX11, 46, tyX11, rfl, by decide, inX11, tyX11_ok, nmX11, rfl, rfl, rfl, (gd_in4 111 (by decide +kernel) rfl)⟩
theorem ff_X11_116 : FF RX11 116 11 45 (.array .int) := ⟨TX11, 46, tyX11, rfl, by decide, inX11, tyX11_ok, nmX11, rfl, rfl, rfl, (gd_in4 113 (by decide +kernel) rfl)⟩
theorem ff_X2_12 : FF RX2 12 2 0 (.object "DialectForms$Row") := ⟨TX2, 4, tyX2, rfl, by decide, inX2, tyX2_ok, nmX2, rfl, rfl, rfl, (gd_in1 205 (by decide +kernel) rfl)⟩
theorem ff_X4_11 : FF RX4 11 4 0 (.array (.object "DialectForms$Law")) := ⟨TX4, 5, tyX4, rfl, by decide, inX4, tyX4_ok, nmX4, rfl, rfl, rfl, (gd_in1 121 (by decide +kernel) rfl)⟩
theorem ff_X4_20 : FF RX4 20 4 1 (.object "DialectForms$LawText") := ⟨TX4, 5, tyX4, rfl, by decide, inX4, tyX4_ok, nmX4, rfl, rfl, rfl, (gd_in1 123 (by decide +kernel) rfl)⟩
theorem ff_X4_27 : FF RX4 27 4 2 (.object "DialectForms$Row") := ⟨TX4, 5, tyX4, rfl, by decide, inX4, tyX4_ok, nmX4, rfl, rfl, rfl, (gd_in1 124 (by decide +kernel) rfl)⟩
theorem ff_X4_35 : FF RX4 35 4 3 (.object "DialectForms$Sounds") := ⟨TX4, 5, tyX4, rfl, by decide, inX4, tyX4_ok, nmX4, rfl, rfl, rfl, (gd_in1 125 (by decide +kernel) rfl)⟩
theorem ff_X5_9 : FF RX5 9 5 0 (.array .int) := ⟨TX5, 3, tyX5, rfl, by decide, inX5, tyX5_ok, nmX5, rfl, rfl, rfl, (gd_in1 61 (by decide +kernel) rfl)⟩
theorem ff_X6_11 : FF RX6 11 6 0 (.array .int) := ⟨TX6, 4, tyX6, rfl, by decide, inX6, tyX6_ok, nmX6, rfl, rfl, rfl, (gd_in1 145 (by decide +kernel) rfl)⟩
theorem ff_X6_22 : FF RX6 22 6 1 (.object "DialectForms$Sounds") := ⟨TX6, 4, tyX6, rfl, by decide, inX6, tyX6_ok, nmX6, rfl, rfl, rfl, (gd_in1 146 (by decide +kernel) rfl)⟩
theorem ff_X7_9 : FF RX7 9 7 0 (.array .int) := ⟨TX7, 2, tyX7, rfl, by decide, inX7, tyX7_ok, nmX7, rfl, rfl, rfl, (gd_in1 77 (by decide +kernel) rfl)⟩
theorem ff_X8_9 : FF RX8 9 8 0 (.array .int) := ⟨TX8, 4, tyX8, rfl, by decide, inX8, tyX8_ok, nmX8, rfl, rfl, rfl, (gd_in1 227 (by decide +kernel) rfl)⟩
theorem ff_X9_9 : FF RX9 9 9 0 (.array .int) := ⟨TX9, 2, tyX9, rfl, by decide, inX9, tyX9_ok, nmX9, rfl, rfl, rfl, (gd_in1 31 (by decide +kernel) rfl)⟩
theorem ff_X9_15 : FF RX9 15 9 1 (.array .int) := ⟨TX9, 2, tyX9, rfl, by decide, inX9, tyX9_ok, nmX9, rfl, rfl, rfl, (gd_in1 33 (by decide +kernel) rfl)⟩
set_option maxHeartbeats 1000000 in
set_option maxRecDepth 20000 in
theorem i_X7 {g : Gm} {B q : Nat} {ws : va_W} : CT g B 1 1 8 mX7_init [.ref q] ((q, .inr (7, [.null, .int 0])) :: ws) (fun v ws' => v = none ∧ ∃ q7 : Nat, ws' = (q, .inr (7, [.ref q7, .int 0])) :: (q7, .inl (g.2 0, 8, .inl (fun _ => 0))) :: ws) := by
  refine CT.ofVc (by decide) rfl rfl (Nat.le_of_ble_eq_true rfl) ?_
  refine V_aload_n dX7_init_0 rfl ?_
  refine V_objI lk_X7_3 dX7_init_1 (Nat.le_of_ble_eq_true rfl) (Nat.le_of_ble_eq_true rfl) ?_
  refine V_aload_n dX7_init_4 rfl ?_
  refine V_bipush 8 dX7_init_5 (by decide) ?_
  refine V_newaI 8 Xc_B dX7_init_7 (by decide) (by decide) (by decide) (Nat.le_of_ble_eq_true rfl) (Nat.le_of_ble_eq_true rfl) (fun q7 => ?_)
  refine V_r1 ?_
  refine V_putF0 [.ref q7, .int 0] Xc_X ff_X7_9 dX7_init_9 rfl rfl (Nat.le_of_ble_eq_true rfl) rfl ?_
  refine V_aload_n dX7_init_12 rfl ?_
  refine V_iconst 0 dX7_init_13 (by decide) ?_
  refine V_put0 [.ref q7, .int 0] fp_X7_15 dX7_init_14 rfl rfl (Nat.le_of_ble_eq_true rfl) rfl ?_
  exact V_vretc dX7_init_17 rfl ⟨rfl, q7, rfl⟩
set_option maxHeartbeats 1000000 in
set_option maxRecDepth 20000 in
theorem i_X9 {g : Gm} {B q : Nat} {ws : va_W} : CT g B 1 2 32 mX9_init [.ref q] ((q, .inr (9, [.null, .null])) :: ws) (fun v ws' => v = none ∧ ∃ q7 q15 : Nat, ws' = (q, .inr (9, [.ref q7, .ref q15])) :: (q15, .inl (g.2 0, 16, .inl (fun _ => 0))) :: (q7, .inl (g.2 0, 16, .inl (fun _ => 0))) :: ws) := by
  refine CT.ofVc (by decide) rfl rfl (Nat.le_of_ble_eq_true rfl) ?_
  refine V_aload_n dX9_init_0 rfl ?_
  refine V_objI lk_X9_3 dX9_init_1 (Nat.le_of_ble_eq_true rfl) (Nat.le_of_ble_eq_true rfl) ?_
  refine V_aload_n dX9_init_4 rfl ?_
  refine V_bipush 16 dX9_init_5 (by decide) ?_
  refine V_newaI 16 Xc_B dX9_init_7 (by decide) (by decide) (by decide) (Nat.le_of_ble_eq_true rfl) (Nat.le_of_ble_eq_true rfl) (fun q7 => ?_)
  refine V_r1 ?_
  refine V_putF0 [.ref q7, .null] Xc_X ff_X9_9 dX9_init_9 rfl rfl (Nat.le_of_ble_eq_true rfl) rfl ?_
  refine V_aload_n dX9_init_12 rfl ?_
  refine V_bipush 16 dX9_init_13 (by decide) ?_
  refine V_newaI 16 Xc_B dX9_init_15 (by decide) (by decide) (by decide) (Nat.le_of_ble_eq_true rfl) (Nat.le_of_ble_eq_true rfl) (fun q15 => ?_)
  refine V_r1 ?_
  refine V_putF0 [.ref q7, .ref q15] Xc_X ff_X9_15 dX9_init_17 rfl rfl (Nat.le_of_ble_eq_true rfl) rfl ?_
  exact V_vretc dX9_init_20 rfl ⟨rfl, q7, q15, rfl⟩
set_option maxHeartbeats 1000000 in
set_option maxRecDepth 20000 in
theorem i_X1 {g : Gm} {B q : Nat} {ws : va_W} : CT g B 1 3 50 mX1_init [.ref q] ((q, .inr (1, [.null, .null, .null, .int 0])) :: ws) (fun v ws' => v = none ∧ ∃ q7 q15 q23 : Nat, ws' = (q, .inr (1, [.ref q7, .ref q15, .ref q23, .int 0])) :: (q23, .inl (g.2 0, 10, .inl (fun _ => 0))) :: (q15, .inl (g.2 0, 10, .inl (fun _ => 0))) :: (q7, .inl (g.2 0, 30, .inl (fun _ => 0))) :: ws) := by
  refine CT.ofVc (by decide) rfl rfl (Nat.le_of_ble_eq_true rfl) ?_
  refine V_aload_n dX1_init_0 rfl ?_
  refine V_objI lk_X1_3 dX1_init_1 (Nat.le_of_ble_eq_true rfl) (Nat.le_of_ble_eq_true rfl) ?_
  refine V_aload_n dX1_init_4 rfl ?_
  refine V_bipush 30 dX1_init_5 (by decide) ?_
  refine V_newaI 30 Xc_B dX1_init_7 (by decide) (by decide) (by decide) (Nat.le_of_ble_eq_true rfl) (Nat.le_of_ble_eq_true rfl) (fun q7 => ?_)
  refine V_r1 ?_
  refine V_putF0 [.ref q7, .null, .null, .int 0] Xc_X ff_X1_9 dX1_init_9 rfl rfl (Nat.le_of_ble_eq_true rfl) rfl ?_
  refine V_aload_n dX1_init_12 rfl ?_
  refine V_bipush 10 dX1_init_13 (by decide) ?_
  refine V_newaI 10 Xc_B dX1_init_15 (by decide) (by decide) (by decide) (Nat.le_of_ble_eq_true rfl) (Nat.le_of_ble_eq_true rfl) (fun q15 => ?_)
  refine V_r1 ?_
  refine V_putF0 [.ref q7, .ref q15, .null, .int 0] Xc_X ff_X1_15 dX1_init_17 rfl rfl (Nat.le_of_ble_eq_true rfl) rfl ?_
  refine V_aload_n dX1_init_20 rfl ?_
  refine V_bipush 10 dX1_init_21 (by decide) ?_
  refine V_newaI 10 Xc_B dX1_init_23 (by decide) (by decide) (by decide) (Nat.le_of_ble_eq_true rfl) (Nat.le_of_ble_eq_true rfl) (fun q23 => ?_)
  refine V_r1 ?_
  refine V_putF0 [.ref q7, .ref q15, .ref q23, .int 0] Xc_X ff_X1_18 dX1_init_25 rfl rfl (Nat.le_of_ble_eq_true rfl) rfl ?_
  refine V_aload_n dX1_init_28 rfl ?_
  refine V_iconst 0 dX1_init_29 (by decide) ?_
  refine V_put0 [.ref q7, .ref q15, .ref q23, .int 0] fp_X1_21 dX1_init_30 rfl rfl (Nat.le_of_ble_eq_true rfl) rfl ?_
  exact V_vretc dX1_init_33 rfl ⟨rfl, q7, q15, q23, rfl⟩
set_option maxHeartbeats 1000000 in
set_option maxRecDepth 20000 in
theorem i_X2 {g : Gm} {B q : Nat} {ws : va_W} : CT g B 2 2 10 mX2_init [.ref q] ((q, .inr (2, [.null, .int 0, .int 0, .int 0])) :: ws) (fun v ws' => v = none ∧ ∃ q5 q7_9 : Nat, ws' = (q, .inr (2, [.ref q5, .int 0, .int 0, .int 0])) :: (q5, .inr (7, [.ref q7_9, .int 0])) :: (q7_9, .inl (g.2 0, 8, .inl (fun _ => 0))) :: ws) := by
  refine CT.ofVc (by decide) rfl rfl (Nat.le_of_ble_eq_true rfl) ?_
  refine V_aload_n dX2_init_0 rfl ?_
  refine V_objI lk_X2_3 dX2_init_1 (Nat.le_of_ble_eq_true rfl) (Nat.le_of_ble_eq_true rfl) ?_
  refine V_aload_n dX2_init_4 rfl ?_
  refine V_new (ci := 7) tyX7 [.null, .int 0] Xc_B dX2_init_5 rfl inX7 tyX7_ok cl_X2_9 ib_X7 iz_X7 (by decide) (Nat.le_of_ble_eq_true rfl) (Nat.le_of_ble_eq_true rfl) (fun q5 => ?_)
  refine V_dup dX2_init_8 rfl ?_
  refine V_callI (d := 1) (mc := 1) (ms := 8) mi_X7_init lk_X2_11 dX2_init_9 i_X7 Xc_B rfl rfl (Nat.le_of_ble_eq_true rfl) (Nat.le_of_ble_eq_true rfl) (Nat.le_of_ble_eq_true rfl) (Nat.le_of_ble_eq_true rfl) (Nat.le_of_ble_eq_true rfl) (fun v ws' hv => ?_)
  obtain ⟨rfl, q7_9, rfl⟩ := hv
  refine V_r2 ?_
  refine V_putF0 [.ref q5, .int 0, .int 0, .int 0] Xc_X ff_X2_12 dX2_init_12 rfl rfl (Nat.le_of_ble_eq_true rfl) rfl ?_
  refine V_aload_n dX2_init_15 rfl ?_
  refine V_iconst 0 dX2_init_16 (by decide) ?_
  refine V_put0 [.ref q5, .int 0, .int 0, .int 0] fp_X2_18 dX2_init_17 rfl rfl (Nat.le_of_ble_eq_true rfl) rfl ?_
  refine V_aload_n dX2_init_20 rfl ?_
  refine V_iconst 0 dX2_init_21 (by decide) ?_
  refine V_put0 [.ref q5, .int 0, .int 0, .int 0] fp_X2_22 dX2_init_22 rfl rfl (Nat.le_of_ble_eq_true rfl) rfl ?_
  refine V_aload_n dX2_init_25 rfl ?_
  refine V_iconst 0 dX2_init_26 (by decide) ?_
  refine V_put0 [.ref q5, .int 0, .int 0, .int 0] fp_X2_25 dX2_init_27 rfl rfl (Nat.le_of_ble_eq_true rfl) rfl ?_
  exact V_vretc dX2_init_30 rfl ⟨rfl, q5, q7_9, rfl⟩
set_option maxHeartbeats 1000000 in
set_option maxRecDepth 20000 in
theorem i_X3 {g : Gm} {B q : Nat} {ws : va_W} : CT g B 1 0 0 mX3_init [.ref q] ((q, .inr (3, [.int 0, .int 0, .int 0, .int 0, .int 0])) :: ws) (fun v ws' => v = none ∧ ws' = (q, .inr (3, [.int 0, .int 29, .int (-2), .int 29, .int 29])) :: ws) := by
  refine CT.ofVc (by decide) rfl rfl (Nat.le_of_ble_eq_true rfl) ?_
  refine V_aload_n dX3_init_0 rfl ?_
  refine V_objI lk_X3_5 dX3_init_1 (Nat.le_of_ble_eq_true rfl) (Nat.le_of_ble_eq_true rfl) ?_
  refine V_aload_n dX3_init_4 rfl ?_
  refine V_iconst 0 dX3_init_5 (by decide) ?_
  refine V_put0 [.int 0, .int 0, .int 0, .int 0, .int 0] fp_X3_11 dX3_init_6 rfl rfl (Nat.le_of_ble_eq_true rfl) rfl ?_
  refine V_aload_n dX3_init_9 rfl ?_
  refine V_bipush 29 dX3_init_10 (by decide) ?_
  refine V_put0 [.int 0, .int 29, .int 0, .int 0, .int 0] fp_X3_15 dX3_init_12 rfl rfl (Nat.le_of_ble_eq_true rfl) rfl ?_
  refine V_aload_n dX3_init_15 rfl ?_
  refine V_bipush (-2) dX3_init_16 (by decide) ?_
  refine V_put0 [.int 0, .int 29, .int (-2), .int 0, .int 0] fp_X3_18 dX3_init_18 rfl rfl (Nat.le_of_ble_eq_true rfl) rfl ?_
  refine V_aload_n dX3_init_21 rfl ?_
  refine V_bipush 29 dX3_init_22 (by decide) ?_
  refine V_put0 [.int 0, .int 29, .int (-2), .int 29, .int 0] fp_X3_21 dX3_init_24 rfl rfl (Nat.le_of_ble_eq_true rfl) rfl ?_
  refine V_aload_n dX3_init_27 rfl ?_
  refine V_bipush 29 dX3_init_28 (by decide) ?_
  refine V_put0 [.int 0, .int 29, .int (-2), .int 29, .int 29] fp_X3_24 dX3_init_30 rfl rfl (Nat.le_of_ble_eq_true rfl) rfl ?_
  exact V_vretc dX3_init_33 rfl ⟨rfl, rfl⟩
set_option maxHeartbeats 1000000 in
set_option maxRecDepth 20000 in
theorem i_X5 {g : Gm} {B q : Nat} {ws : va_W} : CT g B 1 1 60 mX5_init [.ref q] ((q, .inr (5, [.null, .int 0, .int 0])) :: ws) (fun v ws' => v = none ∧ ∃ q7 : Nat, ws' = (q, .inr (5, [.ref q7, .int 0, .int 0])) :: (q7, .inl (g.2 0, 60, .inl (fun _ => 0))) :: ws) := by
  refine CT.ofVc (by decide) rfl rfl (Nat.le_of_ble_eq_true rfl) ?_
  refine V_aload_n dX5_init_0 rfl ?_
  refine V_objI lk_X5_3 dX5_init_1 (Nat.le_of_ble_eq_true rfl) (Nat.le_of_ble_eq_true rfl) ?_
  refine V_aload_n dX5_init_4 rfl ?_
  refine V_bipush 60 dX5_init_5 (by decide) ?_
  refine V_newaI 60 Xc_B dX5_init_7 (by decide) (by decide) (by decide) (Nat.le_of_ble_eq_true rfl) (Nat.le_of_ble_eq_true rfl) (fun q7 => ?_)
  refine V_r1 ?_
  refine V_putF0 [.ref q7, .int 0, .int 0] Xc_X ff_X5_9 dX5_init_9 rfl rfl (Nat.le_of_ble_eq_true rfl) rfl ?_
  refine V_aload_n dX5_init_12 rfl ?_
  refine V_iconst 0 dX5_init_13 (by decide) ?_
  refine V_put0 [.ref q7, .int 0, .int 0] fp_X5_15 dX5_init_14 rfl rfl (Nat.le_of_ble_eq_true rfl) rfl ?_
  refine V_aload_n dX5_init_17 rfl ?_
  refine V_iconst 0 dX5_init_18 (by decide) ?_
  refine V_put0 [.ref q7, .int 0, .int 0] fp_X5_19 dX5_init_19 rfl rfl (Nat.le_of_ble_eq_true rfl) rfl ?_
  exact V_vretc dX5_init_22 rfl ⟨rfl, q7, rfl⟩
set_option maxHeartbeats 1000000 in
set_option maxRecDepth 20000 in
theorem i_X0 {g : Gm} {B q : Nat} {ws : va_W} : CT g B 1 1 5 mX0_init [.ref q] ((q, .inr (0, [.null, .int 0, .int 0])) :: ws) (fun v ws' => v = none ∧ ∃ q6 : Nat, ws' = (q, .inr (0, [.ref q6, .int 0, .int 0])) :: (q6, .inl (g.2 0, 5, .inl (fun _ => 0))) :: ws) := by
  refine CT.ofVc (by decide) rfl rfl (Nat.le_of_ble_eq_true rfl) ?_
  refine V_aload_n dX0_init_0 rfl ?_
  refine V_objI lk_X0_3 dX0_init_1 (Nat.le_of_ble_eq_true rfl) (Nat.le_of_ble_eq_true rfl) ?_
  refine V_aload_n dX0_init_4 rfl ?_
  refine V_iconst 5 dX0_init_5 (by decide) ?_
  refine V_newaI 5 Xc_B dX0_init_6 (by decide) (by decide) (by decide) (Nat.le_of_ble_eq_true rfl) (Nat.le_of_ble_eq_true rfl) (fun q6 => ?_)
  refine V_r1 ?_
  refine V_putF0 [.ref q6, .int 0, .int 0] Xc_X ff_X0_9 dX0_init_8 rfl rfl (Nat.le_of_ble_eq_true rfl) rfl ?_
  refine V_aload_n dX0_init_11 rfl ?_
  refine V_iconst 0 dX0_init_12 (by decide) ?_
  refine V_put0 [.ref q6, .int 0, .int 0] fp_X0_15 dX0_init_13 rfl rfl (Nat.le_of_ble_eq_true rfl) rfl ?_
  refine V_aload_n dX0_init_16 rfl ?_
  refine V_iconst 0 dX0_init_17 (by decide) ?_
  refine V_put0 [.ref q6, .int 0, .int 0] fp_X0_19 dX0_init_18 rfl rfl (Nat.le_of_ble_eq_true rfl) rfl ?_
  exact V_vretc dX0_init_21 rfl ⟨rfl, q6, rfl⟩
set_option maxHeartbeats 1000000 in
set_option maxRecDepth 20000 in
theorem i_X8 {g : Gm} {B q : Nat} {ws : va_W} : CT g B 1 1 60 mX8_init [.ref q] ((q, .inr (8, [.null, .int 0, .int 0, .int 0])) :: ws) (fun v ws' => v = none ∧ ∃ q7 : Nat, ws' = (q, .inr (8, [.ref q7, .int 0, .int 0, .int 0])) :: (q7, .inl (g.2 0, 60, .inl (fun _ => 0))) :: ws) := by
  refine CT.ofVc (by decide) rfl rfl (Nat.le_of_ble_eq_true rfl) ?_
  refine V_aload_n dX8_init_0 rfl ?_
  refine V_objI lk_X8_3 dX8_init_1 (Nat.le_of_ble_eq_true rfl) (Nat.le_of_ble_eq_true rfl) ?_
  refine V_aload_n dX8_init_4 rfl ?_
  refine V_bipush 60 dX8_init_5 (by decide) ?_
  refine V_newaI 60 Xc_B dX8_init_7 (by decide) (by decide) (by decide) (Nat.le_of_ble_eq_true rfl) (Nat.le_of_ble_eq_true rfl) (fun q7 => ?_)
  refine V_r1 ?_
  refine V_putF0 [.ref q7, .int 0, .int 0, .int 0] Xc_X ff_X8_9 dX8_init_9 rfl rfl (Nat.le_of_ble_eq_true rfl) rfl ?_
  refine V_aload_n dX8_init_12 rfl ?_
  refine V_iconst 0 dX8_init_13 (by decide) ?_
  refine V_put0 [.ref q7, .int 0, .int 0, .int 0] fp_X8_15 dX8_init_14 rfl rfl (Nat.le_of_ble_eq_true rfl) rfl ?_
  refine V_aload_n dX8_init_17 rfl ?_
  refine V_iconst 0 dX8_init_18 (by decide) ?_
  refine V_put0 [.ref q7, .int 0, .int 0, .int 0] fp_X8_19 dX8_init_19 rfl rfl (Nat.le_of_ble_eq_true rfl) rfl ?_
  refine V_aload_n dX8_init_22 rfl ?_
  refine V_iconst 0 dX8_init_23 (by decide) ?_
  refine V_put0 [.ref q7, .int 0, .int 0, .int 0] fp_X8_23 dX8_init_24 rfl rfl (Nat.le_of_ble_eq_true rfl) rfl ?_
  exact V_vretc dX8_init_27 rfl ⟨rfl, q7, rfl⟩
set_option maxHeartbeats 1000000 in
set_option maxRecDepth 20000 in
theorem i_X11 {g : Gm} {B q : Nat} {ws : va_W} : CT g B 1 34 1168 mX11_init [.ref q] ((q, .inr (11, [.int 0, .int 0, .null, .null, .null, .null, .null, .null, .null, .null, .null, .int 0, .null, .int 0, .null, .null, .null, .null, .null, .null, .null, .null, .int 0, .null, .null, .null, .null, .null, .int 0, .int 0, .null, .null, .int 0, .null, .int 0, .null, .null, .null, .null, .int 0, .null, .int 0, .null, .null, .int 0, .null])) :: ws) (fun v ws' => v = none ∧ ∃ q6 q33 q42 q50 q58 q65 q73 q81 q89 q97 q105 q113 q121 q129 q138 q146 q154 q192 q200 q208 q216 q224 q232 q239 q247 q255 q269 q277 q285 q292 q299 q307 q315 q328 : Nat, ws' = (q, .inr (11, [.int 0, .int 0, .ref q6, .ref q33, .ref q42, .ref q50, .ref q58, .ref q65, .ref q73, .ref q81, .ref q89, .int 0, .ref q97, .int 0, .ref q105, .ref q113, .ref q121, .ref q129, .ref q138, .ref q146, .ref q154, .ref q192, .int 0, .ref q200, .ref q208, .ref q216, .ref q224, .ref q232, .int 0, .int 0, .ref q239, .ref q247, .int 0, .ref q255, .int 6, .ref q269, .ref q277, .ref q285, .ref q292, .int 0, .ref q299, .int 0, .ref q307, .ref q315, .int 3, .ref q328])) :: (q328, .inl (g.2 0, 8, .inl (fun _ => 0))) :: (q315, .inl (g.2 0, 6, .inl (fun _ => 0))) :: (q307, .inl (g.2 0, 6, .inl (fun _ => 0))) :: (q299, .inl (g.2 0, 5, .inl (fun _ => 0))) :: (q292, .inl (g.2 0, 3, .inl (fun _ => 0))) :: (q285, .inl (g.2 0, 8, .inl (fun _ => 0))) :: (q277, .inl (g.2 0, 8, .inl (fun _ => 0))) :: (q269, .inl (g.2 0, 81, .inl (fun _ => 0))) :: (q255, .inl (g.2 0, 8, .inl (fun _ => 0))) :: (q247, .inl (g.2 0, 8, .inl (fun _ => 0))) :: (q239, .inl (g.2 0, 4, .inl (fun _ => 0))) :: (q232, .inl (g.2 0, 8, .inl (fun _ => 0))) :: (q224, .inl (g.2 0, 8, .inl (fun _ => 0))) :: (q216, .inl (g.2 0, 8, .inl (fun _ => 0))) :: (q208, .inl (g.2 0, 8, .inl (fun _ => 0))) :: (q200, .inl (g.2 0, 8, .inl (fun _ => 0))) :: (q192, .inl (g.2 0, 48, .inl (fun _ => 0))) :: (q154, .inl (g.2 0, 6, .inl (upd (upd (upd (upd (upd (upd (fun _ => 0) 0 (-9)) 1 (-9)) 2 (-9)) 3 (-9)) 4 (-9)) 5 (-9)))) :: (q146, .inl (g.2 0, 8, .inl (fun _ => 0))) :: (q138, .inl (g.2 0, 320, .inl (fun _ => 0))) :: (q129, .inl (g.2 0, 40, .inl (fun _ => 0))) :: (q121, .inl (g.2 0, 40, .inl (fun _ => 0))) :: (q113, .inl (g.2 0, 40, .inl (fun _ => 0))) :: (q105, .inl (g.2 0, 40, .inl (fun _ => 0))) :: (q97, .inl (g.2 0, 8, .inl (fun _ => 0))) :: (q89, .inl (g.2 0, 90, .inl (fun _ => 0))) :: (q81, .inl (g.2 0, 30, .inl (fun _ => 0))) :: (q73, .inl (g.2 0, 30, .inl (fun _ => 0))) :: (q65, .inl (g.2 0, 3, .inl (fun _ => 0))) :: (q58, .inl (g.2 0, 16, .inl (fun _ => 0))) :: (q50, .inl (g.2 0, 16, .inl (fun _ => 0))) :: (q42, .inl (g.2 0, 240, .inl (fun _ => 0))) :: (q33, .inl (g.2 0, 4, .inl (fun _ => 0))) :: (q6, .inl (g.2 0, 4, .inl (upd (upd (upd (upd (fun _ => 0) 0 (-9)) 1 (-9)) 2 (-9)) 3 (-9)))) :: ws) := by
  refine CT.ofVc (by decide) rfl rfl (Nat.le_of_ble_eq_true rfl) ?_
  refine V_aload_n dX11_init_0 rfl ?_
  refine V_objI lk_X11_1 dX11_init_1 (Nat.le_of_ble_eq_true rfl) (Nat.le_of_ble_eq_true rfl) ?_
  refine V_aload_n dX11_init_4 rfl ?_
  refine V_iconst 4 dX11_init_5 (by decide) ?_
  refine V_newaI 4 Xc_B dX11_init_6 (by decide) (by decide) (by decide) (Nat.le_of_ble_eq_true rfl) (Nat.le_of_ble_eq_true rfl) (fun q6 => ?_)
  refine V_r1 ?_
  refine V_dup dX11_init_8 rfl ?_
  refine V_iconst 0 dX11_init_9 (by decide) ?_
  refine V_bipush (-9) dX11_init_10 (by decide) ?_
  refine V_iast1 (j := 0) dX11_init_12 (by unfold vp_in; decide) (by decide) ?_
  refine V_dup dX11_init_13 rfl ?_
  refine V_iconst 1 dX11_init_14 (by decide) ?_
  refine V_bipush (-9) dX11_init_15 (by decide) ?_
  refine V_iast1 (j := 1) dX11_init_17 (by unfold vp_in; decide) (by decide) ?_
  refine V_dup dX11_init_18 rfl ?_
  refine V_iconst 2 dX11_init_19 (by decide) ?_
  refine V_bipush (-9) dX11_init_20 (by decide) ?_
  refine V_iast1 (j := 2) dX11_init_22 (by unfold vp_in; decide) (by decide) ?_
  refine V_dup dX11_init_23 rfl ?_
  refine V_iconst 3 dX11_init_24 (by decide) ?_
  refine V_bipush (-9) dX11_init_25 (by decide) ?_
  refine V_iast1 (j := 3) dX11_init_27 (by unfold vp_in; decide) (by decide) ?_
  refine V_putF0 [.int 0, .int 0, .ref q6, .null, .null, .null, .null, .null, .null, .null, .null, .int 0, .null, .int 0, .null, .null, .null, .null, .null, .null, .null, .null, .int 0, .null, .null, .null, .null, .null, .int 0, .int 0, .null, .null, .int 0, .null, .int 0, .null, .null, .null, .null, .int 0, .null, .int 0, .null, .null, .int 0, .null] Xc_X ff_X11_9 dX11_init_28 rfl rfl (Nat.le_of_ble_eq_true rfl) rfl ?_
  refine V_aload_n dX11_init_31 rfl ?_
  refine V_iconst 4 dX11_init_32 (by decide) ?_
  refine V_newaI 4 Xc_B dX11_init_33 (by decide) (by decide) (by decide) (Nat.le_of_ble_eq_true rfl) (Nat.le_of_ble_eq_true rfl) (fun q33 => ?_)
  refine V_r1 ?_
  refine V_putF0 [.int 0, .int 0, .ref q6, .ref q33, .null, .null, .null, .null, .null, .null, .null, .int 0, .null, .int 0, .null, .null, .null, .null, .null, .null, .null, .null, .int 0, .null, .null, .null, .null, .null, .int 0, .int 0, .null, .null, .int 0, .null, .int 0, .null, .null, .null, .null, .int 0, .null, .int 0, .null, .null, .int 0, .null] Xc_X ff_X11_13 dX11_init_35 rfl rfl (Nat.le_of_ble_eq_true rfl) rfl ?_
  refine V_aload_n dX11_init_38 rfl ?_
  refine V_sipush 240 dX11_init_39 (by decide) ?_
  refine V_newaI 240 Xc_B dX11_init_42 (by decide) (by decide) (by decide) (Nat.le_of_ble_eq_true rfl) (Nat.le_of_ble_eq_true rfl) (fun q42 => ?_)
  refine V_r1 ?_
  refine V_putF0 [.int 0, .int 0, .ref q6, .ref q33, .ref q42, .null, .null, .null, .null, .null, .null, .int 0, .null, .int 0, .null, .null, .null, .null, .null, .null, .null, .null, .int 0, .null, .null, .null, .null, .null, .int 0, .int 0, .null, .null, .int 0, .null, .int 0, .null, .null, .null, .null, .int 0, .null, .int 0, .null, .null, .int 0, .null] Xc_X ff_X11_16 dX11_init_44 rfl rfl (Nat.le_of_ble_eq_true rfl) rfl ?_
  refine V_aload_n dX11_init_47 rfl ?_
  refine V_bipush 16 dX11_init_48 (by decide) ?_
  refine V_newaI 16 Xc_B dX11_init_50 (by decide) (by decide) (by decide) (Nat.le_of_ble_eq_true rfl) (Nat.le_of_ble_eq_true rfl) (fun q50 => ?_)
  refine V_r1 ?_
  refine V_putF0 [.int 0, .int 0, .ref q6, .ref q33, .ref q42, .ref q50, .null, .null, .null, .null, .null, .int 0, .null, .int 0, .null, .null, .null, .null, .null, .null, .null, .null, .int 0, .null, .null, .null, .null, .null, .int 0, .int 0, .null, .null, .int 0, .null, .int 0, .null, .null, .null, .null, .int 0, .null, .int 0, .null, .null, .int 0, .null] Xc_X ff_X11_19 dX11_init_52 rfl rfl (Nat.le_of_ble_eq_true rfl) rfl ?_
  refine V_aload_n dX11_init_55 rfl ?_
  refine V_bipush 16 dX11_init_56 (by decide) ?_
  refine V_newaI 16 Xc_B dX11_init_58 (by decide) (by decide) (by decide) (Nat.le_of_ble_eq_true rfl) (Nat.le_of_ble_eq_true rfl) (fun q58 => ?_)
  refine V_r1 ?_
  refine V_putF0 [.int 0, .int 0, .ref q6, .ref q33, .ref q42, .ref q50, .ref q58, .null, .null, .null, .null, .int 0, .null, .int 0, .null, .null, .null, .null, .null, .null, .null, .null, .int 0, .null, .null, .null, .null, .null, .int 0, .int 0, .null, .null, .int 0, .null, .int 0, .null, .null, .null, .null, .int 0, .null, .int 0, .null, .null, .int 0, .null] Xc_X ff_X11_22 dX11_init_60 rfl rfl (Nat.le_of_ble_eq_true rfl) rfl ?_
  refine V_aload_n dX11_init_63 rfl ?_
  refine V_iconst 3 dX11_init_64 (by decide) ?_
  refine V_newaI 3 Xc_B dX11_init_65 (by decide) (by decide) (by decide) (Nat.le_of_ble_eq_true rfl) (Nat.le_of_ble_eq_true rfl) (fun q65 => ?_)
  refine V_r1 ?_
  refine V_putF0 [.int 0, .int 0, .ref q6, .ref q33, .ref q42, .ref q50, .ref q58, .ref q65, .null, .null, .null, .int 0, .null, .int 0, .null, .null, .null, .null, .null, .null, .null, .null, .int 0, .null, .null, .null, .null, .null, .int 0, .int 0, .null, .null, .int 0, .null, .int 0, .null, .null, .null, .null, .int 0, .null, .int 0, .null, .null, .int 0, .null] Xc_X ff_X11_25 dX11_init_67 rfl rfl (Nat.le_of_ble_eq_true rfl) rfl ?_
  refine V_aload_n dX11_init_70 rfl ?_
  refine V_bipush 30 dX11_init_71 (by decide) ?_
  refine V_newaI 30 Xc_B dX11_init_73 (by decide) (by decide) (by decide) (Nat.le_of_ble_eq_true rfl) (Nat.le_of_ble_eq_true rfl) (fun q73 => ?_)
  refine V_r1 ?_
  refine V_putF0 [.int 0, .int 0, .ref q6, .ref q33, .ref q42, .ref q50, .ref q58, .ref q65, .ref q73, .null, .null, .int 0, .null, .int 0, .null, .null, .null, .null, .null, .null, .null, .null, .int 0, .null, .null, .null, .null, .null, .int 0, .int 0, .null, .null, .int 0, .null, .int 0, .null, .null, .null, .null, .int 0, .null, .int 0, .null, .null, .int 0, .null] Xc_X ff_X11_28 dX11_init_75 rfl rfl (Nat.le_of_ble_eq_true rfl) rfl ?_
  refine V_aload_n dX11_init_78 rfl ?_
  refine V_bipush 30 dX11_init_79 (by decide) ?_
  refine V_newaI 30 Xc_B dX11_init_81 (by decide) (by decide) (by decide) (Nat.le_of_ble_eq_true rfl) (Nat.le_of_ble_eq_true rfl) (fun q81 => ?_)
  refine V_r1 ?_
  refine V_putF0 [.int 0, .int 0, .ref q6, .ref q33, .ref q42, .ref q50, .ref q58, .ref q65, .ref q73, .ref q81, .null, .int 0, .null, .int 0, .null, .null, .null, .null, .null, .null, .null, .null, .int 0, .null, .null, .null, .null, .null, .int 0, .int 0, .null, .null, .int 0, .null, .int 0, .null, .null, .null, .null, .int 0, .null, .int 0, .null, .null, .int 0, .null] Xc_X ff_X11_31 dX11_init_83 rfl rfl (Nat.le_of_ble_eq_true rfl) rfl ?_
  refine V_aload_n dX11_init_86 rfl ?_
  refine V_bipush 90 dX11_init_87 (by decide) ?_
  refine V_newaI 90 Xc_B dX11_init_89 (by decide) (by decide) (by decide) (Nat.le_of_ble_eq_true rfl) (Nat.le_of_ble_eq_true rfl) (fun q89 => ?_)
  refine V_r1 ?_
  refine V_putF0 [.int 0, .int 0, .ref q6, .ref q33, .ref q42, .ref q50, .ref q58, .ref q65, .ref q73, .ref q81, .ref q89, .int 0, .null, .int 0, .null, .null, .null, .null, .null, .null, .null, .null, .int 0, .null, .null, .null, .null, .null, .int 0, .int 0, .null, .null, .int 0, .null, .int 0, .null, .null, .null, .null, .int 0, .null, .int 0, .null, .null, .int 0, .null] Xc_X ff_X11_34 dX11_init_91 rfl rfl (Nat.le_of_ble_eq_true rfl) rfl ?_
  refine V_aload_n dX11_init_94 rfl ?_
  refine V_bipush 8 dX11_init_95 (by decide) ?_
  refine V_newaI 8 Xc_B dX11_init_97 (by decide) (by decide) (by decide) (Nat.le_of_ble_eq_true rfl) (Nat.le_of_ble_eq_true rfl) (fun q97 => ?_)
  refine V_r1 ?_
  refine V_putF0 [.int 0, .int 0, .ref q6, .ref q33, .ref q42, .ref q50, .ref q58, .ref q65, .ref q73, .ref q81, .ref q89, .int 0, .ref q97, .int 0, .null, .null, .null, .null, .null, .null, .null, .null, .int 0, .null, .null, .null, .null, .null, .int 0, .int 0, .null, .null, .int 0, .null, .int 0, .null, .null, .null, .null, .int 0, .null, .int 0, .null, .null, .int 0, .null] Xc_X ff_X11_37 dX11_init_99 rfl rfl (Nat.le_of_ble_eq_true rfl) rfl ?_
  refine V_aload_n dX11_init_102 rfl ?_
  refine V_bipush 40 dX11_init_103 (by decide) ?_
  refine V_newaI 40 Xc_B dX11_init_105 (by decide) (by decide) (by decide) (Nat.le_of_ble_eq_true rfl) (Nat.le_of_ble_eq_true rfl) (fun q105 => ?_)
  refine V_r1 ?_
  refine V_putF0 [.int 0, .int 0, .ref q6, .ref q33, .ref q42, .ref q50, .ref q58, .ref q65, .ref q73, .ref q81, .ref q89, .int 0, .ref q97, .int 0, .ref q105, .null, .null, .null, .null, .null, .null, .null, .int 0, .null, .null, .null, .null, .null, .int 0, .int 0, .null, .null, .int 0, .null, .int 0, .null, .null, .null, .null, .int 0, .null, .int 0, .null, .null, .int 0, .null] Xc_X ff_X11_40 dX11_init_107 rfl rfl (Nat.le_of_ble_eq_true rfl) rfl ?_
  refine V_aload_n dX11_init_110 rfl ?_
  refine V_bipush 40 dX11_init_111 (by decide) ?_
  refine V_newaI 40 Xc_B dX11_init_113 (by decide) (by decide) (by decide) (Nat.le_of_ble_eq_true rfl) (Nat.le_of_ble_eq_true rfl) (fun q113 => ?_)
  refine V_r1 ?_
  refine V_putF0 [.int 0, .int 0, .ref q6, .ref q33, .ref q42, .ref q50, .ref q58, .ref q65, .ref q73, .ref q81, .ref q89, .int 0, .ref q97, .int 0, .ref q105, .ref q113, .null, .null, .null, .null, .null, .null, .int 0, .null, .null, .null, .null, .null, .int 0, .int 0, .null, .null, .int 0, .null, .int 0, .null, .null, .null, .null, .int 0, .null, .int 0, .null, .null, .int 0, .null] Xc_X ff_X11_43 dX11_init_115 rfl rfl (Nat.le_of_ble_eq_true rfl) rfl ?_
  refine V_aload_n dX11_init_118 rfl ?_
  refine V_bipush 40 dX11_init_119 (by decide) ?_
  refine V_newaI 40 Xc_B dX11_init_121 (by decide) (by decide) (by decide) (Nat.le_of_ble_eq_true rfl) (Nat.le_of_ble_eq_true rfl) (fun q121 => ?_)
  refine V_r1 ?_
  refine V_putF0 [.int 0, .int 0, .ref q6, .ref q33, .ref q42, .ref q50, .ref q58, .ref q65, .ref q73, .ref q81, .ref q89, .int 0, .ref q97, .int 0, .ref q105, .ref q113, .ref q121, .null, .null, .null, .null, .null, .int 0, .null, .null, .null, .null, .null, .int 0, .int 0, .null, .null, .int 0, .null, .int 0, .null, .null, .null, .null, .int 0, .null, .int 0, .null, .null, .int 0, .null] Xc_X ff_X11_46 dX11_init_123 rfl rfl (Nat.le_of_ble_eq_true rfl) rfl ?_
  refine V_aload_n dX11_init_126 rfl ?_
  refine V_bipush 40 dX11_init_127 (by decide) ?_
  refine V_newaI 40 Xc_B dX11_init_129 (by decide) (by decide) (by decide) (Nat.le_of_ble_eq_true rfl) (Nat.le_of_ble_eq_true rfl) (fun q129 => ?_)
  refine V_r1 ?_
  refine V_putF0 [.int 0, .int 0, .ref q6, .ref q33, .ref q42, .ref q50, .ref q58, .ref q65, .ref q73, .ref q81, .ref q89, .int 0, .ref q97, .int 0, .ref q105, .ref q113, .ref q121, .ref q129, .null, .null, .null, .null, .int 0, .null, .null, .null, .null, .null, .int 0, .int 0, .null, .null, .int 0, .null, .int 0, .null, .null, .null, .null, .int 0, .null, .int 0, .null, .null, .int 0, .null] Xc_X ff_X11_49 dX11_init_131 rfl rfl (Nat.le_of_ble_eq_true rfl) rfl ?_
  refine V_aload_n dX11_init_134 rfl ?_
  refine V_sipush 320 dX11_init_135 (by decide) ?_
  refine V_newaI 320 Xc_B dX11_init_138 (by decide) (by decide) (by decide) (Nat.le_of_ble_eq_true rfl) (Nat.le_of_ble_eq_true rfl) (fun q138 => ?_)
  refine V_r1 ?_
  refine V_putF0 [.int 0, .int 0, .ref q6, .ref q33, .ref q42, .ref q50, .ref q58, .ref q65, .ref q73, .ref q81, .ref q89, .int 0, .ref q97, .int 0, .ref q105, .ref q113, .ref q121, .ref q129, .ref q138, .null, .null, .null, .int 0, .null, .null, .null, .null, .null, .int 0, .int 0, .null, .null, .int 0, .null, .int 0, .null, .null, .null, .null, .int 0, .null, .int 0, .null, .null, .int 0, .null] Xc_X ff_X11_52 dX11_init_140 rfl rfl (Nat.le_of_ble_eq_true rfl) rfl ?_
  refine V_aload_n dX11_init_143 rfl ?_
  refine V_bipush 8 dX11_init_144 (by decide) ?_
  refine V_newaI 8 Xc_B dX11_init_146 (by decide) (by decide) (by decide) (Nat.le_of_ble_eq_true rfl) (Nat.le_of_ble_eq_true rfl) (fun q146 => ?_)
  refine V_r1 ?_
  refine V_putF0 [.int 0, .int 0, .ref q6, .ref q33, .ref q42, .ref q50, .ref q58, .ref q65, .ref q73, .ref q81, .ref q89, .int 0, .ref q97, .int 0, .ref q105, .ref q113, .ref q121, .ref q129, .ref q138, .ref q146, .null, .null, .int 0, .null, .null, .null, .null, .null, .int 0, .int 0, .null, .null, .int 0, .null, .int 0, .null, .null, .null, .null, .int 0, .null, .int 0, .null, .null, .int 0, .null] Xc_X ff_X11_55 dX11_init_148 rfl rfl (Nat.le_of_ble_eq_true rfl) rfl ?_
  refine V_aload_n dX11_init_151 rfl ?_
  refine V_bipush 6 dX11_init_152 (by decide) ?_
  refine V_newaI 6 Xc_B dX11_init_154 (by decide) (by decide) (by decide) (Nat.le_of_ble_eq_true rfl) (Nat.le_of_ble_eq_true rfl) (fun q154 => ?_)
  refine V_r1 ?_
  refine V_dup dX11_init_156 rfl ?_
  refine V_iconst 0 dX11_init_157 (by decide) ?_
  refine V_bipush (-9) dX11_init_158 (by decide) ?_
  refine V_iast1 (j := 0) dX11_init_160 (by unfold vp_in; decide) (by decide) ?_
  refine V_dup dX11_init_161 rfl ?_
  refine V_iconst 1 dX11_init_162 (by decide) ?_
  refine V_bipush (-9) dX11_init_163 (by decide) ?_
  refine V_iast1 (j := 1) dX11_init_165 (by unfold vp_in; decide) (by decide) ?_
  refine V_dup dX11_init_166 rfl ?_
  refine V_iconst 2 dX11_init_167 (by decide) ?_
  refine V_bipush (-9) dX11_init_168 (by decide) ?_
  refine V_iast1 (j := 2) dX11_init_170 (by unfold vp_in; decide) (by decide) ?_
  refine V_dup dX11_init_171 rfl ?_
  refine V_iconst 3 dX11_init_172 (by decide) ?_
  refine V_bipush (-9) dX11_init_173 (by decide) ?_
  refine V_iast1 (j := 3) dX11_init_175 (by unfold vp_in; decide) (by decide) ?_
  refine V_dup dX11_init_176 rfl ?_
  refine V_iconst 4 dX11_init_177 (by decide) ?_
  refine V_bipush (-9) dX11_init_178 (by decide) ?_
  refine V_iast1 (j := 4) dX11_init_180 (by unfold vp_in; decide) (by decide) ?_
  refine V_dup dX11_init_181 rfl ?_
  refine V_iconst 5 dX11_init_182 (by decide) ?_
  refine V_bipush (-9) dX11_init_183 (by decide) ?_
  refine V_iast1 (j := 5) dX11_init_185 (by unfold vp_in; decide) (by decide) ?_
  refine V_putF0 [.int 0, .int 0, .ref q6, .ref q33, .ref q42, .ref q50, .ref q58, .ref q65, .ref q73, .ref q81, .ref q89, .int 0, .ref q97, .int 0, .ref q105, .ref q113, .ref q121, .ref q129, .ref q138, .ref q146, .ref q154, .null, .int 0, .null, .null, .null, .null, .null, .int 0, .int 0, .null, .null, .int 0, .null, .int 0, .null, .null, .null, .null, .int 0, .null, .int 0, .null, .null, .int 0, .null] Xc_X ff_X11_58 dX11_init_186 rfl rfl (Nat.le_of_ble_eq_true rfl) rfl ?_
  refine V_aload_n dX11_init_189 rfl ?_
  refine V_bipush 48 dX11_init_190 (by decide) ?_
  refine V_newaI 48 Xc_B dX11_init_192 (by decide) (by decide) (by decide) (Nat.le_of_ble_eq_true rfl) (Nat.le_of_ble_eq_true rfl) (fun q192 => ?_)
  refine V_r1 ?_
  refine V_putF0 [.int 0, .int 0, .ref q6, .ref q33, .ref q42, .ref q50, .ref q58, .ref q65, .ref q73, .ref q81, .ref q89, .int 0, .ref q97, .int 0, .ref q105, .ref q113, .ref q121, .ref q129, .ref q138, .ref q146, .ref q154, .ref q192, .int 0, .null, .null, .null, .null, .null, .int 0, .int 0, .null, .null, .int 0, .null, .int 0, .null, .null, .null, .null, .int 0, .null, .int 0, .null, .null, .int 0, .null] Xc_X ff_X11_61 dX11_init_194 rfl rfl (Nat.le_of_ble_eq_true rfl) rfl ?_
  refine V_aload_n dX11_init_197 rfl ?_
  refine V_bipush 8 dX11_init_198 (by decide) ?_
  refine V_newaI 8 Xc_B dX11_init_200 (by decide) (by decide) (by decide) (Nat.le_of_ble_eq_true rfl) (Nat.le_of_ble_eq_true rfl) (fun q200 => ?_)
  refine V_r1 ?_
  refine V_putF0 [.int 0, .int 0, .ref q6, .ref q33, .ref q42, .ref q50, .ref q58, .ref q65, .ref q73, .ref q81, .ref q89, .int 0, .ref q97, .int 0, .ref q105, .ref q113, .ref q121, .ref q129, .ref q138, .ref q146, .ref q154, .ref q192, .int 0, .ref q200, .null, .null, .null, .null, .int 0, .int 0, .null, .null, .int 0, .null, .int 0, .null, .null, .null, .null, .int 0, .null, .int 0, .null, .null, .int 0, .null] Xc_X ff_X11_64 dX11_init_202 rfl rfl (Nat.le_of_ble_eq_true rfl) rfl ?_
  refine V_aload_n dX11_init_205 rfl ?_
  refine V_bipush 8 dX11_init_206 (by decide) ?_
  refine V_newaI 8 Xc_B dX11_init_208 (by decide) (by decide) (by decide) (Nat.le_of_ble_eq_true rfl) (Nat.le_of_ble_eq_true rfl) (fun q208 => ?_)
  refine V_r1 ?_
  refine V_putF0 [.int 0, .int 0, .ref q6, .ref q33, .ref q42, .ref q50, .ref q58, .ref q65, .ref q73, .ref q81, .ref q89, .int 0, .ref q97, .int 0, .ref q105, .ref q113, .ref q121, .ref q129, .ref q138, .ref q146, .ref q154, .ref q192, .int 0, .ref q200, .ref q208, .null, .null, .null, .int 0, .int 0, .null, .null, .int 0, .null, .int 0, .null, .null, .null, .null, .int 0, .null, .int 0, .null, .null, .int 0, .null] Xc_X ff_X11_67 dX11_init_210 rfl rfl (Nat.le_of_ble_eq_true rfl) rfl ?_
  refine V_aload_n dX11_init_213 rfl ?_
  refine V_bipush 8 dX11_init_214 (by decide) ?_
  refine V_newaI 8 Xc_B dX11_init_216 (by decide) (by decide) (by decide) (Nat.le_of_ble_eq_true rfl) (Nat.le_of_ble_eq_true rfl) (fun q216 => ?_)
  refine V_r1 ?_
  refine V_putF0 [.int 0, .int 0, .ref q6, .ref q33, .ref q42, .ref q50, .ref q58, .ref q65, .ref q73, .ref q81, .ref q89, .int 0, .ref q97, .int 0, .ref q105, .ref q113, .ref q121, .ref q129, .ref q138, .ref q146, .ref q154, .ref q192, .int 0, .ref q200, .ref q208, .ref q216, .null, .null, .int 0, .int 0, .null, .null, .int 0, .null, .int 0, .null, .null, .null, .null, .int 0, .null, .int 0, .null, .null, .int 0, .null] Xc_X ff_X11_70 dX11_init_218 rfl rfl (Nat.le_of_ble_eq_true rfl) rfl ?_
  refine V_aload_n dX11_init_221 rfl ?_
  refine V_bipush 8 dX11_init_222 (by decide) ?_
  refine V_newaI 8 Xc_B dX11_init_224 (by decide) (by decide) (by decide) (Nat.le_of_ble_eq_true rfl) (Nat.le_of_ble_eq_true rfl) (fun q224 => ?_)
  refine V_r1 ?_
  refine V_putF0 [.int 0, .int 0, .ref q6, .ref q33, .ref q42, .ref q50, .ref q58, .ref q65, .ref q73, .ref q81, .ref q89, .int 0, .ref q97, .int 0, .ref q105, .ref q113, .ref q121, .ref q129, .ref q138, .ref q146, .ref q154, .ref q192, .int 0, .ref q200, .ref q208, .ref q216, .ref q224, .null, .int 0, .int 0, .null, .null, .int 0, .null, .int 0, .null, .null, .null, .null, .int 0, .null, .int 0, .null, .null, .int 0, .null] Xc_X ff_X11_73 dX11_init_226 rfl rfl (Nat.le_of_ble_eq_true rfl) rfl ?_
  refine V_aload_n dX11_init_229 rfl ?_
  refine V_bipush 8 dX11_init_230 (by decide) ?_
  refine V_newaI 8 Xc_B dX11_init_232 (by decide) (by decide) (by decide) (Nat.le_of_ble_eq_true rfl) (Nat.le_of_ble_eq_true rfl) (fun q232 => ?_)
  refine V_r1 ?_
  refine V_putF0 [.int 0, .int 0, .ref q6, .ref q33, .ref q42, .ref q50, .ref q58, .ref q65, .ref q73, .ref q81, .ref q89, .int 0, .ref q97, .int 0, .ref q105, .ref q113, .ref q121, .ref q129, .ref q138, .ref q146, .ref q154, .ref q192, .int 0, .ref q200, .ref q208, .ref q216, .ref q224, .ref q232, .int 0, .int 0, .null, .null, .int 0, .null, .int 0, .null, .null, .null, .null, .int 0, .null, .int 0, .null, .null, .int 0, .null] Xc_X ff_X11_76 dX11_init_234 rfl rfl (Nat.le_of_ble_eq_true rfl) rfl ?_
  refine V_aload_n dX11_init_237 rfl ?_
  refine V_iconst 4 dX11_init_238 (by decide) ?_
  refine V_newaI 4 Xc_B dX11_init_239 (by decide) (by decide) (by decide) (Nat.le_of_ble_eq_true rfl) (Nat.le_of_ble_eq_true rfl) (fun q239 => ?_)
  refine V_r1 ?_
  refine V_putF0 [.int 0, .int 0, .ref q6, .ref q33, .ref q42, .ref q50, .ref q58, .ref q65, .ref q73, .ref q81, .ref q89, .int 0, .ref q97, .int 0, .ref q105, .ref q113, .ref q121, .ref q129, .ref q138, .ref q146, .ref q154, .ref q192, .int 0, .ref q200, .ref q208, .ref q216, .ref q224, .ref q232, .int 0, .int 0, .ref q239, .null, .int 0, .null, .int 0, .null, .null, .null, .null, .int 0, .null, .int 0, .null, .null, .int 0, .null] Xc_X ff_X11_79 dX11_init_241 rfl rfl (Nat.le_of_ble_eq_true rfl) rfl ?_
  refine V_aload_n dX11_init_244 rfl ?_
  refine V_bipush 8 dX11_init_245 (by decide) ?_
  refine V_newaI 8 Xc_B dX11_init_247 (by decide) (by decide) (by decide) (Nat.le_of_ble_eq_true rfl) (Nat.le_of_ble_eq_true rfl) (fun q247 => ?_)
  refine V_r1 ?_
  refine V_putF0 [.int 0, .int 0, .ref q6, .ref q33, .ref q42, .ref q50, .ref q58, .ref q65, .ref q73, .ref q81, .ref q89, .int 0, .ref q97, .int 0, .ref q105, .ref q113, .ref q121, .ref q129, .ref q138, .ref q146, .ref q154, .ref q192, .int 0, .ref q200, .ref q208, .ref q216, .ref q224, .ref q232, .int 0, .int 0, .ref q239, .ref q247, .int 0, .null, .int 0, .null, .null, .null, .null, .int 0, .null, .int 0, .null, .null, .int 0, .null] Xc_X ff_X11_82 dX11_init_249 rfl rfl (Nat.le_of_ble_eq_true rfl) rfl ?_
  refine V_aload_n dX11_init_252 rfl ?_
  refine V_bipush 8 dX11_init_253 (by decide) ?_
  refine V_newaI 8 Xc_B dX11_init_255 (by decide) (by decide) (by decide) (Nat.le_of_ble_eq_true rfl) (Nat.le_of_ble_eq_true rfl) (fun q255 => ?_)
  refine V_r1 ?_
  refine V_putF0 [.int 0, .int 0, .ref q6, .ref q33, .ref q42, .ref q50, .ref q58, .ref q65, .ref q73, .ref q81, .ref q89, .int 0, .ref q97, .int 0, .ref q105, .ref q113, .ref q121, .ref q129, .ref q138, .ref q146, .ref q154, .ref q192, .int 0, .ref q200, .ref q208, .ref q216, .ref q224, .ref q232, .int 0, .int 0, .ref q239, .ref q247, .int 0, .ref q255, .int 0, .null, .null, .null, .null, .int 0, .null, .int 0, .null, .null, .int 0, .null] Xc_X ff_X11_85 dX11_init_257 rfl rfl (Nat.le_of_ble_eq_true rfl) rfl ?_
  refine V_aload_n dX11_init_260 rfl ?_
  refine V_bipush 6 dX11_init_261 (by decide) ?_
  refine V_put0 [.int 0, .int 0, .ref q6, .ref q33, .ref q42, .ref q50, .ref q58, .ref q65, .ref q73, .ref q81, .ref q89, .int 0, .ref q97, .int 0, .ref q105, .ref q113, .ref q121, .ref q129, .ref q138, .ref q146, .ref q154, .ref q192, .int 0, .ref q200, .ref q208, .ref q216, .ref q224, .ref q232, .int 0, .int 0, .ref q239, .ref q247, .int 0, .ref q255, .int 6, .null, .null, .null, .null, .int 0, .null, .int 0, .null, .null, .int 0, .null] fp_X11_88 dX11_init_263 rfl rfl (Nat.le_of_ble_eq_true rfl) rfl ?_
  refine V_aload_n dX11_init_266 rfl ?_
  refine V_bipush 81 dX11_init_267 (by decide) ?_
  refine V_newaI 81 Xc_B dX11_init_269 (by decide) (by decide) (by decide) (Nat.le_of_ble_eq_true rfl) (Nat.le_of_ble_eq_true rfl) (fun q269 => ?_)
  refine V_r1 ?_
  refine V_putF0 [.int 0, .int 0, .ref q6, .ref q33, .ref q42, .ref q50, .ref q58, .ref q65, .ref q73, .ref q81, .ref q89, .int 0, .ref q97, .int 0, .ref q105, .ref q113, .ref q121, .ref q129, .ref q138, .ref q146, .ref q154, .ref q192, .int 0, .ref q200, .ref q208, .ref q216, .ref q224, .ref q232, .int 0, .int 0, .ref q239, .ref q247, .int 0, .ref q255, .int 6, .ref q269, .null, .null, .null, .int 0, .null, .int 0, .null, .null, .int 0, .null] Xc_X ff_X11_92 dX11_init_271 rfl rfl (Nat.le_of_ble_eq_true rfl) rfl ?_
  refine V_aload_n dX11_init_274 rfl ?_
  refine V_bipush 8 dX11_init_275 (by decide) ?_
  refine V_newaI 8 Xc_B dX11_init_277 (by decide) (by decide) (by decide) (Nat.le_of_ble_eq_true rfl) (Nat.le_of_ble_eq_true rfl) (fun q277 => ?_)
  refine V_r1 ?_
  refine V_putF0 [.int 0, .int 0, .ref q6, .ref q33, .ref q42, .ref q50, .ref q58, .ref q65, .ref q73, .ref q81, .ref q89, .int 0, .ref q97, .int 0, .ref q105, .ref q113, .ref q121, .ref q129, .ref q138, .ref q146, .ref q154, .ref q192, .int 0, .ref q200, .ref q208, .ref q216, .ref q224, .ref q232, .int 0, .int 0, .ref q239, .ref q247, .int 0, .ref q255, .int 6, .ref q269, .ref q277, .null, .null, .int 0, .null, .int 0, .null, .null, .int 0, .null] Xc_X ff_X11_95 dX11_init_279 rfl rfl (Nat.le_of_ble_eq_true rfl) rfl ?_
  refine V_aload_n dX11_init_282 rfl ?_
  refine V_bipush 8 dX11_init_283 (by decide) ?_
  refine V_newaI 8 Xc_B dX11_init_285 (by decide) (by decide) (by decide) (Nat.le_of_ble_eq_true rfl) (Nat.le_of_ble_eq_true rfl) (fun q285 => ?_)
  refine V_r1 ?_
  refine V_putF0 [.int 0, .int 0, .ref q6, .ref q33, .ref q42, .ref q50, .ref q58, .ref q65, .ref q73, .ref q81, .ref q89, .int 0, .ref q97, .int 0, .ref q105, .ref q113, .ref q121, .ref q129, .ref q138, .ref q146, .ref q154, .ref q192, .int 0, .ref q200, .ref q208, .ref q216, .ref q224, .ref q232, .int 0, .int 0, .ref q239, .ref q247, .int 0, .ref q255, .int 6, .ref q269, .ref q277, .ref q285, .null, .int 0, .null, .int 0, .null, .null, .int 0, .null] Xc_X ff_X11_98 dX11_init_287 rfl rfl (Nat.le_of_ble_eq_true rfl) rfl ?_
  refine V_aload_n dX11_init_290 rfl ?_
  refine V_iconst 3 dX11_init_291 (by decide) ?_
  refine V_newaI 3 Xc_B dX11_init_292 (by decide) (by decide) (by decide) (Nat.le_of_ble_eq_true rfl) (Nat.le_of_ble_eq_true rfl) (fun q292 => ?_)
  refine V_r1 ?_
  refine V_putF0 [.int 0, .int 0, .ref q6, .ref q33, .ref q42, .ref q50, .ref q58, .ref q65, .ref q73, .ref q81, .ref q89, .int 0, .ref q97, .int 0, .ref q105, .ref q113, .ref q121, .ref q129, .ref q138, .ref q146, .ref q154, .ref q192, .int 0, .ref q200, .ref q208, .ref q216, .ref q224, .ref q232, .int 0, .int 0, .ref q239, .ref q247, .int 0, .ref q255, .int 6, .ref q269, .ref q277, .ref q285, .ref q292, .int 0, .null, .int 0, .null, .null, .int 0, .null] Xc_X ff_X11_101 dX11_init_294 rfl rfl (Nat.le_of_ble_eq_true rfl) rfl ?_
  refine V_aload_n dX11_init_297 rfl ?_
  refine V_iconst 5 dX11_init_298 (by decide) ?_
  refine V_newaI 5 Xc_B dX11_init_299 (by decide) (by decide) (by decide) (Nat.le_of_ble_eq_true rfl) (Nat.le_of_ble_eq_true rfl) (fun q299 => ?_)
  refine V_r1 ?_
  refine V_putF0 [.int 0, .int 0, .ref q6, .ref q33, .ref q42, .ref q50, .ref q58, .ref q65, .ref q73, .ref q81, .ref q89, .int 0, .ref q97, .int 0, .ref q105, .ref q113, .ref q121, .ref q129, .ref q138, .ref q146, .ref q154, .ref q192, .int 0, .ref q200, .ref q208, .ref q216, .ref q224, .ref q232, .int 0, .int 0, .ref q239, .ref q247, .int 0, .ref q255, .int 6, .ref q269, .ref q277, .ref q285, .ref q292, .int 0, .ref q299, .int 0, .null, .null, .int 0, .null] Xc_X ff_X11_104 dX11_init_301 rfl rfl (Nat.le_of_ble_eq_true rfl) rfl ?_
  refine V_aload_n dX11_init_304 rfl ?_
  refine V_bipush 6 dX11_init_305 (by decide) ?_
  refine V_newaI 6 Xc_B dX11_init_307 (by decide) (by decide) (by decide) (Nat.le_of_ble_eq_true rfl) (Nat.le_of_ble_eq_true rfl) (fun q307 => ?_)
  refine V_r1 ?_
  refine V_putF0 [.int 0, .int 0, .ref q6, .ref q33, .ref q42, .ref q50, .ref q58, .ref q65, .ref q73, .ref q81, .ref q89, .int 0, .ref q97, .int 0, .ref q105, .ref q113, .ref q121, .ref q129, .ref q138, .ref q146, .ref q154, .ref q192, .int 0, .ref q200, .ref q208, .ref q216, .ref q224, .ref q232, .int 0, .int 0, .ref q239, .ref q247, .int 0, .ref q255, .int 6, .ref q269, .ref q277, .ref q285, .ref q292, .int 0, .ref q299, .int 0, .ref q307, .null, .int 0, .null] Xc_X ff_X11_107 dX11_init_309 rfl rfl (Nat.le_of_ble_eq_true rfl) rfl ?_
  refine V_aload_n dX11_init_312 rfl ?_
  refine V_bipush 6 dX11_init_313 (by decide) ?_
  refine V_newaI 6 Xc_B dX11_init_315 (by decide) (by decide) (by decide) (Nat.le_of_ble_eq_true rfl) (Nat.le_of_ble_eq_true rfl) (fun q315 => ?_)
  refine V_r1 ?_
  refine V_putF0 [.int 0, .int 0, .ref q6, .ref q33, .ref q42, .ref q50, .ref q58, .ref q65, .ref q73, .ref q81, .ref q89, .int 0, .ref q97, .int 0, .ref q105, .ref q113, .ref q121, .ref q129, .ref q138, .ref q146, .ref q154, .ref q192, .int 0, .ref q200, .ref q208, .ref q216, .ref q224, .ref q232, .int 0, .int 0, .ref q239, .ref q247, .int 0, .ref q255, .int 6, .ref q269, .ref q277, .ref q285, .ref q292, .int 0, .ref q299, .int 0, .ref q307, .ref q315, .int 0, .null] Xc_X ff_X11_110 dX11_init_317 rfl rfl (Nat.le_of_ble_eq_true rfl) rfl ?_
  refine V_aload_n dX11_init_320 rfl ?_
  refine V_iconst 3 dX11_init_321 (by decide) ?_
  refine V_put0 [.int 0, .int 0, .ref q6, .ref q33, .ref q42, .ref q50, .ref q58, .ref q65, .ref q73, .ref q81, .ref q89, .int 0, .ref q97, .int 0, .ref q105, .ref q113, .ref q121, .ref q129, .ref q138, .ref q146, .ref q154, .ref q192, .int 0, .ref q200, .ref q208, .ref q216, .ref q224, .ref q232, .int 0, .int 0, .ref q239, .ref q247, .int 0, .ref q255, .int 6, .ref q269, .ref q277, .ref q285, .ref q292, .int 0, .ref q299, .int 0, .ref q307, .ref q315, .int 3, .null] fp_X11_113 dX11_init_322 rfl rfl (Nat.le_of_ble_eq_true rfl) rfl ?_
  refine V_aload_n dX11_init_325 rfl ?_
  refine V_bipush 8 dX11_init_326 (by decide) ?_
  refine V_newaI 8 Xc_B dX11_init_328 (by decide) (by decide) (by decide) (Nat.le_of_ble_eq_true rfl) (Nat.le_of_ble_eq_true rfl) (fun q328 => ?_)
  refine V_r1 ?_
  refine V_putF0 [.int 0, .int 0, .ref q6, .ref q33, .ref q42, .ref q50, .ref q58, .ref q65, .ref q73, .ref q81, .ref q89, .int 0, .ref q97, .int 0, .ref q105, .ref q113, .ref q121, .ref q129, .ref q138, .ref q146, .ref q154, .ref q192, .int 0, .ref q200, .ref q208, .ref q216, .ref q224, .ref q232, .int 0, .int 0, .ref q239, .ref q247, .int 0, .ref q255, .int 6, .ref q269, .ref q277, .ref q285, .ref q292, .int 0, .ref q299, .int 0, .ref q307, .ref q315, .int 3, .ref q328] Xc_X ff_X11_116 dX11_init_330 rfl rfl (Nat.le_of_ble_eq_true rfl) rfl ?_
  exact V_vretc dX11_init_333 rfl ⟨rfl, q6, q33, q42, q50, q58, q65, q73, q81, q89, q97, q105, q113, q121, q129, q138, q146, q154, q192, q200, q208, q216, q224, q232, q239, q247, q255, q269, q277, q285, q292, q299, q307, q315, q328, rfl⟩
set_option maxHeartbeats 1000000 in
set_option maxRecDepth 20000 in
theorem i_X6 {g : Gm} {B q : Nat} {es : Nat} {ws : va_W} : CT g B 1 1 81 mX6_init [.ref q, .ref es] ((q, .inr (6, [.null, .null, .int 0, .int 0])) :: ws) (fun v ws' => v = none ∧ ∃ q7 : Nat, ws' = (q, .inr (6, [.ref q7, .ref es, .int 6, .int 3])) :: (q7, .inl (g.2 0, 81, .inl (fun _ => 0))) :: ws) := by
  refine CT.ofVc (by decide) rfl rfl (Nat.le_of_ble_eq_true rfl) ?_
  refine V_aload_n dX6_init_0 rfl ?_
  refine V_objI lk_X6_3 dX6_init_1 (Nat.le_of_ble_eq_true rfl) (Nat.le_of_ble_eq_true rfl) ?_
  refine V_aload_n dX6_init_4 rfl ?_
  refine V_bipush 81 dX6_init_5 (by decide) ?_
  refine V_newaI 81 Xc_B dX6_init_7 (by decide) (by decide) (by decide) (Nat.le_of_ble_eq_true rfl) (Nat.le_of_ble_eq_true rfl) (fun q7 => ?_)
  refine V_r1 ?_
  refine V_putF0 [.ref q7, .null, .int 0, .int 0] Xc_X ff_X6_11 dX6_init_9 rfl rfl (Nat.le_of_ble_eq_true rfl) rfl ?_
  refine V_aload_n dX6_init_12 rfl ?_
  refine V_bipush 6 dX6_init_13 (by decide) ?_
  refine V_put0 [.ref q7, .null, .int 6, .int 0] fp_X6_15 dX6_init_15 rfl rfl (Nat.le_of_ble_eq_true rfl) rfl ?_
  refine V_aload_n dX6_init_18 rfl ?_
  refine V_iconst 3 dX6_init_19 (by decide) ?_
  refine V_put0 [.ref q7, .null, .int 6, .int 3] fp_X6_19 dX6_init_20 rfl rfl (Nat.le_of_ble_eq_true rfl) rfl ?_
  refine V_aload_n dX6_init_23 rfl ?_
  refine V_aload_n dX6_init_24 rfl ?_
  refine V_putF0 [.ref q7, .ref es, .int 6, .int 3] Xc_X ff_X6_22 dX6_init_25 rfl rfl (Nat.le_of_ble_eq_true rfl) rfl ?_
  exact V_vretc dX6_init_28 rfl ⟨rfl, q7, rfl⟩
