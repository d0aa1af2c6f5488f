def wX10_isIn (a0 : Int32) (a1 : Int32) (M : Mem) (Q : Int32 → Mem → Prop) : Prop :=
  ((¬ ((a1 >>> (a0 &&& 31)) &&& 1) = 1 →
    Q 0 M) ∧ (((a1 >>> (a0 &&& 31)) &&& 1) = 1 →
    Q 1 M))
set_option maxHeartbeats 1000000 in
set_option maxRecDepth 20000 in
theorem sX10_isIn {E : En} {a0 : Int32} {a1 : Int32} {M : Mem} {Q : Int32 → Mem → Prop} (h : wX10_isIn a0 a1 M Q) : CM E 1 mX10_isIn [.int a0, .int a1] M (Pi Q) := by
  unfold wX10_isIn at h
  refine CM.of (by decide) rfl (Nat.le_of_ble_eq_true rfl) ?_
  refine V_iload_n dX10_isIn_0 rfl ?_
  refine V_iload_n dX10_isIn_1 rfl ?_
  refine V_ishr dX10_isIn_2 ?_
  refine V_iconst 1 dX10_isIn_3 (by decide) ?_
  refine V_iand dX10_isIn_4 ?_
  refine V_iconst 1 dX10_isIn_5 (by decide) ?_
  refine V_icmp_ne 13 dX10_isIn_6 (by decide) (fun q6 => ?_) (fun q6 => ?_)
  · replace h := h.1 q6
    refine V_iconst 0 dX10_isIn_13 (by decide) ?_
    exact V_reti dX10_isIn_14 rfl rfl h
  · replace h := h.2 q6
    refine V_iconst 1 dX10_isIn_9 (by decide) ?_
    refine V_goto 14 dX10_isIn_10 (by decide) ?_
    exact V_reti dX10_isIn_14 rfl rfl h
def wX0_begin (a1 : Int32) (M : Mem) (Q : Mem → Prop) : Prop :=
  (∀ N2, N2 = mset M 15 1 0 → (∃ n, lq1 (fun R7 (x7_2 : Int32) (M7 : Mem) => jn0 (fun (M55 : Mem) => (∀ N76, N76 = mset M55 15 2 (1 + ((M55 15 1) * (1 + ((M55 15 1) * (1 + (M55 15 1)))))) → Q N76)) (fun J55 => ((16 ≤ x7_2 →
        J55 M7) ∧ (¬ 16 ≤ x7_2 →
        ((5 ≤ (M7 15 1) →
          J55 M7) ∧ (¬ 5 ≤ (M7 15 1) →
          wX10_isIn x7_2 a1 M7 (fun v23 M23 => ((v23 = 0 →
              R7 (x7_2 + 1) M23) ∧ (¬ v23 = 0 →
              vp_in (M23 15 1) 5 ∧ (∀ N38, N38 = mset M23 16 (Int32.toNatClampNeg (M23 15 1)) x7_2 → (∀ N46, N46 = mset N38 15 1 ((N38 15 1) + 1) → R7 (x7_2 + 1) N46))))))))))) n 0 N2))
set_option maxHeartbeats 1000000 in
set_option maxRecDepth 20000 in
theorem sX0_begin {E : En} {a1 : Int32} {M : Mem} {Q : Mem → Prop} (h : wX0_begin a1 M Q) : CM E 2 mX0_begin [.ref (E.2.2 15), .int a1] M (Pv Q) := by
  unfold wX0_begin at h
  refine CM.of (by decide) rfl (Nat.le_of_ble_eq_true rfl) ?_
  refine V_aload_n dX0_begin_0 rfl ?_
  refine V_iconst 0 dX0_begin_1 (by decide) ?_
  refine V_putN fp_X0_15 dX0_begin_2 rfl rfl rfl rfl (fun N2 e2 => ?_)
  replace h := h N2 e2
  refine V_iconst 0 dX0_begin_5 (by decide) ?_
  refine V_istore_n dX0_begin_6 (by decide) ?_
  obtain ⟨n7, h⟩ := h
  refine V_take 3 ?_
  refine lq1_use (P := fun (x7_2 : Int32) (M7 : Mem) => V (Km E 2 (Pv Q)) mX0_begin 7 [.ref (E.2.2 15), .int a1, .int x7_2] [] (wsM E.1 E.2.2 M7) 0 0) (fun R7 hR7 x7_2 M7 h => ?_) n7 _ _ h
  refine V_iload_n dX0_begin_7 rfl ?_
  refine V_bipush 16 dX0_begin_8 (by decide) ?_
  refine jn0_use (P := fun (M55 : Mem) => ∀ j55_1 : Value, ∀ j55_2 : Value, V (Km E 2 (Pv Q)) mX0_begin 55 [.ref (E.2.2 15), j55_1, j55_2] [] (wsM E.1 E.2.2 M55) 0 0) (fun M55 h j55_1 j55_2 => ?_) (fun J55 hJ55 h => ?_) h
  · refine V_aload_n dX0_begin_55 rfl ?_
    refine V_iconst 1 dX0_begin_56 (by decide) ?_
    refine V_aload_n dX0_begin_57 rfl ?_
    refine V_getI fl_X0_15 dX0_begin_58 rfl rfl ?_
    refine V_iconst 1 dX0_begin_61 (by decide) ?_
    refine V_aload_n dX0_begin_62 rfl ?_
    refine V_getI fl_X0_15 dX0_begin_63 rfl rfl ?_
    refine V_iconst 1 dX0_begin_66 (by decide) ?_
    refine V_aload_n dX0_begin_67 rfl ?_
    refine V_getI fl_X0_15 dX0_begin_68 rfl rfl ?_
    refine V_iadd dX0_begin_71 ?_
    refine V_imul dX0_begin_72 ?_
    refine V_iadd dX0_begin_73 ?_
    refine V_imul dX0_begin_74 ?_
    refine V_iadd dX0_begin_75 ?_
    refine V_putN fp_X0_19 dX0_begin_76 rfl rfl rfl rfl (fun N76 e76 => ?_)
    replace h := h N76 e76
    exact V_retv dX0_begin_79 rfl h
  · refine V_icmp_ge 55 dX0_begin_10 (by decide) (fun q10 => ?_) (fun q10 => ?_)
    · replace h := h.1 q10
      refine V_take 3 ?_
      exact hJ55 _ h _ _
    · replace h := h.2 q10
      refine V_aload_n dX0_begin_13 rfl ?_
      refine V_getI fl_X0_15 dX0_begin_14 rfl rfl ?_
      refine V_iconst 5 dX0_begin_17 (by decide) ?_
      refine V_icmp_ge 55 dX0_begin_18 (by decide) (fun q18 => ?_) (fun q18 => ?_)
      · replace h := h.1 q18
        refine V_take 3 ?_
        exact hJ55 _ h _ _
      · replace h := h.2 q18
        refine V_iload_n dX0_begin_21 rfl ?_
        refine V_iload_n dX0_begin_22 rfl ?_
        refine M_Si ms_X10_isIn lk_X0_22 dX0_begin_23 (sX10_isIn h) rfl rfl (Nat.le_of_ble_eq_true rfl) (by decide) (by decide) (fun v23 M23 h => ?_)
        refine V_if_eq 49 dX0_begin_26 (by decide) (fun q26 => ?_) (fun q26 => ?_)
        · replace h := h.1 q26
          refine V_iincC 1 dX0_begin_49 (by decide) rfl (by decide) ?_
          refine V_goto 7 dX0_begin_52 (by decide) ?_
          refine V_take 3 ?_
          exact hR7 _ _ h
        · replace h := h.2 q26
          refine V_aload_n dX0_begin_29 rfl ?_
          refine V_getR 16 fl_X0_9 dX0_begin_30 rfl rfl rfl ?_
          refine V_aload_n dX0_begin_33 rfl ?_
          refine V_getI fl_X0_15 dX0_begin_34 rfl rfl ?_
          refine V_iload_n dX0_begin_37 rfl ?_
          obtain ⟨hi38, h⟩ := h
          refine V_iastN dX0_begin_38 rfl hi38 (fun N38 e38 => ?_)
          replace h := h N38 e38
          refine V_aload_n dX0_begin_39 rfl ?_
          refine V_dup dX0_begin_40 rfl ?_
          refine V_getI fl_X0_15 dX0_begin_41 rfl rfl ?_
          refine V_iconst 1 dX0_begin_44 (by decide) ?_
          refine V_iadd dX0_begin_45 ?_
          refine V_putN fp_X0_15 dX0_begin_46 rfl rfl rfl rfl (fun N46 e46 => ?_)
          replace h := h N46 e46
          refine V_iincC 1 dX0_begin_49 (by decide) rfl (by decide) ?_
          refine V_goto 7 dX0_begin_52 (by decide) ?_
          refine V_take 3 ?_
          exact hR7 _ _ h
def wX7_clear (a0 : Nat) (M : Mem) (Q : Mem → Prop) : Prop :=
  (50 ≤ a0 ∧ a0 < 100) ∧ (∀ N2, N2 = mset M a0 1 0 → Q N2)
set_option maxHeartbeats 1000000 in
set_option maxRecDepth 20000 in
theorem sX7_clear {E : En} {a0 : Nat} {M : Mem} {Q : Mem → Prop} (h : wX7_clear a0 M Q) : CM E 1 mX7_clear [.ref (E.2.2 a0)] M (Pv Q) := by
  unfold wX7_clear at h
  obtain ⟨hk0, h⟩ := h
  refine CM.of (by decide) rfl (Nat.le_of_ble_eq_true rfl) ?_
  refine V_aload_n dX7_clear_0 rfl ?_
  refine V_iconst 0 dX7_clear_1 (by decide) ?_
  refine V_putN fp_X7_15 dX7_clear_2 (kd_X7 (by omega)) rfl rfl rfl (fun N2 e2 => ?_)
  replace h := h N2 e2
  exact V_retv dX7_clear_5 rfl h
def wX0_writeTo (a1 : Nat) (a2 : Int32) (M : Mem) (Q : Mem → Prop) : Prop :=
  (50 ≤ a1 ∧ a1 < 100) ∧ wX7_clear a1 M (fun M1 => ((1 ≤ (M1 15 1) →
      (∃ n, lq2 (fun R18 (x18_3 : Int32) (x18_4 : Int32) (M18 : Mem) => jn0 (fun (M59 : Mem) => (∃ n, lq2 (fun R67 (x67_3 : Int32) (x67_5 : Int32) (M67 : Mem) => ((x67_5 < 0 →
              Q M67) ∧ (¬ x67_5 < 0 →
              ¬ (M67 15 1) = 0 ∧ vp_in (x67_3 - x67_3 / (M67 15 1) * (M67 15 1)) 5 ∧ vp_in x67_5 8 ∧ (∀ N89, N89 = mset M67 (a1 + 50) (Int32.toNatClampNeg x67_5) (M67 16 (Int32.toNatClampNeg (x67_3 - x67_3 / (M67 15 1) * (M67 15 1)))) → ¬ (N89 15 1) = 0 ∧ R67 (x67_3 / (N89 15 1)) (x67_5 + (-1)) N89)))) n x18_3 ((M59 a1 1) - 1) M59)) (fun J59 => ((3 ≤ (M18 a1 1) →
            J59 M18) ∧ (¬ 3 ≤ (M18 a1 1) →
            ((x18_3 < x18_4 →
              J59 M18) ∧ (¬ x18_3 < x18_4 →
              (∀ N53, N53 = mset M18 a1 1 ((M18 a1 1) + 1) → R18 (x18_3 - x18_4) (x18_4 * (M18 15 1)) N53))))))) n a2 1 M1)) ∧ (¬ 1 ≤ (M1 15 1) →
      Q M1)))
set_option maxHeartbeats 1000000 in
set_option maxRecDepth 20000 in
theorem sX0_writeTo {E : En} {a1 : Nat} {a2 : Int32} {M : Mem} {Q : Mem → Prop} (h : wX0_writeTo a1 a2 M Q) : CM E 2 mX0_writeTo [.ref (E.2.2 15), .ref (E.2.2 a1), .int a2] M (Pv Q) := by
  unfold wX0_writeTo at h
  obtain ⟨hk1, h⟩ := h
  refine CM.of (by decide) rfl (Nat.le_of_ble_eq_true rfl) ?_
  refine V_aload_n dX0_writeTo_0 rfl ?_
  refine M_Vv mv_X7_clear lk_X0_26 dX0_writeTo_1 rfl (kd_X7 (by omega)) (sX7_clear h) rfl rfl (Nat.le_of_ble_eq_true rfl) (by decide) (by decide) (fun M1 h => ?_)
  refine V_aload_n dX0_writeTo_4 rfl ?_
  refine V_getI fl_X0_15 dX0_writeTo_5 rfl rfl ?_
  refine V_iconst 1 dX0_writeTo_8 (by decide) ?_
  refine V_icmp_ge 13 dX0_writeTo_9 (by decide) (fun q9 => ?_) (fun q9 => ?_)
  · replace h := h.1 q9
    refine V_iload_n dX0_writeTo_13 rfl ?_
    refine V_istore_n dX0_writeTo_14 (by decide) ?_
    refine V_iconst 1 dX0_writeTo_15 (by decide) ?_
    refine V_istore dX0_writeTo_16 (by decide) ?_
    obtain ⟨n18, h⟩ := h
    refine V_take 5 ?_
    refine lq2_use (P := fun (x18_3 : Int32) (x18_4 : Int32) (M18 : Mem) => ∀ j18_2 : Value, V (Km E 2 (Pv Q)) mX0_writeTo 18 [.ref (E.2.2 15), .ref (E.2.2 a1), j18_2, .int x18_3, .int x18_4] [] (wsM E.1 E.2.2 M18) 0 0) (fun R18 hR18 x18_3 x18_4 M18 h j18_2 => ?_) n18 _ _ _ h _
    refine V_aload_n dX0_writeTo_18 rfl ?_
    refine V_getI fl_X0_31 dX0_writeTo_19 (kd_X7 (by omega)) rfl ?_
    refine V_iconst 3 dX0_writeTo_22 (by decide) ?_
    refine jn0_use (P := fun (M59 : Mem) => ∀ j59_2 : Value, ∀ j59_4 : Value, V (Km E 2 (Pv Q)) mX0_writeTo 59 [.ref (E.2.2 15), .ref (E.2.2 a1), j59_2, .int x18_3, j59_4] [] (wsM E.1 E.2.2 M59) 0 0) (fun M59 h j59_2 j59_4 => ?_) (fun J59 hJ59 h => ?_) h
    · refine V_aload_n dX0_writeTo_59 rfl ?_
      refine V_getI fl_X0_31 dX0_writeTo_60 (kd_X7 (by omega)) rfl ?_
      refine V_iconst 1 dX0_writeTo_63 (by decide) ?_
      refine V_isub dX0_writeTo_64 ?_
      refine V_istore dX0_writeTo_65 (by decide) ?_
      obtain ⟨n67, h⟩ := h
      refine V_take 6 ?_
      refine lq2_use (P := fun (x67_3 : Int32) (x67_5 : Int32) (M67 : Mem) => ∀ j67_2 : Value, ∀ j67_4 : Value, V (Km E 2 (Pv Q)) mX0_writeTo 67 [.ref (E.2.2 15), .ref (E.2.2 a1), j67_2, .int x67_3, j67_4, .int x67_5] [] (wsM E.1 E.2.2 M67) 0 0) (fun R67 hR67 x67_3 x67_5 M67 h j67_2 j67_4 => ?_) n67 _ _ _ h _ _
      refine V_iload dX0_writeTo_67 rfl ?_
      refine V_if_lt 103 dX0_writeTo_69 (by decide) (fun q69 => ?_) (fun q69 => ?_)
      · replace h := h.1 q69
        exact V_retv dX0_writeTo_103 rfl h
      · replace h := h.2 q69
        refine V_aload_n dX0_writeTo_72 rfl ?_
        refine V_getR (a1 + 50) fl_X0_34 dX0_writeTo_73 (kd_X7 (by omega)) rfl (rf_X7 (by omega)) ?_
        refine V_iload dX0_writeTo_76 rfl ?_
        refine V_aload_n dX0_writeTo_78 rfl ?_
        refine V_getR 16 fl_X0_9 dX0_writeTo_79 rfl rfl rfl ?_
        refine V_iload_n dX0_writeTo_82 rfl ?_
        refine V_aload_n dX0_writeTo_83 rfl ?_
        refine V_getI fl_X0_15 dX0_writeTo_84 rfl rfl ?_
        obtain ⟨hz87, h⟩ := h
        refine V_irem dX0_writeTo_87 hz87 ?_
        obtain ⟨hi88, h⟩ := h
        refine V_ialdM dX0_writeTo_88 rfl hi88 ?_
        obtain ⟨hi89, h⟩ := h
        refine V_iastN dX0_writeTo_89 (kd_num (by omega)) (by rw [(ln_num (by omega))]; exact hi89) (fun N89 e89 => ?_)
        replace h := h N89 e89
        refine V_iload_n dX0_writeTo_90 rfl ?_
        refine V_aload_n dX0_writeTo_91 rfl ?_
        refine V_getI fl_X0_15 dX0_writeTo_92 rfl rfl ?_
        obtain ⟨hz95, h⟩ := h
        refine V_idiv dX0_writeTo_95 hz95 ?_
        refine V_istore_n dX0_writeTo_96 (by decide) ?_
        refine V_iincC (-1) dX0_writeTo_97 (by decide) rfl (by decide) ?_
        refine V_goto 67 dX0_writeTo_100 (by decide) ?_
        refine V_take 6 ?_
        exact hR67 _ _ _ h _ _
    · refine V_icmp_ge 59 dX0_writeTo_23 (by decide) (fun q23 => ?_) (fun q23 => ?_)
      · replace h := h.1 q23
        refine V_take 5 ?_
        exact hJ59 _ h _ _
      · replace h := h.2 q23
        refine V_iload_n dX0_writeTo_26 rfl ?_
        refine V_iload dX0_writeTo_27 rfl ?_
        refine V_icmp_lt 59 dX0_writeTo_29 (by decide) (fun q29 => ?_) (fun q29 => ?_)
        · replace h := h.1 q29
          refine V_take 5 ?_
          exact hJ59 _ h _ _
        · replace h := h.2 q29
          refine V_iload_n dX0_writeTo_32 rfl ?_
          refine V_iload dX0_writeTo_33 rfl ?_
          refine V_isub dX0_writeTo_35 ?_
          refine V_istore_n dX0_writeTo_36 (by decide) ?_
          refine V_iload dX0_writeTo_37 rfl ?_
          refine V_aload_n dX0_writeTo_39 rfl ?_
          refine V_getI fl_X0_15 dX0_writeTo_40 rfl rfl ?_
          refine V_imul dX0_writeTo_43 ?_
          refine V_istore dX0_writeTo_44 (by decide) ?_
          refine V_aload_n dX0_writeTo_46 rfl ?_
          refine V_dup dX0_writeTo_47 rfl ?_
          refine V_getI fl_X0_31 dX0_writeTo_48 (kd_X7 (by omega)) rfl ?_
          refine V_iconst 1 dX0_writeTo_51 (by decide) ?_
          refine V_iadd dX0_writeTo_52 ?_
          refine V_putN fp_X0_31 dX0_writeTo_53 (kd_X7 (by omega)) rfl rfl rfl (fun N53 e53 => ?_)
          replace h := h N53 e53
          refine V_goto 18 dX0_writeTo_56 (by decide) ?_
          refine V_take 5 ?_
          exact hR18 _ _ _ h _
  · replace h := h.2 q9
    exact V_retv dX0_writeTo_12 rfl h
def wX1_addEntry (a0 : Nat) (a1 : Int32) (a2 : Nat) (a3 : Int32) (M : Mem) (Q : Int32 → Mem → Prop) : Prop :=
  (20 ≤ a0 ∧ a0 < 23) ∧ kd a2 = 20 ∧ (((M a0 3) < 10 →
    ¬ (0 : Int32) < 0 ∧ ¬ (((M a0 3) * 3) : Int32) < 0 ∧ ¬ (a3 : Int32) < 0 ∧ Int32.toNatClampNeg 0 + Int32.toNatClampNeg a3 ≤ (ln a2) ∧ Int32.toNatClampNeg ((M a0 3) * 3) + Int32.toNatClampNeg a3 ≤ 30 ∧ (∀ N25, N25 = mcpy M a2 (a0 + 3) (Int32.toNatClampNeg 0) (Int32.toNatClampNeg ((M a0 3) * 3)) (Int32.toNatClampNeg a3) → vp_in (N25 a0 3) 10 ∧ (∀ N37, N37 = mset N25 (a0 + 6) (Int32.toNatClampNeg (N25 a0 3)) a3 → vp_in (N37 a0 3) 10 ∧ (∀ N47, N47 = mset N37 (a0 + 9) (Int32.toNatClampNeg (N37 a0 3)) a1 → (∀ N55, N55 = mset N47 a0 3 ((N47 a0 3) + 1) → Q (N55 a0 3) N55))))) ∧ (¬ (M a0 3) < 10 →
    Q (-4) M))
set_option maxHeartbeats 1000000 in
set_option maxRecDepth 20000 in
theorem sX1_addEntry {E : En} {a0 : Nat} {a1 : Int32} {a2 : Nat} {a3 : Int32} {M : Mem} {Q : Int32 → Mem → Prop} (h : wX1_addEntry a0 a1 a2 a3 M Q) : CM E 1 mX1_addEntry [.ref (E.2.2 a0), .int a1, .ref (E.2.2 a2), .int a3] M (Pi Q) := by
  unfold wX1_addEntry at h
  obtain ⟨hk0, h⟩ := h
  obtain ⟨hk2, h⟩ := h
  refine CM.of (by decide) rfl (Nat.le_of_ble_eq_true rfl) ?_
  refine V_aload_n dX1_addEntry_0 rfl ?_
  refine V_getI fl_X1_21 dX1_addEntry_1 (kd_X1 (by omega)) rfl ?_
  refine V_bipush 10 dX1_addEntry_4 (by decide) ?_
  refine V_icmp_lt 12 dX1_addEntry_6 (by decide) (fun q6 => ?_) (fun q6 => ?_)
  · replace h := h.1 q6
    refine V_aload_n dX1_addEntry_12 rfl ?_
    refine V_iconst 0 dX1_addEntry_13 (by decide) ?_
    refine V_aload_n dX1_addEntry_14 rfl ?_
    refine V_getR (a0 + 3) fl_X1_9 dX1_addEntry_15 (kd_X1 (by omega)) rfl (rf_X1_0 (by omega)) ?_
    refine V_aload_n dX1_addEntry_18 rfl ?_
    refine V_getI fl_X1_21 dX1_addEntry_19 (kd_X1 (by omega)) rfl ?_
    refine V_iconst 3 dX1_addEntry_22 (by decide) ?_
    refine V_imul dX1_addEntry_23 ?_
    refine V_iload_n dX1_addEntry_24 rfl ?_
    obtain ⟨hc25_1, hc25_2, hc25_3, hc25_4, hc25_5, h⟩ := h
    refine V_copyN lc_X1_25 dX1_addEntry_25 hk2 (kd_col0 (by omega)) hc25_1 hc25_2 hc25_3 hc25_4 (by rw [(ln_col0 (by omega))]; exact hc25_5) (Nat.le_of_ble_eq_true rfl) (Nat.le_of_ble_eq_true rfl) (fun N25 e25 => ?_)
    replace h := h N25 e25
    refine V_aload_n dX1_addEntry_28 rfl ?_
    refine V_getR (a0 + 6) fl_X1_15 dX1_addEntry_29 (kd_X1 (by omega)) rfl (rf_X1_1 (by omega)) ?_
    refine V_aload_n dX1_addEntry_32 rfl ?_
    refine V_getI fl_X1_21 dX1_addEntry_33 (kd_X1 (by omega)) rfl ?_
    refine V_iload_n dX1_addEntry_36 rfl ?_
    obtain ⟨hi37, h⟩ := h
    refine V_iastN dX1_addEntry_37 (kd_col1 (by omega)) (by rw [(ln_col1 (by omega))]; exact hi37) (fun N37 e37 => ?_)
    replace h := h N37 e37
    refine V_aload_n dX1_addEntry_38 rfl ?_
    refine V_getR (a0 + 9) fl_X1_18 dX1_addEntry_39 (kd_X1 (by omega)) rfl (rf_X1_2 (by omega)) ?_
    refine V_aload_n dX1_addEntry_42 rfl ?_
    refine V_getI fl_X1_21 dX1_addEntry_43 (kd_X1 (by omega)) rfl ?_
    refine V_iload_n dX1_addEntry_46 rfl ?_
    obtain ⟨hi47, h⟩ := h
    refine V_iastN dX1_addEntry_47 (kd_col2 (by omega)) (by rw [(ln_col2 (by omega))]; exact hi47) (fun N47 e47 => ?_)
    replace h := h N47 e47
    refine V_aload_n dX1_addEntry_48 rfl ?_
    refine V_dup dX1_addEntry_49 rfl ?_
    refine V_getI fl_X1_21 dX1_addEntry_50 (kd_X1 (by omega)) rfl ?_
    refine V_iconst 1 dX1_addEntry_53 (by decide) ?_
    refine V_iadd dX1_addEntry_54 ?_
    refine V_putN fp_X1_21 dX1_addEntry_55 (kd_X1 (by omega)) rfl rfl rfl (fun N55 e55 => ?_)
    replace h := h N55 e55
    refine V_aload_n dX1_addEntry_58 rfl ?_
    refine V_getI fl_X1_21 dX1_addEntry_59 (kd_X1 (by omega)) rfl ?_
    exact V_reti dX1_addEntry_62 rfl rfl h
  · replace h := h.2 q6
    refine V_bipush (-4) dX1_addEntry_9 (by decide) ?_
    exact V_reti dX1_addEntry_11 rfl rfl h
def wX1_stands (a0 : Nat) (a1 : Int32) (a2 : Nat) (a3 : Int32) (a4 : Int32) (M : Mem) (Q : Int32 → Mem → Prop) : Prop :=
  (20 ≤ a0 ∧ a0 < 23) ∧ kd a2 = 20 ∧ vp_in a1 10 ∧ (((M (a0 + 6) (Int32.toNatClampNeg a1)) ≤ (a4 - a3) →
    (∃ n, lq1 (fun R18 (x18_5 : Int32) (M18 : Mem) => (((M18 (a0 + 6) (Int32.toNatClampNeg a1)) ≤ x18_5 →
        Q 1 M18) ∧ (¬ (M18 (a0 + 6) (Int32.toNatClampNeg a1)) ≤ x18_5 →
        vp_in (a3 + x18_5) (ln a2) ∧ vp_in ((a1 * 3) + x18_5) 30 ∧ (((M18 a2 (Int32.toNatClampNeg (a3 + x18_5))) = (M18 (a0 + 3) (Int32.toNatClampNeg ((a1 * 3) + x18_5))) →
          R18 (x18_5 + 1) M18) ∧ (¬ (M18 a2 (Int32.toNatClampNeg (a3 + x18_5))) = (M18 (a0 + 3) (Int32.toNatClampNeg ((a1 * 3) + x18_5))) →
          Q 0 M18))))) n 0 M)) ∧ (¬ (M (a0 + 6) (Int32.toNatClampNeg a1)) ≤ (a4 - a3) →
    Q 0 M))
set_option maxHeartbeats 1000000 in
set_option maxRecDepth 20000 in
theorem sX1_stands {E : En} {a0 : Nat} {a1 : Int32} {a2 : Nat} {a3 : Int32} {a4 : Int32} {M : Mem} {Q : Int32 → Mem → Prop} (h : wX1_stands a0 a1 a2 a3 a4 M Q) : CM E 1 mX1_stands [.ref (E.2.2 a0), .int a1, .ref (E.2.2 a2), .int a3, .int a4] M (Pi Q) := by
  unfold wX1_stands at h
  obtain ⟨hk0, h⟩ := h
  obtain ⟨hk2, h⟩ := h
  refine CM.of (by decide) rfl (Nat.le_of_ble_eq_true rfl) ?_
  refine V_aload_n dX1_stands_0 rfl ?_
  refine V_getR (a0 + 6) fl_X1_15 dX1_stands_1 (kd_X1 (by omega)) rfl (rf_X1_1 (by omega)) ?_
  refine V_iload_n dX1_stands_4 rfl ?_
  obtain ⟨hi5, h⟩ := h
  refine V_ialdM dX1_stands_5 (kd_col1 (by omega)) (by rw [(ln_col1 (by omega))]; exact hi5) ?_
  refine V_iload dX1_stands_6 rfl ?_
  refine V_iload_n dX1_stands_8 rfl ?_
  refine V_isub dX1_stands_9 ?_
  refine V_icmp_le 15 dX1_stands_10 (by decide) (fun q10 => ?_) (fun q10 => ?_)
  · replace h := h.1 q10
    refine V_iconst 0 dX1_stands_15 (by decide) ?_
    refine V_istore dX1_stands_16 (by decide) ?_
    obtain ⟨n18, h⟩ := h
    refine V_take 6 ?_
    refine lq1_use (P := fun (x18_5 : Int32) (M18 : Mem) => ∀ j18_4 : Value, V (Km E 1 (Pi Q)) mX1_stands 18 [.ref (E.2.2 a0), .int a1, .ref (E.2.2 a2), .int a3, j18_4, .int x18_5] [] (wsM E.1 E.2.2 M18) 0 0) (fun R18 hR18 x18_5 M18 h j18_4 => ?_) n18 _ _ h _
    refine V_iload dX1_stands_18 rfl ?_
    refine V_aload_n dX1_stands_20 rfl ?_
    refine V_getR (a0 + 6) fl_X1_15 dX1_stands_21 (kd_X1 (by omega)) rfl (rf_X1_1 (by omega)) ?_
    refine V_iload_n dX1_stands_24 rfl ?_
    refine V_ialdM dX1_stands_25 (kd_col1 (by omega)) (by rw [(ln_col1 (by omega))]; exact hi5) ?_
    refine V_icmp_ge 57 dX1_stands_26 (by decide) (fun q26 => ?_) (fun q26 => ?_)
    · replace h := h.1 q26
      refine V_iconst 1 dX1_stands_57 (by decide) ?_
      exact V_reti dX1_stands_58 rfl rfl h
    · replace h := h.2 q26
      refine V_aload_n dX1_stands_29 rfl ?_
      refine V_iload_n dX1_stands_30 rfl ?_
      refine V_iload dX1_stands_31 rfl ?_
      refine V_iadd dX1_stands_33 ?_
      obtain ⟨hi34, h⟩ := h
      refine V_ialdM dX1_stands_34 hk2 hi34 ?_
      refine V_aload_n dX1_stands_35 rfl ?_
      refine V_getR (a0 + 3) fl_X1_9 dX1_stands_36 (kd_X1 (by omega)) rfl (rf_X1_0 (by omega)) ?_
      refine V_iload_n dX1_stands_39 rfl ?_
      refine V_iconst 3 dX1_stands_40 (by decide) ?_
      refine V_imul dX1_stands_41 ?_
      refine V_iload dX1_stands_42 rfl ?_
      refine V_iadd dX1_stands_44 ?_
      obtain ⟨hi45, h⟩ := h
      refine V_ialdM dX1_stands_45 (kd_col0 (by omega)) (by rw [(ln_col0 (by omega))]; exact hi45) ?_
      refine V_icmp_eq 51 dX1_stands_46 (by decide) (fun q46 => ?_) (fun q46 => ?_)
      · replace h := h.1 q46
        refine V_iincC 1 dX1_stands_51 (by decide) rfl (by decide) ?_
        refine V_goto 18 dX1_stands_54 (by decide) ?_
        refine V_take 6 ?_
        exact hR18 _ _ h _
      · replace h := h.2 q46
        refine V_iconst 0 dX1_stands_49 (by decide) ?_
        exact V_reti dX1_stands_50 rfl rfl h
  · replace h := h.2 q10
    refine V_iconst 0 dX1_stands_13 (by decide) ?_
    exact V_reti dX1_stands_14 rfl rfl h
def wX1_longestAt (a0 : Nat) (a1 : Nat) (a2 : Int32) (a3 : Int32) (M : Mem) (Q : Int32 → Mem → Prop) : Prop :=
  (20 ≤ a0 ∧ a0 < 23) ∧ kd a1 = 20 ∧ (∃ n, lq2 (fun R7 (x7_4 : Int32) (x7_5 : Int32) (M7 : Mem) => (((M7 a0 3) ≤ x7_5 →
      Q x7_4 M7) ∧ (¬ (M7 a0 3) ≤ x7_5 →
      jn1 (fun (y45_0 : Int32) (M45 : Mem) => ((y45_0 = 0 →
          R7 x7_4 (x7_5 + 1) M45) ∧ (¬ y45_0 = 0 →
          wX1_stands a0 x7_5 a1 a2 a3 M45 (fun v58 M58 => ((v58 = 0 →
              R7 x7_4 (x7_5 + 1) M58) ∧ (¬ v58 = 0 →
              R7 x7_5 (x7_5 + 1) M58)))))) (fun J45 => ((x7_4 = (-9) →
          J45 1 M7) ∧ (¬ x7_4 = (-9) →
          vp_in x7_5 10 ∧ vp_in x7_4 10 ∧ (((M7 (a0 + 6) (Int32.toNatClampNeg x7_5)) < (M7 (a0 + 6) (Int32.toNatClampNeg x7_4)) →
            J45 0 M7) ∧ (¬ (M7 (a0 + 6) (Int32.toNatClampNeg x7_5)) < (M7 (a0 + 6) (Int32.toNatClampNeg x7_4)) →
            J45 1 M7)))))))) n (-9) 0 M)
set_option maxHeartbeats 1000000 in
set_option maxRecDepth 20000 in
theorem sX1_longestAt {E : En} {a0 : Nat} {a1 : Nat} {a2 : Int32} {a3 : Int32} {M : Mem} {Q : Int32 → Mem → Prop} (h : wX1_longestAt a0 a1 a2 a3 M Q) : CM E 2 mX1_longestAt [.ref (E.2.2 a0), .ref (E.2.2 a1), .int a2, .int a3] M (Pi Q) := by
  unfold wX1_longestAt at h
  obtain ⟨hk0, h⟩ := h
  obtain ⟨hk1, h⟩ := h
  refine CM.of (by decide) rfl (Nat.le_of_ble_eq_true rfl) ?_
  refine V_bipush (-9) dX1_longestAt_0 (by decide) ?_
  refine V_istore dX1_longestAt_2 (by decide) ?_
  refine V_iconst 0 dX1_longestAt_4 (by decide) ?_
  refine V_istore dX1_longestAt_5 (by decide) ?_
  obtain ⟨n7, h⟩ := h
  refine V_take 6 ?_
  refine lq2_use (P := fun (x7_4 : Int32) (x7_5 : Int32) (M7 : Mem) => V (Km E 2 (Pi Q)) mX1_longestAt 7 [.ref (E.2.2 a0), .ref (E.2.2 a1), .int a2, .int a3, .int x7_4, .int x7_5] [] (wsM E.1 E.2.2 M7) 0 0) (fun R7 hR7 x7_4 x7_5 M7 h => ?_) n7 _ _ _ h
  refine V_iload dX1_longestAt_7 rfl ?_
  refine V_aload_n dX1_longestAt_9 rfl ?_
  refine V_getI fl_X1_21 dX1_longestAt_10 (kd_X1 (by omega)) rfl ?_
  refine V_icmp_ge 74 dX1_longestAt_13 (by decide) (fun q13 => ?_) (fun q13 => ?_)
  · replace h := h.1 q13
    refine V_iload dX1_longestAt_74 rfl ?_
    exact V_reti dX1_longestAt_76 rfl rfl h
  · replace h := h.2 q13
    refine V_iload dX1_longestAt_16 rfl ?_
    refine V_bipush (-9) dX1_longestAt_18 (by decide) ?_
    refine jn1_use (P := fun (y45_0 : Int32) (M45 : Mem) => V (Km E 2 (Pi Q)) mX1_longestAt 45 [.ref (E.2.2 a0), .ref (E.2.2 a1), .int a2, .int a3, .int x7_4, .int x7_5] [.int y45_0] (wsM E.1 E.2.2 M45) 0 0) (fun y45_0 M45 h => ?_) (fun J45 hJ45 h => ?_) h
    · refine V_istore dX1_longestAt_45 (by decide) ?_
      refine V_iload dX1_longestAt_47 rfl ?_
      refine V_if_eq 68 dX1_longestAt_49 (by decide) (fun q49 => ?_) (fun q49 => ?_)
      · replace h := h.1 q49
        refine V_iincC 1 dX1_longestAt_68 (by decide) rfl (by decide) ?_
        refine V_goto 7 dX1_longestAt_71 (by decide) ?_
        refine V_take 6 ?_
        exact hR7 _ _ _ h
      · replace h := h.2 q49
        refine V_aload_n dX1_longestAt_52 rfl ?_
        refine V_iload dX1_longestAt_53 rfl ?_
        refine V_aload_n dX1_longestAt_55 rfl ?_
        refine V_iload_n dX1_longestAt_56 rfl ?_
        refine V_iload_n dX1_longestAt_57 rfl ?_
        refine M_Vi mv_X1_stands lk_X1_44 dX1_longestAt_58 rfl (kd_X1 (by omega)) (sX1_stands h) rfl rfl (Nat.le_of_ble_eq_true rfl) (by decide) (by decide) (fun v58 M58 h => ?_)
        refine V_if_eq 68 dX1_longestAt_61 (by decide) (fun q61 => ?_) (fun q61 => ?_)
        · replace h := h.1 q61
          refine V_iincC 1 dX1_longestAt_68 (by decide) rfl (by decide) ?_
          refine V_goto 7 dX1_longestAt_71 (by decide) ?_
          refine V_take 6 ?_
          exact hR7 _ _ _ h
        · replace h := h.2 q61
          refine V_iload dX1_longestAt_64 rfl ?_
          refine V_istore dX1_longestAt_66 (by decide) ?_
          refine V_iincC 1 dX1_longestAt_68 (by decide) rfl (by decide) ?_
          refine V_goto 7 dX1_longestAt_71 (by decide) ?_
          refine V_take 6 ?_
          exact hR7 _ _ _ h
    · refine V_icmp_eq 40 dX1_longestAt_20 (by decide) (fun q20 => ?_) (fun q20 => ?_)
      · replace h := h.1 q20
        refine V_iconst 1 dX1_longestAt_40 (by decide) ?_
        refine V_goto 45 dX1_longestAt_41 (by decide) ?_
        refine V_take 6 ?_
        exact hJ45 _ _ h
      · replace h := h.2 q20
        refine V_aload_n dX1_longestAt_23 rfl ?_
        refine V_getR (a0 + 6) fl_X1_15 dX1_longestAt_24 (kd_X1 (by omega)) rfl (rf_X1_1 (by omega)) ?_
        refine V_iload dX1_longestAt_27 rfl ?_
        obtain ⟨hi29, h⟩ := h
        refine V_ialdM dX1_longestAt_29 (kd_col1 (by omega)) (by rw [(ln_col1 (by omega))]; exact hi29) ?_
        refine V_aload_n dX1_longestAt_30 rfl ?_
        refine V_getR (a0 + 6) fl_X1_15 dX1_longestAt_31 (kd_X1 (by omega)) rfl (rf_X1_1 (by omega)) ?_
        refine V_iload dX1_longestAt_34 rfl ?_
        obtain ⟨hi36, h⟩ := h
        refine V_ialdM dX1_longestAt_36 (kd_col1 (by omega)) (by rw [(ln_col1 (by omega))]; exact hi36) ?_
        refine V_icmp_lt 44 dX1_longestAt_37 (by decide) (fun q37 => ?_) (fun q37 => ?_)
        · replace h := h.1 q37
          refine V_iconst 0 dX1_longestAt_44 (by decide) ?_
          refine V_take 6 ?_
          exact hJ45 _ _ h
        · replace h := h.2 q37
          refine V_iconst 1 dX1_longestAt_40 (by decide) ?_
          refine V_goto 45 dX1_longestAt_41 (by decide) ?_
          refine V_take 6 ?_
          exact hJ45 _ _ h
def wX7_add (a0 : Nat) (a1 : Int32) (M : Mem) (Q : Mem → Prop) : Prop :=
  (50 ≤ a0 ∧ a0 < 100) ∧ ((8 ≤ (M a0 1) →
    Q M) ∧ (¬ 8 ≤ (M a0 1) →
    vp_in (M a0 1) 8 ∧ (∀ N18, N18 = mset M (a0 + 50) (Int32.toNatClampNeg (M a0 1)) a1 → (∀ N26, N26 = mset N18 a0 1 ((N18 a0 1) + 1) → Q N26))))
set_option maxHeartbeats 1000000 in
set_option maxRecDepth 20000 in
theorem sX7_add {E : En} {a0 : Nat} {a1 : Int32} {M : Mem} {Q : Mem → Prop} (h : wX7_add a0 a1 M Q) : CM E 1 mX7_add [.ref (E.2.2 a0), .int a1] M (Pv Q) := by
  unfold wX7_add at h
  obtain ⟨hk0, h⟩ := h
  refine CM.of (by decide) rfl (Nat.le_of_ble_eq_true rfl) ?_
  refine V_aload_n dX7_add_0 rfl ?_
  refine V_getI fl_X7_15 dX7_add_1 (kd_X7 (by omega)) rfl ?_
  refine V_bipush 8 dX7_add_4 (by decide) ?_
  refine V_icmp_ge 29 dX7_add_6 (by decide) (fun q6 => ?_) (fun q6 => ?_)
  · replace h := h.1 q6
    exact V_retv dX7_add_29 rfl h
  · replace h := h.2 q6
    refine V_aload_n dX7_add_9 rfl ?_
    refine V_getR (a0 + 50) fl_X7_9 dX7_add_10 (kd_X7 (by omega)) rfl (rf_X7 (by omega)) ?_
    refine V_aload_n dX7_add_13 rfl ?_
    refine V_getI fl_X7_15 dX7_add_14 (kd_X7 (by omega)) rfl ?_
    refine V_iload_n dX7_add_17 rfl ?_
    obtain ⟨hi18, h⟩ := h
    refine V_iastN dX7_add_18 (kd_num (by omega)) (by rw [(ln_num (by omega))]; exact hi18) (fun N18 e18 => ?_)
    replace h := h N18 e18
    refine V_aload_n dX7_add_19 rfl ?_
    refine V_dup dX7_add_20 rfl ?_
    refine V_getI fl_X7_15 dX7_add_21 (kd_X7 (by omega)) rfl ?_
    refine V_iconst 1 dX7_add_24 (by decide) ?_
    refine V_iadd dX7_add_25 ?_
    refine V_putN fp_X7_15 dX7_add_26 (kd_X7 (by omega)) rfl rfl rfl (fun N26 e26 => ?_)
    replace h := h N26 e26
    exact V_retv dX7_add_29 rfl h
def wX1_readInto (a0 : Nat) (a1 : Nat) (a2 : Nat) (a3 : Int32) (M : Mem) (Q : Int32 → Mem → Prop) : Prop :=
  (20 ≤ a0 ∧ a0 < 23) ∧ (50 ≤ a1 ∧ a1 < 100) ∧ kd a2 = 20 ∧ wX7_clear a1 M (fun M1 => (∃ n, lq2 (fun R10 (x10_4 : Int32) (x10_5 : Int32) (M10 : Mem) => ((8 < x10_5 →
        Q (-9) M10) ∧ (¬ 8 < x10_5 →
        ((a3 ≤ x10_4 →
          Q (-9) M10) ∧ (¬ a3 ≤ x10_4 →
          wX1_longestAt a0 a2 x10_4 a3 M10 (fun v28 M28 => ((v28 = (-9) →
              Q x10_4 M28) ∧ (¬ v28 = (-9) →
              ((¬ x10_5 = 8 →
                vp_in v28 10 ∧ wX7_add a1 (M28 (a0 + 9) (Int32.toNatClampNeg v28)) M28 (fun M58 => R10 (x10_4 + (M58 (a0 + 6) (Int32.toNatClampNeg v28))) (x10_5 + 1) M58)) ∧ (x10_5 = 8 →
                Q x10_4 M28)))))))))) n 0 0 M1))
set_option maxHeartbeats 1000000 in
set_option maxRecDepth 20000 in
theorem sX1_readInto {E : En} {a0 : Nat} {a1 : Nat} {a2 : Nat} {a3 : Int32} {M : Mem} {Q : Int32 → Mem → Prop} (h : wX1_readInto a0 a1 a2 a3 M Q) : CM E 3 mX1_readInto [.ref (E.2.2 a0), .ref (E.2.2 a1), .ref (E.2.2 a2), .int a3] M (Pi Q) := by
  unfold wX1_readInto at h
  obtain ⟨hk0, h⟩ := h
  obtain ⟨hk1, h⟩ := h
  obtain ⟨hk2, h⟩ := h
  refine CM.of (by decide) rfl (Nat.le_of_ble_eq_true rfl) ?_
  refine V_aload_n dX1_readInto_0 rfl ?_
  refine M_Vv mv_X7_clear lk_X1_31 dX1_readInto_1 rfl (kd_X7 (by omega)) (sX7_clear h) rfl rfl (Nat.le_of_ble_eq_true rfl) (by decide) (by decide) (fun M1 h => ?_)
  refine V_iconst 0 dX1_readInto_4 (by decide) ?_
  refine V_istore dX1_readInto_5 (by decide) ?_
  refine V_iconst 0 dX1_readInto_7 (by decide) ?_
  refine V_istore dX1_readInto_8 (by decide) ?_
  obtain ⟨n10, h⟩ := h
  refine V_take 6 ?_
  refine lq2_use (P := fun (x10_4 : Int32) (x10_5 : Int32) (M10 : Mem) => V (Km E 3 (Pi Q)) mX1_readInto 10 [.ref (E.2.2 a0), .ref (E.2.2 a1), .ref (E.2.2 a2), .int a3, .int x10_4, .int x10_5] [] (wsM E.1 E.2.2 M10) 0 0) (fun R10 hR10 x10_4 x10_5 M10 h => ?_) n10 _ _ _ h
  refine V_iload dX1_readInto_10 rfl ?_
  refine V_bipush 8 dX1_readInto_12 (by decide) ?_
  refine V_icmp_gt 79 dX1_readInto_14 (by decide) (fun q14 => ?_) (fun q14 => ?_)
  · replace h := h.1 q14
    refine V_bipush (-9) dX1_readInto_79 (by decide) ?_
    exact V_reti dX1_readInto_81 rfl rfl h
  · replace h := h.2 q14
    refine V_iload dX1_readInto_17 rfl ?_
    refine V_iload_n dX1_readInto_19 rfl ?_
    refine V_icmp_ge 79 dX1_readInto_20 (by decide) (fun q20 => ?_) (fun q20 => ?_)
    · replace h := h.1 q20
      refine V_bipush (-9) dX1_readInto_79 (by decide) ?_
      exact V_reti dX1_readInto_81 rfl rfl h
    · replace h := h.2 q20
      refine V_aload_n dX1_readInto_23 rfl ?_
      refine V_aload_n dX1_readInto_24 rfl ?_
      refine V_iload dX1_readInto_25 rfl ?_
      refine V_iload_n dX1_readInto_27 rfl ?_
      refine M_Vi mv_X1_longestAt lk_X1_36 dX1_readInto_28 rfl (kd_X1 (by omega)) (sX1_longestAt h) rfl rfl (Nat.le_of_ble_eq_true rfl) (by decide) (by decide) (fun v28 M28 h => ?_)
      refine V_istore dX1_readInto_31 (by decide) ?_
      refine V_iload dX1_readInto_33 rfl ?_
      refine V_bipush (-9) dX1_readInto_35 (by decide) ?_
      refine V_icmp_eq 47 dX1_readInto_37 (by decide) (fun q37 => ?_) (fun q37 => ?_)
      · replace h := h.1 q37
        refine V_iload dX1_readInto_47 rfl ?_
        exact V_reti dX1_readInto_49 rfl rfl h
      · replace h := h.2 q37
        refine V_iload dX1_readInto_40 rfl ?_
        refine V_bipush 8 dX1_readInto_42 (by decide) ?_
        refine V_icmp_ne 50 dX1_readInto_44 (by decide) (fun q44 => ?_) (fun q44 => ?_)
        · replace h := h.1 q44
          refine V_aload_n dX1_readInto_50 rfl ?_
          refine V_aload_n dX1_readInto_51 rfl ?_
          refine V_getR (a0 + 9) fl_X1_18 dX1_readInto_52 (kd_X1 (by omega)) rfl (rf_X1_2 (by omega)) ?_
          refine V_iload dX1_readInto_55 rfl ?_
          obtain ⟨hi57, h⟩ := h
          refine V_ialdM dX1_readInto_57 (kd_col2 (by omega)) (by rw [(ln_col2 (by omega))]; exact hi57) ?_
          refine M_Vv mv_X7_add lk_X1_40 dX1_readInto_58 rfl (kd_X7 (by omega)) (sX7_add h) rfl rfl (Nat.le_of_ble_eq_true rfl) (by decide) (by decide) (fun M58 h => ?_)
          refine V_iload dX1_readInto_61 rfl ?_
          refine V_aload_n dX1_readInto_63 rfl ?_
          refine V_getR (a0 + 6) fl_X1_15 dX1_readInto_64 (kd_X1 (by omega)) rfl (rf_X1_1 (by omega)) ?_
          refine V_iload dX1_readInto_67 rfl ?_
          refine V_ialdM dX1_readInto_69 (kd_col1 (by omega)) (by rw [(ln_col1 (by omega))]; exact hi57) ?_
          refine V_iadd dX1_readInto_70 ?_
          refine V_istore dX1_readInto_71 (by decide) ?_
          refine V_iincC 1 dX1_readInto_73 (by decide) rfl (by decide) ?_
          refine V_goto 10 dX1_readInto_76 (by decide) ?_
          refine V_take 6 ?_
          exact hR10 _ _ _ h
        · replace h := h.2 q44
          refine V_iload dX1_readInto_47 rfl ?_
          exact V_reti dX1_readInto_49 rfl rfl h
def wX7_become (a0 : Nat) (a1 : Nat) (M : Mem) (Q : Mem → Prop) : Prop :=
  (50 ≤ a0 ∧ a0 < 100) ∧ (50 ≤ a1 ∧ a1 < 100) ∧ (∀ N5, N5 = mset M a0 1 (M a1 1) → ¬ (0 : Int32) < 0 ∧ ¬ (0 : Int32) < 0 ∧ ¬ ((N5 a0 1) : Int32) < 0 ∧ Int32.toNatClampNeg 0 + Int32.toNatClampNeg (N5 a0 1) ≤ 8 ∧ Int32.toNatClampNeg 0 + Int32.toNatClampNeg (N5 a0 1) ≤ 8 ∧ (∀ N22, N22 = mcpy N5 (a1 + 50) (a0 + 50) (Int32.toNatClampNeg 0) (Int32.toNatClampNeg 0) (Int32.toNatClampNeg (N5 a0 1)) → Q N22))
set_option maxHeartbeats 1000000 in
set_option maxRecDepth 20000 in
theorem sX7_become {E : En} {a0 : Nat} {a1 : Nat} {M : Mem} {Q : Mem → Prop} (h : wX7_become a0 a1 M Q) : CM E 1 mX7_become [.ref (E.2.2 a0), .ref (E.2.2 a1)] M (Pv Q) := by
  unfold wX7_become at h
  obtain ⟨hk0, h⟩ := h
  obtain ⟨hk1, h⟩ := h
  refine CM.of (by decide) rfl (Nat.le_of_ble_eq_true rfl) ?_
  refine V_aload_n dX7_become_0 rfl ?_
  refine V_aload_n dX7_become_1 rfl ?_
  refine V_getI fl_X7_15 dX7_become_2 (kd_X7 (by omega)) rfl ?_
  refine V_putN fp_X7_15 dX7_become_5 (kd_X7 (by omega)) rfl rfl rfl (fun N5 e5 => ?_)
  replace h := h N5 e5
  refine V_aload_n dX7_become_8 rfl ?_
  refine V_getR (a1 + 50) fl_X7_9 dX7_become_9 (kd_X7 (by omega)) rfl (rf_X7 (by omega)) ?_
  refine V_iconst 0 dX7_become_12 (by decide) ?_
  refine V_aload_n dX7_become_13 rfl ?_
  refine V_getR (a0 + 50) fl_X7_9 dX7_become_14 (kd_X7 (by omega)) rfl (rf_X7 (by omega)) ?_
  refine V_iconst 0 dX7_become_17 (by decide) ?_
  refine V_aload_n dX7_become_18 rfl ?_
  refine V_getI fl_X7_15 dX7_become_19 (kd_X7 (by omega)) rfl ?_
  obtain ⟨hc22_1, hc22_2, hc22_3, hc22_4, hc22_5, h⟩ := h
  refine V_copyN lc_X7_19 dX7_become_22 (kd_num (by omega)) (kd_num (by omega)) hc22_1 hc22_2 hc22_3 (by rw [(ln_num (by omega))]; exact hc22_4) (by rw [(ln_num (by omega))]; exact hc22_5) (Nat.le_of_ble_eq_true rfl) (Nat.le_of_ble_eq_true rfl) (fun N22 e22 => ?_)
  replace h := h N22 e22
  exact V_retv dX7_become_25 rfl h
def wX2_become (a0 : Nat) (a1 : Int32) (a2 : Int32) (a3 : Int32) (a4 : Nat) (M : Mem) (Q : Mem → Prop) : Prop :=
  (150 ≤ a0 ∧ a0 < 190) ∧ (50 ≤ a4 ∧ a4 < 100) ∧ (∀ N2, N2 = mset M a0 1 a1 → (∀ N7, N7 = mset N2 a0 2 a2 → (∀ N12, N12 = mset N7 a0 3 a3 → wX7_become (a0 - 100) a4 N12 (fun M21 => Q M21))))
set_option maxHeartbeats 1000000 in
set_option maxRecDepth 20000 in
theorem sX2_become {E : En} {a0 : Nat} {a1 : Int32} {a2 : Int32} {a3 : Int32} {a4 : Nat} {M : Mem} {Q : Mem → Prop} (h : wX2_become a0 a1 a2 a3 a4 M Q) : CM E 2 mX2_become [.ref (E.2.2 a0), .int a1, .int a2, .int a3, .ref (E.2.2 a4)] M (Pv Q) := by
  unfold wX2_become at h
  obtain ⟨hk0, h⟩ := h
  obtain ⟨hk4, h⟩ := h
  refine CM.of (by decide) rfl (Nat.le_of_ble_eq_true rfl) ?_
  refine V_aload_n dX2_become_0 rfl ?_
  refine V_iload_n dX2_become_1 rfl ?_
  refine V_putN fp_X2_18 dX2_become_2 (kd_X2 (by omega)) rfl rfl rfl (fun N2 e2 => ?_)
  replace h := h N2 e2
  refine V_aload_n dX2_become_5 rfl ?_
  refine V_iload_n dX2_become_6 rfl ?_
  refine V_putN fp_X2_22 dX2_become_7 (kd_X2 (by omega)) rfl rfl rfl (fun N7 e7 => ?_)
  replace h := h N7 e7
  refine V_aload_n dX2_become_10 rfl ?_
  refine V_iload_n dX2_become_11 rfl ?_
  refine V_putN fp_X2_25 dX2_become_12 (kd_X2 (by omega)) rfl rfl rfl (fun N12 e12 => ?_)
  replace h := h N12 e12
  refine V_aload_n dX2_become_15 rfl ?_
  refine V_getR (a0 - 100) fl_X2_12 dX2_become_16 (kd_X2 (by omega)) rfl (rf_X2 (by omega)) ?_
  refine V_aload dX2_become_19 rfl ?_
  refine M_Vv mv_X7_become lk_X2_28 dX2_become_21 rfl (kd_X7 (by omega)) (sX7_become h) rfl rfl (Nat.le_of_ble_eq_true rfl) (by decide) (by decide) (fun M21 h => ?_)
  exact V_retv dX2_become_24 rfl h
def wX5_takes (a1 : Int32) (M : Mem) (Q : Int32 → Mem → Prop) : Prop :=
  jn1 (fun (y29_0 : Int32) (M29 : Mem) => ((y29_0 = 0 →
      (∀ N45, N45 = mset M29 11 2 ((M29 11 2) + 0) → isB y29_0 ∧ Q y29_0 N45)) ∧ (¬ y29_0 = 0 →
      (∀ N45, N45 = mset M29 11 2 ((M29 11 2) + 1) → isB y29_0 ∧ Q y29_0 N45)))) (fun J29 => (((M 11 1) ≤ (M 11 2) →
      J29 0 M) ∧ (¬ (M 11 1) ≤ (M 11 2) →
      vp_in (M 11 2) 60 ∧ ((¬ (M 12 (Int32.toNatClampNeg (M 11 2))) = a1 →
        J29 0 M) ∧ ((M 12 (Int32.toNatClampNeg (M 11 2))) = a1 →
        J29 1 M)))))
set_option maxHeartbeats 1000000 in
set_option maxRecDepth 20000 in
theorem sX5_takes {E : En} {a1 : Int32} {M : Mem} {Q : Int32 → Mem → Prop} (h : wX5_takes a1 M Q) : CM E 1 mX5_takes [.ref (E.2.2 11), .int a1] M (Pi Q) := by
  unfold wX5_takes at h
  refine CM.of (by decide) rfl (Nat.le_of_ble_eq_true rfl) ?_
  refine V_aload_n dX5_takes_0 rfl ?_
  refine V_getI fl_X5_19 dX5_takes_1 rfl rfl ?_
  refine V_aload_n dX5_takes_4 rfl ?_
  refine V_getI fl_X5_15 dX5_takes_5 rfl rfl ?_
  refine jn1_use (P := fun (y29_0 : Int32) (M29 : Mem) => ∀ j29_1 : Value, V (Km E 1 (Pi Q)) mX5_takes 29 [.ref (E.2.2 11), j29_1] [.int y29_0] (wsM E.1 E.2.2 M29) 0 0) (fun y29_0 M29 h j29_1 => ?_) (fun J29 hJ29 h => ?_) h
  · refine V_istore_n dX5_takes_29 (by decide) ?_
    refine V_aload_n dX5_takes_30 rfl ?_
    refine V_dup dX5_takes_31 rfl ?_
    refine V_getI fl_X5_19 dX5_takes_32 rfl rfl ?_
    refine V_iload_n dX5_takes_35 rfl ?_
    refine V_if_eq 43 dX5_takes_36 (by decide) (fun q36 => ?_) (fun q36 => ?_)
    · replace h := h.1 q36
      refine V_iconst 0 dX5_takes_43 (by decide) ?_
      refine V_iadd dX5_takes_44 ?_
      refine V_putN fp_X5_19 dX5_takes_45 rfl rfl rfl rfl (fun N45 e45 => ?_)
      replace h := h N45 e45
      refine V_iload_n dX5_takes_48 rfl ?_
      exact V_reti dX5_takes_49 rfl (nb h.1) h.2
    · replace h := h.2 q36
      refine V_iconst 1 dX5_takes_39 (by decide) ?_
      refine V_goto 44 dX5_takes_40 (by decide) ?_
      refine V_iadd dX5_takes_44 ?_
      refine V_putN fp_X5_19 dX5_takes_45 rfl rfl rfl rfl (fun N45 e45 => ?_)
      replace h := h N45 e45
      refine V_iload_n dX5_takes_48 rfl ?_
      exact V_reti dX5_takes_49 rfl (nb h.1) h.2
  · refine V_icmp_ge 28 dX5_takes_8 (by decide) (fun q8 => ?_) (fun q8 => ?_)
    · replace h := h.1 q8
      refine V_iconst 0 dX5_takes_28 (by decide) ?_
      refine V_take 2 ?_
      exact hJ29 _ _ h _
    · replace h := h.2 q8
      refine V_aload_n dX5_takes_11 rfl ?_
      refine V_getR 12 fl_X5_9 dX5_takes_12 rfl rfl rfl ?_
      refine V_aload_n dX5_takes_15 rfl ?_
      refine V_getI fl_X5_19 dX5_takes_16 rfl rfl ?_
      obtain ⟨hi19, h⟩ := h
      refine V_ialdM dX5_takes_19 rfl hi19 ?_
      refine V_iload_n dX5_takes_20 rfl ?_
      refine V_icmp_ne 28 dX5_takes_21 (by decide) (fun q21 => ?_) (fun q21 => ?_)
      · replace h := h.1 q21
        refine V_iconst 0 dX5_takes_28 (by decide) ?_
        refine V_take 2 ?_
        exact hJ29 _ _ h _
      · replace h := h.2 q21
        refine V_iconst 1 dX5_takes_24 (by decide) ?_
        refine V_goto 29 dX5_takes_25 (by decide) ?_
        refine V_take 2 ?_
        exact hJ29 _ _ h _
def wX5_takeBetween (a1 : Int32) (a2 : Int32) (a3 : Int32) (M : Mem) (Q : Int32 → Mem → Prop) : Prop :=
  (((M 11 1) ≤ (M 11 2) →
    Q (-1) M) ∧ (¬ (M 11 1) ≤ (M 11 2) →
    vp_in (M 11 2) 60 ∧ (((M 12 (Int32.toNatClampNeg (M 11 2))) < a1 →
      Q (-1) M) ∧ (¬ (M 12 (Int32.toNatClampNeg (M 11 2))) < a1 →
      (((M 12 (Int32.toNatClampNeg (M 11 2))) ≤ a2 →
        (∀ N46, N46 = mset M 11 2 ((M 11 2) + 1) → vp_in ((N46 11 2) - 1) 60 ∧ Q ((a3 + (N46 12 (Int32.toNatClampNeg ((N46 11 2) - 1)))) - a1) N46)) ∧ (¬ (M 12 (Int32.toNatClampNeg (M 11 2))) ≤ a2 →
        Q (-1) M))))))
set_option maxHeartbeats 1000000 in
set_option maxRecDepth 20000 in
theorem sX5_takeBetween {E : En} {a1 : Int32} {a2 : Int32} {a3 : Int32} {M : Mem} {Q : Int32 → Mem → Prop} (h : wX5_takeBetween a1 a2 a3 M Q) : CM E 1 mX5_takeBetween [.ref (E.2.2 11), .int a1, .int a2, .int a3] M (Pi Q) := by
  unfold wX5_takeBetween at h
  refine CM.of (by decide) rfl (Nat.le_of_ble_eq_true rfl) ?_
  refine V_aload_n dX5_takeBetween_0 rfl ?_
  refine V_getI fl_X5_19 dX5_takeBetween_1 rfl rfl ?_
  refine V_aload_n dX5_takeBetween_4 rfl ?_
  refine V_getI fl_X5_15 dX5_takeBetween_5 rfl rfl ?_
  refine V_icmp_ge 37 dX5_takeBetween_8 (by decide) (fun q8 => ?_) (fun q8 => ?_)
  · replace h := h.1 q8
    refine V_iconst (-1) dX5_takeBetween_37 (by decide) ?_
    exact V_reti dX5_takeBetween_38 rfl rfl h
  · replace h := h.2 q8
    refine V_aload_n dX5_takeBetween_11 rfl ?_
    refine V_getR 12 fl_X5_9 dX5_takeBetween_12 rfl rfl rfl ?_
    refine V_aload_n dX5_takeBetween_15 rfl ?_
    refine V_getI fl_X5_19 dX5_takeBetween_16 rfl rfl ?_
    obtain ⟨hi19, h⟩ := h
    refine V_ialdM dX5_takeBetween_19 rfl hi19 ?_
    refine V_iload_n dX5_takeBetween_20 rfl ?_
    refine V_icmp_lt 37 dX5_takeBetween_21 (by decide) (fun q21 => ?_) (fun q21 => ?_)
    · replace h := h.1 q21
      refine V_iconst (-1) dX5_takeBetween_37 (by decide) ?_
      exact V_reti dX5_takeBetween_38 rfl rfl h
    · replace h := h.2 q21
      refine V_aload_n dX5_takeBetween_24 rfl ?_
      refine V_getR 12 fl_X5_9 dX5_takeBetween_25 rfl rfl rfl ?_
      refine V_aload_n dX5_takeBetween_28 rfl ?_
      refine V_getI fl_X5_19 dX5_takeBetween_29 rfl rfl ?_
      refine V_ialdM dX5_takeBetween_32 rfl hi19 ?_
      refine V_iload_n dX5_takeBetween_33 rfl ?_
      refine V_icmp_le 39 dX5_takeBetween_34 (by decide) (fun q34 => ?_) (fun q34 => ?_)
      · replace h := h.1 q34
        refine V_aload_n dX5_takeBetween_39 rfl ?_
        refine V_dup dX5_takeBetween_40 rfl ?_
        refine V_getI fl_X5_19 dX5_takeBetween_41 rfl rfl ?_
        refine V_iconst 1 dX5_takeBetween_44 (by decide) ?_
        refine V_iadd dX5_takeBetween_45 ?_
        refine V_putN fp_X5_19 dX5_takeBetween_46 rfl rfl rfl rfl (fun N46 e46 => ?_)
        replace h := h N46 e46
        refine V_iload_n dX5_takeBetween_49 rfl ?_
        refine V_aload_n dX5_takeBetween_50 rfl ?_
        refine V_getR 12 fl_X5_9 dX5_takeBetween_51 rfl rfl rfl ?_
        refine V_aload_n dX5_takeBetween_54 rfl ?_
        refine V_getI fl_X5_19 dX5_takeBetween_55 rfl rfl ?_
        refine V_iconst 1 dX5_takeBetween_58 (by decide) ?_
        refine V_isub dX5_takeBetween_59 ?_
        obtain ⟨hi60, h⟩ := h
        refine V_ialdM dX5_takeBetween_60 rfl hi60 ?_
        refine V_iadd dX5_takeBetween_61 ?_
        refine V_iload_n dX5_takeBetween_62 rfl ?_
        refine V_isub dX5_takeBetween_63 ?_
        exact V_reti dX5_takeBetween_64 rfl rfl h
      · replace h := h.2 q34
        refine V_iconst (-1) dX5_takeBetween_37 (by decide) ?_
        exact V_reti dX5_takeBetween_38 rfl rfl h
def wX5_takePattern  (M : Mem) (Q : Int32 → Mem → Prop) : Prop :=
  wX5_takes 43 M (fun v3 M3 => ((v3 = 0 →
      wX5_takes 45 M3 (fun v23 M23 => ((v23 = 0 →
          wX5_takeBetween 97 112 0 M23 (fun v48 M48 => Q v48 M48)) ∧ (¬ v23 = 0 →
          wX5_takeBetween 48 53 22 M23 (fun v36 M36 => Q v36 M36))))) ∧ (¬ v3 = 0 →
      wX5_takeBetween 48 53 16 M3 (fun v16 M16 => Q v16 M16))))
set_option maxHeartbeats 1000000 in
set_option maxRecDepth 20000 in
theorem sX5_takePattern {E : En}  {M : Mem} {Q : Int32 → Mem → Prop} (h : wX5_takePattern  M Q) : CM E 2 mX5_takePattern [.ref (E.2.2 11)] M (Pi Q) := by
  unfold wX5_takePattern at h
  refine CM.of (by decide) rfl (Nat.le_of_ble_eq_true rfl) ?_
  refine V_aload_n dX5_takePattern_0 rfl ?_
  refine V_bipush 43 dX5_takePattern_1 (by decide) ?_
  refine M_Vi mv_X5_takes lk_X5_40 dX5_takePattern_3 rfl rfl (sX5_takes h) rfl rfl (Nat.le_of_ble_eq_true rfl) (by decide) (by decide) (fun v3 M3 h => ?_)
  refine V_if_eq 20 dX5_takePattern_6 (by decide) (fun q6 => ?_) (fun q6 => ?_)
  · replace h := h.1 q6
    refine V_aload_n dX5_takePattern_20 rfl ?_
    refine V_bipush 45 dX5_takePattern_21 (by decide) ?_
    refine M_Vi mv_X5_takes lk_X5_40 dX5_takePattern_23 rfl rfl (sX5_takes h) rfl rfl (Nat.le_of_ble_eq_true rfl) (by decide) (by decide) (fun v23 M23 h => ?_)
    refine V_if_eq 42 dX5_takePattern_26 (by decide) (fun q26 => ?_) (fun q26 => ?_)
    · replace h := h.1 q26
      refine V_aload_n dX5_takePattern_42 rfl ?_
      refine V_bipush 97 dX5_takePattern_43 (by decide) ?_
      refine V_bipush 112 dX5_takePattern_45 (by decide) ?_
      refine V_iconst 0 dX5_takePattern_47 (by decide) ?_
      refine M_Vi mv_X5_takeBetween lk_X5_61 dX5_takePattern_48 rfl rfl (sX5_takeBetween h) rfl rfl (Nat.le_of_ble_eq_true rfl) (by decide) (by decide) (fun v48 M48 h => ?_)
      exact V_reti dX5_takePattern_51 rfl rfl h
    · replace h := h.2 q26
      refine V_aload_n dX5_takePattern_29 rfl ?_
      refine V_bipush 48 dX5_takePattern_30 (by decide) ?_
      refine V_bipush 53 dX5_takePattern_32 (by decide) ?_
      refine V_bipush 22 dX5_takePattern_34 (by decide) ?_
      refine M_Vi mv_X5_takeBetween lk_X5_61 dX5_takePattern_36 rfl rfl (sX5_takeBetween h) rfl rfl (Nat.le_of_ble_eq_true rfl) (by decide) (by decide) (fun v36 M36 h => ?_)
      refine V_goto 51 dX5_takePattern_39 (by decide) ?_
      exact V_reti dX5_takePattern_51 rfl rfl h
  · replace h := h.2 q6
    refine V_aload_n dX5_takePattern_9 rfl ?_
    refine V_bipush 48 dX5_takePattern_10 (by decide) ?_
    refine V_bipush 53 dX5_takePattern_12 (by decide) ?_
    refine V_bipush 16 dX5_takePattern_14 (by decide) ?_
    refine M_Vi mv_X5_takeBetween lk_X5_61 dX5_takePattern_16 rfl rfl (sX5_takeBetween h) rfl rfl (Nat.le_of_ble_eq_true rfl) (by decide) (by decide) (fun v16 M16 h => ?_)
    exact V_reti dX5_takePattern_19 rfl rfl h
def wX5_readTarget (a1 : Nat) (M : Mem) (Q : Int32 → Mem → Prop) : Prop :=
  (32 ≤ a1 ∧ a1 < 41) ∧ wX5_takePattern  M (fun v2 M2 => (∀ N5, N5 = mset M2 a1 1 v2 → (((N5 a1 1) = (-1) →
      Q 0 N5) ∧ (¬ (N5 a1 1) = (-1) →
      Q 1 N5))))
set_option maxHeartbeats 1000000 in
set_option maxRecDepth 20000 in
theorem sX5_readTarget {E : En} {a1 : Nat} {M : Mem} {Q : Int32 → Mem → Prop} (h : wX5_readTarget a1 M Q) : CM E 3 mX5_readTarget [.ref (E.2.2 11), .ref (E.2.2 a1)] M (Pi Q) := by
  unfold wX5_readTarget at h
  obtain ⟨hk1, h⟩ := h
  refine CM.of (by decide) rfl (Nat.le_of_ble_eq_true rfl) ?_
  refine V_aload_n dX5_readTarget_0 rfl ?_
  refine V_aload_n dX5_readTarget_1 rfl ?_
  refine M_Vi mv_X5_takePattern lk_X5_54 dX5_readTarget_2 rfl rfl (sX5_takePattern h) rfl rfl (Nat.le_of_ble_eq_true rfl) (by decide) (by decide) (fun v2 M2 h => ?_)
  refine V_putN fp_X5_58 dX5_readTarget_5 (kd_X3 (by omega)) rfl rfl rfl (fun N5 e5 => ?_)
  replace h := h N5 e5
  refine V_aload_n dX5_readTarget_8 rfl ?_
  refine V_getI fl_X5_58 dX5_readTarget_9 (kd_X3 (by omega)) rfl ?_
  refine V_iconst (-1) dX5_readTarget_12 (by decide) ?_
  refine V_icmp_eq 20 dX5_readTarget_13 (by decide) (fun q13 => ?_) (fun q13 => ?_)
  · replace h := h.1 q13
    refine V_iconst 0 dX5_readTarget_20 (by decide) ?_
    exact V_reti dX5_readTarget_21 rfl rfl h
  · replace h := h.2 q13
    refine V_iconst 1 dX5_readTarget_16 (by decide) ?_
    refine V_goto 21 dX5_readTarget_17 (by decide) ?_
    exact V_reti dX5_readTarget_21 rfl rfl h
def wX5_readResult (a1 : Nat) (M : Mem) (Q : Int32 → Mem → Prop) : Prop :=
  (32 ≤ a1 ∧ a1 < 41) ∧ wX5_takes 48 M (fun v4 M4 => jn1 (fun (y24_0 : Int32) (M24 : Mem) => (∀ N24, N24 = mset M24 a1 2 y24_0 → (((N24 a1 2) = (-1) →
        Q 0 N24) ∧ (¬ (N24 a1 2) = (-1) →
        Q 1 N24)))) (fun J24 => ((v4 = 0 →
        wX5_takeBetween 97 112 0 M4 (fun v21 M21 => J24 v21 M21)) ∧ (¬ v4 = 0 →
        J24 (-2) M4))))
set_option maxHeartbeats 1000000 in
set_option maxRecDepth 20000 in
theorem sX5_readResult {E : En} {a1 : Nat} {M : Mem} {Q : Int32 → Mem → Prop} (h : wX5_readResult a1 M Q) : CM E 2 mX5_readResult [.ref (E.2.2 11), .ref (E.2.2 a1)] M (Pi Q) := by
  unfold wX5_readResult at h
  obtain ⟨hk1, h⟩ := h
  refine CM.of (by decide) rfl (Nat.le_of_ble_eq_true rfl) ?_
  refine V_aload_n dX5_readResult_0 rfl ?_
  refine V_aload_n dX5_readResult_1 rfl ?_
  refine V_bipush 48 dX5_readResult_2 (by decide) ?_
  refine M_Vi mv_X5_takes lk_X5_40 dX5_readResult_4 rfl rfl (sX5_takes h) rfl rfl (Nat.le_of_ble_eq_true rfl) (by decide) (by decide) (fun v4 M4 h => ?_)
  refine jn1_use (P := fun (y24_0 : Int32) (M24 : Mem) => ∀ j24_0 : Value, V (Km E 2 (Pi Q)) mX5_readResult 24 [j24_0, .ref (E.2.2 a1)] [.int y24_0, .ref (E.2.2 a1)] (wsM E.1 E.2.2 M24) 0 0) (fun y24_0 M24 h j24_0 => ?_) (fun J24 hJ24 h => ?_) h
  · refine V_putN fp_X5_65 dX5_readResult_24 (kd_X3 (by omega)) rfl rfl rfl (fun N24 e24 => ?_)
    replace h := h N24 e24
    refine V_aload_n dX5_readResult_27 rfl ?_
    refine V_getI fl_X5_65 dX5_readResult_28 (kd_X3 (by omega)) rfl ?_
    refine V_iconst (-1) dX5_readResult_31 (by decide) ?_
    refine V_icmp_eq 39 dX5_readResult_32 (by decide) (fun q32 => ?_) (fun q32 => ?_)
    · replace h := h.1 q32
      refine V_iconst 0 dX5_readResult_39 (by decide) ?_
      exact V_reti dX5_readResult_40 rfl rfl h
    · replace h := h.2 q32
      refine V_iconst 1 dX5_readResult_35 (by decide) ?_
      refine V_goto 40 dX5_readResult_36 (by decide) ?_
      exact V_reti dX5_readResult_40 rfl rfl h
  · refine V_if_eq 15 dX5_readResult_7 (by decide) (fun q7 => ?_) (fun q7 => ?_)
    · replace h := h.1 q7
      refine V_aload_n dX5_readResult_15 rfl ?_
      refine V_bipush 97 dX5_readResult_16 (by decide) ?_
      refine V_bipush 112 dX5_readResult_18 (by decide) ?_
      refine V_iconst 0 dX5_readResult_20 (by decide) ?_
      refine M_Vi mv_X5_takeBetween lk_X5_61 dX5_readResult_21 rfl rfl (sX5_takeBetween h) rfl rfl (Nat.le_of_ble_eq_true rfl) (by decide) (by decide) (fun v21 M21 h => ?_)
      refine V_take 2 ?_
      exact hJ24 _ _ h _
    · replace h := h.2 q7
      refine V_bipush (-2) dX5_readResult_10 (by decide) ?_
      refine V_goto 24 dX5_readResult_12 (by decide) ?_
      refine V_take 2 ?_
      exact hJ24 _ _ h _
def wX5_isAtEnd  (M : Mem) (Q : Int32 → Mem → Prop) : Prop :=
  (((M 11 2) < (M 11 1) →
    Q 0 M) ∧ (¬ (M 11 2) < (M 11 1) →
    Q 1 M))
set_option maxHeartbeats 1000000 in
set_option maxRecDepth 20000 in
theorem sX5_isAtEnd {E : En}  {M : Mem} {Q : Int32 → Mem → Prop} (h : wX5_isAtEnd  M Q) : CM E 1 mX5_isAtEnd [.ref (E.2.2 11)] M (Pi Q) := by
  unfold wX5_isAtEnd at h
  refine CM.of (by decide) rfl (Nat.le_of_ble_eq_true rfl) ?_
  refine V_aload_n dX5_isAtEnd_0 rfl ?_
  refine V_getI fl_X5_19 dX5_isAtEnd_1 rfl rfl ?_
  refine V_aload_n dX5_isAtEnd_4 rfl ?_
  refine V_getI fl_X5_15 dX5_isAtEnd_5 rfl rfl ?_
  refine V_icmp_lt 15 dX5_isAtEnd_8 (by decide) (fun q8 => ?_) (fun q8 => ?_)
  · replace h := h.1 q8
    refine V_iconst 0 dX5_isAtEnd_15 (by decide) ?_
    exact V_reti dX5_isAtEnd_16 rfl rfl h
  · replace h := h.2 q8
    refine V_iconst 1 dX5_isAtEnd_11 (by decide) ?_
    refine V_goto 16 dX5_isAtEnd_12 (by decide) ?_
    exact V_reti dX5_isAtEnd_16 rfl rfl h
def wX5_isAt (a1 : Int32) (M : Mem) (Q : Int32 → Mem → Prop) : Prop :=
  (((M 11 1) ≤ (M 11 2) →
    Q 0 M) ∧ (¬ (M 11 1) ≤ (M 11 2) →
    vp_in (M 11 2) 60 ∧ ((¬ (M 12 (Int32.toNatClampNeg (M 11 2))) = a1 →
      Q 0 M) ∧ ((M 12 (Int32.toNatClampNeg (M 11 2))) = a1 →
      Q 1 M))))
set_option maxHeartbeats 1000000 in
set_option maxRecDepth 20000 in
theorem sX5_isAt {E : En} {a1 : Int32} {M : Mem} {Q : Int32 → Mem → Prop} (h : wX5_isAt a1 M Q) : CM E 1 mX5_isAt [.ref (E.2.2 11), .int a1] M (Pi Q) := by
  unfold wX5_isAt at h
  refine CM.of (by decide) rfl (Nat.le_of_ble_eq_true rfl) ?_
  refine V_aload_n dX5_isAt_0 rfl ?_
  refine V_getI fl_X5_19 dX5_isAt_1 rfl rfl ?_
  refine V_aload_n dX5_isAt_4 rfl ?_
  refine V_getI fl_X5_15 dX5_isAt_5 rfl rfl ?_
  refine V_icmp_ge 28 dX5_isAt_8 (by decide) (fun q8 => ?_) (fun q8 => ?_)
  · replace h := h.1 q8
    refine V_iconst 0 dX5_isAt_28 (by decide) ?_
    exact V_reti dX5_isAt_29 rfl rfl h
  · replace h := h.2 q8
    refine V_aload_n dX5_isAt_11 rfl ?_
    refine V_getR 12 fl_X5_9 dX5_isAt_12 rfl rfl rfl ?_
    refine V_aload_n dX5_isAt_15 rfl ?_
    refine V_getI fl_X5_19 dX5_isAt_16 rfl rfl ?_
    obtain ⟨hi19, h⟩ := h
    refine V_ialdM dX5_isAt_19 rfl hi19 ?_
    refine V_iload_n dX5_isAt_20 rfl ?_
    refine V_icmp_ne 28 dX5_isAt_21 (by decide) (fun q21 => ?_) (fun q21 => ?_)
    · replace h := h.1 q21
      refine V_iconst 0 dX5_isAt_28 (by decide) ?_
      exact V_reti dX5_isAt_29 rfl rfl h
    · replace h := h.2 q21
      refine V_iconst 1 dX5_isAt_24 (by decide) ?_
      refine V_goto 29 dX5_isAt_25 (by decide) ?_
      exact V_reti dX5_isAt_29 rfl rfl h
def wX5_takeSide  (M : Mem) (Q : Int32 → Mem → Prop) : Prop :=
  wX5_takes 35 M (fun v3 M3 => ((v3 = 0 →
      wX5_takePattern  M3 (fun v15 M15 => Q v15 M15)) ∧ (¬ v3 = 0 →
      Q 28 M3)))
set_option maxHeartbeats 1000000 in
set_option maxRecDepth 20000 in
theorem sX5_takeSide {E : En}  {M : Mem} {Q : Int32 → Mem → Prop} (h : wX5_takeSide  M Q) : CM E 3 mX5_takeSide [.ref (E.2.2 11)] M (Pi Q) := by
  unfold wX5_takeSide at h
  refine CM.of (by decide) rfl (Nat.le_of_ble_eq_true rfl) ?_
  refine V_aload_n dX5_takeSide_0 rfl ?_
  refine V_bipush 35 dX5_takeSide_1 (by decide) ?_
  refine M_Vi mv_X5_takes lk_X5_40 dX5_takeSide_3 rfl rfl (sX5_takes h) rfl rfl (Nat.le_of_ble_eq_true rfl) (by decide) (by decide) (fun v3 M3 h => ?_)
  refine V_if_eq 14 dX5_takeSide_6 (by decide) (fun q6 => ?_) (fun q6 => ?_)
  · replace h := h.1 q6
    refine V_aload_n dX5_takeSide_14 rfl ?_
    refine M_Vi mv_X5_takePattern lk_X5_54 dX5_takeSide_15 rfl rfl (sX5_takePattern h) rfl rfl (Nat.le_of_ble_eq_true rfl) (by decide) (by decide) (fun v15 M15 h => ?_)
    exact V_reti dX5_takeSide_18 rfl rfl h
  · replace h := h.2 q6
    refine V_bipush 28 dX5_takeSide_9 (by decide) ?_
    refine V_goto 18 dX5_takeSide_11 (by decide) ?_
    exact V_reti dX5_takeSide_18 rfl rfl h
def wX5_readSides (a1 : Nat) (M : Mem) (Q : Int32 → Mem → Prop) : Prop :=
  (32 ≤ a1 ∧ a1 < 41) ∧ wX5_takes 47 M (fun v3 M3 => ((¬ v3 = 0 →
      wX5_isAt 95 M3 (fun v15 M15 => jn1 (fun (y30_0 : Int32) (M30 : Mem) => (∀ N30, N30 = mset M30 a1 3 y30_0 → (((N30 a1 3) = (-1) →
            Q 0 N30) ∧ (¬ (N30 a1 3) = (-1) →
            wX5_takes 95 N30 (fun v44 M44 => ((¬ v44 = 0 →
                wX5_isAtEnd  M44 (fun v54 M54 => jn1 (fun (y69_0 : Int32) (M69 : Mem) => (∀ N69, N69 = mset M69 a1 4 y69_0 → (((N69 a1 4) = (-1) →
                      Q 0 N69) ∧ (¬ (N69 a1 4) = (-1) →
                      wX5_isAtEnd  N69 (fun v81 M81 => ((v81 = 0 →
                          Q 0 M81) ∧ (¬ v81 = 0 →
                          Q 1 M81))))))) (fun J69 => ((v54 = 0 →
                      wX5_takeSide  M54 (fun v66 M66 => J69 v66 M66)) ∧ (¬ v54 = 0 →
                      J69 29 M54))))) ∧ (v44 = 0 →
                Q 0 M44))))))) (fun J30 => ((v15 = 0 →
            wX5_takeSide  M15 (fun v27 M27 => J30 v27 M27)) ∧ (¬ v15 = 0 →
            J30 29 M15))))) ∧ (v3 = 0 →
      Q 0 M3)))
set_option maxHeartbeats 1000000 in
set_option maxRecDepth 20000 in
theorem sX5_readSides {E : En} {a1 : Nat} {M : Mem} {Q : Int32 → Mem → Prop} (h : wX5_readSides a1 M Q) : CM E 4 mX5_readSides [.ref (E.2.2 11), .ref (E.2.2 a1)] M (Pi Q) := by
  unfold wX5_readSides at h
  obtain ⟨hk1, h⟩ := h
  refine CM.of (by decide) rfl (Nat.le_of_ble_eq_true rfl) ?_
  refine V_aload_n dX5_readSides_0 rfl ?_
  refine V_bipush 47 dX5_readSides_1 (by decide) ?_
  refine M_Vi mv_X5_takes lk_X5_40 dX5_readSides_3 rfl rfl (sX5_takes h) rfl rfl (Nat.le_of_ble_eq_true rfl) (by decide) (by decide) (fun v3 M3 h => ?_)
  refine V_if_ne 11 dX5_readSides_6 (by decide) (fun q6 => ?_) (fun q6 => ?_)
  · replace h := h.1 q6
    refine V_aload_n dX5_readSides_11 rfl ?_
    refine V_aload_n dX5_readSides_12 rfl ?_
    refine V_bipush 95 dX5_readSides_13 (by decide) ?_
    refine M_Vi mv_X5_isAt lk_X5_68 dX5_readSides_15 rfl rfl (sX5_isAt h) rfl rfl (Nat.le_of_ble_eq_true rfl) (by decide) (by decide) (fun v15 M15 h => ?_)
    refine jn1_use (P := fun (y30_0 : Int32) (M30 : Mem) => V (Km E 4 (Pi Q)) mX5_readSides 30 [.ref (E.2.2 11), .ref (E.2.2 a1)] [.int y30_0, .ref (E.2.2 a1)] (wsM E.1 E.2.2 M30) 0 0) (fun y30_0 M30 h => ?_) (fun J30 hJ30 h => ?_) h
    · refine V_putN fp_X5_30 dX5_readSides_30 (kd_X3 (by omega)) rfl rfl rfl (fun N30 e30 => ?_)
      replace h := h N30 e30
      refine V_aload_n dX5_readSides_33 rfl ?_
      refine V_getI fl_X5_30 dX5_readSides_34 (kd_X3 (by omega)) rfl ?_
      refine V_iconst (-1) dX5_readSides_37 (by decide) ?_
      refine V_icmp_eq 50 dX5_readSides_38 (by decide) (fun q38 => ?_) (fun q38 => ?_)
      · replace h := h.1 q38
        refine V_iconst 0 dX5_readSides_50 (by decide) ?_
        exact V_reti dX5_readSides_51 rfl rfl h
      · replace h := h.2 q38
        refine V_aload_n dX5_readSides_41 rfl ?_
        refine V_bipush 95 dX5_readSides_42 (by decide) ?_
        refine M_Vi mv_X5_takes lk_X5_40 dX5_readSides_44 rfl rfl (sX5_takes h) rfl rfl (Nat.le_of_ble_eq_true rfl) (by decide) (by decide) (fun v44 M44 h => ?_)
        refine V_if_ne 52 dX5_readSides_47 (by decide) (fun q47 => ?_) (fun q47 => ?_)
        · replace h := h.1 q47
          refine V_aload_n dX5_readSides_52 rfl ?_
          refine V_aload_n dX5_readSides_53 rfl ?_
          refine M_Vi mv_X5_isAtEnd lk_X5_47 dX5_readSides_54 rfl rfl (sX5_isAtEnd h) rfl rfl (Nat.le_of_ble_eq_true rfl) (by decide) (by decide) (fun v54 M54 h => ?_)
          refine jn1_use (P := fun (y69_0 : Int32) (M69 : Mem) => V (Km E 4 (Pi Q)) mX5_readSides 69 [.ref (E.2.2 11), .ref (E.2.2 a1)] [.int y69_0, .ref (E.2.2 a1)] (wsM E.1 E.2.2 M69) 0 0) (fun y69_0 M69 h => ?_) (fun J69 hJ69 h => ?_) h
          · refine V_putN fp_X5_33 dX5_readSides_69 (kd_X3 (by omega)) rfl rfl rfl (fun N69 e69 => ?_)
            replace h := h N69 e69
            refine V_aload_n dX5_readSides_72 rfl ?_
            refine V_getI fl_X5_33 dX5_readSides_73 (kd_X3 (by omega)) rfl ?_
            refine V_iconst (-1) dX5_readSides_76 (by decide) ?_
            refine V_icmp_eq 91 dX5_readSides_77 (by decide) (fun q77 => ?_) (fun q77 => ?_)
            · replace h := h.1 q77
              refine V_iconst 0 dX5_readSides_91 (by decide) ?_
              exact V_reti dX5_readSides_92 rfl rfl h
            · replace h := h.2 q77
              refine V_aload_n dX5_readSides_80 rfl ?_
              refine M_Vi mv_X5_isAtEnd lk_X5_47 dX5_readSides_81 rfl rfl (sX5_isAtEnd h) rfl rfl (Nat.le_of_ble_eq_true rfl) (by decide) (by decide) (fun v81 M81 h => ?_)
              refine V_if_eq 91 dX5_readSides_84 (by decide) (fun q84 => ?_) (fun q84 => ?_)
              · replace h := h.1 q84
                refine V_iconst 0 dX5_readSides_91 (by decide) ?_
                exact V_reti dX5_readSides_92 rfl rfl h
              · replace h := h.2 q84
                refine V_iconst 1 dX5_readSides_87 (by decide) ?_
                refine V_goto 92 dX5_readSides_88 (by decide) ?_
                exact V_reti dX5_readSides_92 rfl rfl h
          · refine V_if_eq 65 dX5_readSides_57 (by decide) (fun q57 => ?_) (fun q57 => ?_)
            · replace h := h.1 q57
              refine V_aload_n dX5_readSides_65 rfl ?_
              refine M_Vi mv_X5_takeSide lk_X5_71 dX5_readSides_66 rfl rfl (sX5_takeSide h) rfl rfl (Nat.le_of_ble_eq_true rfl) (by decide) (by decide) (fun v66 M66 h => ?_)
              refine V_take 2 ?_
              exact hJ69 _ _ h
            · replace h := h.2 q57
              refine V_bipush 29 dX5_readSides_60 (by decide) ?_
              refine V_goto 69 dX5_readSides_62 (by decide) ?_
              refine V_take 2 ?_
              exact hJ69 _ _ h
        · replace h := h.2 q47
          refine V_iconst 0 dX5_readSides_50 (by decide) ?_
          exact V_reti dX5_readSides_51 rfl rfl h
    · refine V_if_eq 26 dX5_readSides_18 (by decide) (fun q18 => ?_) (fun q18 => ?_)
      · replace h := h.1 q18
        refine V_aload_n dX5_readSides_26 rfl ?_
        refine M_Vi mv_X5_takeSide lk_X5_71 dX5_readSides_27 rfl rfl (sX5_takeSide h) rfl rfl (Nat.le_of_ble_eq_true rfl) (by decide) (by decide) (fun v27 M27 h => ?_)
        refine V_take 2 ?_
        exact hJ30 _ _ h
      · replace h := h.2 q18
        refine V_bipush 29 dX5_readSides_21 (by decide) ?_
        refine V_goto 30 dX5_readSides_23 (by decide) ?_
        refine V_take 2 ?_
        exact hJ30 _ _ h
  · replace h := h.2 q6
    refine V_iconst 0 dX5_readSides_9 (by decide) ?_
    exact V_reti dX5_readSides_10 rfl rfl h
def wX5_firstFault (a1 : Nat) (a2 : Int32) (a3 : Nat) (M : Mem) (Q : Int32 → Mem → Prop) : Prop :=
  kd a1 = 20 ∧ (32 ≤ a3 ∧ a3 < 41) ∧ ¬ (0 : Int32) < 0 ∧ ¬ (0 : Int32) < 0 ∧ ¬ (a2 : Int32) < 0 ∧ Int32.toNatClampNeg 0 + Int32.toNatClampNeg a2 ≤ (ln a1) ∧ Int32.toNatClampNeg 0 + Int32.toNatClampNeg a2 ≤ 60 ∧ (∀ N8, N8 = mcpy M a1 12 (Int32.toNatClampNeg 0) (Int32.toNatClampNeg 0) (Int32.toNatClampNeg a2) → (∀ N13, N13 = mset N8 11 1 a2 → (∀ N18, N18 = mset N13 11 2 0 → (∀ N24, N24 = mset N18 a3 3 29 → (∀ N30, N30 = mset N24 a3 4 29 → wX5_readTarget a3 N30 (fun v35 M35 => jn1 (fun (y78_0 : Int32) (M78 : Mem) => ((y78_0 = 0 →
        Q (M78 11 2) M78) ∧ (¬ y78_0 = 0 →
        Q (-9) M78))) (fun J78 => ((v35 = 0 →
        J78 0 M35) ∧ (¬ v35 = 0 →
        wX5_takes 62 M35 (fun v44 M44 => ((v44 = 0 →
            J78 0 M44) ∧ (¬ v44 = 0 →
            wX5_readResult a3 M44 (fun v52 M52 => ((v52 = 0 →
                J78 0 M52) ∧ (¬ v52 = 0 →
                wX5_isAtEnd  M52 (fun v59 M59 => ((¬ v59 = 0 →
                    J78 1 M59) ∧ (v59 = 0 →
                    wX5_readSides a3 M59 (fun v67 M67 => ((v67 = 0 →
                        J78 0 M67) ∧ (¬ v67 = 0 →
                        J78 1 M67)))))))))))))))))))))
set_option maxHeartbeats 1000000 in
set_option maxRecDepth 20000 in
theorem sX5_firstFault {E : En} {a1 : Nat} {a2 : Int32} {a3 : Nat} {M : Mem} {Q : Int32 → Mem → Prop} (h : wX5_firstFault a1 a2 a3 M Q) : CM E 5 mX5_firstFault [.ref (E.2.2 11), .ref (E.2.2 a1), .int a2, .ref (E.2.2 a3)] M (Pi Q) := by
  unfold wX5_firstFault at h
  obtain ⟨hk1, h⟩ := h
  obtain ⟨hk3, h⟩ := h
  refine CM.of (by decide) rfl (Nat.le_of_ble_eq_true rfl) ?_
  refine V_aload_n dX5_firstFault_0 rfl ?_
  refine V_iconst 0 dX5_firstFault_1 (by decide) ?_
  refine V_aload_n dX5_firstFault_2 rfl ?_
  refine V_getR 12 fl_X5_9 dX5_firstFault_3 rfl rfl rfl ?_
  refine V_iconst 0 dX5_firstFault_6 (by decide) ?_
  refine V_iload_n dX5_firstFault_7 rfl ?_
  obtain ⟨hc8_1, hc8_2, hc8_3, hc8_4, hc8_5, h⟩ := h
  refine V_copyN lc_X5_22 dX5_firstFault_8 hk1 rfl hc8_1 hc8_2 hc8_3 hc8_4 hc8_5 (Nat.le_of_ble_eq_true rfl) (Nat.le_of_ble_eq_true rfl) (fun N8 e8 => ?_)
  replace h := h N8 e8
  refine V_aload_n dX5_firstFault_11 rfl ?_
  refine V_iload_n dX5_firstFault_12 rfl ?_
  refine V_putN fp_X5_15 dX5_firstFault_13 rfl rfl rfl rfl (fun N13 e13 => ?_)
  replace h := h N13 e13
  refine V_aload_n dX5_firstFault_16 rfl ?_
  refine V_iconst 0 dX5_firstFault_17 (by decide) ?_
  refine V_putN fp_X5_19 dX5_firstFault_18 rfl rfl rfl rfl (fun N18 e18 => ?_)
  replace h := h N18 e18
  refine V_aload_n dX5_firstFault_21 rfl ?_
  refine V_bipush 29 dX5_firstFault_22 (by decide) ?_
  refine V_putN fp_X5_30 dX5_firstFault_24 (kd_X3 (by omega)) rfl rfl rfl (fun N24 e24 => ?_)
  replace h := h N24 e24
  refine V_aload_n dX5_firstFault_27 rfl ?_
  refine V_bipush 29 dX5_firstFault_28 (by decide) ?_
  refine V_putN fp_X5_33 dX5_firstFault_30 (kd_X3 (by omega)) rfl rfl rfl (fun N30 e30 => ?_)
  replace h := h N30 e30
  refine V_aload_n dX5_firstFault_33 rfl ?_
  refine V_aload_n dX5_firstFault_34 rfl ?_
  refine M_Vi mv_X5_readTarget lk_X5_36 dX5_firstFault_35 rfl rfl (sX5_readTarget h) rfl rfl (Nat.le_of_ble_eq_true rfl) (by decide) (by decide) (fun v35 M35 h => ?_)
  refine jn1_use (P := fun (y78_0 : Int32) (M78 : Mem) => ∀ j78_1 : Value, ∀ j78_2 : Value, ∀ j78_3 : Value, V (Km E 5 (Pi Q)) mX5_firstFault 78 [.ref (E.2.2 11), j78_1, j78_2, j78_3] [.int y78_0] (wsM E.1 E.2.2 M78) 0 0) (fun y78_0 M78 h j78_1 j78_2 j78_3 => ?_) (fun J78 hJ78 h => ?_) h
  · refine V_istore dX5_firstFault_78 (by decide) ?_
    refine V_iload dX5_firstFault_80 rfl ?_
    refine V_if_eq 90 dX5_firstFault_82 (by decide) (fun q82 => ?_) (fun q82 => ?_)
    · replace h := h.1 q82
      refine V_aload_n dX5_firstFault_90 rfl ?_
      refine V_getI fl_X5_19 dX5_firstFault_91 rfl rfl ?_
      exact V_reti dX5_firstFault_94 rfl rfl h
    · replace h := h.2 q82
      refine V_bipush (-9) dX5_firstFault_85 (by decide) ?_
      refine V_goto 94 dX5_firstFault_87 (by decide) ?_
      exact V_reti dX5_firstFault_94 rfl rfl h
  · refine V_if_eq 77 dX5_firstFault_38 (by decide) (fun q38 => ?_) (fun q38 => ?_)
    · replace h := h.1 q38
      refine V_iconst 0 dX5_firstFault_77 (by decide) ?_
      refine V_take 4 ?_
      exact hJ78 _ _ h _ _ _
    · replace h := h.2 q38
      refine V_aload_n dX5_firstFault_41 rfl ?_
      refine V_bipush 62 dX5_firstFault_42 (by decide) ?_
      refine M_Vi mv_X5_takes lk_X5_40 dX5_firstFault_44 rfl rfl (sX5_takes h) rfl rfl (Nat.le_of_ble_eq_true rfl) (by decide) (by decide) (fun v44 M44 h => ?_)
      refine V_if_eq 77 dX5_firstFault_47 (by decide) (fun q47 => ?_) (fun q47 => ?_)
      · replace h := h.1 q47
        refine V_iconst 0 dX5_firstFault_77 (by decide) ?_
        refine V_take 4 ?_
        exact hJ78 _ _ h _ _ _
      · replace h := h.2 q47
        refine V_aload_n dX5_firstFault_50 rfl ?_
        refine V_aload_n dX5_firstFault_51 rfl ?_
        refine M_Vi mv_X5_readResult lk_X5_44 dX5_firstFault_52 rfl rfl (sX5_readResult h) rfl rfl (Nat.le_of_ble_eq_true rfl) (by decide) (by decide) (fun v52 M52 h => ?_)
        refine V_if_eq 77 dX5_firstFault_55 (by decide) (fun q55 => ?_) (fun q55 => ?_)
        · replace h := h.1 q55
          refine V_iconst 0 dX5_firstFault_77 (by decide) ?_
          refine V_take 4 ?_
          exact hJ78 _ _ h _ _ _
        · replace h := h.2 q55
          refine V_aload_n dX5_firstFault_58 rfl ?_
          refine M_Vi mv_X5_isAtEnd lk_X5_47 dX5_firstFault_59 rfl rfl (sX5_isAtEnd h) rfl rfl (Nat.le_of_ble_eq_true rfl) (by decide) (by decide) (fun v59 M59 h => ?_)
          refine V_if_ne 73 dX5_firstFault_62 (by decide) (fun q62 => ?_) (fun q62 => ?_)
          · replace h := h.1 q62
            refine V_iconst 1 dX5_firstFault_73 (by decide) ?_
            refine V_goto 78 dX5_firstFault_74 (by decide) ?_
            refine V_take 4 ?_
            exact hJ78 _ _ h _ _ _
          · replace h := h.2 q62
            refine V_aload_n dX5_firstFault_65 rfl ?_
            refine V_aload_n dX5_firstFault_66 rfl ?_
            refine M_Vi mv_X5_readSides lk_X5_51 dX5_firstFault_67 rfl rfl (sX5_readSides h) rfl rfl (Nat.le_of_ble_eq_true rfl) (by decide) (by decide) (fun v67 M67 h => ?_)
            refine V_if_eq 77 dX5_firstFault_70 (by decide) (fun q70 => ?_) (fun q70 => ?_)
            · replace h := h.1 q70
              refine V_iconst 0 dX5_firstFault_77 (by decide) ?_
              refine V_take 4 ?_
              exact hJ78 _ _ h _ _ _
            · replace h := h.2 q70
              refine V_iconst 1 dX5_firstFault_73 (by decide) ?_
              refine V_goto 78 dX5_firstFault_74 (by decide) ?_
              refine V_take 4 ?_
              exact hJ78 _ _ h _ _ _
def wX4_readLaw (a1 : Nat) (a2 : Int32) (M : Mem) (Q : Int32 → Mem → Prop) : Prop :=
  kd a1 = 20 ∧ vp_in (M 9 4) 9 ∧ wX5_firstFault a1 a2 (32 + Int32.toNatClampNeg (M 9 4)) M (fun v15 M15 => Q v15 M15)
set_option maxHeartbeats 1000000 in
set_option maxRecDepth 20000 in
theorem sX4_readLaw {E : En} {a1 : Nat} {a2 : Int32} {M : Mem} {Q : Int32 → Mem → Prop} (h : wX4_readLaw a1 a2 M Q) : CM E 6 mX4_readLaw [.ref (E.2.2 9), .ref (E.2.2 a1), .int a2] M (Pi Q) := by
  unfold wX4_readLaw at h
  obtain ⟨hk1, h⟩ := h
  refine CM.of (by decide) rfl (Nat.le_of_ble_eq_true rfl) ?_
  refine V_aload_n dX4_readLaw_0 rfl ?_
  refine V_getR 11 fl_X4_20 dX4_readLaw_1 rfl rfl rfl ?_
  refine V_aload_n dX4_readLaw_4 rfl ?_
  refine V_iload_n dX4_readLaw_5 rfl ?_
  refine V_aload_n dX4_readLaw_6 rfl ?_
  refine V_getR 10 fl_X4_11 dX4_readLaw_7 rfl rfl rfl ?_
  refine V_aload_n dX4_readLaw_10 rfl ?_
  refine V_getI fl_X4_31 dX4_readLaw_11 rfl rfl ?_
  obtain ⟨hi14, h⟩ := h
  have hb14 := vp_lt hi14
  refine V_aaldM (32 + Int32.toNatClampNeg (M 9 4)) dX4_readLaw_14 rfl (by decide) hi14 rfl ?_
  refine M_Vi mv_X5_firstFault lk_X4_40 dX4_readLaw_15 rfl rfl (sX5_firstFault h) rfl rfl (Nat.le_of_ble_eq_true rfl) (by decide) (by decide) (fun v15 M15 h => ?_)
  exact V_reti dX4_readLaw_18 rfl rfl h
def wX4_addRead (a1 : Int32) (M : Mem) (Q : Int32 → Mem → Prop) : Prop :=
  (((M 9 4) < 8 →
    vp_in (M 9 4) 9 ∧ (∀ N22, N22 = mset M (32 + Int32.toNatClampNeg (M 9 4)) 0 a1 → (∀ N32, N32 = mset N22 9 4 ((N22 9 4) + 1) → Q ((N32 9 4) - 1) N32))) ∧ (¬ (M 9 4) < 8 →
    Q (-4) M))
set_option maxHeartbeats 1000000 in
set_option maxRecDepth 20000 in
theorem sX4_addRead {E : En} {a1 : Int32} {M : Mem} {Q : Int32 → Mem → Prop} (h : wX4_addRead a1 M Q) : CM E 1 mX4_addRead [.ref (E.2.2 9), .int a1] M (Pi Q) := by
  unfold wX4_addRead at h
  refine CM.of (by decide) rfl (Nat.le_of_ble_eq_true rfl) ?_
  refine V_aload_n dX4_addRead_0 rfl ?_
  refine V_getI fl_X4_31 dX4_addRead_1 rfl rfl ?_
  refine V_bipush 8 dX4_addRead_4 (by decide) ?_
  refine V_icmp_lt 12 dX4_addRead_6 (by decide) (fun q6 => ?_) (fun q6 => ?_)
  · replace h := h.1 q6
    refine V_aload_n dX4_addRead_12 rfl ?_
    refine V_getR 10 fl_X4_11 dX4_addRead_13 rfl rfl rfl ?_
    refine V_aload_n dX4_addRead_16 rfl ?_
    refine V_getI fl_X4_31 dX4_addRead_17 rfl rfl ?_
    obtain ⟨hi20, h⟩ := h
    have hb20 := vp_lt hi20
    refine V_aaldM (32 + Int32.toNatClampNeg (M 9 4)) dX4_addRead_20 rfl (by decide) hi20 rfl ?_
    refine V_iload_n dX4_addRead_21 rfl ?_
    refine V_putN fp_X4_44 dX4_addRead_22 (kd_X3 (by omega)) rfl rfl rfl (fun N22 e22 => ?_)
    replace h := h N22 e22
    refine V_aload_n dX4_addRead_25 rfl ?_
    refine V_dup dX4_addRead_26 rfl ?_
    refine V_getI fl_X4_31 dX4_addRead_27 rfl rfl ?_
    refine V_iconst 1 dX4_addRead_30 (by decide) ?_
    refine V_iadd dX4_addRead_31 ?_
    refine V_putN fp_X4_31 dX4_addRead_32 rfl rfl rfl rfl (fun N32 e32 => ?_)
    replace h := h N32 e32
    refine V_aload_n dX4_addRead_35 rfl ?_
    refine V_getI fl_X4_31 dX4_addRead_36 rfl rfl ?_
    refine V_iconst 1 dX4_addRead_39 (by decide) ?_
    refine V_isub dX4_addRead_40 ?_
    exact V_reti dX4_addRead_41 rfl rfl h
  · replace h := h.2 q6
    refine V_bipush (-4) dX4_addRead_9 (by decide) ?_
    exact V_reti dX4_addRead_11 rfl rfl h
def wX4_collectAt (a1 : Int32) (a2 : Nat) (M : Mem) (Q : Mem → Prop) : Prop :=
  (50 ≤ a2 ∧ a2 < 100) ∧ wX7_clear a2 M (fun M1 => (∃ n, lq1 (fun R6 (x6_3 : Int32) (M6 : Mem) => (((M6 9 4) ≤ x6_3 →
        Q M6) ∧ (¬ (M6 9 4) ≤ x6_3 →
        vp_in x6_3 9 ∧ wX10_isIn a1 (M6 (32 + Int32.toNatClampNeg x6_3) 0) M6 (fun v24 M24 => ((v24 = 0 →
            R6 (x6_3 + 1) M24) ∧ (¬ v24 = 0 →
            wX7_add a2 x6_3 M24 (fun M32 => R6 (x6_3 + 1) M32))))))) n 0 M1))
set_option maxHeartbeats 1000000 in
set_option maxRecDepth 20000 in
theorem sX4_collectAt {E : En} {a1 : Int32} {a2 : Nat} {M : Mem} {Q : Mem → Prop} (h : wX4_collectAt a1 a2 M Q) : CM E 2 mX4_collectAt [.ref (E.2.2 9), .int a1, .ref (E.2.2 a2)] M (Pv Q) := by
  unfold wX4_collectAt at h
  obtain ⟨hk2, h⟩ := h
  refine CM.of (by decide) rfl (Nat.le_of_ble_eq_true rfl) ?_
  refine V_aload_n dX4_collectAt_0 rfl ?_
  refine M_Vv mv_X7_clear lk_X4_47 dX4_collectAt_1 rfl (kd_X7 (by omega)) (sX7_clear h) rfl rfl (Nat.le_of_ble_eq_true rfl) (by decide) (by decide) (fun M1 h => ?_)
  refine V_iconst 0 dX4_collectAt_4 (by decide) ?_
  refine V_istore_n dX4_collectAt_5 (by decide) ?_
  obtain ⟨n6, h⟩ := h
  refine V_take 4 ?_
  refine lq1_use (P := fun (x6_3 : Int32) (M6 : Mem) => V (Km E 2 (Pv Q)) mX4_collectAt 6 [.ref (E.2.2 9), .int a1, .ref (E.2.2 a2), .int x6_3] [] (wsM E.1 E.2.2 M6) 0 0) (fun R6 hR6 x6_3 M6 h => ?_) n6 _ _ h
  refine V_iload_n dX4_collectAt_6 rfl ?_
  refine V_aload_n dX4_collectAt_7 rfl ?_
  refine V_getI fl_X4_31 dX4_collectAt_8 rfl rfl ?_
  refine V_icmp_ge 41 dX4_collectAt_11 (by decide) (fun q11 => ?_) (fun q11 => ?_)
  · replace h := h.1 q11
    exact V_retv dX4_collectAt_41 rfl h
  · replace h := h.2 q11
    refine V_iload_n dX4_collectAt_14 rfl ?_
    refine V_aload_n dX4_collectAt_15 rfl ?_
    refine V_getR 10 fl_X4_11 dX4_collectAt_16 rfl rfl rfl ?_
    refine V_iload_n dX4_collectAt_19 rfl ?_
    obtain ⟨hi20, h⟩ := h
    have hb20 := vp_lt hi20
    refine V_aaldM (32 + Int32.toNatClampNeg x6_3) dX4_collectAt_20 rfl (by decide) hi20 rfl ?_
    refine V_getI fl_X4_44 dX4_collectAt_21 (kd_X3 (by omega)) rfl ?_
    refine M_Si ms_X10_isIn lk_X4_50 dX4_collectAt_24 (sX10_isIn h) rfl rfl (Nat.le_of_ble_eq_true rfl) (by decide) (by decide) (fun v24 M24 h => ?_)
    refine V_if_eq 35 dX4_collectAt_27 (by decide) (fun q27 => ?_) (fun q27 => ?_)
    · replace h := h.1 q27
      refine V_iincC 1 dX4_collectAt_35 (by decide) rfl (by decide) ?_
      refine V_goto 6 dX4_collectAt_38 (by decide) ?_
      refine V_take 4 ?_
      exact hR6 _ _ h
    · replace h := h.2 q27
      refine V_aload_n dX4_collectAt_30 rfl ?_
      refine V_iload_n dX4_collectAt_31 rfl ?_
      refine M_Vv mv_X7_add lk_X4_54 dX4_collectAt_32 rfl (kd_X7 (by omega)) (sX7_add h) rfl rfl (Nat.le_of_ble_eq_true rfl) (by decide) (by decide) (fun M32 h => ?_)
      refine V_iincC 1 dX4_collectAt_35 (by decide) rfl (by decide) ?_
      refine V_goto 6 dX4_collectAt_38 (by decide) ?_
      refine V_take 4 ?_
      exact hR6 _ _ h
def wX10_isBelow (a0 : Int32) (a1 : Int32) (M : Mem) (Q : Int32 → Mem → Prop) : Prop :=
  ((a0 < 0 →
    Q 0 M) ∧ (¬ a0 < 0 →
    ((a1 ≤ a0 →
      Q 0 M) ∧ (¬ a1 ≤ a0 →
      Q 1 M))))
set_option maxHeartbeats 1000000 in
set_option maxRecDepth 20000 in
theorem sX10_isBelow {E : En} {a0 : Int32} {a1 : Int32} {M : Mem} {Q : Int32 → Mem → Prop} (h : wX10_isBelow a0 a1 M Q) : CM E 1 mX10_isBelow [.int a0, .int a1] M (Pi Q) := by
  unfold wX10_isBelow at h
  refine CM.of (by decide) rfl (Nat.le_of_ble_eq_true rfl) ?_
  refine V_iload_n dX10_isBelow_0 rfl ?_
  refine V_if_lt 13 dX10_isBelow_1 (by decide) (fun q1 => ?_) (fun q1 => ?_)
  · replace h := h.1 q1
    refine V_iconst 0 dX10_isBelow_13 (by decide) ?_
    exact V_reti dX10_isBelow_14 rfl rfl h
  · replace h := h.2 q1
    refine V_iload_n dX10_isBelow_4 rfl ?_
    refine V_iload_n dX10_isBelow_5 rfl ?_
    refine V_icmp_ge 13 dX10_isBelow_6 (by decide) (fun q6 => ?_) (fun q6 => ?_)
    · replace h := h.1 q6
      refine V_iconst 0 dX10_isBelow_13 (by decide) ?_
      exact V_reti dX10_isBelow_14 rfl rfl h
    · replace h := h.2 q6
      refine V_iconst 1 dX10_isBelow_9 (by decide) ?_
      refine V_goto 14 dX10_isBelow_10 (by decide) ?_
      exact V_reti dX10_isBelow_14 rfl rfl h
def wX7_at (a0 : Nat) (a1 : Int32) (M : Mem) (Q : Int32 → Mem → Prop) : Prop :=
  (50 ≤ a0 ∧ a0 < 100) ∧ wX10_isBelow a1 (M a0 1) M (fun v5 M5 => ((v5 = 0 →
      Q (-9) M5) ∧ (¬ v5 = 0 →
      vp_in a1 8 ∧ Q (M5 (a0 + 50) (Int32.toNatClampNeg a1)) M5)))
set_option maxHeartbeats 1000000 in
set_option maxRecDepth 20000 in
theorem sX7_at {E : En} {a0 : Nat} {a1 : Int32} {M : Mem} {Q : Int32 → Mem → Prop} (h : wX7_at a0 a1 M Q) : CM E 2 mX7_at [.ref (E.2.2 a0), .int a1] M (Pi Q) := by
  unfold wX7_at at h
  obtain ⟨hk0, h⟩ := h
  refine CM.of (by decide) rfl (Nat.le_of_ble_eq_true rfl) ?_
  refine V_iload_n dX7_at_0 rfl ?_
  refine V_aload_n dX7_at_1 rfl ?_
  refine V_getI fl_X7_15 dX7_at_2 (kd_X7 (by omega)) rfl ?_
  refine M_Si ms_X10_isBelow lk_X7_32 dX7_at_5 (sX10_isBelow h) rfl rfl (Nat.le_of_ble_eq_true rfl) (by decide) (by decide) (fun v5 M5 h => ?_)
  refine V_if_eq 20 dX7_at_8 (by decide) (fun q8 => ?_) (fun q8 => ?_)
  · replace h := h.1 q8
    refine V_bipush (-9) dX7_at_20 (by decide) ?_
    exact V_reti dX7_at_22 rfl rfl h
  · replace h := h.2 q8
    refine V_aload_n dX7_at_11 rfl ?_
    refine V_getR (a0 + 50) fl_X7_9 dX7_at_12 (kd_X7 (by omega)) rfl (rf_X7 (by omega)) ?_
    refine V_iload_n dX7_at_15 rfl ?_
    obtain ⟨hi16, h⟩ := h
    refine V_ialdM dX7_at_16 (kd_num (by omega)) (by rw [(ln_num (by omega))]; exact hi16) ?_
    refine V_goto 22 dX7_at_17 (by decide) ?_
    exact V_reti dX7_at_22 rfl rfl h
def wX9_isOf (a1 : Int32) (a2 : Int32) (M : Mem) (Q : Int32 → Mem → Prop) : Prop :=
  ((¬ a2 = 29 →
    wX10_isBelow a1 16 M (fun v11 M11 => ((¬ v11 = 0 →
        ((a2 < 28 →
          ((a2 < 22 →
            ((a2 < 16 →
              ((¬ a1 = a2 →
                Q 0 M11) ∧ (a1 = a2 →
                Q 1 M11))) ∧ (¬ a2 < 16 →
              vp_in a1 16 ∧ wX10_isIn (a2 - 16) (M11 2 (Int32.toNatClampNeg a1)) M11 (fun v73 M73 => isB v73 ∧ Q v73 M73)))) ∧ (¬ a2 < 22 →
            vp_in a1 16 ∧ wX10_isIn (a2 - 22) (M11 3 (Int32.toNatClampNeg a1)) M11 (fun v53 M53 => isB v53 ∧ Q v53 M53)))) ∧ (¬ a2 < 28 →
          Q 0 M11))) ∧ (v11 = 0 →
        ((¬ a2 = 28 →
          Q 0 M11) ∧ (a2 = 28 →
          Q 1 M11)))))) ∧ (a2 = 29 →
    Q 1 M))
set_option maxHeartbeats 1000000 in
set_option maxRecDepth 20000 in
theorem sX9_isOf {E : En} {a1 : Int32} {a2 : Int32} {M : Mem} {Q : Int32 → Mem → Prop} (h : wX9_isOf a1 a2 M Q) : CM E 2 mX9_isOf [.ref (E.2.2 1), .int a1, .int a2] M (Pi Q) := by
  unfold wX9_isOf at h
  refine CM.of (by decide) rfl (Nat.le_of_ble_eq_true rfl) ?_
  refine V_iload_n dX9_isOf_0 rfl ?_
  refine V_bipush 29 dX9_isOf_1 (by decide) ?_
  refine V_icmp_ne 8 dX9_isOf_3 (by decide) (fun q3 => ?_) (fun q3 => ?_)
  · replace h := h.1 q3
    refine V_iload_n dX9_isOf_8 rfl ?_
    refine V_bipush 16 dX9_isOf_9 (by decide) ?_
    refine M_Si ms_X10_isBelow lk_X9_26 dX9_isOf_11 (sX10_isBelow h) rfl rfl (Nat.le_of_ble_eq_true rfl) (by decide) (by decide) (fun v11 M11 h => ?_)
    refine V_if_ne 29 dX9_isOf_14 (by decide) (fun q14 => ?_) (fun q14 => ?_)
    · replace h := h.1 q14
      refine V_iload_n dX9_isOf_29 rfl ?_
      refine V_bipush 28 dX9_isOf_30 (by decide) ?_
      refine V_icmp_lt 37 dX9_isOf_32 (by decide) (fun q32 => ?_) (fun q32 => ?_)
      · replace h := h.1 q32
        refine V_iload_n dX9_isOf_37 rfl ?_
        refine V_bipush 22 dX9_isOf_38 (by decide) ?_
        refine V_icmp_lt 57 dX9_isOf_40 (by decide) (fun q40 => ?_) (fun q40 => ?_)
        · replace h := h.1 q40
          refine V_iload_n dX9_isOf_57 rfl ?_
          refine V_bipush 16 dX9_isOf_58 (by decide) ?_
          refine V_icmp_lt 79 dX9_isOf_60 (by decide) (fun q60 => ?_) (fun q60 => ?_)
          · replace h := h.1 q60
            refine V_iload_n dX9_isOf_79 rfl ?_
            refine V_iload_n dX9_isOf_80 rfl ?_
            refine V_icmp_ne 88 dX9_isOf_81 (by decide) (fun q81 => ?_) (fun q81 => ?_)
            · replace h := h.1 q81
              refine V_iconst 0 dX9_isOf_88 (by decide) ?_
              exact V_reti dX9_isOf_89 rfl rfl h
            · replace h := h.2 q81
              refine V_iconst 1 dX9_isOf_84 (by decide) ?_
              refine V_goto 89 dX9_isOf_85 (by decide) ?_
              exact V_reti dX9_isOf_89 rfl rfl h
          · replace h := h.2 q60
            refine V_iload_n dX9_isOf_63 rfl ?_
            refine V_bipush 16 dX9_isOf_64 (by decide) ?_
            refine V_isub dX9_isOf_66 ?_
            refine V_aload_n dX9_isOf_67 rfl ?_
            refine V_getR 2 fl_X9_9 dX9_isOf_68 rfl rfl rfl ?_
            refine V_iload_n dX9_isOf_71 rfl ?_
            obtain ⟨hi72, h⟩ := h
            refine V_ialdM dX9_isOf_72 rfl hi72 ?_
            refine M_Si ms_X10_isIn lk_X9_30 dX9_isOf_73 (sX10_isIn h) rfl rfl (Nat.le_of_ble_eq_true rfl) (by decide) (by decide) (fun v73 M73 h => ?_)
            refine V_goto 89 dX9_isOf_76 (by decide) ?_
            exact V_reti dX9_isOf_89 rfl (nb h.1) h.2
        · replace h := h.2 q40
          refine V_iload_n dX9_isOf_43 rfl ?_
          refine V_bipush 22 dX9_isOf_44 (by decide) ?_
          refine V_isub dX9_isOf_46 ?_
          refine V_aload_n dX9_isOf_47 rfl ?_
          refine V_getR 3 fl_X9_15 dX9_isOf_48 rfl rfl rfl ?_
          refine V_iload_n dX9_isOf_51 rfl ?_
          obtain ⟨hi52, h⟩ := h
          refine V_ialdM dX9_isOf_52 rfl hi52 ?_
          refine M_Si ms_X10_isIn lk_X9_30 dX9_isOf_53 (sX10_isIn h) rfl rfl (Nat.le_of_ble_eq_true rfl) (by decide) (by decide) (fun v53 M53 h => ?_)
          exact V_reti dX9_isOf_56 rfl (nb h.1) h.2
      · replace h := h.2 q32
        refine V_iconst 0 dX9_isOf_35 (by decide) ?_
        exact V_reti dX9_isOf_36 rfl rfl h
    · replace h := h.2 q14
      refine V_iload_n dX9_isOf_17 rfl ?_
      refine V_bipush 28 dX9_isOf_18 (by decide) ?_
      refine V_icmp_ne 27 dX9_isOf_20 (by decide) (fun q20 => ?_) (fun q20 => ?_)
      · replace h := h.1 q20
        refine V_iconst 0 dX9_isOf_27 (by decide) ?_
        exact V_reti dX9_isOf_28 rfl rfl h
      · replace h := h.2 q20
        refine V_iconst 1 dX9_isOf_23 (by decide) ?_
        refine V_goto 28 dX9_isOf_24 (by decide) ?_
        exact V_reti dX9_isOf_28 rfl rfl h
  · replace h := h.2 q3
    refine V_iconst 1 dX9_isOf_6 (by decide) ?_
    exact V_reti dX9_isOf_7 rfl rfl h
def wX4_doLaw (a1 : Nat) (a2 : Nat) (M : Mem) (Q : Int32 → Mem → Prop) : Prop :=
  (32 ≤ a1 ∧ a1 < 41) ∧ (50 ≤ a2 ∧ a2 < 100) ∧ wX7_become 96 a2 M (fun M5 => wX7_clear a2 M5 (fun M9 => (∃ n, lq2 (fun R17 (x17_3 : Int32) (x17_4 : Int32) (M17 : Mem) => (((M17 96 1) ≤ x17_4 →
          isB x17_3 ∧ Q x17_3 M17) ∧ (¬ (M17 96 1) ≤ x17_4 →
          wX7_at 96 x17_4 M17 (fun v35 M35 => wX9_isOf v35 (M35 a1 1) M35 (fun v50 M50 => jn1 (fun (y111_0 : Int32) (M111 : Mem) => jn1 (fun (y127_0 : Int32) (M127 : Mem) => jn0 (fun (M142 : Mem) => jn0 (fun (M153 : Mem) => R17 1 (x17_4 + 1) M153) (fun J153 => ((¬ x17_3 = 0 →
                        J153 M142) ∧ (x17_3 = 0 →
                        ((y127_0 = v35 →
                          R17 0 (x17_4 + 1) M142) ∧ (¬ y127_0 = v35 →
                          J153 M142)))))) (fun J142 => ((y127_0 = (-2) →
                      J142 M127) ∧ (¬ y127_0 = (-2) →
                      wX7_add a2 y127_0 M127 (fun M139 => J142 M139))))) (fun J127 => ((y111_0 = 0 →
                    J127 v35 M111) ∧ (¬ y111_0 = 0 →
                    J127 (M111 a1 2) M111)))) (fun J111 => ((v50 = 0 →
                  J111 0 M50) ∧ (¬ v50 = 0 →
                  wX7_at 96 (x17_4 - 1) M50 (fun v68 M68 => wX9_isOf v68 (M68 a1 3) M68 (fun v75 M75 => ((v75 = 0 →
                        J111 0 M75) ∧ (¬ v75 = 0 →
                        wX7_at 96 (x17_4 + 1) M75 (fun v93 M93 => wX9_isOf v93 (M93 a1 4) M93 (fun v100 M100 => ((v100 = 0 →
                              J111 0 M100) ∧ (¬ v100 = 0 →
                              J111 1 M100)))))))))))))))) n 0 0 M9)))
set_option maxHeartbeats 1000000 in
set_option maxRecDepth 20000 in
theorem sX4_doLaw {E : En} {a1 : Nat} {a2 : Nat} {M : Mem} {Q : Int32 → Mem → Prop} (h : wX4_doLaw a1 a2 M Q) : CM E 3 mX4_doLaw [.ref (E.2.2 9), .ref (E.2.2 a1), .ref (E.2.2 a2)] M (Pi Q) := by
  unfold wX4_doLaw at h
  obtain ⟨hk1, h⟩ := h
  obtain ⟨hk2, h⟩ := h
  refine CM.of (by decide) rfl (Nat.le_of_ble_eq_true rfl) ?_
  refine V_aload_n dX4_doLaw_0 rfl ?_
  refine V_getR 96 fl_X4_27 dX4_doLaw_1 rfl rfl rfl ?_
  refine V_aload_n dX4_doLaw_4 rfl ?_
  refine M_Vv mv_X7_become lk_X4_72 dX4_doLaw_5 rfl rfl (sX7_become h) rfl rfl (Nat.le_of_ble_eq_true rfl) (by decide) (by decide) (fun M5 h => ?_)
  refine V_aload_n dX4_doLaw_8 rfl ?_
  refine M_Vv mv_X7_clear lk_X4_47 dX4_doLaw_9 rfl (kd_X7 (by omega)) (sX7_clear h) rfl rfl (Nat.le_of_ble_eq_true rfl) (by decide) (by decide) (fun M9 h => ?_)
  refine V_iconst 0 dX4_doLaw_12 (by decide) ?_
  refine V_istore_n dX4_doLaw_13 (by decide) ?_
  refine V_iconst 0 dX4_doLaw_14 (by decide) ?_
  refine V_istore dX4_doLaw_15 (by decide) ?_
  obtain ⟨n17, h⟩ := h
  refine V_take 5 ?_
  refine lq2_use (P := fun (x17_3 : Int32) (x17_4 : Int32) (M17 : Mem) => V (Km E 3 (Pi Q)) mX4_doLaw 17 [.ref (E.2.2 9), .ref (E.2.2 a1), .ref (E.2.2 a2), .int x17_3, .int x17_4] [] (wsM E.1 E.2.2 M17) 0 0) (fun R17 hR17 x17_3 x17_4 M17 h => ?_) n17 _ _ _ h
  refine V_iload dX4_doLaw_17 rfl ?_
  refine V_aload_n dX4_doLaw_19 rfl ?_
  refine V_getR 96 fl_X4_27 dX4_doLaw_20 rfl rfl rfl ?_
  refine V_getI fl_X4_62 dX4_doLaw_23 rfl rfl ?_
  refine V_icmp_ge 165 dX4_doLaw_26 (by decide) (fun q26 => ?_) (fun q26 => ?_)
  · replace h := h.1 q26
    refine V_iload_n dX4_doLaw_165 rfl ?_
    exact V_reti dX4_doLaw_166 rfl (nb h.1) h.2
  · replace h := h.2 q26
    refine V_aload_n dX4_doLaw_29 rfl ?_
    refine V_getR 96 fl_X4_27 dX4_doLaw_30 rfl rfl rfl ?_
    refine V_iload dX4_doLaw_33 rfl ?_
    refine M_Vi mv_X7_at lk_X4_65 dX4_doLaw_35 rfl rfl (sX7_at h) rfl rfl (Nat.le_of_ble_eq_true rfl) (by decide) (by decide) (fun v35 M35 h => ?_)
    refine V_istore dX4_doLaw_38 (by decide) ?_
    refine V_aload_n dX4_doLaw_40 rfl ?_
    refine V_getR 1 fl_X4_35 dX4_doLaw_41 rfl rfl rfl ?_
    refine V_iload dX4_doLaw_44 rfl ?_
    refine V_aload_n dX4_doLaw_46 rfl ?_
    refine V_getI fl_X4_76 dX4_doLaw_47 (kd_X3 (by omega)) rfl ?_
    refine M_Vi mv_X9_isOf lk_X4_79 dX4_doLaw_50 rfl rfl (sX9_isOf h) rfl rfl (Nat.le_of_ble_eq_true rfl) (by decide) (by decide) (fun v50 M50 h => ?_)
    refine jn1_use (P := fun (y111_0 : Int32) (M111 : Mem) => V (Km E 3 (Pi Q)) mX4_doLaw 111 [.ref (E.2.2 9), .ref (E.2.2 a1), .ref (E.2.2 a2), .int x17_3, .int x17_4, .int v35] [.int y111_0] (wsM E.1 E.2.2 M111) 0 0) (fun y111_0 M111 h => ?_) (fun J111 hJ111 h => ?_) h
    · refine V_istore dX4_doLaw_111 (by decide) ?_
      refine V_iload dX4_doLaw_113 rfl ?_
      refine jn1_use (P := fun (y127_0 : Int32) (M127 : Mem) => ∀ j127_6 : Value, V (Km E 3 (Pi Q)) mX4_doLaw 127 [.ref (E.2.2 9), .ref (E.2.2 a1), .ref (E.2.2 a2), .int x17_3, .int x17_4, .int v35, j127_6] [.int y127_0] (wsM E.1 E.2.2 M127) 0 0) (fun y127_0 M127 h j127_6 => ?_) (fun J127 hJ127 h => ?_) h
      · refine V_istore dX4_doLaw_127 (by decide) ?_
        refine V_iload dX4_doLaw_129 rfl ?_
        refine V_bipush (-2) dX4_doLaw_131 (by decide) ?_
        refine jn0_use (P := fun (M142 : Mem) => ∀ j142_6 : Value, V (Km E 3 (Pi Q)) mX4_doLaw 142 [.ref (E.2.2 9), .ref (E.2.2 a1), .ref (E.2.2 a2), .int x17_3, .int x17_4, .int v35, j142_6, .int y127_0] [] (wsM E.1 E.2.2 M142) 0 0) (fun M142 h j142_6 => ?_) (fun J142 hJ142 h => ?_) h
        · refine V_iload_n dX4_doLaw_142 rfl ?_
          refine jn0_use (P := fun (M153 : Mem) => ∀ j153_3 : Value, ∀ j153_5 : Value, ∀ j153_6 : Value, ∀ j153_7 : Value, V (Km E 3 (Pi Q)) mX4_doLaw 153 [.ref (E.2.2 9), .ref (E.2.2 a1), .ref (E.2.2 a2), j153_3, .int x17_4, j153_5, j153_6, j153_7] [] (wsM E.1 E.2.2 M153) 0 0) (fun M153 h j153_3 j153_5 j153_6 j153_7 => ?_) (fun J153 hJ153 h => ?_) h
          · refine V_iconst 1 dX4_doLaw_153 (by decide) ?_
            refine V_goto 158 dX4_doLaw_154 (by decide) ?_
            refine V_istore_n dX4_doLaw_158 (by decide) ?_
            refine V_iincC 1 dX4_doLaw_159 (by decide) rfl (by decide) ?_
            refine V_goto 17 dX4_doLaw_162 (by decide) ?_
            refine V_take 5 ?_
            exact hR17 _ _ _ h
          · refine V_if_ne 153 dX4_doLaw_143 (by decide) (fun q143 => ?_) (fun q143 => ?_)
            · replace h := h.1 q143
              refine V_take 8 ?_
              exact hJ153 _ h _ _ _ _
            · replace h := h.2 q143
              refine V_iload dX4_doLaw_146 rfl ?_
              refine V_iload dX4_doLaw_148 rfl ?_
              refine V_icmp_eq 157 dX4_doLaw_150 (by decide) (fun q150 => ?_) (fun q150 => ?_)
              · replace h := h.1 q150
                refine V_iconst 0 dX4_doLaw_157 (by decide) ?_
                refine V_istore_n dX4_doLaw_158 (by decide) ?_
                refine V_iincC 1 dX4_doLaw_159 (by decide) rfl (by decide) ?_
                refine V_goto 17 dX4_doLaw_162 (by decide) ?_
                refine V_take 5 ?_
                exact hR17 _ _ _ h
              · replace h := h.2 q150
                refine V_take 8 ?_
                exact hJ153 _ h _ _ _ _
        · refine V_icmp_eq 142 dX4_doLaw_133 (by decide) (fun q133 => ?_) (fun q133 => ?_)
          · replace h := h.1 q133
            refine V_take 8 ?_
            exact hJ142 _ h _
          · replace h := h.2 q133
            refine V_aload_n dX4_doLaw_136 rfl ?_
            refine V_iload dX4_doLaw_137 rfl ?_
            refine M_Vv mv_X7_add lk_X4_54 dX4_doLaw_139 rfl (kd_X7 (by omega)) (sX7_add h) rfl rfl (Nat.le_of_ble_eq_true rfl) (by decide) (by decide) (fun M139 h => ?_)
            refine V_take 8 ?_
            exact hJ142 _ h _
      · refine V_if_eq 125 dX4_doLaw_115 (by decide) (fun q115 => ?_) (fun q115 => ?_)
        · replace h := h.1 q115
          refine V_iload dX4_doLaw_125 rfl ?_
          refine V_take 7 ?_
          exact hJ127 _ _ h _
        · replace h := h.2 q115
          refine V_aload_n dX4_doLaw_118 rfl ?_
          refine V_getI fl_X4_90 dX4_doLaw_119 (kd_X3 (by omega)) rfl ?_
          refine V_goto 127 dX4_doLaw_122 (by decide) ?_
          refine V_take 7 ?_
          exact hJ127 _ _ h _
    · refine V_if_eq 110 dX4_doLaw_53 (by decide) (fun q53 => ?_) (fun q53 => ?_)
      · replace h := h.1 q53
        refine V_iconst 0 dX4_doLaw_110 (by decide) ?_
        refine V_take 6 ?_
        exact hJ111 _ _ h
      · replace h := h.2 q53
        refine V_aload_n dX4_doLaw_56 rfl ?_
        refine V_getR 1 fl_X4_35 dX4_doLaw_57 rfl rfl rfl ?_
        refine V_aload_n dX4_doLaw_60 rfl ?_
        refine V_getR 96 fl_X4_27 dX4_doLaw_61 rfl rfl rfl ?_
        refine V_iload dX4_doLaw_64 rfl ?_
        refine V_iconst 1 dX4_doLaw_66 (by decide) ?_
        refine V_isub dX4_doLaw_67 ?_
        refine M_Vi mv_X7_at lk_X4_65 dX4_doLaw_68 rfl rfl (sX7_at h) rfl rfl (Nat.le_of_ble_eq_true rfl) (by decide) (by decide) (fun v68 M68 h => ?_)
        refine V_aload_n dX4_doLaw_71 rfl ?_
        refine V_getI fl_X4_84 dX4_doLaw_72 (kd_X3 (by omega)) rfl ?_
        refine M_Vi mv_X9_isOf lk_X4_79 dX4_doLaw_75 rfl rfl (sX9_isOf h) rfl rfl (Nat.le_of_ble_eq_true rfl) (by decide) (by decide) (fun v75 M75 h => ?_)
        refine V_if_eq 110 dX4_doLaw_78 (by decide) (fun q78 => ?_) (fun q78 => ?_)
        · replace h := h.1 q78
          refine V_iconst 0 dX4_doLaw_110 (by decide) ?_
          refine V_take 6 ?_
          exact hJ111 _ _ h
        · replace h := h.2 q78
          refine V_aload_n dX4_doLaw_81 rfl ?_
          refine V_getR 1 fl_X4_35 dX4_doLaw_82 rfl rfl rfl ?_
          refine V_aload_n dX4_doLaw_85 rfl ?_
          refine V_getR 96 fl_X4_27 dX4_doLaw_86 rfl rfl rfl ?_
          refine V_iload dX4_doLaw_89 rfl ?_
          refine V_iconst 1 dX4_doLaw_91 (by decide) ?_
          refine V_iadd dX4_doLaw_92 ?_
          refine M_Vi mv_X7_at lk_X4_65 dX4_doLaw_93 rfl rfl (sX7_at h) rfl rfl (Nat.le_of_ble_eq_true rfl) (by decide) (by decide) (fun v93 M93 h => ?_)
          refine V_aload_n dX4_doLaw_96 rfl ?_
          refine V_getI fl_X4_87 dX4_doLaw_97 (kd_X3 (by omega)) rfl ?_
          refine M_Vi mv_X9_isOf lk_X4_79 dX4_doLaw_100 rfl rfl (sX9_isOf h) rfl rfl (Nat.le_of_ble_eq_true rfl) (by decide) (by decide) (fun v100 M100 h => ?_)
          refine V_if_eq 110 dX4_doLaw_103 (by decide) (fun q103 => ?_) (fun q103 => ?_)
          · replace h := h.1 q103
            refine V_iconst 0 dX4_doLaw_110 (by decide) ?_
            refine V_take 6 ?_
            exact hJ111 _ _ h
          · replace h := h.2 q103
            refine V_iconst 1 dX4_doLaw_106 (by decide) ?_
            refine V_goto 111 dX4_doLaw_107 (by decide) ?_
            refine V_take 6 ?_
            exact hJ111 _ _ h
def wX4_deriveAt (a1 : Int32) (a2 : Nat) (a3 : Int32) (M : Mem) (Q : Int32 → Mem → Prop) : Prop :=
  (50 ≤ a2 ∧ a2 < 100) ∧ (∃ n, lq3 (fun R10 (x10_4 : Int32) (x10_5 : Int32) (x10_6 : Int32) (M10 : Mem) => (((M10 9 4) ≤ x10_6 →
      Q x10_4 M10) ∧ (¬ (M10 9 4) ≤ x10_6 →
      ((a3 ≤ x10_5 →
        Q x10_4 M10) ∧ (¬ a3 ≤ x10_5 →
        vp_in x10_6 9 ∧ wX10_isIn a1 (M10 (32 + Int32.toNatClampNeg x10_6) 0) M10 (fun v36 M36 => ((¬ v36 = 0 →
            wX4_doLaw (32 + Int32.toNatClampNeg x10_6) a2 M36 (fun v57 M57 => ((v57 = 0 →
                R10 x10_4 (x10_5 + 1) (x10_6 + 1) M57) ∧ (¬ v57 = 0 →
                R10 x10_6 (x10_5 + 1) (x10_6 + 1) M57)))) ∧ (v36 = 0 →
            R10 x10_4 x10_5 (x10_6 + 1) M36)))))))) n (-9) 0 0 M)
set_option maxHeartbeats 1000000 in
set_option maxRecDepth 20000 in
theorem sX4_deriveAt {E : En} {a1 : Int32} {a2 : Nat} {a3 : Int32} {M : Mem} {Q : Int32 → Mem → Prop} (h : wX4_deriveAt a1 a2 a3 M Q) : CM E 4 mX4_deriveAt [.ref (E.2.2 9), .int a1, .ref (E.2.2 a2), .int a3] M (Pi Q) := by
  unfold wX4_deriveAt at h
  obtain ⟨hk2, h⟩ := h
  refine CM.of (by decide) rfl (Nat.le_of_ble_eq_true rfl) ?_
  refine V_bipush (-9) dX4_deriveAt_0 (by decide) ?_
  refine V_istore dX4_deriveAt_2 (by decide) ?_
  refine V_iconst 0 dX4_deriveAt_4 (by decide) ?_
  refine V_istore dX4_deriveAt_5 (by decide) ?_
  refine V_iconst 0 dX4_deriveAt_7 (by decide) ?_
  refine V_istore dX4_deriveAt_8 (by decide) ?_
  obtain ⟨n10, h⟩ := h
  refine V_take 7 ?_
  refine lq3_use (P := fun (x10_4 : Int32) (x10_5 : Int32) (x10_6 : Int32) (M10 : Mem) => V (Km E 4 (Pi Q)) mX4_deriveAt 10 [.ref (E.2.2 9), .int a1, .ref (E.2.2 a2), .int a3, .int x10_4, .int x10_5, .int x10_6] [] (wsM E.1 E.2.2 M10) 0 0) (fun R10 hR10 x10_4 x10_5 x10_6 M10 h => ?_) n10 _ _ _ _ h
  refine V_iload dX4_deriveAt_10 rfl ?_
  refine V_aload_n dX4_deriveAt_12 rfl ?_
  refine V_getI fl_X4_31 dX4_deriveAt_13 rfl rfl ?_
  refine V_icmp_ge 73 dX4_deriveAt_16 (by decide) (fun q16 => ?_) (fun q16 => ?_)
  · replace h := h.1 q16
    refine V_iload dX4_deriveAt_73 rfl ?_
    exact V_reti dX4_deriveAt_75 rfl rfl h
  · replace h := h.2 q16
    refine V_iload dX4_deriveAt_19 rfl ?_
    refine V_iload_n dX4_deriveAt_21 rfl ?_
    refine V_icmp_ge 73 dX4_deriveAt_22 (by decide) (fun q22 => ?_) (fun q22 => ?_)
    · replace h := h.1 q22
      refine V_iload dX4_deriveAt_73 rfl ?_
      exact V_reti dX4_deriveAt_75 rfl rfl h
    · replace h := h.2 q22
      refine V_iload_n dX4_deriveAt_25 rfl ?_
      refine V_aload_n dX4_deriveAt_26 rfl ?_
      refine V_getR 10 fl_X4_11 dX4_deriveAt_27 rfl rfl rfl ?_
      refine V_iload dX4_deriveAt_30 rfl ?_
      obtain ⟨hi32, h⟩ := h
      have hb32 := vp_lt hi32
      refine V_aaldM (32 + Int32.toNatClampNeg x10_6) dX4_deriveAt_32 rfl (by decide) hi32 rfl ?_
      refine V_getI fl_X4_44 dX4_deriveAt_33 (kd_X3 (by omega)) rfl ?_
      refine M_Si ms_X10_isIn lk_X4_50 dX4_deriveAt_36 (sX10_isIn h) rfl rfl (Nat.le_of_ble_eq_true rfl) (by decide) (by decide) (fun v36 M36 h => ?_)
      refine V_if_ne 45 dX4_deriveAt_39 (by decide) (fun q39 => ?_) (fun q39 => ?_)
      · replace h := h.1 q39
        refine V_iincC 1 dX4_deriveAt_45 (by decide) rfl (by decide) ?_
        refine V_aload_n dX4_deriveAt_48 rfl ?_
        refine V_aload_n dX4_deriveAt_49 rfl ?_
        refine V_getR 10 fl_X4_11 dX4_deriveAt_50 rfl rfl rfl ?_
        refine V_iload dX4_deriveAt_53 rfl ?_
        have hb55 := vp_lt hi32
        refine V_aaldM (32 + Int32.toNatClampNeg x10_6) dX4_deriveAt_55 rfl (by decide) hi32 rfl ?_
        refine V_aload_n dX4_deriveAt_56 rfl ?_
        refine M_Vi mv_X4_doLaw lk_X4_58 dX4_deriveAt_57 rfl rfl (sX4_doLaw h) rfl rfl (Nat.le_of_ble_eq_true rfl) (by decide) (by decide) (fun v57 M57 h => ?_)
        refine V_if_eq 67 dX4_deriveAt_60 (by decide) (fun q60 => ?_) (fun q60 => ?_)
        · replace h := h.1 q60
          refine V_iincC 1 dX4_deriveAt_67 (by decide) rfl (by decide) ?_
          refine V_goto 10 dX4_deriveAt_70 (by decide) ?_
          refine V_take 7 ?_
          exact hR10 _ _ _ _ h
        · replace h := h.2 q60
          refine V_iload dX4_deriveAt_63 rfl ?_
          refine V_istore dX4_deriveAt_65 (by decide) ?_
          refine V_iincC 1 dX4_deriveAt_67 (by decide) rfl (by decide) ?_
          refine V_goto 10 dX4_deriveAt_70 (by decide) ?_
          refine V_take 7 ?_
          exact hR10 _ _ _ _ h
      · replace h := h.2 q39
        refine V_goto 67 dX4_deriveAt_42 (by decide) ?_
        refine V_iincC 1 dX4_deriveAt_67 (by decide) rfl (by decide) ?_
        refine V_goto 10 dX4_deriveAt_70 (by decide) ?_
        refine V_take 7 ?_
        exact hR10 _ _ _ _ h
def wX4_deriveBy (a1 : Nat) (a2 : Nat) (M : Mem) (Q : Mem → Prop) : Prop :=
  (50 ≤ a1 ∧ a1 < 100) ∧ (50 ≤ a2 ∧ a2 < 100) ∧ (∃ n, lq1 (fun R2 (x2_3 : Int32) (M2 : Mem) => (((M2 a1 1) ≤ x2_3 →
      Q M2) ∧ (¬ (M2 a1 1) ≤ x2_3 →
      wX7_at a1 x2_3 M2 (fun v12 M12 => wX10_isBelow v12 (M12 9 4) M12 (fun v23 M23 => ((v23 = 0 →
            R2 (x2_3 + 1) M23) ∧ (¬ v23 = 0 →
            vp_in v12 9 ∧ wX4_doLaw (32 + Int32.toNatClampNeg v12) a2 M23 (fun v38 M38 => R2 (x2_3 + 1) M38)))))))) n 0 M)
set_option maxHeartbeats 1000000 in
set_option maxRecDepth 20000 in
theorem sX4_deriveBy {E : En} {a1 : Nat} {a2 : Nat} {M : Mem} {Q : Mem → Prop} (h : wX4_deriveBy a1 a2 M Q) : CM E 4 mX4_deriveBy [.ref (E.2.2 9), .ref (E.2.2 a1), .ref (E.2.2 a2)] M (Pv Q) := by
  unfold wX4_deriveBy at h
  obtain ⟨hk1, h⟩ := h
  obtain ⟨hk2, h⟩ := h
  refine CM.of (by decide) rfl (Nat.le_of_ble_eq_true rfl) ?_
  refine V_iconst 0 dX4_deriveBy_0 (by decide) ?_
  refine V_istore_n dX4_deriveBy_1 (by decide) ?_
  obtain ⟨n2, h⟩ := h
  refine V_take 4 ?_
  refine lq1_use (P := fun (x2_3 : Int32) (M2 : Mem) => V (Km E 4 (Pv Q)) mX4_deriveBy 2 [.ref (E.2.2 9), .ref (E.2.2 a1), .ref (E.2.2 a2), .int x2_3] [] (wsM E.1 E.2.2 M2) 0 0) (fun R2 hR2 x2_3 M2 h => ?_) n2 _ _ h
  refine V_iload_n dX4_deriveBy_2 rfl ?_
  refine V_aload_n dX4_deriveBy_3 rfl ?_
  refine V_getI fl_X4_62 dX4_deriveBy_4 (kd_X7 (by omega)) rfl ?_
  refine V_icmp_ge 48 dX4_deriveBy_7 (by decide) (fun q7 => ?_) (fun q7 => ?_)
  · replace h := h.1 q7
    exact V_retv dX4_deriveBy_48 rfl h
  · replace h := h.2 q7
    refine V_aload_n dX4_deriveBy_10 rfl ?_
    refine V_iload_n dX4_deriveBy_11 rfl ?_
    refine M_Vi mv_X7_at lk_X4_65 dX4_deriveBy_12 rfl (kd_X7 (by omega)) (sX7_at h) rfl rfl (Nat.le_of_ble_eq_true rfl) (by decide) (by decide) (fun v12 M12 h => ?_)
    refine V_istore dX4_deriveBy_15 (by decide) ?_
    refine V_iload dX4_deriveBy_17 rfl ?_
    refine V_aload_n dX4_deriveBy_19 rfl ?_
    refine V_getI fl_X4_31 dX4_deriveBy_20 rfl rfl ?_
    refine M_Si ms_X10_isBelow lk_X4_69 dX4_deriveBy_23 (sX10_isBelow h) rfl rfl (Nat.le_of_ble_eq_true rfl) (by decide) (by decide) (fun v23 M23 h => ?_)
    refine V_if_eq 42 dX4_deriveBy_26 (by decide) (fun q26 => ?_) (fun q26 => ?_)
    · replace h := h.1 q26
      refine V_iincC 1 dX4_deriveBy_42 (by decide) rfl (by decide) ?_
      refine V_goto 2 dX4_deriveBy_45 (by decide) ?_
      refine V_take 4 ?_
      exact hR2 _ _ h
    · replace h := h.2 q26
      refine V_aload_n dX4_deriveBy_29 rfl ?_
      refine V_aload_n dX4_deriveBy_30 rfl ?_
      refine V_getR 10 fl_X4_11 dX4_deriveBy_31 rfl rfl rfl ?_
      refine V_iload dX4_deriveBy_34 rfl ?_
      obtain ⟨hi36, h⟩ := h
      have hb36 := vp_lt hi36
      refine V_aaldM (32 + Int32.toNatClampNeg v12) dX4_deriveBy_36 rfl (by decide) hi36 rfl ?_
      refine V_aload_n dX4_deriveBy_37 rfl ?_
      refine M_Vi mv_X4_doLaw lk_X4_58 dX4_deriveBy_38 rfl rfl (sX4_doLaw h) rfl rfl (Nat.le_of_ble_eq_true rfl) (by decide) (by decide) (fun v38 M38 h => ?_)
      refine V_pop dX4_deriveBy_41 rfl ?_
      refine V_iincC 1 dX4_deriveBy_42 (by decide) rfl (by decide) ?_
      refine V_goto 2 dX4_deriveBy_45 (by decide) ?_
      refine V_take 4 ?_
      exact hR2 _ _ h
def wJ6_bitCount_0f7a4 (a0 : Int32) (M : Mem) (Q : Int32 → Mem → Prop) : Prop :=
  (∀ t9 : Int32, t9 = (a0 - ((Int32.toUInt32 a0 >>> (Int32.toUInt32 1 &&& Int32.toUInt32 31)).toInt32 &&& 1431655765)) → (∀ t23 : Int32, t23 = ((t9 &&& 858993459) + ((Int32.toUInt32 t9 >>> (Int32.toUInt32 2 &&& Int32.toUInt32 31)).toInt32 &&& 858993459)) → (∀ t33 : Int32, t33 = ((t23 + (Int32.toUInt32 t23 >>> (Int32.toUInt32 4 &&& Int32.toUInt32 31)).toInt32) &&& 252645135) → (∀ t40 : Int32, t40 = (t33 + (Int32.toUInt32 t33 >>> (Int32.toUInt32 8 &&& Int32.toUInt32 31)).toInt32) → (∀ t47 : Int32, t47 = (t40 + (Int32.toUInt32 t40 >>> (Int32.toUInt32 16 &&& Int32.toUInt32 31)).toInt32) → Q (t47 &&& 63) M)))))
set_option maxHeartbeats 1000000 in
set_option maxRecDepth 20000 in
theorem sJ6_bitCount_0f7a4 {E : En} {a0 : Int32} {M : Mem} {Q : Int32 → Mem → Prop} (h : wJ6_bitCount_0f7a4 a0 M Q) : CM E 1 mJ6_bitCount_0f7a4 [.int a0] M (Pi Q) := by
  unfold wJ6_bitCount_0f7a4 at h
  refine CM.of (by decide) rfl (Nat.le_of_ble_eq_true rfl) ?_
  refine V_iload_n dJ6_bitCount_0f7a4_0 rfl ?_
  refine V_iload_n dJ6_bitCount_0f7a4_1 rfl ?_
  refine V_iconst 1 dJ6_bitCount_0f7a4_2 (by decide) ?_
  refine V_iushr dJ6_bitCount_0f7a4_3 ?_
  refine V_ldcw 1431655765 dJ6_bitCount_0f7a4_4 k_J6_265 ?_
  refine V_iand dJ6_bitCount_0f7a4_7 ?_
  refine V_isub dJ6_bitCount_0f7a4_8 ?_
  refine V_name (fun t9 e9 => ?_)
  replace h := h t9 e9
  refine V_istore_n dJ6_bitCount_0f7a4_9 (by decide) ?_
  refine V_iload_n dJ6_bitCount_0f7a4_10 rfl ?_
  refine V_ldcw 858993459 dJ6_bitCount_0f7a4_11 k_J6_266 ?_
  refine V_iand dJ6_bitCount_0f7a4_14 ?_
  refine V_iload_n dJ6_bitCount_0f7a4_15 rfl ?_
  refine V_iconst 2 dJ6_bitCount_0f7a4_16 (by decide) ?_
  refine V_iushr dJ6_bitCount_0f7a4_17 ?_
  refine V_ldcw 858993459 dJ6_bitCount_0f7a4_18 k_J6_266 ?_
  refine V_iand dJ6_bitCount_0f7a4_21 ?_
  refine V_iadd dJ6_bitCount_0f7a4_22 ?_
  refine V_name (fun t23 e23 => ?_)
  replace h := h t23 e23
  refine V_istore_n dJ6_bitCount_0f7a4_23 (by decide) ?_
  refine V_iload_n dJ6_bitCount_0f7a4_24 rfl ?_
  refine V_iload_n dJ6_bitCount_0f7a4_25 rfl ?_
  refine V_iconst 4 dJ6_bitCount_0f7a4_26 (by decide) ?_
  refine V_iushr dJ6_bitCount_0f7a4_27 ?_
  refine V_iadd dJ6_bitCount_0f7a4_28 ?_
  refine V_ldcw 252645135 dJ6_bitCount_0f7a4_29 k_J6_267 ?_
  refine V_iand dJ6_bitCount_0f7a4_32 ?_
  refine V_name (fun t33 e33 => ?_)
  replace h := h t33 e33
  refine V_istore_n dJ6_bitCount_0f7a4_33 (by decide) ?_
  refine V_iload_n dJ6_bitCount_0f7a4_34 rfl ?_
  refine V_iload_n dJ6_bitCount_0f7a4_35 rfl ?_
  refine V_bipush 8 dJ6_bitCount_0f7a4_36 (by decide) ?_
  refine V_iushr dJ6_bitCount_0f7a4_38 ?_
  refine V_iadd dJ6_bitCount_0f7a4_39 ?_
  refine V_name (fun t40 e40 => ?_)
  replace h := h t40 e40
  refine V_istore_n dJ6_bitCount_0f7a4_40 (by decide) ?_
  refine V_iload_n dJ6_bitCount_0f7a4_41 rfl ?_
  refine V_iload_n dJ6_bitCount_0f7a4_42 rfl ?_
  refine V_bipush 16 dJ6_bitCount_0f7a4_43 (by decide) ?_
  refine V_iushr dJ6_bitCount_0f7a4_45 ?_
  refine V_iadd dJ6_bitCount_0f7a4_46 ?_
  refine V_name (fun t47 e47 => ?_)
  replace h := h t47 e47
  refine V_istore_n dJ6_bitCount_0f7a4_47 (by decide) ?_
  refine V_iload_n dJ6_bitCount_0f7a4_48 rfl ?_
  refine V_bipush 63 dJ6_bitCount_0f7a4_49 (by decide) ?_
  refine V_iand dJ6_bitCount_0f7a4_51 ?_
  exact V_reti dJ6_bitCount_0f7a4_52 rfl rfl h
def wX9_difference (a1 : Int32) (a2 : Int32) (M : Mem) (Q : Int32 → Mem → Prop) : Prop :=
  vp_in a1 16 ∧ vp_in a2 16 ∧ (∀ t27 : Int32, t27 = (((M 2 (Int32.toNatClampNeg a1)) &&& (M 3 (Int32.toNatClampNeg a2))) ||| ((M 3 (Int32.toNatClampNeg a1)) &&& (M 2 (Int32.toNatClampNeg a2)))) → (∀ t55 : Int32, t55 = (((M 2 (Int32.toNatClampNeg a1)) ||| (M 3 (Int32.toNatClampNeg a1))) ^^^ ((M 2 (Int32.toNatClampNeg a2)) ||| (M 3 (Int32.toNatClampNeg a2)))) → wJ6_bitCount_0f7a4 t27 M (fun v59 M59 => wJ6_bitCount_0f7a4 t55 M59 (fun v65 M65 => Q ((2 * v59) + v65) M65))))
set_option maxHeartbeats 1000000 in
set_option maxRecDepth 20000 in
theorem sX9_difference {E : En} {a1 : Int32} {a2 : Int32} {M : Mem} {Q : Int32 → Mem → Prop} (h : wX9_difference a1 a2 M Q) : CM E 2 mX9_difference [.ref (E.2.2 1), .int a1, .int a2] M (Pi Q) := by
  unfold wX9_difference at h
  refine CM.of (by decide) rfl (Nat.le_of_ble_eq_true rfl) ?_
  refine V_aload_n dX9_difference_0 rfl ?_
  refine V_getR 2 fl_X9_9 dX9_difference_1 rfl rfl rfl ?_
  refine V_iload_n dX9_difference_4 rfl ?_
  obtain ⟨hi5, h⟩ := h
  refine V_ialdM dX9_difference_5 rfl hi5 ?_
  refine V_aload_n dX9_difference_6 rfl ?_
  refine V_getR 3 fl_X9_15 dX9_difference_7 rfl rfl rfl ?_
  refine V_iload_n dX9_difference_10 rfl ?_
  obtain ⟨hi11, h⟩ := h
  refine V_ialdM dX9_difference_11 rfl hi11 ?_
  refine V_iand dX9_difference_12 ?_
  refine V_aload_n dX9_difference_13 rfl ?_
  refine V_getR 3 fl_X9_15 dX9_difference_14 rfl rfl rfl ?_
  refine V_iload_n dX9_difference_17 rfl ?_
  refine V_ialdM dX9_difference_18 rfl hi5 ?_
  refine V_aload_n dX9_difference_19 rfl ?_
  refine V_getR 2 fl_X9_9 dX9_difference_20 rfl rfl rfl ?_
  refine V_iload_n dX9_difference_23 rfl ?_
  refine V_ialdM dX9_difference_24 rfl hi11 ?_
  refine V_iand dX9_difference_25 ?_
  refine V_ior dX9_difference_26 ?_
  refine V_name (fun t27 e27 => ?_)
  replace h := h t27 e27
  refine V_istore_n dX9_difference_27 (by decide) ?_
  refine V_aload_n dX9_difference_28 rfl ?_
  refine V_getR 2 fl_X9_9 dX9_difference_29 rfl rfl rfl ?_
  refine V_iload_n dX9_difference_32 rfl ?_
  refine V_ialdM dX9_difference_33 rfl hi5 ?_
  refine V_aload_n dX9_difference_34 rfl ?_
  refine V_getR 3 fl_X9_15 dX9_difference_35 rfl rfl rfl ?_
  refine V_iload_n dX9_difference_38 rfl ?_
  refine V_ialdM dX9_difference_39 rfl hi5 ?_
  refine V_ior dX9_difference_40 ?_
  refine V_aload_n dX9_difference_41 rfl ?_
  refine V_getR 2 fl_X9_9 dX9_difference_42 rfl rfl rfl ?_
  refine V_iload_n dX9_difference_45 rfl ?_
  refine V_ialdM dX9_difference_46 rfl hi11 ?_
  refine V_aload_n dX9_difference_47 rfl ?_
  refine V_getR 3 fl_X9_15 dX9_difference_48 rfl rfl rfl ?_
  refine V_iload_n dX9_difference_51 rfl ?_
  refine V_ialdM dX9_difference_52 rfl hi11 ?_
  refine V_ior dX9_difference_53 ?_
  refine V_ixor dX9_difference_54 ?_
  refine V_name (fun t55 e55 => ?_)
  replace h := h t55 e55
  refine V_istore dX9_difference_55 (by decide) ?_
  refine V_iconst 2 dX9_difference_57 (by decide) ?_
  refine V_iload_n dX9_difference_58 rfl ?_
  refine M_Si ms_J6_bitCount_0f7a4 lk_X9_18 dX9_difference_59 (sJ6_bitCount_0f7a4 h) rfl rfl (Nat.le_of_ble_eq_true rfl) (by decide) (by decide) (fun v59 M59 h => ?_)
  refine V_imul dX9_difference_62 ?_
  refine V_iload dX9_difference_63 rfl ?_
  refine M_Si ms_J6_bitCount_0f7a4 lk_X9_18 dX9_difference_65 (sJ6_bitCount_0f7a4 h) rfl rfl (Nat.le_of_ble_eq_true rfl) (by decide) (by decide) (fun v65 M65 h => ?_)
  refine V_iadd dX9_difference_68 ?_
  exact V_reti dX9_difference_69 rfl rfl h
def wX6_costOfPair (a1 : Nat) (a2 : Nat) (a3 : Int32) (a4 : Int32) (M : Mem) (Q : Int32 → Mem → Prop) : Prop :=
  (50 ≤ a1 ∧ a1 < 100) ∧ (50 ≤ a2 ∧ a2 < 100) ∧ vp_in a3 8 ∧ vp_in a4 8 ∧ wX9_difference (M (a1 + 50) (Int32.toNatClampNeg a3)) (M (a2 + 50) (Int32.toNatClampNeg a4)) M (fun v17 M17 => vp_in ((((a3 + 1) * 9) + a4) + 1) 81 ∧ Q (v17 + (M17 14 (Int32.toNatClampNeg ((((a3 + 1) * 9) + a4) + 1)))) M17)
set_option maxHeartbeats 1000000 in
set_option maxRecDepth 20000 in
theorem sX6_costOfPair {E : En} {a1 : Nat} {a2 : Nat} {a3 : Int32} {a4 : Int32} {M : Mem} {Q : Int32 → Mem → Prop} (h : wX6_costOfPair a1 a2 a3 a4 M Q) : CM E 3 mX6_costOfPair [.ref (E.2.2 13), .ref (E.2.2 a1), .ref (E.2.2 a2), .int a3, .int a4] M (Pi Q) := by
  unfold wX6_costOfPair at h
  obtain ⟨hk1, h⟩ := h
  obtain ⟨hk2, h⟩ := h
  refine CM.of (by decide) rfl (Nat.le_of_ble_eq_true rfl) ?_
  refine V_aload_n dX6_costOfPair_0 rfl ?_
  refine V_getR 1 fl_X6_22 dX6_costOfPair_1 rfl rfl rfl ?_
  refine V_aload_n dX6_costOfPair_4 rfl ?_
  refine V_getR (a1 + 50) fl_X6_41 dX6_costOfPair_5 (kd_X7 (by omega)) rfl (rf_X7 (by omega)) ?_
  refine V_iload_n dX6_costOfPair_8 rfl ?_
  obtain ⟨hi9, h⟩ := h
  refine V_ialdM dX6_costOfPair_9 (kd_num (by omega)) (by rw [(ln_num (by omega))]; exact hi9) ?_
  refine V_aload_n dX6_costOfPair_10 rfl ?_
  refine V_getR (a2 + 50) fl_X6_41 dX6_costOfPair_11 (kd_X7 (by omega)) rfl (rf_X7 (by omega)) ?_
  refine V_iload dX6_costOfPair_14 rfl ?_
  obtain ⟨hi16, h⟩ := h
  refine V_ialdM dX6_costOfPair_16 (kd_num (by omega)) (by rw [(ln_num (by omega))]; exact hi16) ?_
  refine M_Vi mv_X9_difference lk_X6_44 dX6_costOfPair_17 rfl rfl (sX9_difference h) rfl rfl (Nat.le_of_ble_eq_true rfl) (by decide) (by decide) (fun v17 M17 h => ?_)
  refine V_aload_n dX6_costOfPair_20 rfl ?_
  refine V_getR 14 fl_X6_11 dX6_costOfPair_21 rfl rfl rfl ?_
  refine V_iload_n dX6_costOfPair_24 rfl ?_
  refine V_iconst 1 dX6_costOfPair_25 (by decide) ?_
  refine V_iadd dX6_costOfPair_26 ?_
  refine V_bipush 9 dX6_costOfPair_27 (by decide) ?_
  refine V_imul dX6_costOfPair_29 ?_
  refine V_iload dX6_costOfPair_30 rfl ?_
  refine V_iadd dX6_costOfPair_32 ?_
  refine V_iconst 1 dX6_costOfPair_33 (by decide) ?_
  refine V_iadd dX6_costOfPair_34 ?_
  obtain ⟨hi35, h⟩ := h
  refine V_ialdM dX6_costOfPair_35 rfl hi35 ?_
  refine V_iadd dX6_costOfPair_36 ?_
  exact V_reti dX6_costOfPair_37 rfl rfl h
def wX6_leastCost (a1 : Nat) (a2 : Nat) (M : Mem) (Q : Int32 → Mem → Prop) : Prop :=
  (50 ≤ a1 ∧ a1 < 100) ∧ (50 ≤ a2 ∧ a2 < 100) ∧ (∃ n, lq1 (fun R5 (x5_3 : Int32) (M5 : Mem) => ((x5_3 < 0 →
      vp_in 0 81 ∧ Q (M5 14 (Int32.toNatClampNeg 0)) M5) ∧ (¬ x5_3 < 0 →
      (∃ n, lq1 (fun R15 (x15_4 : Int32) (M15 : Mem) => ((x15_4 < 0 →
          R5 (x5_3 + (-1)) M15) ∧ (¬ x15_4 < 0 →
          jn0 (fun (M37 : Mem) => vp_in ((x5_3 * 9) + x15_4) 81 ∧ (∀ N67, N67 = mset M37 14 (Int32.toNatClampNeg ((x5_3 * 9) + x15_4)) (((((M37 a1 1) - x5_3) + (M37 a2 1)) - x15_4) * (M37 13 2)) → R15 (x15_4 + (-1)) N67)) (fun J37 => ((x5_3 = (M15 a1 1) →
              J37 M15) ∧ (¬ x5_3 = (M15 a1 1) →
              ((¬ x15_4 = (M15 a2 1) →
                vp_in (((x5_3 + 1) * 9) + x15_4) 81 ∧ vp_in (((x5_3 * 9) + x15_4) + 1) 81 ∧ (∀ t107 : Int32, t107 = ((if (M15 14 (Int32.toNatClampNeg (((x5_3 * 9) + x15_4) + 1))) < (M15 14 (Int32.toNatClampNeg (((x5_3 + 1) * 9) + x15_4))) then (M15 14 (Int32.toNatClampNeg (((x5_3 * 9) + x15_4) + 1))) else (M15 14 (Int32.toNatClampNeg (((x5_3 + 1) * 9) + x15_4)))) + (M15 13 2)) → wX6_costOfPair a1 a2 x5_3 x15_4 M15 (fun v128 M128 => vp_in ((x5_3 * 9) + x15_4) 81 ∧ (∀ N134, N134 = mset M128 14 (Int32.toNatClampNeg ((x5_3 * 9) + x15_4)) (if v128 < t107 then v128 else t107) → R15 (x15_4 + (-1)) N134)))) ∧ (x15_4 = (M15 a2 1) →
                J37 M15)))))))) n (M5 a2 1) M5)))) n (M a1 1) M)
set_option maxHeartbeats 1000000 in
set_option maxRecDepth 20000 in
theorem sX6_leastCost {E : En} {a1 : Nat} {a2 : Nat} {M : Mem} {Q : Int32 → Mem → Prop} (h : wX6_leastCost a1 a2 M Q) : CM E 4 mX6_leastCost [.ref (E.2.2 13), .ref (E.2.2 a1), .ref (E.2.2 a2)] M (Pi Q) := by
  unfold wX6_leastCost at h
  obtain ⟨hk1, h⟩ := h
  obtain ⟨hk2, h⟩ := h
  refine CM.of (by decide) rfl (Nat.le_of_ble_eq_true rfl) ?_
  refine V_aload_n dX6_leastCost_0 rfl ?_
  refine V_getI fl_X6_26 dX6_leastCost_1 (kd_X7 (by omega)) rfl ?_
  refine V_istore_n dX6_leastCost_4 (by decide) ?_
  obtain ⟨n5, h⟩ := h
  refine V_take 4 ?_
  refine lq1_use (P := fun (x5_3 : Int32) (M5 : Mem) => V (Km E 4 (Pi Q)) mX6_leastCost 5 [.ref (E.2.2 13), .ref (E.2.2 a1), .ref (E.2.2 a2), .int x5_3] [] (wsM E.1 E.2.2 M5) 0 0) (fun R5 hR5 x5_3 M5 h => ?_) n5 _ _ h
  refine V_iload_n dX6_leastCost_5 rfl ?_
  refine V_if_lt 147 dX6_leastCost_6 (by decide) (fun q6 => ?_) (fun q6 => ?_)
  · replace h := h.1 q6
    refine V_aload_n dX6_leastCost_147 rfl ?_
    refine V_getR 14 fl_X6_11 dX6_leastCost_148 rfl rfl rfl ?_
    refine V_iconst 0 dX6_leastCost_151 (by decide) ?_
    obtain ⟨hi152, h⟩ := h
    refine V_ialdM dX6_leastCost_152 rfl hi152 ?_
    exact V_reti dX6_leastCost_153 rfl rfl h
  · replace h := h.2 q6
    refine V_aload_n dX6_leastCost_9 rfl ?_
    refine V_getI fl_X6_26 dX6_leastCost_10 (kd_X7 (by omega)) rfl ?_
    refine V_istore dX6_leastCost_13 (by decide) ?_
    obtain ⟨n15, h⟩ := h
    refine V_take 5 ?_
    refine lq1_use (P := fun (x15_4 : Int32) (M15 : Mem) => V (Km E 4 (Pi Q)) mX6_leastCost 15 [.ref (E.2.2 13), .ref (E.2.2 a1), .ref (E.2.2 a2), .int x5_3, .int x15_4] [] (wsM E.1 E.2.2 M15) 0 0) (fun R15 hR15 x15_4 M15 h => ?_) n15 _ _ h
    refine V_iload dX6_leastCost_15 rfl ?_
    refine V_if_lt 141 dX6_leastCost_17 (by decide) (fun q17 => ?_) (fun q17 => ?_)
    · replace h := h.1 q17
      refine V_iincC (-1) dX6_leastCost_141 (by decide) rfl (by decide) ?_
      refine V_goto 5 dX6_leastCost_144 (by decide) ?_
      refine V_take 4 ?_
      exact hR5 _ _ h
    · replace h := h.2 q17
      refine V_iload_n dX6_leastCost_20 rfl ?_
      refine V_aload_n dX6_leastCost_21 rfl ?_
      refine V_getI fl_X6_26 dX6_leastCost_22 (kd_X7 (by omega)) rfl ?_
      refine jn0_use (P := fun (M37 : Mem) => V (Km E 4 (Pi Q)) mX6_leastCost 37 [.ref (E.2.2 13), .ref (E.2.2 a1), .ref (E.2.2 a2), .int x5_3, .int x15_4] [] (wsM E.1 E.2.2 M37) 0 0) (fun M37 h => ?_) (fun J37 hJ37 h => ?_) h
      · refine V_aload_n dX6_leastCost_37 rfl ?_
        refine V_getR 14 fl_X6_11 dX6_leastCost_38 rfl rfl rfl ?_
        refine V_iload_n dX6_leastCost_41 rfl ?_
        refine V_bipush 9 dX6_leastCost_42 (by decide) ?_
        refine V_imul dX6_leastCost_44 ?_
        refine V_iload dX6_leastCost_45 rfl ?_
        refine V_iadd dX6_leastCost_47 ?_
        refine V_aload_n dX6_leastCost_48 rfl ?_
        refine V_getI fl_X6_26 dX6_leastCost_49 (kd_X7 (by omega)) rfl ?_
        refine V_iload_n dX6_leastCost_52 rfl ?_
        refine V_isub dX6_leastCost_53 ?_
        refine V_aload_n dX6_leastCost_54 rfl ?_
        refine V_getI fl_X6_26 dX6_leastCost_55 (kd_X7 (by omega)) rfl ?_
        refine V_iadd dX6_leastCost_58 ?_
        refine V_iload dX6_leastCost_59 rfl ?_
        refine V_isub dX6_leastCost_61 ?_
        refine V_aload_n dX6_leastCost_62 rfl ?_
        refine V_getI fl_X6_15 dX6_leastCost_63 rfl rfl ?_
        refine V_imul dX6_leastCost_66 ?_
        obtain ⟨hi67, h⟩ := h
        refine V_iastN dX6_leastCost_67 rfl hi67 (fun N67 e67 => ?_)
        replace h := h N67 e67
        refine V_goto 135 dX6_leastCost_68 (by decide) ?_
        refine V_iincC (-1) dX6_leastCost_135 (by decide) rfl (by decide) ?_
        refine V_goto 15 dX6_leastCost_138 (by decide) ?_
        refine V_take 5 ?_
        exact hR15 _ _ h
      · refine V_icmp_eq 37 dX6_leastCost_25 (by decide) (fun q25 => ?_) (fun q25 => ?_)
        · replace h := h.1 q25
          refine V_take 5 ?_
          exact hJ37 _ h
        · replace h := h.2 q25
          refine V_iload dX6_leastCost_28 rfl ?_
          refine V_aload_n dX6_leastCost_30 rfl ?_
          refine V_getI fl_X6_26 dX6_leastCost_31 (kd_X7 (by omega)) rfl ?_
          refine V_icmp_ne 71 dX6_leastCost_34 (by decide) (fun q34 => ?_) (fun q34 => ?_)
          · replace h := h.1 q34
            refine V_aload_n dX6_leastCost_71 rfl ?_
            refine V_getR 14 fl_X6_11 dX6_leastCost_72 rfl rfl rfl ?_
            refine V_iload_n dX6_leastCost_75 rfl ?_
            refine V_iconst 1 dX6_leastCost_76 (by decide) ?_
            refine V_iadd dX6_leastCost_77 ?_
            refine V_bipush 9 dX6_leastCost_78 (by decide) ?_
            refine V_imul dX6_leastCost_80 ?_
            refine V_iload dX6_leastCost_81 rfl ?_
            refine V_iadd dX6_leastCost_83 ?_
            obtain ⟨hi84, h⟩ := h
            refine V_ialdM dX6_leastCost_84 rfl hi84 ?_
            refine V_aload_n dX6_leastCost_85 rfl ?_
            refine V_getR 14 fl_X6_11 dX6_leastCost_86 rfl rfl rfl ?_
            refine V_iload_n dX6_leastCost_89 rfl ?_
            refine V_bipush 9 dX6_leastCost_90 (by decide) ?_
            refine V_imul dX6_leastCost_92 ?_
            refine V_iload dX6_leastCost_93 rfl ?_
            refine V_iadd dX6_leastCost_95 ?_
            refine V_iconst 1 dX6_leastCost_96 (by decide) ?_
            refine V_iadd dX6_leastCost_97 ?_
            obtain ⟨hi98, h⟩ := h
            refine V_ialdM dX6_leastCost_98 rfl hi98 ?_
            refine V_min mn_X6_31 dX6_leastCost_99 (Nat.le_of_ble_eq_true rfl) (Nat.le_of_ble_eq_true rfl) (Nat.le_refl 0) (Nat.le_refl 0) ?_
            refine V_aload_n dX6_leastCost_102 rfl ?_
            refine V_getI fl_X6_15 dX6_leastCost_103 rfl rfl ?_
            refine V_iadd dX6_leastCost_106 ?_
            refine V_name (fun t107 e107 => ?_)
            replace h := h t107 e107
            refine V_istore dX6_leastCost_107 (by decide) ?_
            refine V_aload_n dX6_leastCost_109 rfl ?_
            refine V_getR 14 fl_X6_11 dX6_leastCost_110 rfl rfl rfl ?_
            refine V_iload_n dX6_leastCost_113 rfl ?_
            refine V_bipush 9 dX6_leastCost_114 (by decide) ?_
            refine V_imul dX6_leastCost_116 ?_
            refine V_iload dX6_leastCost_117 rfl ?_
            refine V_iadd dX6_leastCost_119 ?_
            refine V_iload dX6_leastCost_120 rfl ?_
            refine V_aload_n dX6_leastCost_122 rfl ?_
            refine V_aload_n dX6_leastCost_123 rfl ?_
            refine V_aload_n dX6_leastCost_124 rfl ?_
            refine V_iload_n dX6_leastCost_125 rfl ?_
            refine V_iload dX6_leastCost_126 rfl ?_
            refine M_Vi mv_X6_costOfPair lk_X6_37 dX6_leastCost_128 rfl rfl (sX6_costOfPair h) rfl rfl (Nat.le_of_ble_eq_true rfl) (by decide) (by decide) (fun v128 M128 h => ?_)
            refine V_min mn_X6_31 dX6_leastCost_131 (Nat.le_of_ble_eq_true rfl) (Nat.le_of_ble_eq_true rfl) (Nat.le_refl 0) (Nat.le_refl 0) ?_
            obtain ⟨hi134, h⟩ := h
            refine V_iastN dX6_leastCost_134 rfl hi134 (fun N134 e134 => ?_)
            replace h := h N134 e134
            refine V_iincC (-1) dX6_leastCost_135 (by decide) rfl (by decide) ?_
            refine V_goto 15 dX6_leastCost_138 (by decide) ?_
            refine V_take 5 ?_
            exact hR15 _ _ h
          · replace h := h.2 q34
            refine V_take 5 ?_
            exact hJ37 _ h
def wX6_isPair (a1 : Nat) (a2 : Nat) (a3 : Int32) (a4 : Int32) (M : Mem) (Q : Int32 → Mem → Prop) : Prop :=
  (50 ≤ a1 ∧ a1 < 100) ∧ (50 ≤ a2 ∧ a2 < 100) ∧ (((M a1 1) ≤ a3 →
    Q 0 M) ∧ (¬ (M a1 1) ≤ a3 →
    (((M a2 1) ≤ a4 →
      Q 0 M) ∧ (¬ (M a2 1) ≤ a4 →
      vp_in ((a3 * 9) + a4) 81 ∧ wX6_costOfPair a1 a2 a3 a4 M (fun v35 M35 => ((¬ (M 14 (Int32.toNatClampNeg ((a3 * 9) + a4))) = v35 →
          Q 0 M35) ∧ ((M 14 (Int32.toNatClampNeg ((a3 * 9) + a4))) = v35 →
          Q 1 M35)))))))
set_option maxHeartbeats 1000000 in
set_option maxRecDepth 20000 in
theorem sX6_isPair {E : En} {a1 : Nat} {a2 : Nat} {a3 : Int32} {a4 : Int32} {M : Mem} {Q : Int32 → Mem → Prop} (h : wX6_isPair a1 a2 a3 a4 M Q) : CM E 4 mX6_isPair [.ref (E.2.2 13), .ref (E.2.2 a1), .ref (E.2.2 a2), .int a3, .int a4] M (Pi Q) := by
  unfold wX6_isPair at h
  obtain ⟨hk1, h⟩ := h
  obtain ⟨hk2, h⟩ := h
  refine CM.of (by decide) rfl (Nat.le_of_ble_eq_true rfl) ?_
  refine V_iload_n dX6_isPair_0 rfl ?_
  refine V_aload_n dX6_isPair_1 rfl ?_
  refine V_getI fl_X6_26 dX6_isPair_2 (kd_X7 (by omega)) rfl ?_
  refine V_icmp_ge 45 dX6_isPair_5 (by decide) (fun q5 => ?_) (fun q5 => ?_)
  · replace h := h.1 q5
    refine V_iconst 0 dX6_isPair_45 (by decide) ?_
    exact V_reti dX6_isPair_46 rfl rfl h
  · replace h := h.2 q5
    refine V_iload dX6_isPair_8 rfl ?_
    refine V_aload_n dX6_isPair_10 rfl ?_
    refine V_getI fl_X6_26 dX6_isPair_11 (kd_X7 (by omega)) rfl ?_
    refine V_icmp_ge 45 dX6_isPair_14 (by decide) (fun q14 => ?_) (fun q14 => ?_)
    · replace h := h.1 q14
      refine V_iconst 0 dX6_isPair_45 (by decide) ?_
      exact V_reti dX6_isPair_46 rfl rfl h
    · replace h := h.2 q14
      refine V_aload_n dX6_isPair_17 rfl ?_
      refine V_getR 14 fl_X6_11 dX6_isPair_18 rfl rfl rfl ?_
      refine V_iload_n dX6_isPair_21 rfl ?_
      refine V_bipush 9 dX6_isPair_22 (by decide) ?_
      refine V_imul dX6_isPair_24 ?_
      refine V_iload dX6_isPair_25 rfl ?_
      refine V_iadd dX6_isPair_27 ?_
      obtain ⟨hi28, h⟩ := h
      refine V_ialdM dX6_isPair_28 rfl hi28 ?_
      refine V_aload_n dX6_isPair_29 rfl ?_
      refine V_aload_n dX6_isPair_30 rfl ?_
      refine V_aload_n dX6_isPair_31 rfl ?_
      refine V_iload_n dX6_isPair_32 rfl ?_
      refine V_iload dX6_isPair_33 rfl ?_
      refine M_Vi mv_X6_costOfPair lk_X6_37 dX6_isPair_35 rfl rfl (sX6_costOfPair h) rfl rfl (Nat.le_of_ble_eq_true rfl) (by decide) (by decide) (fun v35 M35 h => ?_)
      refine V_icmp_ne 45 dX6_isPair_38 (by decide) (fun q38 => ?_) (fun q38 => ?_)
      · replace h := h.1 q38
        refine V_iconst 0 dX6_isPair_45 (by decide) ?_
        exact V_reti dX6_isPair_46 rfl rfl h
      · replace h := h.2 q38
        refine V_iconst 1 dX6_isPair_41 (by decide) ?_
        refine V_goto 46 dX6_isPair_42 (by decide) ?_
        exact V_reti dX6_isPair_46 rfl rfl h
def wX6_isFirstAlone (a1 : Nat) (a2 : Int32) (a3 : Int32) (M : Mem) (Q : Int32 → Mem → Prop) : Prop :=
  (50 ≤ a1 ∧ a1 < 100) ∧ (((M a1 1) ≤ a2 →
    Q 0 M) ∧ (¬ (M a1 1) ≤ a2 →
    vp_in ((a2 * 9) + a3) 81 ∧ vp_in (((a2 + 1) * 9) + a3) 81 ∧ ((¬ (M 14 (Int32.toNatClampNeg ((a2 * 9) + a3))) = ((M 14 (Int32.toNatClampNeg (((a2 + 1) * 9) + a3))) + (M 13 2)) →
      Q 0 M) ∧ ((M 14 (Int32.toNatClampNeg ((a2 * 9) + a3))) = ((M 14 (Int32.toNatClampNeg (((a2 + 1) * 9) + a3))) + (M 13 2)) →
      Q 1 M))))
set_option maxHeartbeats 1000000 in
set_option maxRecDepth 20000 in
theorem sX6_isFirstAlone {E : En} {a1 : Nat} {a2 : Int32} {a3 : Int32} {M : Mem} {Q : Int32 → Mem → Prop} (h : wX6_isFirstAlone a1 a2 a3 M Q) : CM E 1 mX6_isFirstAlone [.ref (E.2.2 13), .ref (E.2.2 a1), .int a2, .int a3] M (Pi Q) := by
  unfold wX6_isFirstAlone at h
  obtain ⟨hk1, h⟩ := h
  refine CM.of (by decide) rfl (Nat.le_of_ble_eq_true rfl) ?_
  refine V_iload_n dX6_isFirstAlone_0 rfl ?_
  refine V_aload_n dX6_isFirstAlone_1 rfl ?_
  refine V_getI fl_X6_26 dX6_isFirstAlone_2 (kd_X7 (by omega)) rfl ?_
  refine V_icmp_ge 44 dX6_isFirstAlone_5 (by decide) (fun q5 => ?_) (fun q5 => ?_)
  · replace h := h.1 q5
    refine V_iconst 0 dX6_isFirstAlone_44 (by decide) ?_
    exact V_reti dX6_isFirstAlone_45 rfl rfl h
  · replace h := h.2 q5
    refine V_aload_n dX6_isFirstAlone_8 rfl ?_
    refine V_getR 14 fl_X6_11 dX6_isFirstAlone_9 rfl rfl rfl ?_
    refine V_iload_n dX6_isFirstAlone_12 rfl ?_
    refine V_bipush 9 dX6_isFirstAlone_13 (by decide) ?_
    refine V_imul dX6_isFirstAlone_15 ?_
    refine V_iload_n dX6_isFirstAlone_16 rfl ?_
    refine V_iadd dX6_isFirstAlone_17 ?_
    obtain ⟨hi18, h⟩ := h
    refine V_ialdM dX6_isFirstAlone_18 rfl hi18 ?_
    refine V_aload_n dX6_isFirstAlone_19 rfl ?_
    refine V_getR 14 fl_X6_11 dX6_isFirstAlone_20 rfl rfl rfl ?_
    refine V_iload_n dX6_isFirstAlone_23 rfl ?_
    refine V_iconst 1 dX6_isFirstAlone_24 (by decide) ?_
    refine V_iadd dX6_isFirstAlone_25 ?_
    refine V_bipush 9 dX6_isFirstAlone_26 (by decide) ?_
    refine V_imul dX6_isFirstAlone_28 ?_
    refine V_iload_n dX6_isFirstAlone_29 rfl ?_
    refine V_iadd dX6_isFirstAlone_30 ?_
    obtain ⟨hi31, h⟩ := h
    refine V_ialdM dX6_isFirstAlone_31 rfl hi31 ?_
    refine V_aload_n dX6_isFirstAlone_32 rfl ?_
    refine V_getI fl_X6_15 dX6_isFirstAlone_33 rfl rfl ?_
    refine V_iadd dX6_isFirstAlone_36 ?_
    refine V_icmp_ne 44 dX6_isFirstAlone_37 (by decide) (fun q37 => ?_) (fun q37 => ?_)
    · replace h := h.1 q37
      refine V_iconst 0 dX6_isFirstAlone_44 (by decide) ?_
      exact V_reti dX6_isFirstAlone_45 rfl rfl h
    · replace h := h.2 q37
      refine V_iconst 1 dX6_isFirstAlone_40 (by decide) ?_
      refine V_goto 45 dX6_isFirstAlone_41 (by decide) ?_
      exact V_reti dX6_isFirstAlone_45 rfl rfl h
def wX6_column (a1 : Nat) (a2 : Nat) (a3 : Int32) (M : Mem) (Q : Int32 → Mem → Prop) : Prop :=
  (50 ≤ a1 ∧ a1 < 100) ∧ (50 ≤ a2 ∧ a2 < 100) ∧ wX6_leastCost a1 a2 M (fun v3 M3 => (∃ n, lq3 (fun R16 (x16_4 : Int32) (x16_5 : Int32) (x16_6 : Int32) (M16 : Mem) => jn0 (fun (M175 : Mem) => ((¬ a3 = (-1) →
          Q (-9) M175) ∧ (a3 = (-1) →
          Q x16_6 M175))) (fun J175 => ((16 ≤ x16_6 →
          J175 M16) ∧ (¬ 16 ≤ x16_6 →
          jn0 (fun (M41 : Mem) => wX6_isPair a1 a2 x16_4 x16_5 M41 (fun v48 M48 => jn1 (fun (y75_0 : Int32) (M75 : Mem) => jn1 (fun (y92_0 : Int32) (M92 : Mem) => ((¬ x16_6 = a3 →
                    jn1 (fun (y151_0 : Int32) (M151 : Mem) => ((y92_0 = 0 →
                        R16 (x16_4 + y151_0) (x16_5 + 0) (x16_6 + 1) M151) ∧ (¬ y92_0 = 0 →
                        R16 (x16_4 + y151_0) (x16_5 + 1) (x16_6 + 1) M151))) (fun J151 => ((y75_0 = 0 →
                        J151 0 M92) ∧ (¬ y75_0 = 0 →
                        J151 1 M92)))) ∧ (x16_6 = a3 →
                    jn1 (fun (y120_0 : Int32) (M120 : Mem) => ((y92_0 = 0 →
                        Q (y120_0 + 0) M120) ∧ (¬ y92_0 = 0 →
                        wX7_at a2 x16_5 M120 (fun v128 M128 => Q (y120_0 + (v128 + 1)) M128)))) (fun J120 => ((y75_0 = 0 →
                        J120 0 M92) ∧ (¬ y75_0 = 0 →
                        wX7_at a1 x16_4 M92 (fun v110 M110 => J120 (100 * (v110 + 1)) M110))))))) (fun J92 => ((¬ v48 = 0 →
                    J92 1 M75) ∧ (v48 = 0 →
                    ((¬ y75_0 = 0 →
                      J92 0 M75) ∧ (y75_0 = 0 →
                      J92 1 M75)))))) (fun J75 => ((¬ v48 = 0 →
                  J75 1 M48) ∧ (v48 = 0 →
                  wX6_isFirstAlone a1 x16_4 x16_5 M48 (fun v64 M64 => ((v64 = 0 →
                      J75 0 M64) ∧ (¬ v64 = 0 →
                      J75 1 M64)))))))) (fun J41 => ((x16_4 < (M16 a1 1) →
              J41 M16) ∧ (¬ x16_4 < (M16 a1 1) →
              (((M16 a2 1) ≤ x16_5 →
                J175 M16) ∧ (¬ (M16 a2 1) ≤ x16_5 →
                J41 M16))))))))) n 0 0 0 M3))
set_option maxHeartbeats 1000000 in
set_option maxRecDepth 20000 in
theorem sX6_column {E : En} {a1 : Nat} {a2 : Nat} {a3 : Int32} {M : Mem} {Q : Int32 → Mem → Prop} (h : wX6_column a1 a2 a3 M Q) : CM E 5 mX6_column [.ref (E.2.2 13), .ref (E.2.2 a1), .ref (E.2.2 a2), .int a3] M (Pi Q) := by
  unfold wX6_column at h
  obtain ⟨hk1, h⟩ := h
  obtain ⟨hk2, h⟩ := h
  refine CM.of (by decide) rfl (Nat.le_of_ble_eq_true rfl) ?_
  refine V_aload_n dX6_column_0 rfl ?_
  refine V_aload_n dX6_column_1 rfl ?_
  refine V_aload_n dX6_column_2 rfl ?_
  refine M_Vi mv_X6_leastCost lk_X6_49 dX6_column_3 rfl rfl (sX6_leastCost h) rfl rfl (Nat.le_of_ble_eq_true rfl) (by decide) (by decide) (fun v3 M3 h => ?_)
  refine V_pop dX6_column_6 rfl ?_
  refine V_iconst 0 dX6_column_7 (by decide) ?_
  refine V_istore dX6_column_8 (by decide) ?_
  refine V_iconst 0 dX6_column_10 (by decide) ?_
  refine V_istore dX6_column_11 (by decide) ?_
  refine V_iconst 0 dX6_column_13 (by decide) ?_
  refine V_istore dX6_column_14 (by decide) ?_
  obtain ⟨n16, h⟩ := h
  refine V_take 7 ?_
  refine lq3_use (P := fun (x16_4 : Int32) (x16_5 : Int32) (x16_6 : Int32) (M16 : Mem) => V (Km E 5 (Pi Q)) mX6_column 16 [.ref (E.2.2 13), .ref (E.2.2 a1), .ref (E.2.2 a2), .int a3, .int x16_4, .int x16_5, .int x16_6] [] (wsM E.1 E.2.2 M16) 0 0) (fun R16 hR16 x16_4 x16_5 x16_6 M16 h => ?_) n16 _ _ _ _ h
  refine V_iload dX6_column_16 rfl ?_
  refine V_bipush 16 dX6_column_18 (by decide) ?_
  refine jn0_use (P := fun (M175 : Mem) => ∀ j175_0 : Value, ∀ j175_1 : Value, ∀ j175_2 : Value, ∀ j175_4 : Value, ∀ j175_5 : Value, V (Km E 5 (Pi Q)) mX6_column 175 [j175_0, j175_1, j175_2, .int a3, j175_4, j175_5, .int x16_6] [] (wsM E.1 E.2.2 M175) 0 0) (fun M175 h j175_0 j175_1 j175_2 j175_4 j175_5 => ?_) (fun J175 hJ175 h => ?_) h
  · refine V_iload_n dX6_column_175 rfl ?_
    refine V_iconst (-1) dX6_column_176 (by decide) ?_
    refine V_icmp_ne 185 dX6_column_177 (by decide) (fun q177 => ?_) (fun q177 => ?_)
    · replace h := h.1 q177
      refine V_bipush (-9) dX6_column_185 (by decide) ?_
      exact V_reti dX6_column_187 rfl rfl h
    · replace h := h.2 q177
      refine V_iload dX6_column_180 rfl ?_
      refine V_goto 187 dX6_column_182 (by decide) ?_
      exact V_reti dX6_column_187 rfl rfl h
  · refine V_icmp_ge 175 dX6_column_20 (by decide) (fun q20 => ?_) (fun q20 => ?_)
    · replace h := h.1 q20
      refine V_take 7 ?_
      exact hJ175 _ h _ _ _ _ _
    · replace h := h.2 q20
      refine V_iload dX6_column_23 rfl ?_
      refine V_aload_n dX6_column_25 rfl ?_
      refine V_getI fl_X6_26 dX6_column_26 (kd_X7 (by omega)) rfl ?_
      refine jn0_use (P := fun (M41 : Mem) => V (Km E 5 (Pi Q)) mX6_column 41 [.ref (E.2.2 13), .ref (E.2.2 a1), .ref (E.2.2 a2), .int a3, .int x16_4, .int x16_5, .int x16_6] [] (wsM E.1 E.2.2 M41) 0 0) (fun M41 h => ?_) (fun J41 hJ41 h => ?_) h
      · refine V_aload_n dX6_column_41 rfl ?_
        refine V_aload_n dX6_column_42 rfl ?_
        refine V_aload_n dX6_column_43 rfl ?_
        refine V_iload dX6_column_44 rfl ?_
        refine V_iload dX6_column_46 rfl ?_
        refine M_Vi mv_X6_isPair lk_X6_53 dX6_column_48 rfl rfl (sX6_isPair h) rfl rfl (Nat.le_of_ble_eq_true rfl) (by decide) (by decide) (fun v48 M48 h => ?_)
        refine V_istore dX6_column_51 (by decide) ?_
        refine V_iload dX6_column_53 rfl ?_
        refine jn1_use (P := fun (y75_0 : Int32) (M75 : Mem) => V (Km E 5 (Pi Q)) mX6_column 75 [.ref (E.2.2 13), .ref (E.2.2 a1), .ref (E.2.2 a2), .int a3, .int x16_4, .int x16_5, .int x16_6, .int v48] [.int y75_0] (wsM E.1 E.2.2 M75) 0 0) (fun y75_0 M75 h => ?_) (fun J75 hJ75 h => ?_) h
        · refine V_istore dX6_column_75 (by decide) ?_
          refine V_iload dX6_column_77 rfl ?_
          refine jn1_use (P := fun (y92_0 : Int32) (M92 : Mem) => ∀ j92_7 : Value, V (Km E 5 (Pi Q)) mX6_column 92 [.ref (E.2.2 13), .ref (E.2.2 a1), .ref (E.2.2 a2), .int a3, .int x16_4, .int x16_5, .int x16_6, j92_7, .int y75_0] [.int y92_0] (wsM E.1 E.2.2 M92) 0 0) (fun y92_0 M92 h j92_7 => ?_) (fun J92 hJ92 h => ?_) h
          · refine V_istore dX6_column_92 (by decide) ?_
            refine V_iload dX6_column_94 rfl ?_
            refine V_iload_n dX6_column_96 rfl ?_
            refine V_icmp_ne 139 dX6_column_97 (by decide) (fun q97 => ?_) (fun q97 => ?_)
            · replace h := h.1 q97
              refine V_iload dX6_column_139 rfl ?_
              refine V_iload dX6_column_141 rfl ?_
              refine jn1_use (P := fun (y151_0 : Int32) (M151 : Mem) => ∀ j151_4 : Value, ∀ j151_7 : Value, ∀ j151_8 : Value, V (Km E 5 (Pi Q)) mX6_column 151 [.ref (E.2.2 13), .ref (E.2.2 a1), .ref (E.2.2 a2), .int a3, j151_4, .int x16_5, .int x16_6, j151_7, j151_8, .int y92_0] [.int y151_0, .int x16_4] (wsM E.1 E.2.2 M151) 0 0) (fun y151_0 M151 h j151_4 j151_7 j151_8 => ?_) (fun J151 hJ151 h => ?_) h
              · refine V_iadd dX6_column_151 ?_
                refine V_istore dX6_column_152 (by decide) ?_
                refine V_iload dX6_column_154 rfl ?_
                refine V_iload dX6_column_156 rfl ?_
                refine V_if_eq 165 dX6_column_158 (by decide) (fun q158 => ?_) (fun q158 => ?_)
                · replace h := h.1 q158
                  refine V_iconst 0 dX6_column_165 (by decide) ?_
                  refine V_iadd dX6_column_166 ?_
                  refine V_istore dX6_column_167 (by decide) ?_
                  refine V_iincC 1 dX6_column_169 (by decide) rfl (by decide) ?_
                  refine V_goto 16 dX6_column_172 (by decide) ?_
                  refine V_take 7 ?_
                  exact hR16 _ _ _ _ h
                · replace h := h.2 q158
                  refine V_iconst 1 dX6_column_161 (by decide) ?_
                  refine V_goto 166 dX6_column_162 (by decide) ?_
                  refine V_iadd dX6_column_166 ?_
                  refine V_istore dX6_column_167 (by decide) ?_
                  refine V_iincC 1 dX6_column_169 (by decide) rfl (by decide) ?_
                  refine V_goto 16 dX6_column_172 (by decide) ?_
                  refine V_take 7 ?_
                  exact hR16 _ _ _ _ h
              · refine V_if_eq 150 dX6_column_143 (by decide) (fun q143 => ?_) (fun q143 => ?_)
                · replace h := h.1 q143
                  refine V_iconst 0 dX6_column_150 (by decide) ?_
                  refine V_take 10 ?_
                  exact hJ151 _ _ h _ _ _
                · replace h := h.2 q143
                  refine V_iconst 1 dX6_column_146 (by decide) ?_
                  refine V_goto 151 dX6_column_147 (by decide) ?_
                  refine V_take 10 ?_
                  exact hJ151 _ _ h _ _ _
            · replace h := h.2 q97
              refine V_iload dX6_column_100 rfl ?_
              refine jn1_use (P := fun (y120_0 : Int32) (M120 : Mem) => ∀ j120_0 : Value, ∀ j120_1 : Value, ∀ j120_3 : Value, ∀ j120_4 : Value, ∀ j120_6 : Value, ∀ j120_7 : Value, ∀ j120_8 : Value, V (Km E 5 (Pi Q)) mX6_column 120 [j120_0, j120_1, .ref (E.2.2 a2), j120_3, j120_4, .int x16_5, j120_6, j120_7, j120_8, .int y92_0] [.int y120_0] (wsM E.1 E.2.2 M120) 0 0) (fun y120_0 M120 h j120_0 j120_1 j120_3 j120_4 j120_6 j120_7 j120_8 => ?_) (fun J120 hJ120 h => ?_) h
              · refine V_iload dX6_column_120 rfl ?_
                refine V_if_eq 136 dX6_column_122 (by decide) (fun q122 => ?_) (fun q122 => ?_)
                · replace h := h.1 q122
                  refine V_iconst 0 dX6_column_136 (by decide) ?_
                  refine V_iadd dX6_column_137 ?_
                  exact V_reti dX6_column_138 rfl rfl h
                · replace h := h.2 q122
                  refine V_aload_n dX6_column_125 rfl ?_
                  refine V_iload dX6_column_126 rfl ?_
                  refine M_Vi mv_X7_at lk_X6_61 dX6_column_128 rfl (kd_X7 (by omega)) (sX7_at h) rfl rfl (Nat.le_of_ble_eq_true rfl) (by decide) (by decide) (fun v128 M128 h => ?_)
                  refine V_iconst 1 dX6_column_131 (by decide) ?_
                  refine V_iadd dX6_column_132 ?_
                  refine V_goto 137 dX6_column_133 (by decide) ?_
                  refine V_iadd dX6_column_137 ?_
                  exact V_reti dX6_column_138 rfl rfl h
              · refine V_if_eq 119 dX6_column_102 (by decide) (fun q102 => ?_) (fun q102 => ?_)
                · replace h := h.1 q102
                  refine V_iconst 0 dX6_column_119 (by decide) ?_
                  refine V_take 10 ?_
                  exact hJ120 _ _ h _ _ _ _ _ _ _
                · replace h := h.2 q102
                  refine V_bipush 100 dX6_column_105 (by decide) ?_
                  refine V_aload_n dX6_column_107 rfl ?_
                  refine V_iload dX6_column_108 rfl ?_
                  refine M_Vi mv_X7_at lk_X6_61 dX6_column_110 rfl (kd_X7 (by omega)) (sX7_at h) rfl rfl (Nat.le_of_ble_eq_true rfl) (by decide) (by decide) (fun v110 M110 h => ?_)
                  refine V_iconst 1 dX6_column_113 (by decide) ?_
                  refine V_iadd dX6_column_114 ?_
                  refine V_imul dX6_column_115 ?_
                  refine V_goto 120 dX6_column_116 (by decide) ?_
                  refine V_take 10 ?_
                  exact hJ120 _ _ h _ _ _ _ _ _ _
          · refine V_if_ne 87 dX6_column_79 (by decide) (fun q79 => ?_) (fun q79 => ?_)
            · replace h := h.1 q79
              refine V_iconst 1 dX6_column_87 (by decide) ?_
              refine V_goto 92 dX6_column_88 (by decide) ?_
              refine V_take 9 ?_
              exact hJ92 _ _ h _
            · replace h := h.2 q79
              refine V_iload dX6_column_82 rfl ?_
              refine V_if_ne 91 dX6_column_84 (by decide) (fun q84 => ?_) (fun q84 => ?_)
              · replace h := h.1 q84
                refine V_iconst 0 dX6_column_91 (by decide) ?_
                refine V_take 9 ?_
                exact hJ92 _ _ h _
              · replace h := h.2 q84
                refine V_iconst 1 dX6_column_87 (by decide) ?_
                refine V_goto 92 dX6_column_88 (by decide) ?_
                refine V_take 9 ?_
                exact hJ92 _ _ h _
        · refine V_if_ne 70 dX6_column_55 (by decide) (fun q55 => ?_) (fun q55 => ?_)
          · replace h := h.1 q55
            refine V_iconst 1 dX6_column_70 (by decide) ?_
            refine V_goto 75 dX6_column_71 (by decide) ?_
            refine V_take 8 ?_
            exact hJ75 _ _ h
          · replace h := h.2 q55
            refine V_aload_n dX6_column_58 rfl ?_
            refine V_aload_n dX6_column_59 rfl ?_
            refine V_iload dX6_column_60 rfl ?_
            refine V_iload dX6_column_62 rfl ?_
            refine M_Vi mv_X6_isFirstAlone lk_X6_57 dX6_column_64 rfl rfl (sX6_isFirstAlone h) rfl rfl (Nat.le_of_ble_eq_true rfl) (by decide) (by decide) (fun v64 M64 h => ?_)
            refine V_if_eq 74 dX6_column_67 (by decide) (fun q67 => ?_) (fun q67 => ?_)
            · replace h := h.1 q67
              refine V_iconst 0 dX6_column_74 (by decide) ?_
              refine V_take 8 ?_
              exact hJ75 _ _ h
            · replace h := h.2 q67
              refine V_iconst 1 dX6_column_70 (by decide) ?_
              refine V_goto 75 dX6_column_71 (by decide) ?_
              refine V_take 8 ?_
              exact hJ75 _ _ h
      · refine V_icmp_lt 41 dX6_column_29 (by decide) (fun q29 => ?_) (fun q29 => ?_)
        · replace h := h.1 q29
          refine V_take 7 ?_
          exact hJ41 _ h
        · replace h := h.2 q29
          refine V_iload dX6_column_32 rfl ?_
          refine V_aload_n dX6_column_34 rfl ?_
          refine V_getI fl_X6_26 dX6_column_35 (kd_X7 (by omega)) rfl ?_
          refine V_icmp_ge 175 dX6_column_38 (by decide) (fun q38 => ?_) (fun q38 => ?_)
          · replace h := h.1 q38
            refine V_take 7 ?_
            exact hJ175 _ h _ _ _ _ _
          · replace h := h.2 q38
            refine V_take 7 ?_
            exact hJ41 _ h
def wX7_becomeCells (a0 : Nat) (a1 : Nat) (a2 : Int32) (M : Mem) (Q : Mem → Prop) : Prop :=
  (50 ≤ a0 ∧ a0 < 100) ∧ kd a1 = 20 ∧ wX7_clear a0 M (fun M1 => (∃ n, lq1 (fun R6 (x6_3 : Int32) (M6 : Mem) => ((a2 ≤ x6_3 →
        Q M6) ∧ (¬ a2 ≤ x6_3 →
        vp_in x6_3 (ln a1) ∧ wX7_add a0 (M6 a1 (Int32.toNatClampNeg x6_3)) M6 (fun M15 => R6 (x6_3 + 1) M15)))) n 0 M1))
set_option maxHeartbeats 1000000 in
set_option maxRecDepth 20000 in
theorem sX7_becomeCells {E : En} {a0 : Nat} {a1 : Nat} {a2 : Int32} {M : Mem} {Q : Mem → Prop} (h : wX7_becomeCells a0 a1 a2 M Q) : CM E 2 mX7_becomeCells [.ref (E.2.2 a0), .ref (E.2.2 a1), .int a2] M (Pv Q) := by
  unfold wX7_becomeCells at h
  obtain ⟨hk0, h⟩ := h
  obtain ⟨hk1, h⟩ := h
  refine CM.of (by decide) rfl (Nat.le_of_ble_eq_true rfl) ?_
  refine V_aload_n dX7_becomeCells_0 rfl ?_
  refine M_Vv mv_X7_clear lk_X7_25 dX7_becomeCells_1 rfl (kd_X7 (by omega)) (sX7_clear h) rfl rfl (Nat.le_of_ble_eq_true rfl) (by decide) (by decide) (fun M1 h => ?_)
  refine V_iconst 0 dX7_becomeCells_4 (by decide) ?_
  refine V_istore_n dX7_becomeCells_5 (by decide) ?_
  obtain ⟨n6, h⟩ := h
  refine V_take 4 ?_
  refine lq1_use (P := fun (x6_3 : Int32) (M6 : Mem) => V (Km E 2 (Pv Q)) mX7_becomeCells 6 [.ref (E.2.2 a0), .ref (E.2.2 a1), .int a2, .int x6_3] [] (wsM E.1 E.2.2 M6) 0 0) (fun R6 hR6 x6_3 M6 h => ?_) n6 _ _ h
  refine V_iload_n dX7_becomeCells_6 rfl ?_
  refine V_iload_n dX7_becomeCells_7 rfl ?_
  refine V_icmp_ge 24 dX7_becomeCells_8 (by decide) (fun q8 => ?_) (fun q8 => ?_)
  · replace h := h.1 q8
    exact V_retv dX7_becomeCells_24 rfl h
  · replace h := h.2 q8
    refine V_aload_n dX7_becomeCells_11 rfl ?_
    refine V_aload_n dX7_becomeCells_12 rfl ?_
    refine V_iload_n dX7_becomeCells_13 rfl ?_
    obtain ⟨hi14, h⟩ := h
    refine V_ialdM dX7_becomeCells_14 hk1 hi14 ?_
    refine M_Vv mv_X7_add lk_X7_28 dX7_becomeCells_15 rfl (kd_X7 (by omega)) (sX7_add h) rfl rfl (Nat.le_of_ble_eq_true rfl) (by decide) (by decide) (fun M15 h => ?_)
    refine V_iincC 1 dX7_becomeCells_18 (by decide) rfl (by decide) ?_
    refine V_goto 6 dX7_becomeCells_21 (by decide) ?_
    refine V_take 4 ?_
    exact hR6 _ _ h
def wX7_sizeOrAt (a0 : Nat) (a1 : Int32) (M : Mem) (Q : Int32 → Mem → Prop) : Prop :=
  (50 ≤ a0 ∧ a0 < 100) ∧ ((¬ a1 = (-1) →
    wX7_at a0 a1 M (fun v14 M14 => Q v14 M14)) ∧ (a1 = (-1) →
    Q (M a0 1) M))
set_option maxHeartbeats 1000000 in
set_option maxRecDepth 20000 in
theorem sX7_sizeOrAt {E : En} {a0 : Nat} {a1 : Int32} {M : Mem} {Q : Int32 → Mem → Prop} (h : wX7_sizeOrAt a0 a1 M Q) : CM E 3 mX7_sizeOrAt [.ref (E.2.2 a0), .int a1] M (Pi Q) := by
  unfold wX7_sizeOrAt at h
  obtain ⟨hk0, h⟩ := h
  refine CM.of (by decide) rfl (Nat.le_of_ble_eq_true rfl) ?_
  refine V_iload_n dX7_sizeOrAt_0 rfl ?_
  refine V_iconst (-1) dX7_sizeOrAt_1 (by decide) ?_
  refine V_icmp_ne 12 dX7_sizeOrAt_2 (by decide) (fun q2 => ?_) (fun q2 => ?_)
  · replace h := h.1 q2
    refine V_aload_n dX7_sizeOrAt_12 rfl ?_
    refine V_iload_n dX7_sizeOrAt_13 rfl ?_
    refine M_Vi mv_X7_at lk_X7_36 dX7_sizeOrAt_14 rfl (kd_X7 (by omega)) (sX7_at h) rfl rfl (Nat.le_of_ble_eq_true rfl) (by decide) (by decide) (fun v14 M14 h => ?_)
    exact V_reti dX7_sizeOrAt_17 rfl rfl h
  · replace h := h.2 q2
    refine V_aload_n dX7_sizeOrAt_5 rfl ?_
    refine V_getI fl_X7_15 dX7_sizeOrAt_6 (kd_X7 (by omega)) rfl ?_
    refine V_goto 17 dX7_sizeOrAt_9 (by decide) ?_
    exact V_reti dX7_sizeOrAt_17 rfl rfl h
def wX7_isSame (a0 : Nat) (a1 : Nat) (M : Mem) (Q : Int32 → Mem → Prop) : Prop :=
  (50 ≤ a0 ∧ a0 < 100) ∧ (50 ≤ a1 ∧ a1 < 100) ∧ (((M a0 1) = (M a1 1) →
    (∃ n, lq1 (fun R15 (x15_2 : Int32) (M15 : Mem) => (((M15 a0 1) ≤ x15_2 →
        Q 1 M15) ∧ (¬ (M15 a0 1) ≤ x15_2 →
        vp_in x15_2 8 ∧ (((M15 (a0 + 50) (Int32.toNatClampNeg x15_2)) = (M15 (a1 + 50) (Int32.toNatClampNeg x15_2)) →
          R15 (x15_2 + 1) M15) ∧ (¬ (M15 (a0 + 50) (Int32.toNatClampNeg x15_2)) = (M15 (a1 + 50) (Int32.toNatClampNeg x15_2)) →
          Q 0 M15))))) n 0 M)) ∧ (¬ (M a0 1) = (M a1 1) →
    Q 0 M))
set_option maxHeartbeats 1000000 in
set_option maxRecDepth 20000 in
theorem sX7_isSame {E : En} {a0 : Nat} {a1 : Nat} {M : Mem} {Q : Int32 → Mem → Prop} (h : wX7_isSame a0 a1 M Q) : CM E 1 mX7_isSame [.ref (E.2.2 a0), .ref (E.2.2 a1)] M (Pi Q) := by
  unfold wX7_isSame at h
  obtain ⟨hk0, h⟩ := h
  obtain ⟨hk1, h⟩ := h
  refine CM.of (by decide) rfl (Nat.le_of_ble_eq_true rfl) ?_
  refine V_aload_n dX7_isSame_0 rfl ?_
  refine V_getI fl_X7_15 dX7_isSame_1 (kd_X7 (by omega)) rfl ?_
  refine V_aload_n dX7_isSame_4 rfl ?_
  refine V_getI fl_X7_15 dX7_isSame_5 (kd_X7 (by omega)) rfl ?_
  refine V_icmp_eq 13 dX7_isSame_8 (by decide) (fun q8 => ?_) (fun q8 => ?_)
  · replace h := h.1 q8
    refine V_iconst 0 dX7_isSame_13 (by decide) ?_
    refine V_istore_n dX7_isSame_14 (by decide) ?_
    obtain ⟨n15, h⟩ := h
    refine V_take 3 ?_
    refine lq1_use (P := fun (x15_2 : Int32) (M15 : Mem) => V (Km E 1 (Pi Q)) mX7_isSame 15 [.ref (E.2.2 a0), .ref (E.2.2 a1), .int x15_2] [] (wsM E.1 E.2.2 M15) 0 0) (fun R15 hR15 x15_2 M15 h => ?_) n15 _ _ h
    refine V_iload_n dX7_isSame_15 rfl ?_
    refine V_aload_n dX7_isSame_16 rfl ?_
    refine V_getI fl_X7_15 dX7_isSame_17 (kd_X7 (by omega)) rfl ?_
    refine V_icmp_ge 46 dX7_isSame_20 (by decide) (fun q20 => ?_) (fun q20 => ?_)
    · replace h := h.1 q20
      refine V_iconst 1 dX7_isSame_46 (by decide) ?_
      exact V_reti dX7_isSame_47 rfl rfl h
    · replace h := h.2 q20
      refine V_aload_n dX7_isSame_23 rfl ?_
      refine V_getR (a0 + 50) fl_X7_9 dX7_isSame_24 (kd_X7 (by omega)) rfl (rf_X7 (by omega)) ?_
      refine V_iload_n dX7_isSame_27 rfl ?_
      obtain ⟨hi28, h⟩ := h
      refine V_ialdM dX7_isSame_28 (kd_num (by omega)) (by rw [(ln_num (by omega))]; exact hi28) ?_
      refine V_aload_n dX7_isSame_29 rfl ?_
      refine V_getR (a1 + 50) fl_X7_9 dX7_isSame_30 (kd_X7 (by omega)) rfl (rf_X7 (by omega)) ?_
      refine V_iload_n dX7_isSame_33 rfl ?_
      refine V_ialdM dX7_isSame_34 (kd_num (by omega)) (by rw [(ln_num (by omega))]; exact hi28) ?_
      refine V_icmp_eq 40 dX7_isSame_35 (by decide) (fun q35 => ?_) (fun q35 => ?_)
      · replace h := h.1 q35
        refine V_iincC 1 dX7_isSame_40 (by decide) rfl (by decide) ?_
        refine V_goto 15 dX7_isSame_43 (by decide) ?_
        refine V_take 3 ?_
        exact hR15 _ _ h
      · replace h := h.2 q35
        refine V_iconst 0 dX7_isSame_38 (by decide) ?_
        exact V_reti dX7_isSame_39 rfl rfl h
  · replace h := h.2 q8
    refine V_iconst 0 dX7_isSame_11 (by decide) ?_
    exact V_reti dX7_isSame_12 rfl rfl h
def wX7_swap (a0 : Nat) (a1 : Int32) (a2 : Int32) (M : Mem) (Q : Mem → Prop) : Prop :=
  (50 ≤ a0 ∧ a0 < 100) ∧ vp_in a1 8 ∧ vp_in a2 8 ∧ (∀ N18, N18 = mset M (a0 + 50) (Int32.toNatClampNeg a1) (M (a0 + 50) (Int32.toNatClampNeg a2)) → (∀ N25, N25 = mset N18 (a0 + 50) (Int32.toNatClampNeg a2) (M (a0 + 50) (Int32.toNatClampNeg a1)) → Q N25))
set_option maxHeartbeats 1000000 in
set_option maxRecDepth 20000 in
theorem sX7_swap {E : En} {a0 : Nat} {a1 : Int32} {a2 : Int32} {M : Mem} {Q : Mem → Prop} (h : wX7_swap a0 a1 a2 M Q) : CM E 1 mX7_swap [.ref (E.2.2 a0), .int a1, .int a2] M (Pv Q) := by
  unfold wX7_swap at h
  obtain ⟨hk0, h⟩ := h
  refine CM.of (by decide) rfl (Nat.le_of_ble_eq_true rfl) ?_
  refine V_aload_n dX7_swap_0 rfl ?_
  refine V_getR (a0 + 50) fl_X7_9 dX7_swap_1 (kd_X7 (by omega)) rfl (rf_X7 (by omega)) ?_
  refine V_iload_n dX7_swap_4 rfl ?_
  obtain ⟨hi5, h⟩ := h
  refine V_ialdM dX7_swap_5 (kd_num (by omega)) (by rw [(ln_num (by omega))]; exact hi5) ?_
  refine V_istore_n dX7_swap_6 (by decide) ?_
  refine V_aload_n dX7_swap_7 rfl ?_
  refine V_getR (a0 + 50) fl_X7_9 dX7_swap_8 (kd_X7 (by omega)) rfl (rf_X7 (by omega)) ?_
  refine V_iload_n dX7_swap_11 rfl ?_
  refine V_aload_n dX7_swap_12 rfl ?_
  refine V_getR (a0 + 50) fl_X7_9 dX7_swap_13 (kd_X7 (by omega)) rfl (rf_X7 (by omega)) ?_
  refine V_iload_n dX7_swap_16 rfl ?_
  obtain ⟨hi17, h⟩ := h
  refine V_ialdM dX7_swap_17 (kd_num (by omega)) (by rw [(ln_num (by omega))]; exact hi17) ?_
  refine V_iastN dX7_swap_18 (kd_num (by omega)) (by rw [(ln_num (by omega))]; exact hi5) (fun N18 e18 => ?_)
  replace h := h N18 e18
  refine V_aload_n dX7_swap_19 rfl ?_
  refine V_getR (a0 + 50) fl_X7_9 dX7_swap_20 (kd_X7 (by omega)) rfl (rf_X7 (by omega)) ?_
  refine V_iload_n dX7_swap_23 rfl ?_
  refine V_iload_n dX7_swap_24 rfl ?_
  refine V_iastN dX7_swap_25 (kd_num (by omega)) (by rw [(ln_num (by omega))]; exact hi17) (fun N25 e25 => ?_)
  replace h := h N25 e25
  exact V_retv dX7_swap_26 rfl h
def wX7_stepOrder (a0 : Nat) (M : Mem) (Q : Int32 → Mem → Prop) : Prop :=
  (50 ≤ a0 ∧ a0 < 100) ∧ (∃ n, lq1 (fun R7 (x7_1 : Int32) (M7 : Mem) => jn0 (fun (M34 : Mem) => ((0 ≤ x7_1 →
        (∃ n, lq1 (fun R47 (x47_2 : Int32) (M47 : Mem) => jn0 (fun (M75 : Mem) => wX7_swap a0 x7_1 x47_2 M75 (fun M78 => (∃ n, lq2 (fun R93 (x93_3 : Int32) (x93_4 : Int32) (M93 : Mem) => ((x93_4 ≤ x93_3 →
                  Q 1 M93) ∧ (¬ x93_4 ≤ x93_3 →
                  wX7_swap a0 x93_3 x93_4 M93 (fun M103 => R93 (x93_3 + 1) (x93_4 + (-1)) M103)))) n (x7_1 + 1) ((M78 a0 1) - 1) M78))) (fun J75 => ((x47_2 ≤ (x7_1 + 1) →
              J75 M47) ∧ (¬ x47_2 ≤ (x7_1 + 1) →
              vp_in x47_2 8 ∧ vp_in x7_1 8 ∧ (((M47 (a0 + 50) (Int32.toNatClampNeg x7_1)) ≤ (M47 (a0 + 50) (Int32.toNatClampNeg x47_2)) →
                J75 M47) ∧ (¬ (M47 (a0 + 50) (Int32.toNatClampNeg x7_1)) ≤ (M47 (a0 + 50) (Int32.toNatClampNeg x47_2)) →
                R47 (x47_2 + (-1)) M47)))))) n ((M34 a0 1) - 1) M34)) ∧ (¬ 0 ≤ x7_1 →
        Q 0 M34))) (fun J34 => ((x7_1 < 0 →
        J34 M7) ∧ (¬ x7_1 < 0 →
        vp_in x7_1 8 ∧ vp_in (x7_1 + 1) 8 ∧ (((M7 (a0 + 50) (Int32.toNatClampNeg x7_1)) ≤ (M7 (a0 + 50) (Int32.toNatClampNeg (x7_1 + 1))) →
          J34 M7) ∧ (¬ (M7 (a0 + 50) (Int32.toNatClampNeg x7_1)) ≤ (M7 (a0 + 50) (Int32.toNatClampNeg (x7_1 + 1))) →
          R7 (x7_1 + (-1)) M7)))))) n ((M a0 1) - 2) M)
set_option maxHeartbeats 1000000 in
set_option maxRecDepth 20000 in
theorem sX7_stepOrder {E : En} {a0 : Nat} {M : Mem} {Q : Int32 → Mem → Prop} (h : wX7_stepOrder a0 M Q) : CM E 2 mX7_stepOrder [.ref (E.2.2 a0)] M (Pi Q) := by
  unfold wX7_stepOrder at h
  obtain ⟨hk0, h⟩ := h
  refine CM.of (by decide) rfl (Nat.le_of_ble_eq_true rfl) ?_
  refine V_aload_n dX7_stepOrder_0 rfl ?_
  refine V_getI fl_X7_15 dX7_stepOrder_1 (kd_X7 (by omega)) rfl ?_
  refine V_iconst 2 dX7_stepOrder_4 (by decide) ?_
  refine V_isub dX7_stepOrder_5 ?_
  refine V_istore_n dX7_stepOrder_6 (by decide) ?_
  obtain ⟨n7, h⟩ := h
  refine V_take 2 ?_
  refine lq1_use (P := fun (x7_1 : Int32) (M7 : Mem) => V (Km E 2 (Pi Q)) mX7_stepOrder 7 [.ref (E.2.2 a0), .int x7_1] [] (wsM E.1 E.2.2 M7) 0 0) (fun R7 hR7 x7_1 M7 h => ?_) n7 _ _ h
  refine V_iload_n dX7_stepOrder_7 rfl ?_
  refine jn0_use (P := fun (M34 : Mem) => V (Km E 2 (Pi Q)) mX7_stepOrder 34 [.ref (E.2.2 a0), .int x7_1] [] (wsM E.1 E.2.2 M34) 0 0) (fun M34 h => ?_) (fun J34 hJ34 h => ?_) h
  · refine V_iload_n dX7_stepOrder_34 rfl ?_
    refine V_if_ge 40 dX7_stepOrder_35 (by decide) (fun q35 => ?_) (fun q35 => ?_)
    · replace h := h.1 q35
      refine V_aload_n dX7_stepOrder_40 rfl ?_
      refine V_getI fl_X7_15 dX7_stepOrder_41 (kd_X7 (by omega)) rfl ?_
      refine V_iconst 1 dX7_stepOrder_44 (by decide) ?_
      refine V_isub dX7_stepOrder_45 ?_
      refine V_istore_n dX7_stepOrder_46 (by decide) ?_
      obtain ⟨n47, h⟩ := h
      refine V_take 3 ?_
      refine lq1_use (P := fun (x47_2 : Int32) (M47 : Mem) => V (Km E 2 (Pi Q)) mX7_stepOrder 47 [.ref (E.2.2 a0), .int x7_1, .int x47_2] [] (wsM E.1 E.2.2 M47) 0 0) (fun R47 hR47 x47_2 M47 h => ?_) n47 _ _ h
      refine V_iload_n dX7_stepOrder_47 rfl ?_
      refine V_iload_n dX7_stepOrder_48 rfl ?_
      refine V_iconst 1 dX7_stepOrder_49 (by decide) ?_
      refine V_iadd dX7_stepOrder_50 ?_
      refine jn0_use (P := fun (M75 : Mem) => V (Km E 2 (Pi Q)) mX7_stepOrder 75 [.ref (E.2.2 a0), .int x7_1, .int x47_2] [] (wsM E.1 E.2.2 M75) 0 0) (fun M75 h => ?_) (fun J75 hJ75 h => ?_) h
      · refine V_aload_n dX7_stepOrder_75 rfl ?_
        refine V_iload_n dX7_stepOrder_76 rfl ?_
        refine V_iload_n dX7_stepOrder_77 rfl ?_
        refine M_Vv mv_X7_swap lk_X7_40 dX7_stepOrder_78 rfl (kd_X7 (by omega)) (sX7_swap h) rfl rfl (Nat.le_of_ble_eq_true rfl) (by decide) (by decide) (fun M78 h => ?_)
        refine V_iload_n dX7_stepOrder_81 rfl ?_
        refine V_iconst 1 dX7_stepOrder_82 (by decide) ?_
        refine V_iadd dX7_stepOrder_83 ?_
        refine V_istore_n dX7_stepOrder_84 (by decide) ?_
        refine V_aload_n dX7_stepOrder_85 rfl ?_
        refine V_getI fl_X7_15 dX7_stepOrder_86 (kd_X7 (by omega)) rfl ?_
        refine V_iconst 1 dX7_stepOrder_89 (by decide) ?_
        refine V_isub dX7_stepOrder_90 ?_
        refine V_istore dX7_stepOrder_91 (by decide) ?_
        obtain ⟨n93, h⟩ := h
        refine V_take 5 ?_
        refine lq2_use (P := fun (x93_3 : Int32) (x93_4 : Int32) (M93 : Mem) => ∀ j93_1 : Value, ∀ j93_2 : Value, V (Km E 2 (Pi Q)) mX7_stepOrder 93 [.ref (E.2.2 a0), j93_1, j93_2, .int x93_3, .int x93_4] [] (wsM E.1 E.2.2 M93) 0 0) (fun R93 hR93 x93_3 x93_4 M93 h j93_1 j93_2 => ?_) n93 _ _ _ h _ _
        refine V_iload_n dX7_stepOrder_93 rfl ?_
        refine V_iload dX7_stepOrder_94 rfl ?_
        refine V_icmp_ge 115 dX7_stepOrder_96 (by decide) (fun q96 => ?_) (fun q96 => ?_)
        · replace h := h.1 q96
          refine V_iconst 1 dX7_stepOrder_115 (by decide) ?_
          exact V_reti dX7_stepOrder_116 rfl rfl h
        · replace h := h.2 q96
          refine V_aload_n dX7_stepOrder_99 rfl ?_
          refine V_iload_n dX7_stepOrder_100 rfl ?_
          refine V_iload dX7_stepOrder_101 rfl ?_
          refine M_Vv mv_X7_swap lk_X7_40 dX7_stepOrder_103 rfl (kd_X7 (by omega)) (sX7_swap h) rfl rfl (Nat.le_of_ble_eq_true rfl) (by decide) (by decide) (fun M103 h => ?_)
          refine V_iincC 1 dX7_stepOrder_106 (by decide) rfl (by decide) ?_
          refine V_iincC (-1) dX7_stepOrder_109 (by decide) rfl (by decide) ?_
          refine V_goto 93 dX7_stepOrder_112 (by decide) ?_
          refine V_take 5 ?_
          exact hR93 _ _ _ h _ _
      · refine V_icmp_le 75 dX7_stepOrder_51 (by decide) (fun q51 => ?_) (fun q51 => ?_)
        · replace h := h.1 q51
          refine V_take 3 ?_
          exact hJ75 _ h
        · replace h := h.2 q51
          refine V_aload_n dX7_stepOrder_54 rfl ?_
          refine V_getR (a0 + 50) fl_X7_9 dX7_stepOrder_55 (kd_X7 (by omega)) rfl (rf_X7 (by omega)) ?_
          refine V_iload_n dX7_stepOrder_58 rfl ?_
          obtain ⟨hi59, h⟩ := h
          refine V_ialdM dX7_stepOrder_59 (kd_num (by omega)) (by rw [(ln_num (by omega))]; exact hi59) ?_
          refine V_aload_n dX7_stepOrder_60 rfl ?_
          refine V_getR (a0 + 50) fl_X7_9 dX7_stepOrder_61 (kd_X7 (by omega)) rfl (rf_X7 (by omega)) ?_
          refine V_iload_n dX7_stepOrder_64 rfl ?_
          obtain ⟨hi65, h⟩ := h
          refine V_ialdM dX7_stepOrder_65 (kd_num (by omega)) (by rw [(ln_num (by omega))]; exact hi65) ?_
          refine V_icmp_ge 75 dX7_stepOrder_66 (by decide) (fun q66 => ?_) (fun q66 => ?_)
          · replace h := h.1 q66
            refine V_take 3 ?_
            exact hJ75 _ h
          · replace h := h.2 q66
            refine V_iincC (-1) dX7_stepOrder_69 (by decide) rfl (by decide) ?_
            refine V_goto 47 dX7_stepOrder_72 (by decide) ?_
            refine V_take 3 ?_
            exact hR47 _ _ h
    · replace h := h.2 q35
      refine V_iconst 0 dX7_stepOrder_38 (by decide) ?_
      exact V_reti dX7_stepOrder_39 rfl rfl h
  · refine V_if_lt 34 dX7_stepOrder_8 (by decide) (fun q8 => ?_) (fun q8 => ?_)
    · replace h := h.1 q8
      refine V_take 2 ?_
      exact hJ34 _ h
    · replace h := h.2 q8
      refine V_aload_n dX7_stepOrder_11 rfl ?_
      refine V_getR (a0 + 50) fl_X7_9 dX7_stepOrder_12 (kd_X7 (by omega)) rfl (rf_X7 (by omega)) ?_
      refine V_iload_n dX7_stepOrder_15 rfl ?_
      obtain ⟨hi16, h⟩ := h
      refine V_ialdM dX7_stepOrder_16 (kd_num (by omega)) (by rw [(ln_num (by omega))]; exact hi16) ?_
      refine V_aload_n dX7_stepOrder_17 rfl ?_
      refine V_getR (a0 + 50) fl_X7_9 dX7_stepOrder_18 (kd_X7 (by omega)) rfl (rf_X7 (by omega)) ?_
      refine V_iload_n dX7_stepOrder_21 rfl ?_
      refine V_iconst 1 dX7_stepOrder_22 (by decide) ?_
      refine V_iadd dX7_stepOrder_23 ?_
      obtain ⟨hi24, h⟩ := h
      refine V_ialdM dX7_stepOrder_24 (kd_num (by omega)) (by rw [(ln_num (by omega))]; exact hi24) ?_
      refine V_icmp_le 34 dX7_stepOrder_25 (by decide) (fun q25 => ?_) (fun q25 => ?_)
      · replace h := h.1 q25
        refine V_take 2 ?_
        exact hJ34 _ h
      · replace h := h.2 q25
        refine V_iincC (-1) dX7_stepOrder_28 (by decide) rfl (by decide) ?_
        refine V_goto 7 dX7_stepOrder_31 (by decide) ?_
        refine V_take 2 ?_
        exact hR7 _ _ h
def wJ7_fill_53178 (a0 : Nat) (a1 : Int32) (M : Mem) (Q : Mem → Prop) : Prop :=
  kd a0 = 20 ∧ (∃ n, lq1 (fun R5 (x5_2 : Int32) (M5 : Mem) => (((Int32.ofNat (ln a0)) ≤ x5_2 →
      Q M5) ∧ (¬ (Int32.ofNat (ln a0)) ≤ x5_2 →
      vp_in x5_2 (ln a0) ∧ (∀ N13, N13 = mset M5 a0 (Int32.toNatClampNeg x5_2) a1 → R5 (x5_2 + 1) N13)))) n 0 M)
set_option maxHeartbeats 1000000 in
set_option maxRecDepth 20000 in
theorem sJ7_fill_53178 {E : En} {a0 : Nat} {a1 : Int32} {M : Mem} {Q : Mem → Prop} (h : wJ7_fill_53178 a0 a1 M Q) : CM E 1 mJ7_fill_53178 [.ref (E.2.2 a0), .int a1] M (Pv Q) := by
  unfold wJ7_fill_53178 at h
  obtain ⟨hk0, h⟩ := h
  refine CM.of (by decide) rfl (Nat.le_of_ble_eq_true rfl) ?_
  refine V_iconst 0 dJ7_fill_53178_0 (by decide) ?_
  refine V_istore_n dJ7_fill_53178_1 (by decide) ?_
  refine V_aload_n dJ7_fill_53178_2 rfl ?_
  refine V_alenM dJ7_fill_53178_3 hk0 ?_
  refine V_istore_n dJ7_fill_53178_4 (by decide) ?_
  obtain ⟨n5, h⟩ := h
  refine V_take 4 ?_
  refine lq1_use (P := fun (x5_2 : Int32) (M5 : Mem) => V (Km E 1 (Pv Q)) mJ7_fill_53178 5 [.ref (E.2.2 a0), .int a1, .int x5_2, .int (Int32.ofNat (ln a0))] [] (wsM E.1 E.2.2 M5) 0 0) (fun R5 hR5 x5_2 M5 h => ?_) n5 _ _ h
  refine V_iload_n dJ7_fill_53178_5 rfl ?_
  refine V_iload_n dJ7_fill_53178_6 rfl ?_
  refine V_icmp_ge 20 dJ7_fill_53178_7 (by decide) (fun q7 => ?_) (fun q7 => ?_)
  · replace h := h.1 q7
    exact V_retv dJ7_fill_53178_20 rfl h
  · replace h := h.2 q7
    refine V_aload_n dJ7_fill_53178_10 rfl ?_
    refine V_iload_n dJ7_fill_53178_11 rfl ?_
    refine V_iload_n dJ7_fill_53178_12 rfl ?_
    obtain ⟨hi13, h⟩ := h
    refine V_iastN dJ7_fill_53178_13 hk0 hi13 (fun N13 e13 => ?_)
    replace h := h N13 e13
    refine V_iincC 1 dJ7_fill_53178_14 (by decide) rfl (by decide) ?_
    refine V_goto 5 dJ7_fill_53178_17 (by decide) ?_
    refine V_take 4 ?_
    exact hR5 _ _ h
def wX8_renew (a0 : Nat) (a1 : Int32) (a2 : Int32) (M : Mem) (Q : Mem → Prop) : Prop :=
  (41 ≤ a0 ∧ a0 < 45) ∧ wJ7_fill_53178 (a0 + 4) 0 M (fun M5 => (∀ N10, N10 = mset M5 a0 1 1 → (∀ N15, N15 = mset N10 a0 2 a1 → (∀ N20, N20 = mset N15 a0 3 a2 → Q N20))))
set_option maxHeartbeats 1000000 in
set_option maxRecDepth 20000 in
theorem sX8_renew {E : En} {a0 : Nat} {a1 : Int32} {a2 : Int32} {M : Mem} {Q : Mem → Prop} (h : wX8_renew a0 a1 a2 M Q) : CM E 2 mX8_renew [.ref (E.2.2 a0), .int a1, .int a2] M (Pv Q) := by
  unfold wX8_renew at h
  obtain ⟨hk0, h⟩ := h
  refine CM.of (by decide) rfl (Nat.le_of_ble_eq_true rfl) ?_
  refine V_aload_n dX8_renew_0 rfl ?_
  refine V_getR (a0 + 4) fl_X8_9 dX8_renew_1 (kd_X8 (by omega)) rfl (rf_X8 (by omega)) ?_
  refine V_iconst 0 dX8_renew_4 (by decide) ?_
  refine M_Sv ms_J7_fill_53178 lk_X8_26 dX8_renew_5 (sJ7_fill_53178 h) rfl rfl (Nat.le_of_ble_eq_true rfl) (by decide) (by decide) (fun M5 h => ?_)
  refine V_aload_n dX8_renew_8 rfl ?_
  refine V_iconst 1 dX8_renew_9 (by decide) ?_
  refine V_putN fp_X8_15 dX8_renew_10 (kd_X8 (by omega)) rfl rfl rfl (fun N10 e10 => ?_)
  replace h := h N10 e10
  refine V_aload_n dX8_renew_13 rfl ?_
  refine V_iload_n dX8_renew_14 rfl ?_
  refine V_putN fp_X8_19 dX8_renew_15 (kd_X8 (by omega)) rfl rfl rfl (fun N15 e15 => ?_)
  replace h := h N15 e15
  refine V_aload_n dX8_renew_18 rfl ?_
  refine V_iload_n dX8_renew_19 rfl ?_
  refine V_putN fp_X8_23 dX8_renew_20 (kd_X8 (by omega)) rfl rfl rfl (fun N20 e20 => ?_)
  replace h := h N20 e20
  exact V_retv dX8_renew_23 rfl h
def wX8_loseRow (a0 : Nat) (M : Mem) (Q : Int32 → Mem → Prop) : Prop :=
  (41 ≤ a0 ∧ a0 < 45) ∧ (∀ N7, N7 = mset M a0 1 0 → isB (M a0 1) ∧ Q (M a0 1) N7)
set_option maxHeartbeats 1000000 in
set_option maxRecDepth 20000 in
theorem sX8_loseRow {E : En} {a0 : Nat} {M : Mem} {Q : Int32 → Mem → Prop} (h : wX8_loseRow a0 M Q) : CM E 1 mX8_loseRow [.ref (E.2.2 a0)] M (Pi Q) := by
  unfold wX8_loseRow at h
  obtain ⟨hk0, h⟩ := h
  refine CM.of (by decide) rfl (Nat.le_of_ble_eq_true rfl) ?_
  refine V_aload_n dX8_loseRow_0 rfl ?_
  refine V_getI fl_X8_15 dX8_loseRow_1 (kd_X8 (by omega)) rfl ?_
  refine V_istore_n dX8_loseRow_4 (by decide) ?_
  refine V_aload_n dX8_loseRow_5 rfl ?_
  refine V_iconst 0 dX8_loseRow_6 (by decide) ?_
  refine V_putN fp_X8_15 dX8_loseRow_7 (kd_X8 (by omega)) rfl rfl rfl (fun N7 e7 => ?_)
  replace h := h N7 e7
  refine V_iload_n dX8_loseRow_10 rfl ?_
  exact V_reti dX8_loseRow_11 rfl (nb h.1) h.2
def wX8_putCut (a0 : Nat) (a1 : Int32) (a2 : Int32) (M : Mem) (Q : Mem → Prop) : Prop :=
  (41 ≤ a0 ∧ a0 < 45) ∧ (((M a0 2) = 0 →
    vp_in a1 60 ∧ (∀ N39, N39 = mset M (a0 + 4) (Int32.toNatClampNeg a1) (Int32.toInt8 a2).toInt32 → Q N39)) ∧ ((M a0 2) = 1 →
    vp_in a1 60 ∧ (∀ N50, N50 = mset M (a0 + 4) (Int32.toNatClampNeg a1) (Int32.toInt16 a2).toInt32 → Q N50)) ∧ (¬ (M a0 2) = 0 → ¬ (M a0 2) = 1 → vp_in a1 60 ∧ (∀ N60, N60 = mset M (a0 + 4) (Int32.toNatClampNeg a1) a2 → Q N60)))
set_option maxHeartbeats 1000000 in
set_option maxRecDepth 20000 in
theorem sX8_putCut {E : En} {a0 : Nat} {a1 : Int32} {a2 : Int32} {M : Mem} {Q : Mem → Prop} (h : wX8_putCut a0 a1 a2 M Q) : CM E 1 mX8_putCut [.ref (E.2.2 a0), .int a1, .int a2] M (Pv Q) := by
  unfold wX8_putCut at h
  obtain ⟨hk0, h⟩ := h
  refine CM.of (by decide) rfl (Nat.le_of_ble_eq_true rfl) ?_
  refine V_aload_n dX8_putCut_0 rfl ?_
  refine V_getI fl_X8_19 dX8_putCut_1 (kd_X8 (by omega)) rfl ?_
  rcases Classical.em ((M a0 2) = 0) with q | q4_0
  · replace h := h.1 q
    refine V_lookup (off := 28) 32 dX8_putCut_4 (by decide) (by rw [q] <;> rfl) (by decide) ?_
    refine V_aload_n dX8_putCut_32 rfl ?_
    refine V_getR (a0 + 4) fl_X8_9 dX8_putCut_33 (kd_X8 (by omega)) rfl (rf_X8 (by omega)) ?_
    refine V_iload_n dX8_putCut_36 rfl ?_
    refine V_iload_n dX8_putCut_37 rfl ?_
    refine V_i2b dX8_putCut_38 ?_
    obtain ⟨hi39, h⟩ := h
    refine V_iastN dX8_putCut_39 (kd_cel (by omega)) (by rw [(ln_cel (by omega))]; exact hi39) (fun N39 e39 => ?_)
    replace h := h N39 e39
    refine V_goto 61 dX8_putCut_40 (by decide) ?_
    exact V_retv dX8_putCut_61 rfl h
  rcases Classical.em ((M a0 2) = 1) with q | q4_1
  · replace h := h.2.1 q
    refine V_lookup (off := 39) 43 dX8_putCut_4 (by decide) (by rw [q] <;> rfl) (by decide) ?_
    refine V_aload_n dX8_putCut_43 rfl ?_
    refine V_getR (a0 + 4) fl_X8_9 dX8_putCut_44 (kd_X8 (by omega)) rfl (rf_X8 (by omega)) ?_
    refine V_iload_n dX8_putCut_47 rfl ?_
    refine V_iload_n dX8_putCut_48 rfl ?_
    refine V_i2s dX8_putCut_49 ?_
    obtain ⟨hi50, h⟩ := h
    refine V_iastN dX8_putCut_50 (kd_cel (by omega)) (by rw [(ln_cel (by omega))]; exact hi50) (fun N50 e50 => ?_)
    replace h := h N50 e50
    refine V_goto 61 dX8_putCut_51 (by decide) ?_
    exact V_retv dX8_putCut_61 rfl h
  replace h := h.2.2 q4_0 q4_1
  refine V_lookup (off := 50) 54 dX8_putCut_4 (by decide) (by show Op.lookupswitch.offset [_, _] _ _ = _; rw [lv_osw q4_0 (show (0 : Int32).toInt = 0 by decide), lv_osw q4_1 (show (1 : Int32).toInt = 1 by decide)] <;> rfl) (by decide) ?_
  refine V_aload_n dX8_putCut_54 rfl ?_
  refine V_getR (a0 + 4) fl_X8_9 dX8_putCut_55 (kd_X8 (by omega)) rfl (rf_X8 (by omega)) ?_
  refine V_iload_n dX8_putCut_58 rfl ?_
  refine V_iload_n dX8_putCut_59 rfl ?_
  obtain ⟨hi60, h⟩ := h
  refine V_iastN dX8_putCut_60 (kd_cel (by omega)) (by rw [(ln_cel (by omega))]; exact hi60) (fun N60 e60 => ?_)
  replace h := h N60 e60
  exact V_retv dX8_putCut_61 rfl h
def wX8_faultOfRow (a0 : Nat) (a1 : Int32) (M : Mem) (Q : Int32 → Mem → Prop) : Prop :=
  (41 ≤ a0 ∧ a0 < 45) ∧ ((¬ (M a0 1) = 0 →
    ((¬ (M a0 2) = a1 →
      Q 2 M) ∧ ((M a0 2) = a1 →
      Q 0 M))) ∧ ((M a0 1) = 0 →
    Q 1 M))
set_option maxHeartbeats 1000000 in
set_option maxRecDepth 20000 in
theorem sX8_faultOfRow {E : En} {a0 : Nat} {a1 : Int32} {M : Mem} {Q : Int32 → Mem → Prop} (h : wX8_faultOfRow a0 a1 M Q) : CM E 1 mX8_faultOfRow [.ref (E.2.2 a0), .int a1] M (Pi Q) := by
  unfold wX8_faultOfRow at h
  obtain ⟨hk0, h⟩ := h
  refine CM.of (by decide) rfl (Nat.le_of_ble_eq_true rfl) ?_
  refine V_aload_n dX8_faultOfRow_0 rfl ?_
  refine V_getI fl_X8_15 dX8_faultOfRow_1 (kd_X8 (by omega)) rfl ?_
  refine V_if_ne 9 dX8_faultOfRow_4 (by decide) (fun q4 => ?_) (fun q4 => ?_)
  · replace h := h.1 q4
    refine V_aload_n dX8_faultOfRow_9 rfl ?_
    refine V_getI fl_X8_19 dX8_faultOfRow_10 (kd_X8 (by omega)) rfl ?_
    refine V_iload_n dX8_faultOfRow_13 rfl ?_
    refine V_icmp_ne 21 dX8_faultOfRow_14 (by decide) (fun q14 => ?_) (fun q14 => ?_)
    · replace h := h.1 q14
      refine V_iconst 2 dX8_faultOfRow_21 (by decide) ?_
      exact V_reti dX8_faultOfRow_22 rfl rfl h
    · replace h := h.2 q14
      refine V_iconst 0 dX8_faultOfRow_17 (by decide) ?_
      refine V_goto 22 dX8_faultOfRow_18 (by decide) ?_
      exact V_reti dX8_faultOfRow_22 rfl rfl h
  · replace h := h.2 q4
    refine V_iconst 1 dX8_faultOfRow_7 (by decide) ?_
    exact V_reti dX8_faultOfRow_8 rfl rfl h
def wX10_isWithin (a0 : Int32) (a1 : Int32) (a2 : Int32) (M : Mem) (Q : Int32 → Mem → Prop) : Prop :=
  ((a0 < a1 →
    Q 0 M) ∧ (¬ a0 < a1 →
    ((a2 < a0 →
      Q 0 M) ∧ (¬ a2 < a0 →
      Q 1 M))))
set_option maxHeartbeats 1000000 in
set_option maxRecDepth 20000 in
theorem sX10_isWithin {E : En} {a0 : Int32} {a1 : Int32} {a2 : Int32} {M : Mem} {Q : Int32 → Mem → Prop} (h : wX10_isWithin a0 a1 a2 M Q) : CM E 1 mX10_isWithin [.int a0, .int a1, .int a2] M (Pi Q) := by
  unfold wX10_isWithin at h
  refine CM.of (by decide) rfl (Nat.le_of_ble_eq_true rfl) ?_
  refine V_iload_n dX10_isWithin_0 rfl ?_
  refine V_iload_n dX10_isWithin_1 rfl ?_
  refine V_icmp_lt 14 dX10_isWithin_2 (by decide) (fun q2 => ?_) (fun q2 => ?_)
  · replace h := h.1 q2
    refine V_iconst 0 dX10_isWithin_14 (by decide) ?_
    exact V_reti dX10_isWithin_15 rfl rfl h
  · replace h := h.2 q2
    refine V_iload_n dX10_isWithin_5 rfl ?_
    refine V_iload_n dX10_isWithin_6 rfl ?_
    refine V_icmp_gt 14 dX10_isWithin_7 (by decide) (fun q7 => ?_) (fun q7 => ?_)
    · replace h := h.1 q7
      refine V_iconst 0 dX10_isWithin_14 (by decide) ?_
      exact V_reti dX10_isWithin_15 rfl rfl h
    · replace h := h.2 q7
      refine V_iconst 1 dX10_isWithin_10 (by decide) ?_
      refine V_goto 15 dX10_isWithin_11 (by decide) ?_
      exact V_reti dX10_isWithin_15 rfl rfl h
def wX8_faultOfCells (a0 : Nat) (a1 : Int32) (a2 : Int32) (a3 : Int32) (M : Mem) (Q : Int32 → Mem → Prop) : Prop :=
  (41 ≤ a0 ∧ a0 < 45) ∧ wX8_faultOfRow a0 a1 M (fun v2 M2 => ((v2 = 0 →
      ((0 ≤ a3 →
        wX10_isWithin a2 0 (M2 a0 3) M2 (fun v27 M27 => ((v27 = 0 →
            Q 3 M27) ∧ (¬ v27 = 0 →
            ((((M27 a0 3) - a2) < a3 →
              Q 3 M27) ∧ (¬ ((M27 a0 3) - a2) < a3 →
              Q 0 M27)))))) ∧ (¬ 0 ≤ a3 →
        Q 4 M2))) ∧ (¬ v2 = 0 →
      Q v2 M2)))
set_option maxHeartbeats 1000000 in
set_option maxRecDepth 20000 in
theorem sX8_faultOfCells {E : En} {a0 : Nat} {a1 : Int32} {a2 : Int32} {a3 : Int32} {M : Mem} {Q : Int32 → Mem → Prop} (h : wX8_faultOfCells a0 a1 a2 a3 M Q) : CM E 2 mX8_faultOfCells [.ref (E.2.2 a0), .int a1, .int a2, .int a3] M (Pi Q) := by
  unfold wX8_faultOfCells at h
  obtain ⟨hk0, h⟩ := h
  refine CM.of (by decide) rfl (Nat.le_of_ble_eq_true rfl) ?_
  refine V_aload_n dX8_faultOfCells_0 rfl ?_
  refine V_iload_n dX8_faultOfCells_1 rfl ?_
  refine M_Vi mv_X8_faultOfRow lk_X8_32 dX8_faultOfCells_2 rfl (kd_X8 (by omega)) (sX8_faultOfRow h) rfl rfl (Nat.le_of_ble_eq_true rfl) (by decide) (by decide) (fun v2 M2 h => ?_)
  refine V_istore dX8_faultOfCells_5 (by decide) ?_
  refine V_iload dX8_faultOfCells_7 rfl ?_
  refine V_if_eq 15 dX8_faultOfCells_9 (by decide) (fun q9 => ?_) (fun q9 => ?_)
  · replace h := h.1 q9
    refine V_iload_n dX8_faultOfCells_15 rfl ?_
    refine V_if_ge 21 dX8_faultOfCells_16 (by decide) (fun q16 => ?_) (fun q16 => ?_)
    · replace h := h.1 q16
      refine V_iload_n dX8_faultOfCells_21 rfl ?_
      refine V_iconst 0 dX8_faultOfCells_22 (by decide) ?_
      refine V_aload_n dX8_faultOfCells_23 rfl ?_
      refine V_getI fl_X8_23 dX8_faultOfCells_24 (kd_X8 (by omega)) rfl ?_
      refine M_Si ms_X10_isWithin lk_X8_36 dX8_faultOfCells_27 (sX10_isWithin h) rfl rfl (Nat.le_of_ble_eq_true rfl) (by decide) (by decide) (fun v27 M27 h => ?_)
      refine V_if_eq 47 dX8_faultOfCells_30 (by decide) (fun q30 => ?_) (fun q30 => ?_)
      · replace h := h.1 q30
        refine V_iconst 3 dX8_faultOfCells_47 (by decide) ?_
        exact V_reti dX8_faultOfCells_48 rfl rfl h
      · replace h := h.2 q30
        refine V_iload_n dX8_faultOfCells_33 rfl ?_
        refine V_aload_n dX8_faultOfCells_34 rfl ?_
        refine V_getI fl_X8_23 dX8_faultOfCells_35 (kd_X8 (by omega)) rfl ?_
        refine V_iload_n dX8_faultOfCells_38 rfl ?_
        refine V_isub dX8_faultOfCells_39 ?_
        refine V_icmp_gt 47 dX8_faultOfCells_40 (by decide) (fun q40 => ?_) (fun q40 => ?_)
        · replace h := h.1 q40
          refine V_iconst 3 dX8_faultOfCells_47 (by decide) ?_
          exact V_reti dX8_faultOfCells_48 rfl rfl h
        · replace h := h.2 q40
          refine V_iconst 0 dX8_faultOfCells_43 (by decide) ?_
          refine V_goto 48 dX8_faultOfCells_44 (by decide) ?_
          exact V_reti dX8_faultOfCells_48 rfl rfl h
    · replace h := h.2 q16
      refine V_iconst 4 dX8_faultOfCells_19 (by decide) ?_
      exact V_reti dX8_faultOfCells_20 rfl rfl h
  · replace h := h.2 q9
    refine V_iload dX8_faultOfCells_12 rfl ?_
    exact V_reti dX8_faultOfCells_14 rfl rfl h
def wX9_become (a1 : Int32) (a2 : Int32) (a3 : Int32) (M : Mem) (Q : Int32 → Mem → Prop) : Prop :=
  vp_in a1 16 ∧ jn0 (fun (M22 : Mem) => (∀ N28, N28 = mset M22 2 (Int32.toNatClampNeg a1) a2 → (∀ N35, N35 = mset N28 3 (Int32.toNatClampNeg a1) a3 → Q 1 N35))) (fun J22 => ((¬ (M 2 (Int32.toNatClampNeg a1)) = a2 →
      J22 M) ∧ ((M 2 (Int32.toNatClampNeg a1)) = a2 →
      ((¬ (M 3 (Int32.toNatClampNeg a1)) = a3 →
        J22 M) ∧ ((M 3 (Int32.toNatClampNeg a1)) = a3 →
        Q 0 M)))))
set_option maxHeartbeats 1000000 in
set_option maxRecDepth 20000 in
theorem sX9_become {E : En} {a1 : Int32} {a2 : Int32} {a3 : Int32} {M : Mem} {Q : Int32 → Mem → Prop} (h : wX9_become a1 a2 a3 M Q) : CM E 1 mX9_become [.ref (E.2.2 1), .int a1, .int a2, .int a3] M (Pi Q) := by
  unfold wX9_become at h
  refine CM.of (by decide) rfl (Nat.le_of_ble_eq_true rfl) ?_
  refine V_aload_n dX9_become_0 rfl ?_
  refine V_getR 2 fl_X9_9 dX9_become_1 rfl rfl rfl ?_
  refine V_iload_n dX9_become_4 rfl ?_
  obtain ⟨hi5, h⟩ := h
  refine V_ialdM dX9_become_5 rfl hi5 ?_
  refine V_iload_n dX9_become_6 rfl ?_
  refine jn0_use (P := fun (M22 : Mem) => V (Km E 1 (Pi Q)) mX9_become 22 [.ref (E.2.2 1), .int a1, .int a2, .int a3] [] (wsM E.1 E.2.2 M22) 0 0) (fun M22 h => ?_) (fun J22 hJ22 h => ?_) h
  · refine V_aload_n dX9_become_22 rfl ?_
    refine V_getR 2 fl_X9_9 dX9_become_23 rfl rfl rfl ?_
    refine V_iload_n dX9_become_26 rfl ?_
    refine V_iload_n dX9_become_27 rfl ?_
    refine V_iastN dX9_become_28 rfl hi5 (fun N28 e28 => ?_)
    replace h := h N28 e28
    refine V_aload_n dX9_become_29 rfl ?_
    refine V_getR 3 fl_X9_15 dX9_become_30 rfl rfl rfl ?_
    refine V_iload_n dX9_become_33 rfl ?_
    refine V_iload_n dX9_become_34 rfl ?_
    refine V_iastN dX9_become_35 rfl hi5 (fun N35 e35 => ?_)
    replace h := h N35 e35
    refine V_iconst 1 dX9_become_36 (by decide) ?_
    exact V_reti dX9_become_37 rfl rfl h
  · refine V_icmp_ne 22 dX9_become_7 (by decide) (fun q7 => ?_) (fun q7 => ?_)
    · replace h := h.1 q7
      refine V_take 4 ?_
      exact hJ22 _ h
    · replace h := h.2 q7
      refine V_aload_n dX9_become_10 rfl ?_
      refine V_getR 3 fl_X9_15 dX9_become_11 rfl rfl rfl ?_
      refine V_iload_n dX9_become_14 rfl ?_
      refine V_ialdM dX9_become_15 rfl hi5 ?_
      refine V_iload_n dX9_become_16 rfl ?_
      refine V_icmp_ne 22 dX9_become_17 (by decide) (fun q17 => ?_) (fun q17 => ?_)
      · replace h := h.1 q17
        refine V_take 4 ?_
        exact hJ22 _ h
      · replace h := h.2 q17
        refine V_iconst 0 dX9_become_20 (by decide) ?_
        exact V_reti dX9_become_21 rfl rfl h
def wX10_isSetBelow (a0 : Int32) (a1 : Int32) (M : Mem) (Q : Int32 → Mem → Prop) : Prop :=
  ((¬ (Int32.toUInt32 a0 >>> (Int32.toUInt32 a1 &&& Int32.toUInt32 31)).toInt32 = 0 →
    Q 0 M) ∧ ((Int32.toUInt32 a0 >>> (Int32.toUInt32 a1 &&& Int32.toUInt32 31)).toInt32 = 0 →
    Q 1 M))
set_option maxHeartbeats 1000000 in
set_option maxRecDepth 20000 in
theorem sX10_isSetBelow {E : En} {a0 : Int32} {a1 : Int32} {M : Mem} {Q : Int32 → Mem → Prop} (h : wX10_isSetBelow a0 a1 M Q) : CM E 1 mX10_isSetBelow [.int a0, .int a1] M (Pi Q) := by
  unfold wX10_isSetBelow at h
  refine CM.of (by decide) rfl (Nat.le_of_ble_eq_true rfl) ?_
  refine V_iload_n dX10_isSetBelow_0 rfl ?_
  refine V_iload_n dX10_isSetBelow_1 rfl ?_
  refine V_iushr dX10_isSetBelow_2 ?_
  refine V_if_ne 10 dX10_isSetBelow_3 (by decide) (fun q3 => ?_) (fun q3 => ?_)
  · replace h := h.1 q3
    refine V_iconst 0 dX10_isSetBelow_10 (by decide) ?_
    exact V_reti dX10_isSetBelow_11 rfl rfl h
  · replace h := h.2 q3
    refine V_iconst 1 dX10_isSetBelow_6 (by decide) ?_
    refine V_goto 11 dX10_isSetBelow_7 (by decide) ?_
    exact V_reti dX10_isSetBelow_11 rfl rfl h
def wX10_sound (a1 : Int32) (a2 : Int32) (a3 : Int32) (M : Mem) (Q : Int32 → Mem → Prop) : Prop :=
  wX10_isBelow a1 16 M (fun v3 M3 => ((¬ v3 = 0 →
      wX10_isSetBelow a2 6 M3 (fun v14 M14 => ((v14 = 0 →
          Q (-2) M14) ∧ (¬ v14 = 0 →
          wX10_isSetBelow a3 6 M14 (fun v23 M23 => ((v23 = 0 →
              Q (-2) M23) ∧ (¬ v23 = 0 →
              (((a2 &&& a3) = 0 →
                wX9_become a1 a2 a3 M23 (fun v45 M45 => ((v45 = 0 →
                    Q 0 M45) ∧ (¬ v45 = 0 →
                    Q 1 M45)))) ∧ (¬ (a2 &&& a3) = 0 →
                Q (-2) M23))))))))) ∧ (v3 = 0 →
      Q (-1) M3)))
set_option maxHeartbeats 1000000 in
set_option maxRecDepth 20000 in
theorem sX10_sound {E : En} {a1 : Int32} {a2 : Int32} {a3 : Int32} {M : Mem} {Q : Int32 → Mem → Prop} (h : wX10_sound a1 a2 a3 M Q) : CM E 2 mX10_sound [.ref (E.2.2 0), .int a1, .int a2, .int a3] M (Pi Q) := by
  unfold wX10_sound at h
  refine CM.of (by decide) rfl (Nat.le_of_ble_eq_true rfl) ?_
  refine V_iload_n dX10_sound_0 rfl ?_
  refine V_bipush 16 dX10_sound_1 (by decide) ?_
  refine M_Si ms_X10_isBelow lk_X10_114 dX10_sound_3 (sX10_isBelow h) rfl rfl (Nat.le_of_ble_eq_true rfl) (by decide) (by decide) (fun v3 M3 h => ?_)
  refine V_if_ne 11 dX10_sound_6 (by decide) (fun q6 => ?_) (fun q6 => ?_)
  · replace h := h.1 q6
    refine V_iload_n dX10_sound_11 rfl ?_
    refine V_bipush 6 dX10_sound_12 (by decide) ?_
    refine M_Si ms_X10_isSetBelow lk_X10_118 dX10_sound_14 (sX10_isSetBelow h) rfl rfl (Nat.le_of_ble_eq_true rfl) (by decide) (by decide) (fun v14 M14 h => ?_)
    refine V_if_eq 35 dX10_sound_17 (by decide) (fun q17 => ?_) (fun q17 => ?_)
    · replace h := h.1 q17
      refine V_bipush (-2) dX10_sound_35 (by decide) ?_
      exact V_reti dX10_sound_37 rfl rfl h
    · replace h := h.2 q17
      refine V_iload_n dX10_sound_20 rfl ?_
      refine V_bipush 6 dX10_sound_21 (by decide) ?_
      refine M_Si ms_X10_isSetBelow lk_X10_118 dX10_sound_23 (sX10_isSetBelow h) rfl rfl (Nat.le_of_ble_eq_true rfl) (by decide) (by decide) (fun v23 M23 h => ?_)
      refine V_if_eq 35 dX10_sound_26 (by decide) (fun q26 => ?_) (fun q26 => ?_)
      · replace h := h.1 q26
        refine V_bipush (-2) dX10_sound_35 (by decide) ?_
        exact V_reti dX10_sound_37 rfl rfl h
      · replace h := h.2 q26
        refine V_iload_n dX10_sound_29 rfl ?_
        refine V_iload_n dX10_sound_30 rfl ?_
        refine V_iand dX10_sound_31 ?_
        refine V_if_eq 38 dX10_sound_32 (by decide) (fun q32 => ?_) (fun q32 => ?_)
        · replace h := h.1 q32
          refine V_aload_n dX10_sound_38 rfl ?_
          refine V_getR 1 fl_X10_12 dX10_sound_39 rfl rfl rfl ?_
          refine V_iload_n dX10_sound_42 rfl ?_
          refine V_iload_n dX10_sound_43 rfl ?_
          refine V_iload_n dX10_sound_44 rfl ?_
          refine M_Vi mv_X9_become lk_X10_121 dX10_sound_45 rfl rfl (sX9_become h) rfl rfl (Nat.le_of_ble_eq_true rfl) (by decide) (by decide) (fun v45 M45 h => ?_)
          refine V_if_eq 55 dX10_sound_48 (by decide) (fun q48 => ?_) (fun q48 => ?_)
          · replace h := h.1 q48
            refine V_iconst 0 dX10_sound_55 (by decide) ?_
            exact V_reti dX10_sound_56 rfl rfl h
          · replace h := h.2 q48
            refine V_iconst 1 dX10_sound_51 (by decide) ?_
            refine V_goto 56 dX10_sound_52 (by decide) ?_
            exact V_reti dX10_sound_56 rfl rfl h
        · replace h := h.2 q32
          refine V_bipush (-2) dX10_sound_35 (by decide) ?_
          exact V_reti dX10_sound_37 rfl rfl h
  · replace h := h.2 q6
    refine V_iconst (-1) dX10_sound_9 (by decide) ?_
    exact V_reti dX10_sound_10 rfl rfl h
def wX10_feature (a1 : Int32) (a2 : Int32) (M : Mem) (Q : Int32 → Mem → Prop) : Prop :=
  wX10_isBelow a1 16 M (fun v3 M3 => ((¬ v3 = 0 →
      wX10_isBelow a2 6 M3 (fun v14 M14 => ((¬ v14 = 0 →
          vp_in a1 16 ∧ wX10_isIn a2 (M14 2 (Int32.toNatClampNeg a1)) M14 (fun v33 M33 => ((v33 = 0 →
              wX10_isIn a2 (M33 3 (Int32.toNatClampNeg a1)) M33 (fun v51 M51 => ((v51 = 0 →
                  Q (-9) M51) ∧ (¬ v51 = 0 →
                  Q 0 M51)))) ∧ (¬ v33 = 0 →
              Q 1 M33)))) ∧ (v14 = 0 →
          Q (-2) M14)))) ∧ (v3 = 0 →
      Q (-1) M3)))
set_option maxHeartbeats 1000000 in
set_option maxRecDepth 20000 in
theorem sX10_feature {E : En} {a1 : Int32} {a2 : Int32} {M : Mem} {Q : Int32 → Mem → Prop} (h : wX10_feature a1 a2 M Q) : CM E 2 mX10_feature [.ref (E.2.2 0), .int a1, .int a2] M (Pi Q) := by
  unfold wX10_feature at h
  refine CM.of (by decide) rfl (Nat.le_of_ble_eq_true rfl) ?_
  refine V_iload_n dX10_feature_0 rfl ?_
  refine V_bipush 16 dX10_feature_1 (by decide) ?_
  refine M_Si ms_X10_isBelow lk_X10_114 dX10_feature_3 (sX10_isBelow h) rfl rfl (Nat.le_of_ble_eq_true rfl) (by decide) (by decide) (fun v3 M3 h => ?_)
  refine V_if_ne 11 dX10_feature_6 (by decide) (fun q6 => ?_) (fun q6 => ?_)
  · replace h := h.1 q6
    refine V_iload_n dX10_feature_11 rfl ?_
    refine V_bipush 6 dX10_feature_12 (by decide) ?_
    refine M_Si ms_X10_isBelow lk_X10_114 dX10_feature_14 (sX10_isBelow h) rfl rfl (Nat.le_of_ble_eq_true rfl) (by decide) (by decide) (fun v14 M14 h => ?_)
    refine V_if_ne 23 dX10_feature_17 (by decide) (fun q17 => ?_) (fun q17 => ?_)
    · replace h := h.1 q17
      refine V_iload_n dX10_feature_23 rfl ?_
      refine V_aload_n dX10_feature_24 rfl ?_
      refine V_getR 1 fl_X10_12 dX10_feature_25 rfl rfl rfl ?_
      refine V_getR 2 fl_X10_125 dX10_feature_28 rfl rfl rfl ?_
      refine V_iload_n dX10_feature_31 rfl ?_
      obtain ⟨hi32, h⟩ := h
      refine V_ialdM dX10_feature_32 rfl hi32 ?_
      refine M_Si ms_X10_isIn lk_X10_128 dX10_feature_33 (sX10_isIn h) rfl rfl (Nat.le_of_ble_eq_true rfl) (by decide) (by decide) (fun v33 M33 h => ?_)
      refine V_if_eq 41 dX10_feature_36 (by decide) (fun q36 => ?_) (fun q36 => ?_)
      · replace h := h.1 q36
        refine V_iload_n dX10_feature_41 rfl ?_
        refine V_aload_n dX10_feature_42 rfl ?_
        refine V_getR 1 fl_X10_12 dX10_feature_43 rfl rfl rfl ?_
        refine V_getR 3 fl_X10_131 dX10_feature_46 rfl rfl rfl ?_
        refine V_iload_n dX10_feature_49 rfl ?_
        refine V_ialdM dX10_feature_50 rfl hi32 ?_
        refine M_Si ms_X10_isIn lk_X10_128 dX10_feature_51 (sX10_isIn h) rfl rfl (Nat.le_of_ble_eq_true rfl) (by decide) (by decide) (fun v51 M51 h => ?_)
        refine V_if_eq 61 dX10_feature_54 (by decide) (fun q54 => ?_) (fun q54 => ?_)
        · replace h := h.1 q54
          refine V_bipush (-9) dX10_feature_61 (by decide) ?_
          exact V_reti dX10_feature_63 rfl rfl h
        · replace h := h.2 q54
          refine V_iconst 0 dX10_feature_57 (by decide) ?_
          refine V_goto 63 dX10_feature_58 (by decide) ?_
          exact V_reti dX10_feature_63 rfl rfl h
      · replace h := h.2 q36
        refine V_iconst 1 dX10_feature_39 (by decide) ?_
        exact V_reti dX10_feature_40 rfl rfl h
    · replace h := h.2 q17
      refine V_bipush (-2) dX10_feature_20 (by decide) ?_
      exact V_reti dX10_feature_22 rfl rfl h
  · replace h := h.2 q6
    refine V_iconst (-1) dX10_feature_9 (by decide) ?_
    exact V_reti dX10_feature_10 rfl rfl h
def wX10_differ (a1 : Int32) (a2 : Int32) (M : Mem) (Q : Int32 → Mem → Prop) : Prop :=
  wX10_isBelow a1 16 M (fun v3 M3 => ((v3 = 0 →
      Q (-1) M3) ∧ (¬ v3 = 0 →
      wX10_isBelow a2 16 M3 (fun v12 M12 => ((¬ v12 = 0 →
          wX9_difference a1 a2 M12 (fun v26 M26 => Q v26 M26)) ∧ (v12 = 0 →
          Q (-1) M12))))))
set_option maxHeartbeats 1000000 in
set_option maxRecDepth 20000 in
theorem sX10_differ {E : En} {a1 : Int32} {a2 : Int32} {M : Mem} {Q : Int32 → Mem → Prop} (h : wX10_differ a1 a2 M Q) : CM E 3 mX10_differ [.ref (E.2.2 0), .int a1, .int a2] M (Pi Q) := by
  unfold wX10_differ at h
  refine CM.of (by decide) rfl (Nat.le_of_ble_eq_true rfl) ?_
  refine V_iload_n dX10_differ_0 rfl ?_
  refine V_bipush 16 dX10_differ_1 (by decide) ?_
  refine M_Si ms_X10_isBelow lk_X10_114 dX10_differ_3 (sX10_isBelow h) rfl rfl (Nat.le_of_ble_eq_true rfl) (by decide) (by decide) (fun v3 M3 h => ?_)
  refine V_if_eq 18 dX10_differ_6 (by decide) (fun q6 => ?_) (fun q6 => ?_)
  · replace h := h.1 q6
    refine V_iconst (-1) dX10_differ_18 (by decide) ?_
    exact V_reti dX10_differ_19 rfl rfl h
  · replace h := h.2 q6
    refine V_iload_n dX10_differ_9 rfl ?_
    refine V_bipush 16 dX10_differ_10 (by decide) ?_
    refine M_Si ms_X10_isBelow lk_X10_114 dX10_differ_12 (sX10_isBelow h) rfl rfl (Nat.le_of_ble_eq_true rfl) (by decide) (by decide) (fun v12 M12 h => ?_)
    refine V_if_ne 20 dX10_differ_15 (by decide) (fun q15 => ?_) (fun q15 => ?_)
    · replace h := h.1 q15
      refine V_aload_n dX10_differ_20 rfl ?_
      refine V_getR 1 fl_X10_12 dX10_differ_21 rfl rfl rfl ?_
      refine V_iload_n dX10_differ_24 rfl ?_
      refine V_iload_n dX10_differ_25 rfl ?_
      refine M_Vi mv_X9_difference lk_X10_134 dX10_differ_26 rfl rfl (sX9_difference h) rfl rfl (Nat.le_of_ble_eq_true rfl) (by decide) (by decide) (fun v26 M26 h => ?_)
      exact V_reti dX10_differ_29 rfl rfl h
    · replace h := h.2 q15
      refine V_iconst (-1) dX10_differ_18 (by decide) ?_
      exact V_reti dX10_differ_19 rfl rfl h
def wX10_failBy (a1 : Int32) (M : Mem) (Q : Int32 → Mem → Prop) : Prop :=
  (∀ N2, N2 = mset M 0 19 a1 → Q ((-10) - a1) N2)
set_option maxHeartbeats 1000000 in
set_option maxRecDepth 20000 in
theorem sX10_failBy {E : En} {a1 : Int32} {M : Mem} {Q : Int32 → Mem → Prop} (h : wX10_failBy a1 M Q) : CM E 1 mX10_failBy [.ref (E.2.2 0), .int a1] M (Pi Q) := by
  unfold wX10_failBy at h
  refine CM.of (by decide) rfl (Nat.le_of_ble_eq_true rfl) ?_
  refine V_aload_n dX10_failBy_0 rfl ?_
  refine V_iload_n dX10_failBy_1 rfl ?_
  refine V_putN fp_X10_102 dX10_failBy_2 rfl rfl rfl rfl (fun N2 e2 => ?_)
  replace h := h N2 e2
  refine V_bipush (-10) dX10_failBy_5 (by decide) ?_
  refine V_iload_n dX10_failBy_7 rfl ?_
  refine V_isub dX10_failBy_8 ?_
  exact V_reti dX10_failBy_9 rfl rfl h
def wX10_takeCells (a1 : Int32) (a2 : Int32) (a3 : Int32) (a4 : Int32) (M : Mem) (Q : Int32 → Mem → Prop) : Prop :=
  vp_in a1 4 ∧ wX8_faultOfCells (41 + Int32.toNatClampNeg a1) a2 a3 a4 M (fun v10 M10 => ((v10 = 0 →
      ¬ (a3 : Int32) < 0 ∧ ¬ (0 : Int32) < 0 ∧ ¬ (a4 : Int32) < 0 ∧ Int32.toNatClampNeg a3 + Int32.toNatClampNeg a4 ≤ 60 ∧ Int32.toNatClampNeg 0 + Int32.toNatClampNeg a4 ≤ 60 ∧ (∀ N44, N44 = mcpy M10 ((41 + Int32.toNatClampNeg a1) + 4) 18 (Int32.toNatClampNeg a3) (Int32.toNatClampNeg 0) (Int32.toNatClampNeg a4) → Q 0 N44)) ∧ (¬ v10 = 0 →
      wX10_failBy v10 M10 (fun v23 M23 => Q v23 M23))))
set_option maxHeartbeats 1000000 in
set_option maxRecDepth 20000 in
theorem sX10_takeCells {E : En} {a1 : Int32} {a2 : Int32} {a3 : Int32} {a4 : Int32} {M : Mem} {Q : Int32 → Mem → Prop} (h : wX10_takeCells a1 a2 a3 a4 M Q) : CM E 3 mX10_takeCells [.ref (E.2.2 0), .int a1, .int a2, .int a3, .int a4] M (Pi Q) := by
  unfold wX10_takeCells at h
  refine CM.of (by decide) rfl (Nat.le_of_ble_eq_true rfl) ?_
  refine V_aload_n dX10_takeCells_0 rfl ?_
  refine V_getR 17 fl_X10_68 dX10_takeCells_1 rfl rfl rfl ?_
  refine V_iload_n dX10_takeCells_4 rfl ?_
  obtain ⟨hi5, h⟩ := h
  have hb5 := vp_lt hi5
  refine V_aaldM (41 + Int32.toNatClampNeg a1) dX10_takeCells_5 rfl (by decide) hi5 rfl ?_
  refine V_iload_n dX10_takeCells_6 rfl ?_
  refine V_iload_n dX10_takeCells_7 rfl ?_
  refine V_iload dX10_takeCells_8 rfl ?_
  refine M_Vi mv_X8_faultOfCells lk_X10_349 dX10_takeCells_10 rfl (kd_X8 (by omega)) (sX8_faultOfCells h) rfl rfl (Nat.le_of_ble_eq_true rfl) (by decide) (by decide) (fun v10 M10 h => ?_)
  refine V_istore dX10_takeCells_13 (by decide) ?_
  refine V_iload dX10_takeCells_15 rfl ?_
  refine V_if_eq 27 dX10_takeCells_17 (by decide) (fun q17 => ?_) (fun q17 => ?_)
  · replace h := h.1 q17
    refine V_aload_n dX10_takeCells_27 rfl ?_
    refine V_getR 17 fl_X10_68 dX10_takeCells_28 rfl rfl rfl ?_
    refine V_iload_n dX10_takeCells_31 rfl ?_
    have hb32 := vp_lt hi5
    refine V_aaldM (41 + Int32.toNatClampNeg a1) dX10_takeCells_32 rfl (by decide) hi5 rfl ?_
    refine V_getR ((41 + Int32.toNatClampNeg a1) + 4) fl_X10_327 dX10_takeCells_33 (kd_X8 (by omega)) rfl (rf_X8 (by omega)) ?_
    refine V_iload_n dX10_takeCells_36 rfl ?_
    refine V_aload_n dX10_takeCells_37 rfl ?_
    refine V_getR 18 fl_X10_72 dX10_takeCells_38 rfl rfl rfl ?_
    refine V_iconst 0 dX10_takeCells_41 (by decide) ?_
    refine V_iload dX10_takeCells_42 rfl ?_
    obtain ⟨hc44_1, hc44_2, hc44_3, hc44_4, hc44_5, h⟩ := h
    refine V_copyN lc_X10_352 dX10_takeCells_44 (kd_cel (by omega)) rfl hc44_1 hc44_2 hc44_3 (by rw [(ln_cel (by omega))]; exact hc44_4) hc44_5 (Nat.le_of_ble_eq_true rfl) (Nat.le_of_ble_eq_true rfl) (fun N44 e44 => ?_)
    replace h := h N44 e44
    refine V_iconst 0 dX10_takeCells_47 (by decide) ?_
    exact V_reti dX10_takeCells_48 rfl rfl h
  · replace h := h.2 q17
    refine V_aload_n dX10_takeCells_20 rfl ?_
    refine V_iload dX10_takeCells_21 rfl ?_
    refine M_Vi mv_X10_failBy lk_X10_304 dX10_takeCells_23 rfl rfl (sX10_failBy h) rfl rfl (Nat.le_of_ble_eq_true rfl) (by decide) (by decide) (fun v23 M23 h => ?_)
    exact V_reti dX10_takeCells_26 rfl rfl h
def wX10_areTakenBelow (a1 : Int32) (a2 : Int32) (M : Mem) (Q : Int32 → Mem → Prop) : Prop :=
  (∃ n, lq1 (fun R2 (x2_3 : Int32) (M2 : Mem) => ((a2 ≤ x2_3 →
      Q 1 M2) ∧ (¬ a2 ≤ x2_3 →
      vp_in x2_3 60 ∧ wX10_isBelow (M2 18 (Int32.toNatClampNeg x2_3)) a1 M2 (fun v14 M14 => ((¬ v14 = 0 →
          R2 (x2_3 + 1) M14) ∧ (v14 = 0 →
          Q 0 M14)))))) n 0 M)
set_option maxHeartbeats 1000000 in
set_option maxRecDepth 20000 in
theorem sX10_areTakenBelow {E : En} {a1 : Int32} {a2 : Int32} {M : Mem} {Q : Int32 → Mem → Prop} (h : wX10_areTakenBelow a1 a2 M Q) : CM E 2 mX10_areTakenBelow [.ref (E.2.2 0), .int a1, .int a2] M (Pi Q) := by
  unfold wX10_areTakenBelow at h
  refine CM.of (by decide) rfl (Nat.le_of_ble_eq_true rfl) ?_
  refine V_iconst 0 dX10_areTakenBelow_0 (by decide) ?_
  refine V_istore_n dX10_areTakenBelow_1 (by decide) ?_
  obtain ⟨n2, h⟩ := h
  refine V_take 4 ?_
  refine lq1_use (P := fun (x2_3 : Int32) (M2 : Mem) => V (Km E 2 (Pi Q)) mX10_areTakenBelow 2 [.ref (E.2.2 0), .int a1, .int a2, .int x2_3] [] (wsM E.1 E.2.2 M2) 0 0) (fun R2 hR2 x2_3 M2 h => ?_) n2 _ _ h
  refine V_iload_n dX10_areTakenBelow_2 rfl ?_
  refine V_iload_n dX10_areTakenBelow_3 rfl ?_
  refine V_icmp_ge 28 dX10_areTakenBelow_4 (by decide) (fun q4 => ?_) (fun q4 => ?_)
  · replace h := h.1 q4
    refine V_iconst 1 dX10_areTakenBelow_28 (by decide) ?_
    exact V_reti dX10_areTakenBelow_29 rfl rfl h
  · replace h := h.2 q4
    refine V_aload_n dX10_areTakenBelow_7 rfl ?_
    refine V_getR 18 fl_X10_72 dX10_areTakenBelow_8 rfl rfl rfl ?_
    refine V_iload_n dX10_areTakenBelow_11 rfl ?_
    obtain ⟨hi12, h⟩ := h
    refine V_ialdM dX10_areTakenBelow_12 rfl hi12 ?_
    refine V_iload_n dX10_areTakenBelow_13 rfl ?_
    refine M_Si ms_X10_isBelow lk_X10_114 dX10_areTakenBelow_14 (sX10_isBelow h) rfl rfl (Nat.le_of_ble_eq_true rfl) (by decide) (by decide) (fun v14 M14 h => ?_)
    refine V_if_ne 22 dX10_areTakenBelow_17 (by decide) (fun q17 => ?_) (fun q17 => ?_)
    · replace h := h.1 q17
      refine V_iincC 1 dX10_areTakenBelow_22 (by decide) rfl (by decide) ?_
      refine V_goto 2 dX10_areTakenBelow_25 (by decide) ?_
      refine V_take 4 ?_
      exact hR2 _ _ h
    · replace h := h.2 q17
      refine V_iconst 0 dX10_areTakenBelow_20 (by decide) ?_
      exact V_reti dX10_areTakenBelow_21 rfl rfl h
def wX10_entry (a1 : Int32) (a2 : Int32) (a3 : Int32) (a4 : Int32) (a5 : Int32) (a6 : Int32) (M : Mem) (Q : Int32 → Mem → Prop) : Prop :=
  (∀ N2, N2 = mset M 0 19 0 → wX10_isBelow a1 3 N2 (fun v7 M7 => ((v7 = 0 →
      Q (-1) M7) ∧ (¬ v7 = 0 →
      wX10_isBelow a2 16 M7 (fun v16 M16 => ((v16 = 0 →
          Q (-1) M16) ∧ (¬ v16 = 0 →
          wX10_isBelow a3 4 M16 (fun v24 M24 => ((¬ v24 = 0 →
              wX10_isBelow a4 3 M24 (fun v35 M35 => ((¬ v35 = 0 →
                  wX10_takeCells a3 a4 a5 a6 M35 (fun v52 M52 => ((v52 = 0 →
                      wX10_isWithin a6 1 3 M52 (fun v69 M69 => ((v69 = 0 →
                          Q (-2) M69) ∧ (¬ v69 = 0 →
                          wX10_areTakenBelow 128 a6 M69 (fun v81 M81 => ((¬ v81 = 0 →
                              vp_in a1 3 ∧ wX1_addEntry (20 + Int32.toNatClampNeg a1) a2 18 a6 M81 (fun v103 M103 => Q v103 M103)) ∧ (v81 = 0 →
                              Q (-2) M81))))))) ∧ (¬ v52 = 0 →
                      Q v52 M52)))) ∧ (v35 = 0 →
                  Q (-2) M35)))) ∧ (v24 = 0 →
              Q (-1) M24))))))))))
set_option maxHeartbeats 1000000 in
set_option maxRecDepth 20000 in
theorem sX10_entry {E : En} {a1 : Int32} {a2 : Int32} {a3 : Int32} {a4 : Int32} {a5 : Int32} {a6 : Int32} {M : Mem} {Q : Int32 → Mem → Prop} (h : wX10_entry a1 a2 a3 a4 a5 a6 M Q) : CM E 4 mX10_entry [.ref (E.2.2 0), .int a1, .int a2, .int a3, .int a4, .int a5, .int a6] M (Pi Q) := by
  unfold wX10_entry at h
  refine CM.of (by decide) rfl (Nat.le_of_ble_eq_true rfl) ?_
  refine V_aload_n dX10_entry_0 rfl ?_
  refine V_iconst 0 dX10_entry_1 (by decide) ?_
  refine V_putN fp_X10_102 dX10_entry_2 rfl rfl rfl rfl (fun N2 e2 => ?_)
  replace h := h N2 e2
  refine V_iload_n dX10_entry_5 rfl ?_
  refine V_iconst 3 dX10_entry_6 (by decide) ?_
  refine M_Si ms_X10_isBelow lk_X10_114 dX10_entry_7 (sX10_isBelow h) rfl rfl (Nat.le_of_ble_eq_true rfl) (by decide) (by decide) (fun v7 M7 h => ?_)
  refine V_if_eq 30 dX10_entry_10 (by decide) (fun q10 => ?_) (fun q10 => ?_)
  · replace h := h.1 q10
    refine V_iconst (-1) dX10_entry_30 (by decide) ?_
    exact V_reti dX10_entry_31 rfl rfl h
  · replace h := h.2 q10
    refine V_iload_n dX10_entry_13 rfl ?_
    refine V_bipush 16 dX10_entry_14 (by decide) ?_
    refine M_Si ms_X10_isBelow lk_X10_114 dX10_entry_16 (sX10_isBelow h) rfl rfl (Nat.le_of_ble_eq_true rfl) (by decide) (by decide) (fun v16 M16 h => ?_)
    refine V_if_eq 30 dX10_entry_19 (by decide) (fun q19 => ?_) (fun q19 => ?_)
    · replace h := h.1 q19
      refine V_iconst (-1) dX10_entry_30 (by decide) ?_
      exact V_reti dX10_entry_31 rfl rfl h
    · replace h := h.2 q19
      refine V_iload_n dX10_entry_22 rfl ?_
      refine V_iconst 4 dX10_entry_23 (by decide) ?_
      refine M_Si ms_X10_isBelow lk_X10_114 dX10_entry_24 (sX10_isBelow h) rfl rfl (Nat.le_of_ble_eq_true rfl) (by decide) (by decide) (fun v24 M24 h => ?_)
      refine V_if_ne 32 dX10_entry_27 (by decide) (fun q27 => ?_) (fun q27 => ?_)
      · replace h := h.1 q27
        refine V_iload dX10_entry_32 rfl ?_
        refine V_iconst 3 dX10_entry_34 (by decide) ?_
        refine M_Si ms_X10_isBelow lk_X10_114 dX10_entry_35 (sX10_isBelow h) rfl rfl (Nat.le_of_ble_eq_true rfl) (by decide) (by decide) (fun v35 M35 h => ?_)
        refine V_if_ne 44 dX10_entry_38 (by decide) (fun q38 => ?_) (fun q38 => ?_)
        · replace h := h.1 q38
          refine V_aload_n dX10_entry_44 rfl ?_
          refine V_iload_n dX10_entry_45 rfl ?_
          refine V_iload dX10_entry_46 rfl ?_
          refine V_iload dX10_entry_48 rfl ?_
          refine V_iload dX10_entry_50 rfl ?_
          refine M_Vi mv_X10_takeCells lk_X10_138 dX10_entry_52 rfl rfl (sX10_takeCells h) rfl rfl (Nat.le_of_ble_eq_true rfl) (by decide) (by decide) (fun v52 M52 h => ?_)
          refine V_istore dX10_entry_55 (by decide) ?_
          refine V_iload dX10_entry_57 rfl ?_
          refine V_if_eq 65 dX10_entry_59 (by decide) (fun q59 => ?_) (fun q59 => ?_)
          · replace h := h.1 q59
            refine V_iload dX10_entry_65 rfl ?_
            refine V_iconst 1 dX10_entry_67 (by decide) ?_
            refine V_iconst 3 dX10_entry_68 (by decide) ?_
            refine M_Si ms_X10_isWithin lk_X10_142 dX10_entry_69 (sX10_isWithin h) rfl rfl (Nat.le_of_ble_eq_true rfl) (by decide) (by decide) (fun v69 M69 h => ?_)
            refine V_if_eq 87 dX10_entry_72 (by decide) (fun q72 => ?_) (fun q72 => ?_)
            · replace h := h.1 q72
              refine V_bipush (-2) dX10_entry_87 (by decide) ?_
              exact V_reti dX10_entry_89 rfl rfl h
            · replace h := h.2 q72
              refine V_aload_n dX10_entry_75 rfl ?_
              refine V_sipush 128 dX10_entry_76 (by decide) ?_
              refine V_iload dX10_entry_79 rfl ?_
              refine M_Vi mv_X10_areTakenBelow lk_X10_145 dX10_entry_81 rfl rfl (sX10_areTakenBelow h) rfl rfl (Nat.le_of_ble_eq_true rfl) (by decide) (by decide) (fun v81 M81 h => ?_)
              refine V_if_ne 90 dX10_entry_84 (by decide) (fun q84 => ?_) (fun q84 => ?_)
              · replace h := h.1 q84
                refine V_aload_n dX10_entry_90 rfl ?_
                refine V_getR 4 fl_X10_20 dX10_entry_91 rfl rfl rfl ?_
                refine V_iload_n dX10_entry_94 rfl ?_
                obtain ⟨hi95, h⟩ := h
                have hb95 := vp_lt hi95
                refine V_aaldM (20 + Int32.toNatClampNeg a1) dX10_entry_95 rfl (by decide) hi95 rfl ?_
                refine V_iload_n dX10_entry_96 rfl ?_
                refine V_aload_n dX10_entry_97 rfl ?_
                refine V_getR 18 fl_X10_72 dX10_entry_98 rfl rfl rfl ?_
                refine V_iload dX10_entry_101 rfl ?_
                refine M_Vi mv_X1_addEntry lk_X10_148 dX10_entry_103 rfl (kd_X1 (by omega)) (sX1_addEntry h) rfl rfl (Nat.le_of_ble_eq_true rfl) (by decide) (by decide) (fun v103 M103 h => ?_)
                exact V_reti dX10_entry_106 rfl rfl h
              · replace h := h.2 q84
                refine V_bipush (-2) dX10_entry_87 (by decide) ?_
                exact V_reti dX10_entry_89 rfl rfl h
          · replace h := h.2 q59
            refine V_iload dX10_entry_62 rfl ?_
            exact V_reti dX10_entry_64 rfl rfl h
        · replace h := h.2 q38
          refine V_bipush (-2) dX10_entry_41 (by decide) ?_
          exact V_reti dX10_entry_43 rfl rfl h
      · replace h := h.2 q27
        refine V_iconst (-1) dX10_entry_30 (by decide) ?_
        exact V_reti dX10_entry_31 rfl rfl h
def wX10_place  (M : Mem) (Q : Int32 → Mem → Prop) : Prop :=
  (((M 0 15) < 8 →
    (∀ N19, N19 = mset M 0 15 ((M 0 15) + 1) → Q ((N19 0 15) - 1) N19)) ∧ (¬ (M 0 15) < 8 →
    Q (-4) M))
set_option maxHeartbeats 1000000 in
set_option maxRecDepth 20000 in
theorem sX10_place {E : En}  {M : Mem} {Q : Int32 → Mem → Prop} (h : wX10_place  M Q) : CM E 1 mX10_place [.ref (E.2.2 0)] M (Pi Q) := by
  unfold wX10_place at h
  refine CM.of (by decide) rfl (Nat.le_of_ble_eq_true rfl) ?_
  refine V_aload_n dX10_place_0 rfl ?_
  refine V_getI fl_X10_89 dX10_place_1 rfl rfl ?_
  refine V_bipush 8 dX10_place_4 (by decide) ?_
  refine V_icmp_lt 12 dX10_place_6 (by decide) (fun q6 => ?_) (fun q6 => ?_)
  · replace h := h.1 q6
    refine V_aload_n dX10_place_12 rfl ?_
    refine V_dup dX10_place_13 rfl ?_
    refine V_getI fl_X10_89 dX10_place_14 rfl rfl ?_
    refine V_iconst 1 dX10_place_17 (by decide) ?_
    refine V_iadd dX10_place_18 ?_
    refine V_putN fp_X10_89 dX10_place_19 rfl rfl rfl rfl (fun N19 e19 => ?_)
    replace h := h N19 e19
    refine V_aload_n dX10_place_22 rfl ?_
    refine V_getI fl_X10_89 dX10_place_23 rfl rfl ?_
    refine V_iconst 1 dX10_place_26 (by decide) ?_
    refine V_isub dX10_place_27 ?_
    exact V_reti dX10_place_28 rfl rfl h
  · replace h := h.2 q6
    refine V_bipush (-4) dX10_place_9 (by decide) ?_
    exact V_reti dX10_place_11 rfl rfl h
def wX10_isPlace (a1 : Int32) (M : Mem) (Q : Int32 → Mem → Prop) : Prop :=
  wX10_isBelow a1 (M 0 15) M (fun v5 M5 => isB v5 ∧ Q v5 M5)
set_option maxHeartbeats 1000000 in
set_option maxRecDepth 20000 in
theorem sX10_isPlace {E : En} {a1 : Int32} {M : Mem} {Q : Int32 → Mem → Prop} (h : wX10_isPlace a1 M Q) : CM E 2 mX10_isPlace [.ref (E.2.2 0), .int a1] M (Pi Q) := by
  unfold wX10_isPlace at h
  refine CM.of (by decide) rfl (Nat.le_of_ble_eq_true rfl) ?_
  refine V_iload_n dX10_isPlace_0 rfl ?_
  refine V_aload_n dX10_isPlace_1 rfl ?_
  refine V_getI fl_X10_89 dX10_isPlace_2 rfl rfl ?_
  refine M_Si ms_X10_isBelow lk_X10_114 dX10_isPlace_5 (sX10_isBelow h) rfl rfl (Nat.le_of_ble_eq_true rfl) (by decide) (by decide) (fun v5 M5 h => ?_)
  exact V_reti dX10_isPlace_8 rfl (nb h.1) h.2
def wX10_near (a1 : Int32) (a2 : Int32) (a3 : Int32) (M : Mem) (Q : Int32 → Mem → Prop) : Prop :=
  wX10_isPlace a1 M (fun v2 M2 => ((v2 = 0 →
      Q (-1) M2) ∧ (¬ v2 = 0 →
      wX10_isPlace a2 M2 (fun v10 M10 => ((¬ v10 = 0 →
          ((¬ a1 = a2 →
            vp_in a1 8 ∧ wX10_isIn a2 (M10 5 (Int32.toNatClampNeg a1)) M10 (fun v33 M33 => ((¬ v33 = a3 →
                (∀ N53, N53 = mset M33 5 (Int32.toNatClampNeg a1) ((M33 5 (Int32.toNatClampNeg a1)) ^^^ (1 <<< (a2 &&& 31))) → vp_in a2 8 ∧ (∀ N65, N65 = mset N53 5 (Int32.toNatClampNeg a2) ((N53 5 (Int32.toNatClampNeg a2)) ^^^ (1 <<< (a1 &&& 31))) → Q 1 N65))) ∧ (v33 = a3 →
                Q 0 M33)))) ∧ (a1 = a2 →
            Q (-2) M10))) ∧ (v10 = 0 →
          Q (-1) M10))))))
set_option maxHeartbeats 1000000 in
set_option maxRecDepth 20000 in
theorem sX10_near {E : En} {a1 : Int32} {a2 : Int32} {a3 : Int32} {M : Mem} {Q : Int32 → Mem → Prop} (h : wX10_near a1 a2 a3 M Q) : CM E 3 mX10_near [.ref (E.2.2 0), .int a1, .int a2, .int a3] M (Pi Q) := by
  unfold wX10_near at h
  refine CM.of (by decide) rfl (Nat.le_of_ble_eq_true rfl) ?_
  refine V_aload_n dX10_near_0 rfl ?_
  refine V_iload_n dX10_near_1 rfl ?_
  refine M_Vi mv_X10_isPlace lk_X10_152 dX10_near_2 rfl rfl (sX10_isPlace h) rfl rfl (Nat.le_of_ble_eq_true rfl) (by decide) (by decide) (fun v2 M2 h => ?_)
  refine V_if_eq 16 dX10_near_5 (by decide) (fun q5 => ?_) (fun q5 => ?_)
  · replace h := h.1 q5
    refine V_iconst (-1) dX10_near_16 (by decide) ?_
    exact V_reti dX10_near_17 rfl rfl h
  · replace h := h.2 q5
    refine V_aload_n dX10_near_8 rfl ?_
    refine V_iload_n dX10_near_9 rfl ?_
    refine M_Vi mv_X10_isPlace lk_X10_152 dX10_near_10 rfl rfl (sX10_isPlace h) rfl rfl (Nat.le_of_ble_eq_true rfl) (by decide) (by decide) (fun v10 M10 h => ?_)
    refine V_if_ne 18 dX10_near_13 (by decide) (fun q13 => ?_) (fun q13 => ?_)
    · replace h := h.1 q13
      refine V_iload_n dX10_near_18 rfl ?_
      refine V_iload_n dX10_near_19 rfl ?_
      refine V_icmp_ne 26 dX10_near_20 (by decide) (fun q20 => ?_) (fun q20 => ?_)
      · replace h := h.1 q20
        refine V_iload_n dX10_near_26 rfl ?_
        refine V_aload_n dX10_near_27 rfl ?_
        refine V_getR 5 fl_X10_24 dX10_near_28 rfl rfl rfl ?_
        refine V_iload_n dX10_near_31 rfl ?_
        obtain ⟨hi32, h⟩ := h
        refine V_ialdM dX10_near_32 rfl hi32 ?_
        refine M_Si ms_X10_isIn lk_X10_128 dX10_near_33 (sX10_isIn h) rfl rfl (Nat.le_of_ble_eq_true rfl) (by decide) (by decide) (fun v33 M33 h => ?_)
        refine V_iload_n dX10_near_36 rfl ?_
        refine V_icmp_ne 42 dX10_near_37 (by decide) (fun q37 => ?_) (fun q37 => ?_)
        · replace h := h.1 q37
          refine V_aload_n dX10_near_42 rfl ?_
          refine V_getR 5 fl_X10_24 dX10_near_43 rfl rfl rfl ?_
          refine V_iload_n dX10_near_46 rfl ?_
          refine V_dup2 dX10_near_47 rfl rfl ?_
          refine V_ialdM dX10_near_48 rfl hi32 ?_
          refine V_iconst 1 dX10_near_49 (by decide) ?_
          refine V_iload_n dX10_near_50 rfl ?_
          refine V_ishl dX10_near_51 ?_
          refine V_ixor dX10_near_52 ?_
          refine V_iastN dX10_near_53 rfl hi32 (fun N53 e53 => ?_)
          replace h := h N53 e53
          refine V_aload_n dX10_near_54 rfl ?_
          refine V_getR 5 fl_X10_24 dX10_near_55 rfl rfl rfl ?_
          refine V_iload_n dX10_near_58 rfl ?_
          refine V_dup2 dX10_near_59 rfl rfl ?_
          obtain ⟨hi60, h⟩ := h
          refine V_ialdM dX10_near_60 rfl hi60 ?_
          refine V_iconst 1 dX10_near_61 (by decide) ?_
          refine V_iload_n dX10_near_62 rfl ?_
          refine V_ishl dX10_near_63 ?_
          refine V_ixor dX10_near_64 ?_
          refine V_iastN dX10_near_65 rfl hi60 (fun N65 e65 => ?_)
          replace h := h N65 e65
          refine V_iconst 1 dX10_near_66 (by decide) ?_
          exact V_reti dX10_near_67 rfl rfl h
        · replace h := h.2 q37
          refine V_iconst 0 dX10_near_40 (by decide) ?_
          exact V_reti dX10_near_41 rfl rfl h
      · replace h := h.2 q20
        refine V_bipush (-2) dX10_near_23 (by decide) ?_
        exact V_reti dX10_near_25 rfl rfl h
    · replace h := h.2 q13
      refine V_iconst (-1) dX10_near_16 (by decide) ?_
      exact V_reti dX10_near_17 rfl rfl h
def wX10_isMeaning (a0 : Int32) (M : Mem) (Q : Int32 → Mem → Prop) : Prop :=
  wX10_isBelow a0 6 M (fun v3 M3 => isB v3 ∧ Q v3 M3)
set_option maxHeartbeats 1000000 in
set_option maxRecDepth 20000 in
theorem sX10_isMeaning {E : En} {a0 : Int32} {M : Mem} {Q : Int32 → Mem → Prop} (h : wX10_isMeaning a0 M Q) : CM E 2 mX10_isMeaning [.int a0] M (Pi Q) := by
  unfold wX10_isMeaning at h
  refine CM.of (by decide) rfl (Nat.le_of_ble_eq_true rfl) ?_
  refine V_iload_n dX10_isMeaning_0 rfl ?_
  refine V_bipush 6 dX10_isMeaning_1 (by decide) ?_
  refine M_Si ms_X10_isBelow lk_X10_114 dX10_isMeaning_3 (sX10_isBelow h) rfl rfl (Nat.le_of_ble_eq_true rfl) (by decide) (by decide) (fun v3 M3 h => ?_)
  exact V_reti dX10_isMeaning_6 rfl (nb h.1) h.2
def wX10_takeSounds (a1 : Int32) (a2 : Int32) (a3 : Int32) (a4 : Int32) (M : Mem) (Q : Int32 → Mem → Prop) : Prop :=
  wX10_takeCells a1 a2 a3 a4 M (fun v6 M6 => ((v6 = 0 →
      ((a4 ≤ 8 →
        wX10_areTakenBelow 16 a4 M6 (fun v34 M34 => ((v34 = 0 →
            Q (-1) M34) ∧ (¬ v34 = 0 →
            Q 0 M34)))) ∧ (¬ a4 ≤ 8 →
        Q (-2) M6))) ∧ (¬ v6 = 0 →
      Q v6 M6)))
set_option maxHeartbeats 1000000 in
set_option maxRecDepth 20000 in
theorem sX10_takeSounds {E : En} {a1 : Int32} {a2 : Int32} {a3 : Int32} {a4 : Int32} {M : Mem} {Q : Int32 → Mem → Prop} (h : wX10_takeSounds a1 a2 a3 a4 M Q) : CM E 4 mX10_takeSounds [.ref (E.2.2 0), .int a1, .int a2, .int a3, .int a4] M (Pi Q) := by
  unfold wX10_takeSounds at h
  refine CM.of (by decide) rfl (Nat.le_of_ble_eq_true rfl) ?_
  refine V_aload_n dX10_takeSounds_0 rfl ?_
  refine V_iload_n dX10_takeSounds_1 rfl ?_
  refine V_iload_n dX10_takeSounds_2 rfl ?_
  refine V_iload_n dX10_takeSounds_3 rfl ?_
  refine V_iload dX10_takeSounds_4 rfl ?_
  refine M_Vi mv_X10_takeCells lk_X10_138 dX10_takeSounds_6 rfl rfl (sX10_takeCells h) rfl rfl (Nat.le_of_ble_eq_true rfl) (by decide) (by decide) (fun v6 M6 h => ?_)
  refine V_istore dX10_takeSounds_9 (by decide) ?_
  refine V_iload dX10_takeSounds_11 rfl ?_
  refine V_if_eq 19 dX10_takeSounds_13 (by decide) (fun q13 => ?_) (fun q13 => ?_)
  · replace h := h.1 q13
    refine V_iload dX10_takeSounds_19 rfl ?_
    refine V_bipush 8 dX10_takeSounds_21 (by decide) ?_
    refine V_icmp_le 29 dX10_takeSounds_23 (by decide) (fun q23 => ?_) (fun q23 => ?_)
    · replace h := h.1 q23
      refine V_aload_n dX10_takeSounds_29 rfl ?_
      refine V_bipush 16 dX10_takeSounds_30 (by decide) ?_
      refine V_iload dX10_takeSounds_32 rfl ?_
      refine M_Vi mv_X10_areTakenBelow lk_X10_145 dX10_takeSounds_34 rfl rfl (sX10_areTakenBelow h) rfl rfl (Nat.le_of_ble_eq_true rfl) (by decide) (by decide) (fun v34 M34 h => ?_)
      refine V_if_eq 44 dX10_takeSounds_37 (by decide) (fun q37 => ?_) (fun q37 => ?_)
      · replace h := h.1 q37
        refine V_iconst (-1) dX10_takeSounds_44 (by decide) ?_
        exact V_reti dX10_takeSounds_45 rfl rfl h
      · replace h := h.2 q37
        refine V_iconst 0 dX10_takeSounds_40 (by decide) ?_
        refine V_goto 45 dX10_takeSounds_41 (by decide) ?_
        exact V_reti dX10_takeSounds_45 rfl rfl h
    · replace h := h.2 q23
      refine V_bipush (-2) dX10_takeSounds_26 (by decide) ?_
      exact V_reti dX10_takeSounds_28 rfl rfl h
  · replace h := h.2 q13
    refine V_iload dX10_takeSounds_16 rfl ?_
    exact V_reti dX10_takeSounds_18 rfl rfl h
def wX10_addForm (a1 : Int32) (a2 : Int32) (a3 : Int32) (M : Mem) (Q : Int32 → Mem → Prop) : Prop :=
  (((M 0 16) < 40 →
    vp_in (M 0 16) 40 ∧ wX2_become (150 + Int32.toNatClampNeg (M 0 16)) a1 a2 a3 97 M (fun M32 => vp_in ((a2 * 6) + a3) 48 ∧ (∀ N47, N47 = mset M32 7 (Int32.toNatClampNeg ((a2 * 6) + a3)) (M 0 16) → (∀ N55, N55 = mset N47 0 16 ((N47 0 16) + 1) → Q (M 0 16) N55)))) ∧ (¬ (M 0 16) < 40 →
    Q (-4) M))
set_option maxHeartbeats 1000000 in
set_option maxRecDepth 20000 in
theorem sX10_addForm {E : En} {a1 : Int32} {a2 : Int32} {a3 : Int32} {M : Mem} {Q : Int32 → Mem → Prop} (h : wX10_addForm a1 a2 a3 M Q) : CM E 3 mX10_addForm [.ref (E.2.2 0), .int a1, .int a2, .int a3] M (Pi Q) := by
  unfold wX10_addForm at h
  refine CM.of (by decide) rfl (Nat.le_of_ble_eq_true rfl) ?_
  refine V_aload_n dX10_addForm_0 rfl ?_
  refine V_getI fl_X10_93 dX10_addForm_1 rfl rfl ?_
  refine V_bipush 40 dX10_addForm_4 (by decide) ?_
  refine V_icmp_lt 12 dX10_addForm_6 (by decide) (fun q6 => ?_) (fun q6 => ?_)
  · replace h := h.1 q6
    refine V_aload_n dX10_addForm_12 rfl ?_
    refine V_getI fl_X10_93 dX10_addForm_13 rfl rfl ?_
    refine V_istore dX10_addForm_16 (by decide) ?_
    refine V_aload_n dX10_addForm_18 rfl ?_
    refine V_getR 6 fl_X10_30 dX10_addForm_19 rfl rfl rfl ?_
    refine V_iload dX10_addForm_22 rfl ?_
    obtain ⟨hi24, h⟩ := h
    have hb24 := vp_lt hi24
    refine V_aaldM (150 + Int32.toNatClampNeg (M 0 16)) dX10_addForm_24 rfl (by decide) hi24 rfl ?_
    refine V_iload_n dX10_addForm_25 rfl ?_
    refine V_iload_n dX10_addForm_26 rfl ?_
    refine V_iload_n dX10_addForm_27 rfl ?_
    refine V_aload_n dX10_addForm_28 rfl ?_
    refine V_getR 97 fl_X10_76 dX10_addForm_29 rfl rfl rfl ?_
    refine M_Vv mv_X2_become lk_X10_173 dX10_addForm_32 rfl (kd_X2 (by omega)) (sX2_become h) rfl rfl (Nat.le_of_ble_eq_true rfl) (by decide) (by decide) (fun M32 h => ?_)
    refine V_aload_n dX10_addForm_35 rfl ?_
    refine V_getR 7 fl_X10_34 dX10_addForm_36 rfl rfl rfl ?_
    refine V_iload_n dX10_addForm_39 rfl ?_
    refine V_bipush 6 dX10_addForm_40 (by decide) ?_
    refine V_imul dX10_addForm_42 ?_
    refine V_iload_n dX10_addForm_43 rfl ?_
    refine V_iadd dX10_addForm_44 ?_
    refine V_iload dX10_addForm_45 rfl ?_
    obtain ⟨hi47, h⟩ := h
    refine V_iastN dX10_addForm_47 rfl hi47 (fun N47 e47 => ?_)
    replace h := h N47 e47
    refine V_aload_n dX10_addForm_48 rfl ?_
    refine V_dup dX10_addForm_49 rfl ?_
    refine V_getI fl_X10_93 dX10_addForm_50 rfl rfl ?_
    refine V_iconst 1 dX10_addForm_53 (by decide) ?_
    refine V_iadd dX10_addForm_54 ?_
    refine V_putN fp_X10_93 dX10_addForm_55 rfl rfl rfl rfl (fun N55 e55 => ?_)
    replace h := h N55 e55
    refine V_iload dX10_addForm_58 rfl ?_
    exact V_reti dX10_addForm_60 rfl rfl h
  · replace h := h.2 q6
    refine V_bipush (-4) dX10_addForm_9 (by decide) ?_
    exact V_reti dX10_addForm_11 rfl rfl h
def wX10_form (a1 : Int32) (a2 : Int32) (a3 : Int32) (a4 : Int32) (a5 : Int32) (a6 : Int32) (a7 : Int32) (M : Mem) (Q : Int32 → Mem → Prop) : Prop :=
  (∀ N2, N2 = mset M 0 19 0 → wX10_isPlace a2 N2 (fun v7 M7 => ((v7 = 0 →
      Q (-1) M7) ∧ (¬ v7 = 0 →
      wX10_isMeaning a3 M7 (fun v14 M14 => ((v14 = 0 →
          Q (-1) M14) ∧ (¬ v14 = 0 →
          wX10_isBelow a4 4 M14 (fun v23 M23 => ((¬ v23 = 0 →
              wX10_isWithin a1 0 2 M23 (fun v34 M34 => ((v34 = 0 →
                  Q (-2) M34) ∧ (¬ v34 = 0 →
                  wX10_isBelow a5 3 M34 (fun v43 M43 => ((¬ v43 = 0 →
                      wX10_takeSounds a4 a5 a6 a7 M43 (fun v61 M61 => ((v61 = 0 →
                          wX7_becomeCells 97 18 a7 M61 (fun M84 => wX10_addForm a1 a2 a3 M84 (fun v91 M91 => Q v91 M91))) ∧ (¬ v61 = 0 →
                          Q v61 M61)))) ∧ (v43 = 0 →
                      Q (-2) M43))))))) ∧ (v23 = 0 →
              Q (-1) M23))))))))))
set_option maxHeartbeats 1000000 in
set_option maxRecDepth 20000 in
theorem sX10_form {E : En} {a1 : Int32} {a2 : Int32} {a3 : Int32} {a4 : Int32} {a5 : Int32} {a6 : Int32} {a7 : Int32} {M : Mem} {Q : Int32 → Mem → Prop} (h : wX10_form a1 a2 a3 a4 a5 a6 a7 M Q) : CM E 5 mX10_form [.ref (E.2.2 0), .int a1, .int a2, .int a3, .int a4, .int a5, .int a6, .int a7] M (Pi Q) := by
  unfold wX10_form at h
  refine CM.of (by decide) rfl (Nat.le_of_ble_eq_true rfl) ?_
  refine V_aload_n dX10_form_0 rfl ?_
  refine V_iconst 0 dX10_form_1 (by decide) ?_
  refine V_putN fp_X10_102 dX10_form_2 rfl rfl rfl rfl (fun N2 e2 => ?_)
  replace h := h N2 e2
  refine V_aload_n dX10_form_5 rfl ?_
  refine V_iload_n dX10_form_6 rfl ?_
  refine M_Vi mv_X10_isPlace lk_X10_152 dX10_form_7 rfl rfl (sX10_isPlace h) rfl rfl (Nat.le_of_ble_eq_true rfl) (by decide) (by decide) (fun v7 M7 h => ?_)
  refine V_if_eq 29 dX10_form_10 (by decide) (fun q10 => ?_) (fun q10 => ?_)
  · replace h := h.1 q10
    refine V_iconst (-1) dX10_form_29 (by decide) ?_
    exact V_reti dX10_form_30 rfl rfl h
  · replace h := h.2 q10
    refine V_iload_n dX10_form_13 rfl ?_
    refine M_Si ms_X10_isMeaning lk_X10_156 dX10_form_14 (sX10_isMeaning h) rfl rfl (Nat.le_of_ble_eq_true rfl) (by decide) (by decide) (fun v14 M14 h => ?_)
    refine V_if_eq 29 dX10_form_17 (by decide) (fun q17 => ?_) (fun q17 => ?_)
    · replace h := h.1 q17
      refine V_iconst (-1) dX10_form_29 (by decide) ?_
      exact V_reti dX10_form_30 rfl rfl h
    · replace h := h.2 q17
      refine V_iload dX10_form_20 rfl ?_
      refine V_iconst 4 dX10_form_22 (by decide) ?_
      refine M_Si ms_X10_isBelow lk_X10_114 dX10_form_23 (sX10_isBelow h) rfl rfl (Nat.le_of_ble_eq_true rfl) (by decide) (by decide) (fun v23 M23 h => ?_)
      refine V_if_ne 31 dX10_form_26 (by decide) (fun q26 => ?_) (fun q26 => ?_)
      · replace h := h.1 q26
        refine V_iload_n dX10_form_31 rfl ?_
        refine V_iconst 0 dX10_form_32 (by decide) ?_
        refine V_iconst 2 dX10_form_33 (by decide) ?_
        refine M_Si ms_X10_isWithin lk_X10_142 dX10_form_34 (sX10_isWithin h) rfl rfl (Nat.le_of_ble_eq_true rfl) (by decide) (by decide) (fun v34 M34 h => ?_)
        refine V_if_eq 49 dX10_form_37 (by decide) (fun q37 => ?_) (fun q37 => ?_)
        · replace h := h.1 q37
          refine V_bipush (-2) dX10_form_49 (by decide) ?_
          exact V_reti dX10_form_51 rfl rfl h
        · replace h := h.2 q37
          refine V_iload dX10_form_40 rfl ?_
          refine V_iconst 3 dX10_form_42 (by decide) ?_
          refine M_Si ms_X10_isBelow lk_X10_114 dX10_form_43 (sX10_isBelow h) rfl rfl (Nat.le_of_ble_eq_true rfl) (by decide) (by decide) (fun v43 M43 h => ?_)
          refine V_if_ne 52 dX10_form_46 (by decide) (fun q46 => ?_) (fun q46 => ?_)
          · replace h := h.1 q46
            refine V_aload_n dX10_form_52 rfl ?_
            refine V_iload dX10_form_53 rfl ?_
            refine V_iload dX10_form_55 rfl ?_
            refine V_iload dX10_form_57 rfl ?_
            refine V_iload dX10_form_59 rfl ?_
            refine M_Vi mv_X10_takeSounds lk_X10_159 dX10_form_61 rfl rfl (sX10_takeSounds h) rfl rfl (Nat.le_of_ble_eq_true rfl) (by decide) (by decide) (fun v61 M61 h => ?_)
            refine V_istore dX10_form_64 (by decide) ?_
            refine V_iload dX10_form_66 rfl ?_
            refine V_if_eq 74 dX10_form_68 (by decide) (fun q68 => ?_) (fun q68 => ?_)
            · replace h := h.1 q68
              refine V_aload_n dX10_form_74 rfl ?_
              refine V_getR 97 fl_X10_76 dX10_form_75 rfl rfl rfl ?_
              refine V_aload_n dX10_form_78 rfl ?_
              refine V_getR 18 fl_X10_72 dX10_form_79 rfl rfl rfl ?_
              refine V_iload dX10_form_82 rfl ?_
              refine M_Vv mv_X7_becomeCells lk_X10_162 dX10_form_84 rfl rfl (sX7_becomeCells h) rfl rfl (Nat.le_of_ble_eq_true rfl) (by decide) (by decide) (fun M84 h => ?_)
              refine V_aload_n dX10_form_87 rfl ?_
              refine V_iload_n dX10_form_88 rfl ?_
              refine V_iload_n dX10_form_89 rfl ?_
              refine V_iload_n dX10_form_90 rfl ?_
              refine M_Vi mv_X10_addForm lk_X10_165 dX10_form_91 rfl rfl (sX10_addForm h) rfl rfl (Nat.le_of_ble_eq_true rfl) (by decide) (by decide) (fun v91 M91 h => ?_)
              exact V_reti dX10_form_94 rfl rfl h
            · replace h := h.2 q68
              refine V_iload dX10_form_71 rfl ?_
              exact V_reti dX10_form_73 rfl rfl h
          · replace h := h.2 q46
            refine V_bipush (-2) dX10_form_49 (by decide) ?_
            exact V_reti dX10_form_51 rfl rfl h
      · replace h := h.2 q26
        refine V_iconst (-1) dX10_form_29 (by decide) ?_
        exact V_reti dX10_form_30 rfl rfl h
def wX10_read (a1 : Int32) (a2 : Int32) (a3 : Int32) (a4 : Int32) (a5 : Int32) (a6 : Int32) (a7 : Int32) (M : Mem) (Q : Int32 → Mem → Prop) : Prop :=
  (∀ N2, N2 = mset M 0 19 0 → wX10_isBelow a1 3 N2 (fun v7 M7 => ((v7 = 0 →
      Q (-1) M7) ∧ (¬ v7 = 0 →
      wX10_isPlace a2 M7 (fun v15 M15 => ((v15 = 0 →
          Q (-1) M15) ∧ (¬ v15 = 0 →
          wX10_isMeaning a3 M15 (fun v22 M22 => ((v22 = 0 →
              Q (-1) M22) ∧ (¬ v22 = 0 →
              wX10_isBelow a4 4 M22 (fun v31 M31 => ((¬ v31 = 0 →
                  wX10_isBelow a5 3 M31 (fun v42 M42 => ((¬ v42 = 0 →
                      wX10_takeCells a4 a5 a6 a7 M42 (fun v60 M60 => ((v60 = 0 →
                          vp_in a1 3 ∧ wX1_readInto (20 + Int32.toNatClampNeg a1) 97 18 a7 M60 (fun v89 M89 => ((v89 = (-9) →
                              wX10_addForm 0 a2 a3 M89 (fun v111 M111 => Q v111 M111)) ∧ (¬ v89 = (-9) →
                              Q ((-100) - v89) M89)))) ∧ (¬ v60 = 0 →
                          Q v60 M60)))) ∧ (v42 = 0 →
                      Q (-2) M42)))) ∧ (v31 = 0 →
                  Q (-1) M31)))))))))))))
set_option maxHeartbeats 1000000 in
set_option maxRecDepth 20000 in
theorem sX10_read {E : En} {a1 : Int32} {a2 : Int32} {a3 : Int32} {a4 : Int32} {a5 : Int32} {a6 : Int32} {a7 : Int32} {M : Mem} {Q : Int32 → Mem → Prop} (h : wX10_read a1 a2 a3 a4 a5 a6 a7 M Q) : CM E 4 mX10_read [.ref (E.2.2 0), .int a1, .int a2, .int a3, .int a4, .int a5, .int a6, .int a7] M (Pi Q) := by
  unfold wX10_read at h
  refine CM.of (by decide) rfl (Nat.le_of_ble_eq_true rfl) ?_
  refine V_aload_n dX10_read_0 rfl ?_
  refine V_iconst 0 dX10_read_1 (by decide) ?_
  refine V_putN fp_X10_102 dX10_read_2 rfl rfl rfl rfl (fun N2 e2 => ?_)
  replace h := h N2 e2
  refine V_iload_n dX10_read_5 rfl ?_
  refine V_iconst 3 dX10_read_6 (by decide) ?_
  refine M_Si ms_X10_isBelow lk_X10_114 dX10_read_7 (sX10_isBelow h) rfl rfl (Nat.le_of_ble_eq_true rfl) (by decide) (by decide) (fun v7 M7 h => ?_)
  refine V_if_eq 37 dX10_read_10 (by decide) (fun q10 => ?_) (fun q10 => ?_)
  · replace h := h.1 q10
    refine V_iconst (-1) dX10_read_37 (by decide) ?_
    exact V_reti dX10_read_38 rfl rfl h
  · replace h := h.2 q10
    refine V_aload_n dX10_read_13 rfl ?_
    refine V_iload_n dX10_read_14 rfl ?_
    refine M_Vi mv_X10_isPlace lk_X10_152 dX10_read_15 rfl rfl (sX10_isPlace h) rfl rfl (Nat.le_of_ble_eq_true rfl) (by decide) (by decide) (fun v15 M15 h => ?_)
    refine V_if_eq 37 dX10_read_18 (by decide) (fun q18 => ?_) (fun q18 => ?_)
    · replace h := h.1 q18
      refine V_iconst (-1) dX10_read_37 (by decide) ?_
      exact V_reti dX10_read_38 rfl rfl h
    · replace h := h.2 q18
      refine V_iload_n dX10_read_21 rfl ?_
      refine M_Si ms_X10_isMeaning lk_X10_156 dX10_read_22 (sX10_isMeaning h) rfl rfl (Nat.le_of_ble_eq_true rfl) (by decide) (by decide) (fun v22 M22 h => ?_)
      refine V_if_eq 37 dX10_read_25 (by decide) (fun q25 => ?_) (fun q25 => ?_)
      · replace h := h.1 q25
        refine V_iconst (-1) dX10_read_37 (by decide) ?_
        exact V_reti dX10_read_38 rfl rfl h
      · replace h := h.2 q25
        refine V_iload dX10_read_28 rfl ?_
        refine V_iconst 4 dX10_read_30 (by decide) ?_
        refine M_Si ms_X10_isBelow lk_X10_114 dX10_read_31 (sX10_isBelow h) rfl rfl (Nat.le_of_ble_eq_true rfl) (by decide) (by decide) (fun v31 M31 h => ?_)
        refine V_if_ne 39 dX10_read_34 (by decide) (fun q34 => ?_) (fun q34 => ?_)
        · replace h := h.1 q34
          refine V_iload dX10_read_39 rfl ?_
          refine V_iconst 3 dX10_read_41 (by decide) ?_
          refine M_Si ms_X10_isBelow lk_X10_114 dX10_read_42 (sX10_isBelow h) rfl rfl (Nat.le_of_ble_eq_true rfl) (by decide) (by decide) (fun v42 M42 h => ?_)
          refine V_if_ne 51 dX10_read_45 (by decide) (fun q45 => ?_) (fun q45 => ?_)
          · replace h := h.1 q45
            refine V_aload_n dX10_read_51 rfl ?_
            refine V_iload dX10_read_52 rfl ?_
            refine V_iload dX10_read_54 rfl ?_
            refine V_iload dX10_read_56 rfl ?_
            refine V_iload dX10_read_58 rfl ?_
            refine M_Vi mv_X10_takeCells lk_X10_138 dX10_read_60 rfl rfl (sX10_takeCells h) rfl rfl (Nat.le_of_ble_eq_true rfl) (by decide) (by decide) (fun v60 M60 h => ?_)
            refine V_istore dX10_read_63 (by decide) ?_
            refine V_iload dX10_read_65 rfl ?_
            refine V_if_eq 73 dX10_read_67 (by decide) (fun q67 => ?_) (fun q67 => ?_)
            · replace h := h.1 q67
              refine V_aload_n dX10_read_73 rfl ?_
              refine V_getR 4 fl_X10_20 dX10_read_74 rfl rfl rfl ?_
              refine V_iload_n dX10_read_77 rfl ?_
              obtain ⟨hi78, h⟩ := h
              have hb78 := vp_lt hi78
              refine V_aaldM (20 + Int32.toNatClampNeg a1) dX10_read_78 rfl (by decide) hi78 rfl ?_
              refine V_aload_n dX10_read_79 rfl ?_
              refine V_getR 97 fl_X10_76 dX10_read_80 rfl rfl rfl ?_
              refine V_aload_n dX10_read_83 rfl ?_
              refine V_getR 18 fl_X10_72 dX10_read_84 rfl rfl rfl ?_
              refine V_iload dX10_read_87 rfl ?_
              refine M_Vi mv_X1_readInto lk_X10_169 dX10_read_89 rfl (kd_X1 (by omega)) (sX1_readInto h) rfl rfl (Nat.le_of_ble_eq_true rfl) (by decide) (by decide) (fun v89 M89 h => ?_)
              refine V_istore dX10_read_92 (by decide) ?_
              refine V_iload dX10_read_94 rfl ?_
              refine V_bipush (-9) dX10_read_96 (by decide) ?_
              refine V_icmp_eq 107 dX10_read_98 (by decide) (fun q98 => ?_) (fun q98 => ?_)
              · replace h := h.1 q98
                refine V_aload_n dX10_read_107 rfl ?_
                refine V_iconst 0 dX10_read_108 (by decide) ?_
                refine V_iload_n dX10_read_109 rfl ?_
                refine V_iload_n dX10_read_110 rfl ?_
                refine M_Vi mv_X10_addForm lk_X10_165 dX10_read_111 rfl rfl (sX10_addForm h) rfl rfl (Nat.le_of_ble_eq_true rfl) (by decide) (by decide) (fun v111 M111 h => ?_)
                exact V_reti dX10_read_114 rfl rfl h
              · replace h := h.2 q98
                refine V_bipush (-100) dX10_read_101 (by decide) ?_
                refine V_iload dX10_read_103 rfl ?_
                refine V_isub dX10_read_105 ?_
                exact V_reti dX10_read_106 rfl rfl h
            · replace h := h.2 q67
              refine V_iload dX10_read_70 rfl ?_
              exact V_reti dX10_read_72 rfl rfl h
          · replace h := h.2 q45
            refine V_bipush (-2) dX10_read_48 (by decide) ?_
            exact V_reti dX10_read_50 rfl rfl h
        · replace h := h.2 q34
          refine V_iconst (-1) dX10_read_37 (by decide) ?_
          exact V_reti dX10_read_38 rfl rfl h
def wX10_isForm (a1 : Int32) (M : Mem) (Q : Int32 → Mem → Prop) : Prop :=
  wX10_isBelow a1 (M 0 16) M (fun v5 M5 => isB v5 ∧ Q v5 M5)
set_option maxHeartbeats 1000000 in
set_option maxRecDepth 20000 in
theorem sX10_isForm {E : En} {a1 : Int32} {M : Mem} {Q : Int32 → Mem → Prop} (h : wX10_isForm a1 M Q) : CM E 2 mX10_isForm [.ref (E.2.2 0), .int a1] M (Pi Q) := by
  unfold wX10_isForm at h
  refine CM.of (by decide) rfl (Nat.le_of_ble_eq_true rfl) ?_
  refine V_iload_n dX10_isForm_0 rfl ?_
  refine V_aload_n dX10_isForm_1 rfl ?_
  refine V_getI fl_X10_93 dX10_isForm_2 rfl rfl ?_
  refine M_Si ms_X10_isBelow lk_X10_114 dX10_isForm_5 (sX10_isBelow h) rfl rfl (Nat.le_of_ble_eq_true rfl) (by decide) (by decide) (fun v5 M5 h => ?_)
  exact V_reti dX10_isForm_8 rfl (nb h.1) h.2
def wX10_ofForm (a1 : Int32) (a2 : Int32) (M : Mem) (Q : Int32 → Mem → Prop) : Prop :=
  wX10_isForm a1 M (fun v2 M2 => ((¬ v2 = 0 →
      vp_in a1 40 ∧ ((a2 = 0 →
        Q (M2 (150 + Int32.toNatClampNeg a1) 1) M2) ∧ (a2 = 1 →
        Q (M2 (150 + Int32.toNatClampNeg a1) 2) M2) ∧ (a2 = 2 →
        Q (M2 (150 + Int32.toNatClampNeg a1) 3) M2) ∧ (a2 = 3 →
        Q (M2 ((150 + Int32.toNatClampNeg a1) - 100) 1) M2) ∧ (¬ a2 = 0 → ¬ a2 = 1 → ¬ a2 = 2 → ¬ a2 = 3 → ((a2 < 10 →
          Q (-2) M2) ∧ (¬ a2 < 10 →
          (((M2 ((150 + Int32.toNatClampNeg a1) - 100) 1) ≤ (a2 - 10) →
            Q (-2) M2) ∧ (¬ (M2 ((150 + Int32.toNatClampNeg a1) - 100) 1) ≤ (a2 - 10) →
            wX7_at ((150 + Int32.toNatClampNeg a1) - 100) (a2 - 10) M2 (fun v99 M99 => Q v99 M99)))))))) ∧ (v2 = 0 →
      Q (-1) M2)))
set_option maxHeartbeats 1000000 in
set_option maxRecDepth 20000 in
theorem sX10_ofForm {E : En} {a1 : Int32} {a2 : Int32} {M : Mem} {Q : Int32 → Mem → Prop} (h : wX10_ofForm a1 a2 M Q) : CM E 3 mX10_ofForm [.ref (E.2.2 0), .int a1, .int a2] M (Pi Q) := by
  unfold wX10_ofForm at h
  refine CM.of (by decide) rfl (Nat.le_of_ble_eq_true rfl) ?_
  refine V_aload_n dX10_ofForm_0 rfl ?_
  refine V_iload_n dX10_ofForm_1 rfl ?_
  refine M_Vi mv_X10_isForm lk_X10_176 dX10_ofForm_2 rfl rfl (sX10_isForm h) rfl rfl (Nat.le_of_ble_eq_true rfl) (by decide) (by decide) (fun v2 M2 h => ?_)
  refine V_if_ne 10 dX10_ofForm_5 (by decide) (fun q5 => ?_) (fun q5 => ?_)
  · replace h := h.1 q5
    refine V_aload_n dX10_ofForm_10 rfl ?_
    refine V_getR 6 fl_X10_30 dX10_ofForm_11 rfl rfl rfl ?_
    refine V_iload_n dX10_ofForm_14 rfl ?_
    obtain ⟨hi15, h⟩ := h
    have hb15 := vp_lt hi15
    refine V_aaldM (150 + Int32.toNatClampNeg a1) dX10_ofForm_15 rfl (by decide) hi15 rfl ?_
    refine V_astore_n dX10_ofForm_16 (by decide) ?_
    refine V_iload_n dX10_ofForm_17 rfl ?_
    rcases Classical.em (a2 = 0) with q | q18_0
    · replace h := h.1 q
      refine V_tableIn (off := 30) 48 dX10_ofForm_18 (by rw [q]; decide) (by rw [q]; decide) (by rw [q] <;> rfl) (by decide) ?_
      refine V_aload_n dX10_ofForm_48 rfl ?_
      refine V_getI fl_X10_179 dX10_ofForm_49 (kd_X2 (by omega)) rfl ?_
      exact V_reti dX10_ofForm_52 rfl rfl h
    rcases Classical.em (a2 = 1) with q | q18_1
    · replace h := h.2.1 q
      refine V_tableIn (off := 35) 53 dX10_ofForm_18 (by rw [q]; decide) (by rw [q]; decide) (by rw [q] <;> rfl) (by decide) ?_
      refine V_aload_n dX10_ofForm_53 rfl ?_
      refine V_getI fl_X10_182 dX10_ofForm_54 (kd_X2 (by omega)) rfl ?_
      exact V_reti dX10_ofForm_57 rfl rfl h
    rcases Classical.em (a2 = 2) with q | q18_2
    · replace h := h.2.2.1 q
      refine V_tableIn (off := 40) 58 dX10_ofForm_18 (by rw [q]; decide) (by rw [q]; decide) (by rw [q] <;> rfl) (by decide) ?_
      refine V_aload_n dX10_ofForm_58 rfl ?_
      refine V_getI fl_X10_185 dX10_ofForm_59 (kd_X2 (by omega)) rfl ?_
      exact V_reti dX10_ofForm_62 rfl rfl h
    rcases Classical.em (a2 = 3) with q | q18_3
    · replace h := h.2.2.2.1 q
      refine V_tableIn (off := 45) 63 dX10_ofForm_18 (by rw [q]; decide) (by rw [q]; decide) (by rw [q] <;> rfl) (by decide) ?_
      refine V_aload_n dX10_ofForm_63 rfl ?_
      refine V_getR ((150 + Int32.toNatClampNeg a1) - 100) fl_X10_188 dX10_ofForm_64 (kd_X2 (by omega)) rfl (rf_X2 (by omega)) ?_
      refine V_getI fl_X10_191 dX10_ofForm_67 (kd_X7 (by omega)) rfl ?_
      exact V_reti dX10_ofForm_70 rfl rfl h
    replace h := h.2.2.2.2 q18_0 q18_1 q18_2 q18_3
    refine V_tableOut 71 dX10_ofForm_18 (by have z0 := lv_neT q18_0 (show (0 : Int32).toInt = 0 by decide); have z1 := lv_neT q18_1 (show (1 : Int32).toInt = 1 by decide); have z2 := lv_neT q18_2 (show (2 : Int32).toInt = 2 by decide); have z3 := lv_neT q18_3 (show (3 : Int32).toInt = 3 by decide); omega) (by decide) ?_
    refine V_iload_n dX10_ofForm_71 rfl ?_
    refine V_bipush 10 dX10_ofForm_72 (by decide) ?_
    refine V_icmp_lt 105 dX10_ofForm_74 (by decide) (fun q74 => ?_) (fun q74 => ?_)
    · replace h := h.1 q74
      refine V_bipush (-2) dX10_ofForm_105 (by decide) ?_
      exact V_reti dX10_ofForm_107 rfl rfl h
    · replace h := h.2 q74
      refine V_iload_n dX10_ofForm_77 rfl ?_
      refine V_bipush 10 dX10_ofForm_78 (by decide) ?_
      refine V_isub dX10_ofForm_80 ?_
      refine V_aload_n dX10_ofForm_81 rfl ?_
      refine V_getR ((150 + Int32.toNatClampNeg a1) - 100) fl_X10_188 dX10_ofForm_82 (kd_X2 (by omega)) rfl (rf_X2 (by omega)) ?_
      refine V_getI fl_X10_191 dX10_ofForm_85 (kd_X7 (by omega)) rfl ?_
      refine V_icmp_ge 105 dX10_ofForm_88 (by decide) (fun q88 => ?_) (fun q88 => ?_)
      · replace h := h.1 q88
        refine V_bipush (-2) dX10_ofForm_105 (by decide) ?_
        exact V_reti dX10_ofForm_107 rfl rfl h
      · replace h := h.2 q88
        refine V_aload_n dX10_ofForm_91 rfl ?_
        refine V_getR ((150 + Int32.toNatClampNeg a1) - 100) fl_X10_188 dX10_ofForm_92 (kd_X2 (by omega)) rfl (rf_X2 (by omega)) ?_
        refine V_iload_n dX10_ofForm_95 rfl ?_
        refine V_bipush 10 dX10_ofForm_96 (by decide) ?_
        refine V_isub dX10_ofForm_98 ?_
        refine M_Vi mv_X7_at lk_X10_194 dX10_ofForm_99 rfl (kd_X7 (by omega)) (sX7_at h) rfl rfl (Nat.le_of_ble_eq_true rfl) (by decide) (by decide) (fun v99 M99 h => ?_)
        refine V_goto 107 dX10_ofForm_102 (by decide) ?_
        exact V_reti dX10_ofForm_107 rfl rfl h
  · replace h := h.2 q5
    refine V_iconst (-1) dX10_ofForm_8 (by decide) ?_
    exact V_reti dX10_ofForm_9 rfl rfl h
def wX10_said (a1 : Int32) (a2 : Int32) (M : Mem) (Q : Int32 → Mem → Prop) : Prop :=
  wX10_isPlace a1 M (fun v2 M2 => ((v2 = 0 →
      Q (-1) M2) ∧ (¬ v2 = 0 →
      wX10_isMeaning a2 M2 (fun v9 M9 => ((¬ v9 = 0 →
          vp_in ((a1 * 6) + a2) 48 ∧ Q (M9 7 (Int32.toNatClampNeg ((a1 * 6) + a2))) M9) ∧ (v9 = 0 →
          Q (-1) M9))))))
set_option maxHeartbeats 1000000 in
set_option maxRecDepth 20000 in
theorem sX10_said {E : En} {a1 : Int32} {a2 : Int32} {M : Mem} {Q : Int32 → Mem → Prop} (h : wX10_said a1 a2 M Q) : CM E 3 mX10_said [.ref (E.2.2 0), .int a1, .int a2] M (Pi Q) := by
  unfold wX10_said at h
  refine CM.of (by decide) rfl (Nat.le_of_ble_eq_true rfl) ?_
  refine V_aload_n dX10_said_0 rfl ?_
  refine V_iload_n dX10_said_1 rfl ?_
  refine M_Vi mv_X10_isPlace lk_X10_152 dX10_said_2 rfl rfl (sX10_isPlace h) rfl rfl (Nat.le_of_ble_eq_true rfl) (by decide) (by decide) (fun v2 M2 h => ?_)
  refine V_if_eq 15 dX10_said_5 (by decide) (fun q5 => ?_) (fun q5 => ?_)
  · replace h := h.1 q5
    refine V_iconst (-1) dX10_said_15 (by decide) ?_
    exact V_reti dX10_said_16 rfl rfl h
  · replace h := h.2 q5
    refine V_iload_n dX10_said_8 rfl ?_
    refine M_Si ms_X10_isMeaning lk_X10_156 dX10_said_9 (sX10_isMeaning h) rfl rfl (Nat.le_of_ble_eq_true rfl) (by decide) (by decide) (fun v9 M9 h => ?_)
    refine V_if_ne 17 dX10_said_12 (by decide) (fun q12 => ?_) (fun q12 => ?_)
    · replace h := h.1 q12
      refine V_aload_n dX10_said_17 rfl ?_
      refine V_getR 7 fl_X10_34 dX10_said_18 rfl rfl rfl ?_
      refine V_iload_n dX10_said_21 rfl ?_
      refine V_bipush 6 dX10_said_22 (by decide) ?_
      refine V_imul dX10_said_24 ?_
      refine V_iload_n dX10_said_25 rfl ?_
      refine V_iadd dX10_said_26 ?_
      obtain ⟨hi27, h⟩ := h
      refine V_ialdM dX10_said_27 rfl hi27 ?_
      exact V_reti dX10_said_28 rfl rfl h
    · replace h := h.2 q12
      refine V_iconst (-1) dX10_said_15 (by decide) ?_
      exact V_reti dX10_said_16 rfl rfl h
def wX10_root (a1 : Int32) (a2 : Int32) (a3 : Int32) (a4 : Int32) (a5 : Int32) (M : Mem) (Q : Int32 → Mem → Prop) : Prop :=
  (∀ N2, N2 = mset M 0 19 0 → wX10_isMeaning a1 N2 (fun v6 M6 => ((v6 = 0 →
      Q (-1) M6) ∧ (¬ v6 = 0 →
      wX10_isBelow a2 4 M6 (fun v14 M14 => ((¬ v14 = 0 →
          wX10_isBelow a3 3 M14 (fun v24 M24 => ((¬ v24 = 0 →
              wX10_takeSounds a2 a3 a4 a5 M24 (fun v40 M40 => ((v40 = 0 →
                  vp_in a1 6 ∧ wX7_becomeCells (90 + Int32.toNatClampNeg a1) 18 a5 M40 (fun M65 => (∀ N77, N77 = mset M65 0 17 ((M65 0 17) ||| (1 <<< (a1 &&& 31))) → Q a5 N77))) ∧ (¬ v40 = 0 →
                  Q v40 M40)))) ∧ (v24 = 0 →
              Q (-2) M24)))) ∧ (v14 = 0 →
          Q (-1) M14)))))))
set_option maxHeartbeats 1000000 in
set_option maxRecDepth 20000 in
theorem sX10_root {E : En} {a1 : Int32} {a2 : Int32} {a3 : Int32} {a4 : Int32} {a5 : Int32} {M : Mem} {Q : Int32 → Mem → Prop} (h : wX10_root a1 a2 a3 a4 a5 M Q) : CM E 5 mX10_root [.ref (E.2.2 0), .int a1, .int a2, .int a3, .int a4, .int a5] M (Pi Q) := by
  unfold wX10_root at h
  refine CM.of (by decide) rfl (Nat.le_of_ble_eq_true rfl) ?_
  refine V_aload_n dX10_root_0 rfl ?_
  refine V_iconst 0 dX10_root_1 (by decide) ?_
  refine V_putN fp_X10_102 dX10_root_2 rfl rfl rfl rfl (fun N2 e2 => ?_)
  replace h := h N2 e2
  refine V_iload_n dX10_root_5 rfl ?_
  refine M_Si ms_X10_isMeaning lk_X10_156 dX10_root_6 (sX10_isMeaning h) rfl rfl (Nat.le_of_ble_eq_true rfl) (by decide) (by decide) (fun v6 M6 h => ?_)
  refine V_if_eq 20 dX10_root_9 (by decide) (fun q9 => ?_) (fun q9 => ?_)
  · replace h := h.1 q9
    refine V_iconst (-1) dX10_root_20 (by decide) ?_
    exact V_reti dX10_root_21 rfl rfl h
  · replace h := h.2 q9
    refine V_iload_n dX10_root_12 rfl ?_
    refine V_iconst 4 dX10_root_13 (by decide) ?_
    refine M_Si ms_X10_isBelow lk_X10_114 dX10_root_14 (sX10_isBelow h) rfl rfl (Nat.le_of_ble_eq_true rfl) (by decide) (by decide) (fun v14 M14 h => ?_)
    refine V_if_ne 22 dX10_root_17 (by decide) (fun q17 => ?_) (fun q17 => ?_)
    · replace h := h.1 q17
      refine V_iload_n dX10_root_22 rfl ?_
      refine V_iconst 3 dX10_root_23 (by decide) ?_
      refine M_Si ms_X10_isBelow lk_X10_114 dX10_root_24 (sX10_isBelow h) rfl rfl (Nat.le_of_ble_eq_true rfl) (by decide) (by decide) (fun v24 M24 h => ?_)
      refine V_if_ne 33 dX10_root_27 (by decide) (fun q27 => ?_) (fun q27 => ?_)
      · replace h := h.1 q27
        refine V_aload_n dX10_root_33 rfl ?_
        refine V_iload_n dX10_root_34 rfl ?_
        refine V_iload_n dX10_root_35 rfl ?_
        refine V_iload dX10_root_36 rfl ?_
        refine V_iload dX10_root_38 rfl ?_
        refine M_Vi mv_X10_takeSounds lk_X10_159 dX10_root_40 rfl rfl (sX10_takeSounds h) rfl rfl (Nat.le_of_ble_eq_true rfl) (by decide) (by decide) (fun v40 M40 h => ?_)
        refine V_istore dX10_root_43 (by decide) ?_
        refine V_iload dX10_root_45 rfl ?_
        refine V_if_eq 53 dX10_root_47 (by decide) (fun q47 => ?_) (fun q47 => ?_)
        · replace h := h.1 q47
          refine V_aload_n dX10_root_53 rfl ?_
          refine V_getR 8 fl_X10_39 dX10_root_54 rfl rfl rfl ?_
          refine V_iload_n dX10_root_57 rfl ?_
          obtain ⟨hi58, h⟩ := h
          have hb58 := vp_lt hi58
          refine V_aaldM (90 + Int32.toNatClampNeg a1) dX10_root_58 rfl (by decide) hi58 rfl ?_
          refine V_aload_n dX10_root_59 rfl ?_
          refine V_getR 18 fl_X10_72 dX10_root_60 rfl rfl rfl ?_
          refine V_iload dX10_root_63 rfl ?_
          refine M_Vv mv_X7_becomeCells lk_X10_162 dX10_root_65 rfl (kd_X7 (by omega)) (sX7_becomeCells h) rfl rfl (Nat.le_of_ble_eq_true rfl) (by decide) (by decide) (fun M65 h => ?_)
          refine V_aload_n dX10_root_68 rfl ?_
          refine V_dup dX10_root_69 rfl ?_
          refine V_getI fl_X10_96 dX10_root_70 rfl rfl ?_
          refine V_iconst 1 dX10_root_73 (by decide) ?_
          refine V_iload_n dX10_root_74 rfl ?_
          refine V_ishl dX10_root_75 ?_
          refine V_ior dX10_root_76 ?_
          refine V_putN fp_X10_96 dX10_root_77 rfl rfl rfl rfl (fun N77 e77 => ?_)
          replace h := h N77 e77
          refine V_iload dX10_root_80 rfl ?_
          exact V_reti dX10_root_82 rfl rfl h
        · replace h := h.2 q47
          refine V_iload dX10_root_50 rfl ?_
          exact V_reti dX10_root_52 rfl rfl h
      · replace h := h.2 q27
        refine V_bipush (-2) dX10_root_30 (by decide) ?_
        exact V_reti dX10_root_32 rfl rfl h
    · replace h := h.2 q17
      refine V_iconst (-1) dX10_root_20 (by decide) ?_
      exact V_reti dX10_root_21 rfl rfl h
def wX10_ofRoot (a1 : Int32) (a2 : Int32) (M : Mem) (Q : Int32 → Mem → Prop) : Prop :=
  wX10_isMeaning a1 M (fun v1 M1 => ((v1 = 0 →
      Q (-1) M1) ∧ (¬ v1 = 0 →
      wX10_isWithin a2 (-1) 7 M1 (fun v11 M11 => ((¬ v11 = 0 →
          wX10_isIn a1 (M11 0 17) M11 (fun v24 M24 => ((v24 = 0 →
              Q (-9) M24) ∧ (¬ v24 = 0 →
              vp_in a1 6 ∧ wX7_sizeOrAt (90 + Int32.toNatClampNeg a1) a2 M24 (fun v37 M37 => Q v37 M37))))) ∧ (v11 = 0 →
          Q (-1) M11))))))
set_option maxHeartbeats 1000000 in
set_option maxRecDepth 20000 in
theorem sX10_ofRoot {E : En} {a1 : Int32} {a2 : Int32} {M : Mem} {Q : Int32 → Mem → Prop} (h : wX10_ofRoot a1 a2 M Q) : CM E 4 mX10_ofRoot [.ref (E.2.2 0), .int a1, .int a2] M (Pi Q) := by
  unfold wX10_ofRoot at h
  refine CM.of (by decide) rfl (Nat.le_of_ble_eq_true rfl) ?_
  refine V_iload_n dX10_ofRoot_0 rfl ?_
  refine M_Si ms_X10_isMeaning lk_X10_156 dX10_ofRoot_1 (sX10_isMeaning h) rfl rfl (Nat.le_of_ble_eq_true rfl) (by decide) (by decide) (fun v1 M1 h => ?_)
  refine V_if_eq 17 dX10_ofRoot_4 (by decide) (fun q4 => ?_) (fun q4 => ?_)
  · replace h := h.1 q4
    refine V_iconst (-1) dX10_ofRoot_17 (by decide) ?_
    exact V_reti dX10_ofRoot_18 rfl rfl h
  · replace h := h.2 q4
    refine V_iload_n dX10_ofRoot_7 rfl ?_
    refine V_iconst (-1) dX10_ofRoot_8 (by decide) ?_
    refine V_bipush 7 dX10_ofRoot_9 (by decide) ?_
    refine M_Si ms_X10_isWithin lk_X10_142 dX10_ofRoot_11 (sX10_isWithin h) rfl rfl (Nat.le_of_ble_eq_true rfl) (by decide) (by decide) (fun v11 M11 h => ?_)
    refine V_if_ne 19 dX10_ofRoot_14 (by decide) (fun q14 => ?_) (fun q14 => ?_)
    · replace h := h.1 q14
      refine V_iload_n dX10_ofRoot_19 rfl ?_
      refine V_aload_n dX10_ofRoot_20 rfl ?_
      refine V_getI fl_X10_96 dX10_ofRoot_21 rfl rfl ?_
      refine M_Si ms_X10_isIn lk_X10_128 dX10_ofRoot_24 (sX10_isIn h) rfl rfl (Nat.le_of_ble_eq_true rfl) (by decide) (by decide) (fun v24 M24 h => ?_)
      refine V_if_eq 43 dX10_ofRoot_27 (by decide) (fun q27 => ?_) (fun q27 => ?_)
      · replace h := h.1 q27
        refine V_bipush (-9) dX10_ofRoot_43 (by decide) ?_
        exact V_reti dX10_ofRoot_45 rfl rfl h
      · replace h := h.2 q27
        refine V_aload_n dX10_ofRoot_30 rfl ?_
        refine V_getR 8 fl_X10_39 dX10_ofRoot_31 rfl rfl rfl ?_
        refine V_iload_n dX10_ofRoot_34 rfl ?_
        obtain ⟨hi35, h⟩ := h
        have hb35 := vp_lt hi35
        refine V_aaldM (90 + Int32.toNatClampNeg a1) dX10_ofRoot_35 rfl (by decide) hi35 rfl ?_
        refine V_iload_n dX10_ofRoot_36 rfl ?_
        refine M_Vi mv_X7_sizeOrAt lk_X10_198 dX10_ofRoot_37 rfl (kd_X7 (by omega)) (sX7_sizeOrAt h) rfl rfl (Nat.le_of_ble_eq_true rfl) (by decide) (by decide) (fun v37 M37 h => ?_)
        refine V_goto 45 dX10_ofRoot_40 (by decide) ?_
        exact V_reti dX10_ofRoot_45 rfl rfl h
    · replace h := h.2 q14
      refine V_iconst (-1) dX10_ofRoot_17 (by decide) ?_
      exact V_reti dX10_ofRoot_18 rfl rfl h
def wX10_law (a1 : Int32) (a2 : Int32) (a3 : Int32) (a4 : Int32) (a5 : Int32) (M : Mem) (Q : Int32 → Mem → Prop) : Prop :=
  (∀ N2, N2 = mset M 0 19 0 → wX10_isBelow a2 4 N2 (fun v7 M7 => ((¬ v7 = 0 →
      wX10_isSetBelow a1 (M7 0 15) M7 (fun v20 M20 => ((v20 = 0 →
          Q (-2) M20) ∧ (¬ v20 = 0 →
          wX10_isBelow a3 3 M20 (fun v28 M28 => ((¬ v28 = 0 →
              wX10_takeCells a2 a3 a4 a5 M28 (fun v44 M44 => ((v44 = 0 →
                  wX4_readLaw 18 a5 M44 (fun v67 M67 => ((v67 = (-9) →
                      wX4_addRead a1 M67 (fun v90 M90 => Q v90 M90)) ∧ (¬ v67 = (-9) →
                      Q ((-100) - v67) M67)))) ∧ (¬ v44 = 0 →
                  Q v44 M44)))) ∧ (v28 = 0 →
              Q (-2) M28))))))) ∧ (v7 = 0 →
      Q (-1) M7))))
set_option maxHeartbeats 1000000 in
set_option maxRecDepth 20000 in
theorem sX10_law {E : En} {a1 : Int32} {a2 : Int32} {a3 : Int32} {a4 : Int32} {a5 : Int32} {M : Mem} {Q : Int32 → Mem → Prop} (h : wX10_law a1 a2 a3 a4 a5 M Q) : CM E 7 mX10_law [.ref (E.2.2 0), .int a1, .int a2, .int a3, .int a4, .int a5] M (Pi Q) := by
  unfold wX10_law at h
  refine CM.of (by decide) rfl (Nat.le_of_ble_eq_true rfl) ?_
  refine V_aload_n dX10_law_0 rfl ?_
  refine V_iconst 0 dX10_law_1 (by decide) ?_
  refine V_putN fp_X10_102 dX10_law_2 rfl rfl rfl rfl (fun N2 e2 => ?_)
  replace h := h N2 e2
  refine V_iload_n dX10_law_5 rfl ?_
  refine V_iconst 4 dX10_law_6 (by decide) ?_
  refine M_Si ms_X10_isBelow lk_X10_114 dX10_law_7 (sX10_isBelow h) rfl rfl (Nat.le_of_ble_eq_true rfl) (by decide) (by decide) (fun v7 M7 h => ?_)
  refine V_if_ne 15 dX10_law_10 (by decide) (fun q10 => ?_) (fun q10 => ?_)
  · replace h := h.1 q10
    refine V_iload_n dX10_law_15 rfl ?_
    refine V_aload_n dX10_law_16 rfl ?_
    refine V_getI fl_X10_89 dX10_law_17 rfl rfl ?_
    refine M_Si ms_X10_isSetBelow lk_X10_118 dX10_law_20 (sX10_isSetBelow h) rfl rfl (Nat.le_of_ble_eq_true rfl) (by decide) (by decide) (fun v20 M20 h => ?_)
    refine V_if_eq 34 dX10_law_23 (by decide) (fun q23 => ?_) (fun q23 => ?_)
    · replace h := h.1 q23
      refine V_bipush (-2) dX10_law_34 (by decide) ?_
      exact V_reti dX10_law_36 rfl rfl h
    · replace h := h.2 q23
      refine V_iload_n dX10_law_26 rfl ?_
      refine V_iconst 3 dX10_law_27 (by decide) ?_
      refine M_Si ms_X10_isBelow lk_X10_114 dX10_law_28 (sX10_isBelow h) rfl rfl (Nat.le_of_ble_eq_true rfl) (by decide) (by decide) (fun v28 M28 h => ?_)
      refine V_if_ne 37 dX10_law_31 (by decide) (fun q31 => ?_) (fun q31 => ?_)
      · replace h := h.1 q31
        refine V_aload_n dX10_law_37 rfl ?_
        refine V_iload_n dX10_law_38 rfl ?_
        refine V_iload_n dX10_law_39 rfl ?_
        refine V_iload dX10_law_40 rfl ?_
        refine V_iload dX10_law_42 rfl ?_
        refine M_Vi mv_X10_takeCells lk_X10_138 dX10_law_44 rfl rfl (sX10_takeCells h) rfl rfl (Nat.le_of_ble_eq_true rfl) (by decide) (by decide) (fun v44 M44 h => ?_)
        refine V_istore dX10_law_47 (by decide) ?_
        refine V_iload dX10_law_49 rfl ?_
        refine V_if_eq 57 dX10_law_51 (by decide) (fun q51 => ?_) (fun q51 => ?_)
        · replace h := h.1 q51
          refine V_aload_n dX10_law_57 rfl ?_
          refine V_getR 9 fl_X10_48 dX10_law_58 rfl rfl rfl ?_
          refine V_aload_n dX10_law_61 rfl ?_
          refine V_getR 18 fl_X10_72 dX10_law_62 rfl rfl rfl ?_
          refine V_iload dX10_law_65 rfl ?_
          refine M_Vi mv_X4_readLaw lk_X10_201 dX10_law_67 rfl rfl (sX4_readLaw h) rfl rfl (Nat.le_of_ble_eq_true rfl) (by decide) (by decide) (fun v67 M67 h => ?_)
          refine V_istore dX10_law_70 (by decide) ?_
          refine V_iload dX10_law_72 rfl ?_
          refine V_bipush (-9) dX10_law_74 (by decide) ?_
          refine V_icmp_eq 85 dX10_law_76 (by decide) (fun q76 => ?_) (fun q76 => ?_)
          · replace h := h.1 q76
            refine V_aload_n dX10_law_85 rfl ?_
            refine V_getR 9 fl_X10_48 dX10_law_86 rfl rfl rfl ?_
            refine V_iload_n dX10_law_89 rfl ?_
            refine M_Vi mv_X4_addRead lk_X10_205 dX10_law_90 rfl rfl (sX4_addRead h) rfl rfl (Nat.le_of_ble_eq_true rfl) (by decide) (by decide) (fun v90 M90 h => ?_)
            exact V_reti dX10_law_93 rfl rfl h
          · replace h := h.2 q76
            refine V_bipush (-100) dX10_law_79 (by decide) ?_
            refine V_iload dX10_law_81 rfl ?_
            refine V_isub dX10_law_83 ?_
            exact V_reti dX10_law_84 rfl rfl h
        · replace h := h.2 q51
          refine V_iload dX10_law_54 rfl ?_
          exact V_reti dX10_law_56 rfl rfl h
      · replace h := h.2 q31
        refine V_bipush (-2) dX10_law_34 (by decide) ?_
        exact V_reti dX10_law_36 rfl rfl h
  · replace h := h.2 q10
    refine V_iconst (-1) dX10_law_13 (by decide) ?_
    exact V_reti dX10_law_14 rfl rfl h
def wX10_isLaw (a1 : Int32) (M : Mem) (Q : Int32 → Mem → Prop) : Prop :=
  wX10_isBelow a1 (M 9 4) M (fun v8 M8 => isB v8 ∧ Q v8 M8)
set_option maxHeartbeats 1000000 in
set_option maxRecDepth 20000 in
theorem sX10_isLaw {E : En} {a1 : Int32} {M : Mem} {Q : Int32 → Mem → Prop} (h : wX10_isLaw a1 M Q) : CM E 2 mX10_isLaw [.ref (E.2.2 0), .int a1] M (Pi Q) := by
  unfold wX10_isLaw at h
  refine CM.of (by decide) rfl (Nat.le_of_ble_eq_true rfl) ?_
  refine V_iload_n dX10_isLaw_0 rfl ?_
  refine V_aload_n dX10_isLaw_1 rfl ?_
  refine V_getR 9 fl_X10_48 dX10_isLaw_2 rfl rfl rfl ?_
  refine V_getI fl_X10_343 dX10_isLaw_5 rfl rfl ?_
  refine M_Si ms_X10_isBelow lk_X10_114 dX10_isLaw_8 (sX10_isBelow h) rfl rfl (Nat.le_of_ble_eq_true rfl) (by decide) (by decide) (fun v8 M8 h => ?_)
  exact V_reti dX10_isLaw_11 rfl (nb h.1) h.2
def wX10_force (a1 : Int32) (a2 : Int32) (M : Mem) (Q : Int32 → Mem → Prop) : Prop :=
  wX10_isLaw a1 M (fun v2 M2 => ((¬ v2 = 0 →
      wX10_isSetBelow a2 (M2 0 15) M2 (fun v15 M15 => ((¬ v15 = 0 →
          vp_in a1 9 ∧ (∀ N47, N47 = mset M15 (32 + Int32.toNatClampNeg a1) 0 a2 → Q (M15 (32 + Int32.toNatClampNeg a1) 0) N47)) ∧ (v15 = 0 →
          Q (-2) M15)))) ∧ (v2 = 0 →
      Q (-1) M2)))
set_option maxHeartbeats 1000000 in
set_option maxRecDepth 20000 in
theorem sX10_force {E : En} {a1 : Int32} {a2 : Int32} {M : Mem} {Q : Int32 → Mem → Prop} (h : wX10_force a1 a2 M Q) : CM E 3 mX10_force [.ref (E.2.2 0), .int a1, .int a2] M (Pi Q) := by
  unfold wX10_force at h
  refine CM.of (by decide) rfl (Nat.le_of_ble_eq_true rfl) ?_
  refine V_aload_n dX10_force_0 rfl ?_
  refine V_iload_n dX10_force_1 rfl ?_
  refine M_Vi mv_X10_isLaw lk_X10_208 dX10_force_2 rfl rfl (sX10_isLaw h) rfl rfl (Nat.le_of_ble_eq_true rfl) (by decide) (by decide) (fun v2 M2 h => ?_)
  refine V_if_ne 10 dX10_force_5 (by decide) (fun q5 => ?_) (fun q5 => ?_)
  · replace h := h.1 q5
    refine V_iload_n dX10_force_10 rfl ?_
    refine V_aload_n dX10_force_11 rfl ?_
    refine V_getI fl_X10_89 dX10_force_12 rfl rfl ?_
    refine M_Si ms_X10_isSetBelow lk_X10_118 dX10_force_15 (sX10_isSetBelow h) rfl rfl (Nat.le_of_ble_eq_true rfl) (by decide) (by decide) (fun v15 M15 h => ?_)
    refine V_if_ne 24 dX10_force_18 (by decide) (fun q18 => ?_) (fun q18 => ?_)
    · replace h := h.1 q18
      refine V_aload_n dX10_force_24 rfl ?_
      refine V_getR 9 fl_X10_48 dX10_force_25 rfl rfl rfl ?_
      refine V_getR 10 fl_X10_211 dX10_force_28 rfl rfl rfl ?_
      refine V_iload_n dX10_force_31 rfl ?_
      obtain ⟨hi32, h⟩ := h
      have hb32 := vp_lt hi32
      refine V_aaldM (32 + Int32.toNatClampNeg a1) dX10_force_32 rfl (by decide) hi32 rfl ?_
      refine V_getI fl_X10_215 dX10_force_33 (kd_X3 (by omega)) rfl ?_
      refine V_istore_n dX10_force_36 (by decide) ?_
      refine V_aload_n dX10_force_37 rfl ?_
      refine V_getR 9 fl_X10_48 dX10_force_38 rfl rfl rfl ?_
      refine V_getR 10 fl_X10_211 dX10_force_41 rfl rfl rfl ?_
      refine V_iload_n dX10_force_44 rfl ?_
      have hb45 := vp_lt hi32
      refine V_aaldM (32 + Int32.toNatClampNeg a1) dX10_force_45 rfl (by decide) hi32 rfl ?_
      refine V_iload_n dX10_force_46 rfl ?_
      refine V_putN fp_X10_215 dX10_force_47 (kd_X3 (by omega)) rfl rfl rfl (fun N47 e47 => ?_)
      replace h := h N47 e47
      refine V_iload_n dX10_force_50 rfl ?_
      exact V_reti dX10_force_51 rfl rfl h
    · replace h := h.2 q18
      refine V_bipush (-2) dX10_force_21 (by decide) ?_
      exact V_reti dX10_force_23 rfl rfl h
  · replace h := h.2 q5
    refine V_iconst (-1) dX10_force_8 (by decide) ?_
    exact V_reti dX10_force_9 rfl rfl h
def wX10_derived (a1 : Int32) (a2 : Int32) (a3 : Int32) (a4 : Int32) (M : Mem) (Q : Int32 → Mem → Prop) : Prop :=
  wX10_isPlace a1 M (fun v2 M2 => ((v2 = 0 →
      Q (-1) M2) ∧ (¬ v2 = 0 →
      wX10_isMeaning a2 M2 (fun v9 M9 => ((v9 = 0 →
          Q (-1) M9) ∧ (¬ v9 = 0 →
          wX10_isWithin a4 (-1) 7 M9 (fun v20 M20 => ((¬ v20 = 0 →
              wX10_isWithin a3 0 8 M20 (fun v32 M32 => ((¬ v32 = 0 →
                  wX10_isIn a2 (M32 0 17) M32 (fun v46 M46 => ((¬ v46 = 0 →
                      vp_in a2 6 ∧ wX7_become 97 (90 + Int32.toNatClampNeg a2) M46 (fun M65 => wX4_deriveAt a1 97 a3 M65 (fun v78 M78 => wX7_sizeOrAt 97 a4 M78 (fun v88 M88 => Q v88 M88)))) ∧ (v46 = 0 →
                      Q (-3) M46)))) ∧ (v32 = 0 →
                  Q (-2) M32)))) ∧ (v20 = 0 →
              Q (-1) M20)))))))))
set_option maxHeartbeats 1000000 in
set_option maxRecDepth 20000 in
theorem sX10_derived {E : En} {a1 : Int32} {a2 : Int32} {a3 : Int32} {a4 : Int32} {M : Mem} {Q : Int32 → Mem → Prop} (h : wX10_derived a1 a2 a3 a4 M Q) : CM E 5 mX10_derived [.ref (E.2.2 0), .int a1, .int a2, .int a3, .int a4] M (Pi Q) := by
  unfold wX10_derived at h
  refine CM.of (by decide) rfl (Nat.le_of_ble_eq_true rfl) ?_
  refine V_aload_n dX10_derived_0 rfl ?_
  refine V_iload_n dX10_derived_1 rfl ?_
  refine M_Vi mv_X10_isPlace lk_X10_152 dX10_derived_2 rfl rfl (sX10_isPlace h) rfl rfl (Nat.le_of_ble_eq_true rfl) (by decide) (by decide) (fun v2 M2 h => ?_)
  refine V_if_eq 26 dX10_derived_5 (by decide) (fun q5 => ?_) (fun q5 => ?_)
  · replace h := h.1 q5
    refine V_iconst (-1) dX10_derived_26 (by decide) ?_
    exact V_reti dX10_derived_27 rfl rfl h
  · replace h := h.2 q5
    refine V_iload_n dX10_derived_8 rfl ?_
    refine M_Si ms_X10_isMeaning lk_X10_156 dX10_derived_9 (sX10_isMeaning h) rfl rfl (Nat.le_of_ble_eq_true rfl) (by decide) (by decide) (fun v9 M9 h => ?_)
    refine V_if_eq 26 dX10_derived_12 (by decide) (fun q12 => ?_) (fun q12 => ?_)
    · replace h := h.1 q12
      refine V_iconst (-1) dX10_derived_26 (by decide) ?_
      exact V_reti dX10_derived_27 rfl rfl h
    · replace h := h.2 q12
      refine V_iload dX10_derived_15 rfl ?_
      refine V_iconst (-1) dX10_derived_17 (by decide) ?_
      refine V_bipush 7 dX10_derived_18 (by decide) ?_
      refine M_Si ms_X10_isWithin lk_X10_142 dX10_derived_20 (sX10_isWithin h) rfl rfl (Nat.le_of_ble_eq_true rfl) (by decide) (by decide) (fun v20 M20 h => ?_)
      refine V_if_ne 28 dX10_derived_23 (by decide) (fun q23 => ?_) (fun q23 => ?_)
      · replace h := h.1 q23
        refine V_iload_n dX10_derived_28 rfl ?_
        refine V_iconst 0 dX10_derived_29 (by decide) ?_
        refine V_bipush 8 dX10_derived_30 (by decide) ?_
        refine M_Si ms_X10_isWithin lk_X10_142 dX10_derived_32 (sX10_isWithin h) rfl rfl (Nat.le_of_ble_eq_true rfl) (by decide) (by decide) (fun v32 M32 h => ?_)
        refine V_if_ne 41 dX10_derived_35 (by decide) (fun q35 => ?_) (fun q35 => ?_)
        · replace h := h.1 q35
          refine V_iload_n dX10_derived_41 rfl ?_
          refine V_aload_n dX10_derived_42 rfl ?_
          refine V_getI fl_X10_96 dX10_derived_43 rfl rfl ?_
          refine M_Si ms_X10_isIn lk_X10_128 dX10_derived_46 (sX10_isIn h) rfl rfl (Nat.le_of_ble_eq_true rfl) (by decide) (by decide) (fun v46 M46 h => ?_)
          refine V_if_ne 55 dX10_derived_49 (by decide) (fun q49 => ?_) (fun q49 => ?_)
          · replace h := h.1 q49
            refine V_aload_n dX10_derived_55 rfl ?_
            refine V_getR 97 fl_X10_76 dX10_derived_56 rfl rfl rfl ?_
            refine V_aload_n dX10_derived_59 rfl ?_
            refine V_getR 8 fl_X10_39 dX10_derived_60 rfl rfl rfl ?_
            refine V_iload_n dX10_derived_63 rfl ?_
            obtain ⟨hi64, h⟩ := h
            have hb64 := vp_lt hi64
            refine V_aaldM (90 + Int32.toNatClampNeg a2) dX10_derived_64 rfl (by decide) hi64 rfl ?_
            refine M_Vv mv_X7_become lk_X10_220 dX10_derived_65 rfl rfl (sX7_become h) rfl rfl (Nat.le_of_ble_eq_true rfl) (by decide) (by decide) (fun M65 h => ?_)
            refine V_aload_n dX10_derived_68 rfl ?_
            refine V_getR 9 fl_X10_48 dX10_derived_69 rfl rfl rfl ?_
            refine V_iload_n dX10_derived_72 rfl ?_
            refine V_aload_n dX10_derived_73 rfl ?_
            refine V_getR 97 fl_X10_76 dX10_derived_74 rfl rfl rfl ?_
            refine V_iload_n dX10_derived_77 rfl ?_
            refine M_Vi mv_X4_deriveAt lk_X10_223 dX10_derived_78 rfl rfl (sX4_deriveAt h) rfl rfl (Nat.le_of_ble_eq_true rfl) (by decide) (by decide) (fun v78 M78 h => ?_)
            refine V_pop dX10_derived_81 rfl ?_
            refine V_aload_n dX10_derived_82 rfl ?_
            refine V_getR 97 fl_X10_76 dX10_derived_83 rfl rfl rfl ?_
            refine V_iload dX10_derived_86 rfl ?_
            refine M_Vi mv_X7_sizeOrAt lk_X10_198 dX10_derived_88 rfl rfl (sX7_sizeOrAt h) rfl rfl (Nat.le_of_ble_eq_true rfl) (by decide) (by decide) (fun v88 M88 h => ?_)
            exact V_reti dX10_derived_91 rfl rfl h
          · replace h := h.2 q49
            refine V_bipush (-3) dX10_derived_52 (by decide) ?_
            exact V_reti dX10_derived_54 rfl rfl h
        · replace h := h.2 q35
          refine V_bipush (-2) dX10_derived_38 (by decide) ?_
          exact V_reti dX10_derived_40 rfl rfl h
      · replace h := h.2 q23
        refine V_iconst (-1) dX10_derived_26 (by decide) ?_
        exact V_reti dX10_derived_27 rfl rfl h
def wX10_latest (a1 : Int32) (a2 : Int32) (M : Mem) (Q : Int32 → Mem → Prop) : Prop :=
  wX10_isPlace a1 M (fun v2 M2 => ((v2 = 0 →
      Q (-1) M2) ∧ (¬ v2 = 0 →
      wX10_isMeaning a2 M2 (fun v9 M9 => ((¬ v9 = 0 →
          wX10_isIn a2 (M9 0 17) M9 (fun v22 M22 => ((¬ v22 = 0 →
              vp_in a2 6 ∧ wX7_become 97 (90 + Int32.toNatClampNeg a2) M22 (fun M41 => wX4_deriveAt a1 97 8 M41 (fun v55 M55 => Q v55 M55))) ∧ (v22 = 0 →
              Q (-3) M22)))) ∧ (v9 = 0 →
          Q (-1) M9))))))
set_option maxHeartbeats 1000000 in
set_option maxRecDepth 20000 in
theorem sX10_latest {E : En} {a1 : Int32} {a2 : Int32} {M : Mem} {Q : Int32 → Mem → Prop} (h : wX10_latest a1 a2 M Q) : CM E 5 mX10_latest [.ref (E.2.2 0), .int a1, .int a2] M (Pi Q) := by
  unfold wX10_latest at h
  refine CM.of (by decide) rfl (Nat.le_of_ble_eq_true rfl) ?_
  refine V_aload_n dX10_latest_0 rfl ?_
  refine V_iload_n dX10_latest_1 rfl ?_
  refine M_Vi mv_X10_isPlace lk_X10_152 dX10_latest_2 rfl rfl (sX10_isPlace h) rfl rfl (Nat.le_of_ble_eq_true rfl) (by decide) (by decide) (fun v2 M2 h => ?_)
  refine V_if_eq 15 dX10_latest_5 (by decide) (fun q5 => ?_) (fun q5 => ?_)
  · replace h := h.1 q5
    refine V_iconst (-1) dX10_latest_15 (by decide) ?_
    exact V_reti dX10_latest_16 rfl rfl h
  · replace h := h.2 q5
    refine V_iload_n dX10_latest_8 rfl ?_
    refine M_Si ms_X10_isMeaning lk_X10_156 dX10_latest_9 (sX10_isMeaning h) rfl rfl (Nat.le_of_ble_eq_true rfl) (by decide) (by decide) (fun v9 M9 h => ?_)
    refine V_if_ne 17 dX10_latest_12 (by decide) (fun q12 => ?_) (fun q12 => ?_)
    · replace h := h.1 q12
      refine V_iload_n dX10_latest_17 rfl ?_
      refine V_aload_n dX10_latest_18 rfl ?_
      refine V_getI fl_X10_96 dX10_latest_19 rfl rfl ?_
      refine M_Si ms_X10_isIn lk_X10_128 dX10_latest_22 (sX10_isIn h) rfl rfl (Nat.le_of_ble_eq_true rfl) (by decide) (by decide) (fun v22 M22 h => ?_)
      refine V_if_ne 31 dX10_latest_25 (by decide) (fun q25 => ?_) (fun q25 => ?_)
      · replace h := h.1 q25
        refine V_aload_n dX10_latest_31 rfl ?_
        refine V_getR 97 fl_X10_76 dX10_latest_32 rfl rfl rfl ?_
        refine V_aload_n dX10_latest_35 rfl ?_
        refine V_getR 8 fl_X10_39 dX10_latest_36 rfl rfl rfl ?_
        refine V_iload_n dX10_latest_39 rfl ?_
        obtain ⟨hi40, h⟩ := h
        have hb40 := vp_lt hi40
        refine V_aaldM (90 + Int32.toNatClampNeg a2) dX10_latest_40 rfl (by decide) hi40 rfl ?_
        refine M_Vv mv_X7_become lk_X10_220 dX10_latest_41 rfl rfl (sX7_become h) rfl rfl (Nat.le_of_ble_eq_true rfl) (by decide) (by decide) (fun M41 h => ?_)
        refine V_aload_n dX10_latest_44 rfl ?_
        refine V_getR 9 fl_X10_48 dX10_latest_45 rfl rfl rfl ?_
        refine V_iload_n dX10_latest_48 rfl ?_
        refine V_aload_n dX10_latest_49 rfl ?_
        refine V_getR 97 fl_X10_76 dX10_latest_50 rfl rfl rfl ?_
        refine V_bipush 8 dX10_latest_53 (by decide) ?_
        refine M_Vi mv_X4_deriveAt lk_X10_223 dX10_latest_55 rfl rfl (sX4_deriveAt h) rfl rfl (Nat.le_of_ble_eq_true rfl) (by decide) (by decide) (fun v55 M55 h => ?_)
        exact V_reti dX10_latest_58 rfl rfl h
      · replace h := h.2 q25
        refine V_bipush (-3) dX10_latest_28 (by decide) ?_
        exact V_reti dX10_latest_30 rfl rfl h
    · replace h := h.2 q12
      refine V_iconst (-1) dX10_latest_15 (by decide) ?_
      exact V_reti dX10_latest_16 rfl rfl h
def wX10_gap (a1 : Int32) (M : Mem) (Q : Int32 → Mem → Prop) : Prop :=
  wX10_isWithin a1 1 20 M (fun v4 M4 => ((¬ v4 = 0 →
      (∀ N26, N26 = mset M4 13 2 a1 → Q (M4 13 2) N26)) ∧ (v4 = 0 →
      Q (-2) M4)))
set_option maxHeartbeats 1000000 in
set_option maxRecDepth 20000 in
theorem sX10_gap {E : En} {a1 : Int32} {M : Mem} {Q : Int32 → Mem → Prop} (h : wX10_gap a1 M Q) : CM E 2 mX10_gap [.ref (E.2.2 0), .int a1] M (Pi Q) := by
  unfold wX10_gap at h
  refine CM.of (by decide) rfl (Nat.le_of_ble_eq_true rfl) ?_
  refine V_iload_n dX10_gap_0 rfl ?_
  refine V_iconst 1 dX10_gap_1 (by decide) ?_
  refine V_bipush 20 dX10_gap_2 (by decide) ?_
  refine M_Si ms_X10_isWithin lk_X10_142 dX10_gap_4 (sX10_isWithin h) rfl rfl (Nat.le_of_ble_eq_true rfl) (by decide) (by decide) (fun v4 M4 h => ?_)
  refine V_if_ne 13 dX10_gap_7 (by decide) (fun q7 => ?_) (fun q7 => ?_)
  · replace h := h.1 q7
    refine V_aload_n dX10_gap_13 rfl ?_
    refine V_getR 13 fl_X10_55 dX10_gap_14 rfl rfl rfl ?_
    refine V_getI fl_X10_227 dX10_gap_17 rfl rfl ?_
    refine V_istore_n dX10_gap_20 (by decide) ?_
    refine V_aload_n dX10_gap_21 rfl ?_
    refine V_getR 13 fl_X10_55 dX10_gap_22 rfl rfl rfl ?_
    refine V_iload_n dX10_gap_25 rfl ?_
    refine V_putN fp_X10_227 dX10_gap_26 rfl rfl rfl rfl (fun N26 e26 => ?_)
    replace h := h N26 e26
    refine V_iload_n dX10_gap_29 rfl ?_
    exact V_reti dX10_gap_30 rfl rfl h
  · replace h := h.2 q7
    refine V_bipush (-2) dX10_gap_10 (by decide) ?_
    exact V_reti dX10_gap_12 rfl rfl h
def wX10_cost (a1 : Int32) (a2 : Int32) (M : Mem) (Q : Int32 → Mem → Prop) : Prop :=
  wX10_isForm a1 M (fun v2 M2 => ((v2 = 0 →
      Q (-1) M2) ∧ (¬ v2 = 0 →
      wX10_isForm a2 M2 (fun v10 M10 => ((¬ v10 = 0 →
          vp_in a1 40 ∧ vp_in a2 40 ∧ wX6_leastCost ((150 + Int32.toNatClampNeg a1) - 100) ((150 + Int32.toNatClampNeg a2) - 100) M10 (fun v40 M40 => Q v40 M40)) ∧ (v10 = 0 →
          Q (-1) M10))))))
set_option maxHeartbeats 1000000 in
set_option maxRecDepth 20000 in
theorem sX10_cost {E : En} {a1 : Int32} {a2 : Int32} {M : Mem} {Q : Int32 → Mem → Prop} (h : wX10_cost a1 a2 M Q) : CM E 5 mX10_cost [.ref (E.2.2 0), .int a1, .int a2] M (Pi Q) := by
  unfold wX10_cost at h
  refine CM.of (by decide) rfl (Nat.le_of_ble_eq_true rfl) ?_
  refine V_aload_n dX10_cost_0 rfl ?_
  refine V_iload_n dX10_cost_1 rfl ?_
  refine M_Vi mv_X10_isForm lk_X10_176 dX10_cost_2 rfl rfl (sX10_isForm h) rfl rfl (Nat.le_of_ble_eq_true rfl) (by decide) (by decide) (fun v2 M2 h => ?_)
  refine V_if_eq 16 dX10_cost_5 (by decide) (fun q5 => ?_) (fun q5 => ?_)
  · replace h := h.1 q5
    refine V_iconst (-1) dX10_cost_16 (by decide) ?_
    exact V_reti dX10_cost_17 rfl rfl h
  · replace h := h.2 q5
    refine V_aload_n dX10_cost_8 rfl ?_
    refine V_iload_n dX10_cost_9 rfl ?_
    refine M_Vi mv_X10_isForm lk_X10_176 dX10_cost_10 rfl rfl (sX10_isForm h) rfl rfl (Nat.le_of_ble_eq_true rfl) (by decide) (by decide) (fun v10 M10 h => ?_)
    refine V_if_ne 18 dX10_cost_13 (by decide) (fun q13 => ?_) (fun q13 => ?_)
    · replace h := h.1 q13
      refine V_aload_n dX10_cost_18 rfl ?_
      refine V_getR 13 fl_X10_55 dX10_cost_19 rfl rfl rfl ?_
      refine V_aload_n dX10_cost_22 rfl ?_
      refine V_getR 6 fl_X10_30 dX10_cost_23 rfl rfl rfl ?_
      refine V_iload_n dX10_cost_26 rfl ?_
      obtain ⟨hi27, h⟩ := h
      have hb27 := vp_lt hi27
      refine V_aaldM (150 + Int32.toNatClampNeg a1) dX10_cost_27 rfl (by decide) hi27 rfl ?_
      refine V_getR ((150 + Int32.toNatClampNeg a1) - 100) fl_X10_188 dX10_cost_28 (kd_X2 (by omega)) rfl (rf_X2 (by omega)) ?_
      refine V_aload_n dX10_cost_31 rfl ?_
      refine V_getR 6 fl_X10_30 dX10_cost_32 rfl rfl rfl ?_
      refine V_iload_n dX10_cost_35 rfl ?_
      obtain ⟨hi36, h⟩ := h
      have hb36 := vp_lt hi36
      refine V_aaldM (150 + Int32.toNatClampNeg a2) dX10_cost_36 rfl (by decide) hi36 rfl ?_
      refine V_getR ((150 + Int32.toNatClampNeg a2) - 100) fl_X10_188 dX10_cost_37 (kd_X2 (by omega)) rfl (rf_X2 (by omega)) ?_
      refine M_Vi mv_X6_leastCost lk_X10_230 dX10_cost_40 rfl rfl (sX6_leastCost h) rfl rfl (Nat.le_of_ble_eq_true rfl) (by decide) (by decide) (fun v40 M40 h => ?_)
      exact V_reti dX10_cost_43 rfl rfl h
    · replace h := h.2 q13
      refine V_iconst (-1) dX10_cost_16 (by decide) ?_
      exact V_reti dX10_cost_17 rfl rfl h
def wX10_align (a1 : Int32) (a2 : Int32) (a3 : Int32) (M : Mem) (Q : Int32 → Mem → Prop) : Prop :=
  wX10_isForm a1 M (fun v2 M2 => ((v2 = 0 →
      Q (-1) M2) ∧ (¬ v2 = 0 →
      wX10_isForm a2 M2 (fun v10 M10 => ((v10 = 0 →
          Q (-1) M10) ∧ (¬ v10 = 0 →
          wX10_isWithin a3 (-1) 15 M10 (fun v20 M20 => ((¬ v20 = 0 →
              vp_in a1 40 ∧ vp_in a2 40 ∧ wX6_column ((150 + Int32.toNatClampNeg a1) - 100) ((150 + Int32.toNatClampNeg a2) - 100) a3 M20 (fun v51 M51 => Q v51 M51)) ∧ (v20 = 0 →
              Q (-1) M20)))))))))
set_option maxHeartbeats 1000000 in
set_option maxRecDepth 20000 in
theorem sX10_align {E : En} {a1 : Int32} {a2 : Int32} {a3 : Int32} {M : Mem} {Q : Int32 → Mem → Prop} (h : wX10_align a1 a2 a3 M Q) : CM E 6 mX10_align [.ref (E.2.2 0), .int a1, .int a2, .int a3] M (Pi Q) := by
  unfold wX10_align at h
  refine CM.of (by decide) rfl (Nat.le_of_ble_eq_true rfl) ?_
  refine V_aload_n dX10_align_0 rfl ?_
  refine V_iload_n dX10_align_1 rfl ?_
  refine M_Vi mv_X10_isForm lk_X10_176 dX10_align_2 rfl rfl (sX10_isForm h) rfl rfl (Nat.le_of_ble_eq_true rfl) (by decide) (by decide) (fun v2 M2 h => ?_)
  refine V_if_eq 26 dX10_align_5 (by decide) (fun q5 => ?_) (fun q5 => ?_)
  · replace h := h.1 q5
    refine V_iconst (-1) dX10_align_26 (by decide) ?_
    exact V_reti dX10_align_27 rfl rfl h
  · replace h := h.2 q5
    refine V_aload_n dX10_align_8 rfl ?_
    refine V_iload_n dX10_align_9 rfl ?_
    refine M_Vi mv_X10_isForm lk_X10_176 dX10_align_10 rfl rfl (sX10_isForm h) rfl rfl (Nat.le_of_ble_eq_true rfl) (by decide) (by decide) (fun v10 M10 h => ?_)
    refine V_if_eq 26 dX10_align_13 (by decide) (fun q13 => ?_) (fun q13 => ?_)
    · replace h := h.1 q13
      refine V_iconst (-1) dX10_align_26 (by decide) ?_
      exact V_reti dX10_align_27 rfl rfl h
    · replace h := h.2 q13
      refine V_iload_n dX10_align_16 rfl ?_
      refine V_iconst (-1) dX10_align_17 (by decide) ?_
      refine V_bipush 15 dX10_align_18 (by decide) ?_
      refine M_Si ms_X10_isWithin lk_X10_142 dX10_align_20 (sX10_isWithin h) rfl rfl (Nat.le_of_ble_eq_true rfl) (by decide) (by decide) (fun v20 M20 h => ?_)
      refine V_if_ne 28 dX10_align_23 (by decide) (fun q23 => ?_) (fun q23 => ?_)
      · replace h := h.1 q23
        refine V_aload_n dX10_align_28 rfl ?_
        refine V_getR 13 fl_X10_55 dX10_align_29 rfl rfl rfl ?_
        refine V_aload_n dX10_align_32 rfl ?_
        refine V_getR 6 fl_X10_30 dX10_align_33 rfl rfl rfl ?_
        refine V_iload_n dX10_align_36 rfl ?_
        obtain ⟨hi37, h⟩ := h
        have hb37 := vp_lt hi37
        refine V_aaldM (150 + Int32.toNatClampNeg a1) dX10_align_37 rfl (by decide) hi37 rfl ?_
        refine V_getR ((150 + Int32.toNatClampNeg a1) - 100) fl_X10_188 dX10_align_38 (kd_X2 (by omega)) rfl (rf_X2 (by omega)) ?_
        refine V_aload_n dX10_align_41 rfl ?_
        refine V_getR 6 fl_X10_30 dX10_align_42 rfl rfl rfl ?_
        refine V_iload_n dX10_align_45 rfl ?_
        obtain ⟨hi46, h⟩ := h
        have hb46 := vp_lt hi46
        refine V_aaldM (150 + Int32.toNatClampNeg a2) dX10_align_46 rfl (by decide) hi46 rfl ?_
        refine V_getR ((150 + Int32.toNatClampNeg a2) - 100) fl_X10_188 dX10_align_47 (kd_X2 (by omega)) rfl (rf_X2 (by omega)) ?_
        refine V_iload_n dX10_align_50 rfl ?_
        refine M_Vi mv_X6_column lk_X10_234 dX10_align_51 rfl rfl (sX6_column h) rfl rfl (Nat.le_of_ble_eq_true rfl) (by decide) (by decide) (fun v51 M51 h => ?_)
        exact V_reti dX10_align_54 rfl rfl h
      · replace h := h.2 q23
        refine V_iconst (-1) dX10_align_26 (by decide) ?_
        exact V_reti dX10_align_27 rfl rfl h
def wX10_isSoughtSet (a0 : Int32) (M : Mem) (Q : Int32 → Mem → Prop) : Prop :=
  wX10_isSetBelow a0 16 M (fun v3 M3 => ((v3 = 0 →
      Q 0 M3) ∧ (¬ v3 = 0 →
      wJ6_bitCount_0f7a4 a0 M3 (fun v10 M10 => wX10_isWithin v10 1 5 M10 (fun v15 M15 => ((v15 = 0 →
            Q 0 M15) ∧ (¬ v15 = 0 →
            Q 1 M15)))))))
set_option maxHeartbeats 1000000 in
set_option maxRecDepth 20000 in
theorem sX10_isSoughtSet {E : En} {a0 : Int32} {M : Mem} {Q : Int32 → Mem → Prop} (h : wX10_isSoughtSet a0 M Q) : CM E 2 mX10_isSoughtSet [.int a0] M (Pi Q) := by
  unfold wX10_isSoughtSet at h
  refine CM.of (by decide) rfl (Nat.le_of_ble_eq_true rfl) ?_
  refine V_iload_n dX10_isSoughtSet_0 rfl ?_
  refine V_bipush 16 dX10_isSoughtSet_1 (by decide) ?_
  refine M_Si ms_X10_isSetBelow lk_X10_118 dX10_isSoughtSet_3 (sX10_isSetBelow h) rfl rfl (Nat.le_of_ble_eq_true rfl) (by decide) (by decide) (fun v3 M3 h => ?_)
  refine V_if_eq 25 dX10_isSoughtSet_6 (by decide) (fun q6 => ?_) (fun q6 => ?_)
  · replace h := h.1 q6
    refine V_iconst 0 dX10_isSoughtSet_25 (by decide) ?_
    exact V_reti dX10_isSoughtSet_26 rfl rfl h
  · replace h := h.2 q6
    refine V_iload_n dX10_isSoughtSet_9 rfl ?_
    refine M_Si ms_J6_bitCount_0f7a4 lk_X10_346 dX10_isSoughtSet_10 (sJ6_bitCount_0f7a4 h) rfl rfl (Nat.le_of_ble_eq_true rfl) (by decide) (by decide) (fun v10 M10 h => ?_)
    refine V_iconst 1 dX10_isSoughtSet_13 (by decide) ?_
    refine V_iconst 5 dX10_isSoughtSet_14 (by decide) ?_
    refine M_Si ms_X10_isWithin lk_X10_142 dX10_isSoughtSet_15 (sX10_isWithin h) rfl rfl (Nat.le_of_ble_eq_true rfl) (by decide) (by decide) (fun v15 M15 h => ?_)
    refine V_if_eq 25 dX10_isSoughtSet_18 (by decide) (fun q18 => ?_) (fun q18 => ?_)
    · replace h := h.1 q18
      refine V_iconst 0 dX10_isSoughtSet_25 (by decide) ?_
      exact V_reti dX10_isSoughtSet_26 rfl rfl h
    · replace h := h.2 q18
      refine V_iconst 1 dX10_isSoughtSet_21 (by decide) ?_
      refine V_goto 26 dX10_isSoughtSet_22 (by decide) ?_
      exact V_reti dX10_isSoughtSet_26 rfl rfl h
def wX10_saidPlaces (a1 : Int32) (M : Mem) (Q : Int32 → Mem → Prop) : Prop :=
  (∃ n, lq2 (fun R4 (x4_2 : Int32) (x4_3 : Int32) (M4 : Mem) => (((M4 0 15) ≤ x4_3 →
      Q x4_2 M4) ∧ (¬ (M4 0 15) ≤ x4_3 →
      vp_in ((x4_3 * 6) + a1) 48 ∧ wX10_isForm (M4 7 (Int32.toNatClampNeg ((x4_3 * 6) + a1))) M4 (fun v24 M24 => ((v24 = 0 →
          R4 x4_2 (x4_3 + 1) M24) ∧ (¬ v24 = 0 →
          R4 (x4_2 ||| (1 <<< (x4_3 &&& 31))) (x4_3 + 1) M24)))))) n 0 0 M)
set_option maxHeartbeats 1000000 in
set_option maxRecDepth 20000 in
theorem sX10_saidPlaces {E : En} {a1 : Int32} {M : Mem} {Q : Int32 → Mem → Prop} (h : wX10_saidPlaces a1 M Q) : CM E 3 mX10_saidPlaces [.ref (E.2.2 0), .int a1] M (Pi Q) := by
  unfold wX10_saidPlaces at h
  refine CM.of (by decide) rfl (Nat.le_of_ble_eq_true rfl) ?_
  refine V_iconst 0 dX10_saidPlaces_0 (by decide) ?_
  refine V_istore_n dX10_saidPlaces_1 (by decide) ?_
  refine V_iconst 0 dX10_saidPlaces_2 (by decide) ?_
  refine V_istore_n dX10_saidPlaces_3 (by decide) ?_
  obtain ⟨n4, h⟩ := h
  refine V_take 4 ?_
  refine lq2_use (P := fun (x4_2 : Int32) (x4_3 : Int32) (M4 : Mem) => V (Km E 3 (Pi Q)) mX10_saidPlaces 4 [.ref (E.2.2 0), .int a1, .int x4_2, .int x4_3] [] (wsM E.1 E.2.2 M4) 0 0) (fun R4 hR4 x4_2 x4_3 M4 h => ?_) n4 _ _ _ h
  refine V_iload_n dX10_saidPlaces_4 rfl ?_
  refine V_aload_n dX10_saidPlaces_5 rfl ?_
  refine V_getI fl_X10_89 dX10_saidPlaces_6 rfl rfl ?_
  refine V_icmp_ge 42 dX10_saidPlaces_9 (by decide) (fun q9 => ?_) (fun q9 => ?_)
  · replace h := h.1 q9
    refine V_iload_n dX10_saidPlaces_42 rfl ?_
    exact V_reti dX10_saidPlaces_43 rfl rfl h
  · replace h := h.2 q9
    refine V_aload_n dX10_saidPlaces_12 rfl ?_
    refine V_aload_n dX10_saidPlaces_13 rfl ?_
    refine V_getR 7 fl_X10_34 dX10_saidPlaces_14 rfl rfl rfl ?_
    refine V_iload_n dX10_saidPlaces_17 rfl ?_
    refine V_bipush 6 dX10_saidPlaces_18 (by decide) ?_
    refine V_imul dX10_saidPlaces_20 ?_
    refine V_iload_n dX10_saidPlaces_21 rfl ?_
    refine V_iadd dX10_saidPlaces_22 ?_
    obtain ⟨hi23, h⟩ := h
    refine V_ialdM dX10_saidPlaces_23 rfl hi23 ?_
    refine M_Vi mv_X10_isForm lk_X10_176 dX10_saidPlaces_24 rfl rfl (sX10_isForm h) rfl rfl (Nat.le_of_ble_eq_true rfl) (by decide) (by decide) (fun v24 M24 h => ?_)
    refine V_if_eq 36 dX10_saidPlaces_27 (by decide) (fun q27 => ?_) (fun q27 => ?_)
    · replace h := h.1 q27
      refine V_iincC 1 dX10_saidPlaces_36 (by decide) rfl (by decide) ?_
      refine V_goto 4 dX10_saidPlaces_39 (by decide) ?_
      refine V_take 4 ?_
      exact hR4 _ _ _ h
    · replace h := h.2 q27
      refine V_iload_n dX10_saidPlaces_30 rfl ?_
      refine V_iconst 1 dX10_saidPlaces_31 (by decide) ?_
      refine V_iload_n dX10_saidPlaces_32 rfl ?_
      refine V_ishl dX10_saidPlaces_33 ?_
      refine V_ior dX10_saidPlaces_34 ?_
      refine V_istore_n dX10_saidPlaces_35 (by decide) ?_
      refine V_iincC 1 dX10_saidPlaces_36 (by decide) rfl (by decide) ?_
      refine V_goto 4 dX10_saidPlaces_39 (by decide) ?_
      refine V_take 4 ?_
      exact hR4 _ _ _ h
def wX10_costsOfTrial (a1 : Int32) (a2 : Int32) (M : Mem) (Q : Int32 → Mem → Prop) : Prop :=
  (∃ n, lq2 (fun R5 (x5_3 : Int32) (x5_4 : Int32) (M5 : Mem) => (((M5 0 15) ≤ x5_4 →
      Q x5_3 M5) ∧ (¬ (M5 0 15) ≤ x5_4 →
      ((a2 ≤ x5_3 →
        Q x5_3 M5) ∧ (¬ a2 ≤ x5_3 →
        vp_in ((x5_4 * 6) + a1) 48 ∧ wX10_isForm (M5 7 (Int32.toNatClampNeg ((x5_4 * 6) + a1))) M5 (fun v36 M36 => ((¬ v36 = 0 →
            wX7_become 97 98 M36 (fun M53 => wX4_deriveAt x5_4 97 8 M53 (fun v68 M68 => vp_in (M5 7 (Int32.toNatClampNeg ((x5_4 * 6) + a1))) 40 ∧ wX6_leastCost 97 ((150 + Int32.toNatClampNeg (M5 7 (Int32.toNatClampNeg ((x5_4 * 6) + a1)))) - 100) M68 (fun v91 M91 => R5 (x5_3 + v91) (x5_4 + 1) M91)))) ∧ (v36 = 0 →
            R5 x5_3 (x5_4 + 1) M36)))))))) n 0 0 M)
set_option maxHeartbeats 1000000 in
set_option maxRecDepth 20000 in
theorem sX10_costsOfTrial {E : En} {a1 : Int32} {a2 : Int32} {M : Mem} {Q : Int32 → Mem → Prop} (h : wX10_costsOfTrial a1 a2 M Q) : CM E 5 mX10_costsOfTrial [.ref (E.2.2 0), .int a1, .int a2] M (Pi Q) := by
  unfold wX10_costsOfTrial at h
  refine CM.of (by decide) rfl (Nat.le_of_ble_eq_true rfl) ?_
  refine V_iconst 0 dX10_costsOfTrial_0 (by decide) ?_
  refine V_istore_n dX10_costsOfTrial_1 (by decide) ?_
  refine V_iconst 0 dX10_costsOfTrial_2 (by decide) ?_
  refine V_istore dX10_costsOfTrial_3 (by decide) ?_
  obtain ⟨n5, h⟩ := h
  refine V_take 5 ?_
  refine lq2_use (P := fun (x5_3 : Int32) (x5_4 : Int32) (M5 : Mem) => V (Km E 5 (Pi Q)) mX10_costsOfTrial 5 [.ref (E.2.2 0), .int a1, .int a2, .int x5_3, .int x5_4] [] (wsM E.1 E.2.2 M5) 0 0) (fun R5 hR5 x5_3 x5_4 M5 h => ?_) n5 _ _ _ h
  refine V_iload dX10_costsOfTrial_5 rfl ?_
  refine V_aload_n dX10_costsOfTrial_7 rfl ?_
  refine V_getI fl_X10_89 dX10_costsOfTrial_8 rfl rfl ?_
  refine V_icmp_ge 102 dX10_costsOfTrial_11 (by decide) (fun q11 => ?_) (fun q11 => ?_)
  · replace h := h.1 q11
    refine V_iload_n dX10_costsOfTrial_102 rfl ?_
    exact V_reti dX10_costsOfTrial_103 rfl rfl h
  · replace h := h.2 q11
    refine V_iload_n dX10_costsOfTrial_14 rfl ?_
    refine V_iload_n dX10_costsOfTrial_15 rfl ?_
    refine V_icmp_ge 102 dX10_costsOfTrial_16 (by decide) (fun q16 => ?_) (fun q16 => ?_)
    · replace h := h.1 q16
      refine V_iload_n dX10_costsOfTrial_102 rfl ?_
      exact V_reti dX10_costsOfTrial_103 rfl rfl h
    · replace h := h.2 q16
      refine V_aload_n dX10_costsOfTrial_19 rfl ?_
      refine V_getR 7 fl_X10_34 dX10_costsOfTrial_20 rfl rfl rfl ?_
      refine V_iload dX10_costsOfTrial_23 rfl ?_
      refine V_bipush 6 dX10_costsOfTrial_25 (by decide) ?_
      refine V_imul dX10_costsOfTrial_27 ?_
      refine V_iload_n dX10_costsOfTrial_28 rfl ?_
      refine V_iadd dX10_costsOfTrial_29 ?_
      obtain ⟨hi30, h⟩ := h
      refine V_ialdM dX10_costsOfTrial_30 rfl hi30 ?_
      refine V_istore dX10_costsOfTrial_31 (by decide) ?_
      refine V_aload_n dX10_costsOfTrial_33 rfl ?_
      refine V_iload dX10_costsOfTrial_34 rfl ?_
      refine M_Vi mv_X10_isForm lk_X10_176 dX10_costsOfTrial_36 rfl rfl (sX10_isForm h) rfl rfl (Nat.le_of_ble_eq_true rfl) (by decide) (by decide) (fun v36 M36 h => ?_)
      refine V_if_ne 45 dX10_costsOfTrial_39 (by decide) (fun q39 => ?_) (fun q39 => ?_)
      · replace h := h.1 q39
        refine V_aload_n dX10_costsOfTrial_45 rfl ?_
        refine V_getR 97 fl_X10_76 dX10_costsOfTrial_46 rfl rfl rfl ?_
        refine V_aload_n dX10_costsOfTrial_49 rfl ?_
        refine V_getR 98 fl_X10_80 dX10_costsOfTrial_50 rfl rfl rfl ?_
        refine M_Vv mv_X7_become lk_X10_220 dX10_costsOfTrial_53 rfl rfl (sX7_become h) rfl rfl (Nat.le_of_ble_eq_true rfl) (by decide) (by decide) (fun M53 h => ?_)
        refine V_aload_n dX10_costsOfTrial_56 rfl ?_
        refine V_getR 9 fl_X10_48 dX10_costsOfTrial_57 rfl rfl rfl ?_
        refine V_iload dX10_costsOfTrial_60 rfl ?_
        refine V_aload_n dX10_costsOfTrial_62 rfl ?_
        refine V_getR 97 fl_X10_76 dX10_costsOfTrial_63 rfl rfl rfl ?_
        refine V_bipush 8 dX10_costsOfTrial_66 (by decide) ?_
        refine M_Vi mv_X4_deriveAt lk_X10_223 dX10_costsOfTrial_68 rfl rfl (sX4_deriveAt h) rfl rfl (Nat.le_of_ble_eq_true rfl) (by decide) (by decide) (fun v68 M68 h => ?_)
        refine V_pop dX10_costsOfTrial_71 rfl ?_
        refine V_iload_n dX10_costsOfTrial_72 rfl ?_
        refine V_aload_n dX10_costsOfTrial_73 rfl ?_
        refine V_getR 13 fl_X10_55 dX10_costsOfTrial_74 rfl rfl rfl ?_
        refine V_aload_n dX10_costsOfTrial_77 rfl ?_
        refine V_getR 97 fl_X10_76 dX10_costsOfTrial_78 rfl rfl rfl ?_
        refine V_aload_n dX10_costsOfTrial_81 rfl ?_
        refine V_getR 6 fl_X10_30 dX10_costsOfTrial_82 rfl rfl rfl ?_
        refine V_iload dX10_costsOfTrial_85 rfl ?_
        obtain ⟨hi87, h⟩ := h
        have hb87 := vp_lt hi87
        refine V_aaldM (150 + Int32.toNatClampNeg (M5 7 (Int32.toNatClampNeg ((x5_4 * 6) + a1)))) dX10_costsOfTrial_87 rfl (by decide) hi87 rfl ?_
        refine V_getR ((150 + Int32.toNatClampNeg (M5 7 (Int32.toNatClampNeg ((x5_4 * 6) + a1)))) - 100) fl_X10_188 dX10_costsOfTrial_88 (kd_X2 (by omega)) rfl (rf_X2 (by omega)) ?_
        refine M_Vi mv_X6_leastCost lk_X10_230 dX10_costsOfTrial_91 rfl rfl (sX6_leastCost h) rfl rfl (Nat.le_of_ble_eq_true rfl) (by decide) (by decide) (fun v91 M91 h => ?_)
        refine V_iadd dX10_costsOfTrial_94 ?_
        refine V_istore_n dX10_costsOfTrial_95 (by decide) ?_
        refine V_iincC 1 dX10_costsOfTrial_96 (by decide) rfl (by decide) ?_
        refine V_goto 5 dX10_costsOfTrial_99 (by decide) ?_
        refine V_take 5 ?_
        exact hR5 _ _ _ h
      · replace h := h.2 q39
        refine V_goto 96 dX10_costsOfTrial_42 (by decide) ?_
        refine V_iincC 1 dX10_costsOfTrial_96 (by decide) rfl (by decide) ?_
        refine V_goto 5 dX10_costsOfTrial_99 (by decide) ?_
        refine V_take 5 ?_
        exact hR5 _ _ _ h
def wX10_seekBest (a1 : Int32) (a2 : Int32) (M : Mem) (Q : Int32 → Mem → Prop) : Prop :=
  wX0_begin a2 M (fun M5 => (∃ n, lq2 (fun R14 (x14_3 : Int32) (x14_4 : Int32) (M14 : Mem) => (((M14 15 2) ≤ x14_4 →
        Q x14_3 M14) ∧ (¬ (M14 15 2) ≤ x14_4 →
        wX0_writeTo 98 x14_4 M14 (fun M36 => wX10_costsOfTrial a1 x14_3 M36 (fun v42 M42 => ((x14_3 ≤ v42 →
              R14 x14_3 (x14_4 + 1) M42) ∧ (¬ x14_3 ≤ v42 →
              wX7_become 99 98 M42 (fun M64 => R14 v42 (x14_4 + 1) M64)))))))) n 2147483647 0 M5))
set_option maxHeartbeats 1000000 in
set_option maxRecDepth 20000 in
theorem sX10_seekBest {E : En} {a1 : Int32} {a2 : Int32} {M : Mem} {Q : Int32 → Mem → Prop} (h : wX10_seekBest a1 a2 M Q) : CM E 6 mX10_seekBest [.ref (E.2.2 0), .int a1, .int a2] M (Pi Q) := by
  unfold wX10_seekBest at h
  refine CM.of (by decide) rfl (Nat.le_of_ble_eq_true rfl) ?_
  refine V_aload_n dX10_seekBest_0 rfl ?_
  refine V_getR 15 fl_X10_62 dX10_seekBest_1 rfl rfl rfl ?_
  refine V_iload_n dX10_seekBest_4 rfl ?_
  refine M_Vv mv_X0_begin lk_X10_247 dX10_seekBest_5 rfl rfl (sX0_begin h) rfl rfl (Nat.le_of_ble_eq_true rfl) (by decide) (by decide) (fun M5 h => ?_)
  refine V_ldc 2147483647 dX10_seekBest_8 k_X10_253 ?_
  refine V_istore_n dX10_seekBest_10 (by decide) ?_
  refine V_iconst 0 dX10_seekBest_11 (by decide) ?_
  refine V_istore dX10_seekBest_12 (by decide) ?_
  obtain ⟨n14, h⟩ := h
  refine V_take 5 ?_
  refine lq2_use (P := fun (x14_3 : Int32) (x14_4 : Int32) (M14 : Mem) => ∀ j14_2 : Value, V (Km E 6 (Pi Q)) mX10_seekBest 14 [.ref (E.2.2 0), .int a1, j14_2, .int x14_3, .int x14_4] [] (wsM E.1 E.2.2 M14) 0 0) (fun R14 hR14 x14_3 x14_4 M14 h j14_2 => ?_) n14 _ _ _ h _
  refine V_iload dX10_seekBest_14 rfl ?_
  refine V_aload_n dX10_seekBest_16 rfl ?_
  refine V_getR 15 fl_X10_62 dX10_seekBest_17 rfl rfl rfl ?_
  refine V_getI fl_X10_254 dX10_seekBest_20 rfl rfl ?_
  refine V_icmp_ge 73 dX10_seekBest_23 (by decide) (fun q23 => ?_) (fun q23 => ?_)
  · replace h := h.1 q23
    refine V_iload_n dX10_seekBest_73 rfl ?_
    exact V_reti dX10_seekBest_74 rfl rfl h
  · replace h := h.2 q23
    refine V_aload_n dX10_seekBest_26 rfl ?_
    refine V_getR 15 fl_X10_62 dX10_seekBest_27 rfl rfl rfl ?_
    refine V_aload_n dX10_seekBest_30 rfl ?_
    refine V_getR 98 fl_X10_80 dX10_seekBest_31 rfl rfl rfl ?_
    refine V_iload dX10_seekBest_34 rfl ?_
    refine M_Vv mv_X0_writeTo lk_X10_257 dX10_seekBest_36 rfl rfl (sX0_writeTo h) rfl rfl (Nat.le_of_ble_eq_true rfl) (by decide) (by decide) (fun M36 h => ?_)
    refine V_aload_n dX10_seekBest_39 rfl ?_
    refine V_iload_n dX10_seekBest_40 rfl ?_
    refine V_iload_n dX10_seekBest_41 rfl ?_
    refine M_Vi mv_X10_costsOfTrial lk_X10_261 dX10_seekBest_42 rfl rfl (sX10_costsOfTrial h) rfl rfl (Nat.le_of_ble_eq_true rfl) (by decide) (by decide) (fun v42 M42 h => ?_)
    refine V_istore dX10_seekBest_45 (by decide) ?_
    refine V_iload dX10_seekBest_47 rfl ?_
    refine V_iload_n dX10_seekBest_49 rfl ?_
    refine V_icmp_ge 67 dX10_seekBest_50 (by decide) (fun q50 => ?_) (fun q50 => ?_)
    · replace h := h.1 q50
      refine V_iincC 1 dX10_seekBest_67 (by decide) rfl (by decide) ?_
      refine V_goto 14 dX10_seekBest_70 (by decide) ?_
      refine V_take 5 ?_
      exact hR14 _ _ _ h _
    · replace h := h.2 q50
      refine V_iload dX10_seekBest_53 rfl ?_
      refine V_istore_n dX10_seekBest_55 (by decide) ?_
      refine V_aload_n dX10_seekBest_56 rfl ?_
      refine V_getR 99 fl_X10_83 dX10_seekBest_57 rfl rfl rfl ?_
      refine V_aload_n dX10_seekBest_60 rfl ?_
      refine V_getR 98 fl_X10_80 dX10_seekBest_61 rfl rfl rfl ?_
      refine M_Vv mv_X7_become lk_X10_220 dX10_seekBest_64 rfl rfl (sX7_become h) rfl rfl (Nat.le_of_ble_eq_true rfl) (by decide) (by decide) (fun M64 h => ?_)
      refine V_iincC 1 dX10_seekBest_67 (by decide) rfl (by decide) ?_
      refine V_goto 14 dX10_seekBest_70 (by decide) ?_
      refine V_take 5 ?_
      exact hR14 _ _ _ h _
def wX10_sought (a1 : Int32) (a2 : Int32) (a3 : Int32) (M : Mem) (Q : Int32 → Mem → Prop) : Prop :=
  wX10_isMeaning a1 M (fun v1 M1 => ((v1 = 0 →
      Q (-1) M1) ∧ (¬ v1 = 0 →
      wX10_isWithin a3 (-2) 2 M1 (fun v11 M11 => ((¬ v11 = 0 →
          wX10_isSoughtSet a2 M11 (fun v20 M20 => ((¬ v20 = 0 →
              wX10_saidPlaces a1 M20 (fun v31 M31 => ((¬ v31 = 0 →
                  wX10_seekBest a1 a2 M31 (fun v43 M43 => ((¬ a3 = (-2) →
                      wX7_sizeOrAt 99 a3 M43 (fun v64 M64 => Q v64 M64)) ∧ (a3 = (-2) →
                      Q v43 M43)))) ∧ (v31 = 0 →
                  Q (-3) M31)))) ∧ (v20 = 0 →
              Q (-2) M20)))) ∧ (v11 = 0 →
          Q (-1) M11))))))
set_option maxHeartbeats 1000000 in
set_option maxRecDepth 20000 in
theorem sX10_sought {E : En} {a1 : Int32} {a2 : Int32} {a3 : Int32} {M : Mem} {Q : Int32 → Mem → Prop} (h : wX10_sought a1 a2 a3 M Q) : CM E 7 mX10_sought [.ref (E.2.2 0), .int a1, .int a2, .int a3] M (Pi Q) := by
  unfold wX10_sought at h
  refine CM.of (by decide) rfl (Nat.le_of_ble_eq_true rfl) ?_
  refine V_iload_n dX10_sought_0 rfl ?_
  refine M_Si ms_X10_isMeaning lk_X10_156 dX10_sought_1 (sX10_isMeaning h) rfl rfl (Nat.le_of_ble_eq_true rfl) (by decide) (by decide) (fun v1 M1 h => ?_)
  refine V_if_eq 17 dX10_sought_4 (by decide) (fun q4 => ?_) (fun q4 => ?_)
  · replace h := h.1 q4
    refine V_iconst (-1) dX10_sought_17 (by decide) ?_
    exact V_reti dX10_sought_18 rfl rfl h
  · replace h := h.2 q4
    refine V_iload_n dX10_sought_7 rfl ?_
    refine V_bipush (-2) dX10_sought_8 (by decide) ?_
    refine V_iconst 2 dX10_sought_10 (by decide) ?_
    refine M_Si ms_X10_isWithin lk_X10_142 dX10_sought_11 (sX10_isWithin h) rfl rfl (Nat.le_of_ble_eq_true rfl) (by decide) (by decide) (fun v11 M11 h => ?_)
    refine V_if_ne 19 dX10_sought_14 (by decide) (fun q14 => ?_) (fun q14 => ?_)
    · replace h := h.1 q14
      refine V_iload_n dX10_sought_19 rfl ?_
      refine M_Si ms_X10_isSoughtSet lk_X10_238 dX10_sought_20 (sX10_isSoughtSet h) rfl rfl (Nat.le_of_ble_eq_true rfl) (by decide) (by decide) (fun v20 M20 h => ?_)
      refine V_if_ne 29 dX10_sought_23 (by decide) (fun q23 => ?_) (fun q23 => ?_)
      · replace h := h.1 q23
        refine V_aload_n dX10_sought_29 rfl ?_
        refine V_iload_n dX10_sought_30 rfl ?_
        refine M_Vi mv_X10_saidPlaces lk_X10_241 dX10_sought_31 rfl rfl (sX10_saidPlaces h) rfl rfl (Nat.le_of_ble_eq_true rfl) (by decide) (by decide) (fun v31 M31 h => ?_)
        refine V_if_ne 40 dX10_sought_34 (by decide) (fun q34 => ?_) (fun q34 => ?_)
        · replace h := h.1 q34
          refine V_aload_n dX10_sought_40 rfl ?_
          refine V_iload_n dX10_sought_41 rfl ?_
          refine V_iload_n dX10_sought_42 rfl ?_
          refine M_Vi mv_X10_seekBest lk_X10_244 dX10_sought_43 rfl rfl (sX10_seekBest h) rfl rfl (Nat.le_of_ble_eq_true rfl) (by decide) (by decide) (fun v43 M43 h => ?_)
          refine V_istore dX10_sought_46 (by decide) ?_
          refine V_iload_n dX10_sought_48 rfl ?_
          refine V_bipush (-2) dX10_sought_49 (by decide) ?_
          refine V_icmp_ne 59 dX10_sought_51 (by decide) (fun q51 => ?_) (fun q51 => ?_)
          · replace h := h.1 q51
            refine V_aload_n dX10_sought_59 rfl ?_
            refine V_getR 99 fl_X10_83 dX10_sought_60 rfl rfl rfl ?_
            refine V_iload_n dX10_sought_63 rfl ?_
            refine M_Vi mv_X7_sizeOrAt lk_X10_198 dX10_sought_64 rfl rfl (sX7_sizeOrAt h) rfl rfl (Nat.le_of_ble_eq_true rfl) (by decide) (by decide) (fun v64 M64 h => ?_)
            exact V_reti dX10_sought_67 rfl rfl h
          · replace h := h.2 q51
            refine V_iload dX10_sought_54 rfl ?_
            refine V_goto 67 dX10_sought_56 (by decide) ?_
            exact V_reti dX10_sought_67 rfl rfl h
        · replace h := h.2 q34
          refine V_bipush (-3) dX10_sought_37 (by decide) ?_
          exact V_reti dX10_sought_39 rfl rfl h
      · replace h := h.2 q23
        refine V_bipush (-2) dX10_sought_26 (by decide) ?_
        exact V_reti dX10_sought_28 rfl rfl h
    · replace h := h.2 q14
      refine V_iconst (-1) dX10_sought_17 (by decide) ?_
      exact V_reti dX10_sought_18 rfl rfl h
def wX10_regular (a1 : Int32) (M : Mem) (Q : Int32 → Mem → Prop) : Prop :=
  wX10_isForm a1 M (fun v2 M2 => ((¬ v2 = 0 →
      vp_in a1 40 ∧ wX10_isIn (M2 (150 + Int32.toNatClampNeg a1) 3) (M2 0 17) M2 (fun v25 M25 => ((¬ v25 = 0 →
          vp_in (M25 (150 + Int32.toNatClampNeg a1) 3) 6 ∧ wX7_become 97 (90 + Int32.toNatClampNeg (M25 (150 + Int32.toNatClampNeg a1) 3)) M25 (fun M47 => wX4_deriveAt (M47 (150 + Int32.toNatClampNeg a1) 2) 97 8 M47 (fun v64 M64 => wX7_isSame 97 ((150 + Int32.toNatClampNeg a1) - 100) M64 (fun v76 M76 => ((v76 = 0 →
                  Q 0 M76) ∧ (¬ v76 = 0 →
                  Q 1 M76)))))) ∧ (v25 = 0 →
          Q (-3) M25)))) ∧ (v2 = 0 →
      Q (-1) M2)))
set_option maxHeartbeats 1000000 in
set_option maxRecDepth 20000 in
theorem sX10_regular {E : En} {a1 : Int32} {M : Mem} {Q : Int32 → Mem → Prop} (h : wX10_regular a1 M Q) : CM E 5 mX10_regular [.ref (E.2.2 0), .int a1] M (Pi Q) := by
  unfold wX10_regular at h
  refine CM.of (by decide) rfl (Nat.le_of_ble_eq_true rfl) ?_
  refine V_aload_n dX10_regular_0 rfl ?_
  refine V_iload_n dX10_regular_1 rfl ?_
  refine M_Vi mv_X10_isForm lk_X10_176 dX10_regular_2 rfl rfl (sX10_isForm h) rfl rfl (Nat.le_of_ble_eq_true rfl) (by decide) (by decide) (fun v2 M2 h => ?_)
  refine V_if_ne 10 dX10_regular_5 (by decide) (fun q5 => ?_) (fun q5 => ?_)
  · replace h := h.1 q5
    refine V_aload_n dX10_regular_10 rfl ?_
    refine V_getR 6 fl_X10_30 dX10_regular_11 rfl rfl rfl ?_
    refine V_iload_n dX10_regular_14 rfl ?_
    obtain ⟨hi15, h⟩ := h
    have hb15 := vp_lt hi15
    refine V_aaldM (150 + Int32.toNatClampNeg a1) dX10_regular_15 rfl (by decide) hi15 rfl ?_
    refine V_astore_n dX10_regular_16 (by decide) ?_
    refine V_aload_n dX10_regular_17 rfl ?_
    refine V_getI fl_X10_185 dX10_regular_18 (kd_X2 (by omega)) rfl ?_
    refine V_aload_n dX10_regular_21 rfl ?_
    refine V_getI fl_X10_96 dX10_regular_22 rfl rfl ?_
    refine M_Si ms_X10_isIn lk_X10_128 dX10_regular_25 (sX10_isIn h) rfl rfl (Nat.le_of_ble_eq_true rfl) (by decide) (by decide) (fun v25 M25 h => ?_)
    refine V_if_ne 34 dX10_regular_28 (by decide) (fun q28 => ?_) (fun q28 => ?_)
    · replace h := h.1 q28
      refine V_aload_n dX10_regular_34 rfl ?_
      refine V_getR 97 fl_X10_76 dX10_regular_35 rfl rfl rfl ?_
      refine V_aload_n dX10_regular_38 rfl ?_
      refine V_getR 8 fl_X10_39 dX10_regular_39 rfl rfl rfl ?_
      refine V_aload_n dX10_regular_42 rfl ?_
      refine V_getI fl_X10_185 dX10_regular_43 (kd_X2 (by omega)) rfl ?_
      obtain ⟨hi46, h⟩ := h
      have hb46 := vp_lt hi46
      refine V_aaldM (90 + Int32.toNatClampNeg (M25 (150 + Int32.toNatClampNeg a1) 3)) dX10_regular_46 rfl (by decide) hi46 rfl ?_
      refine M_Vv mv_X7_become lk_X10_220 dX10_regular_47 rfl rfl (sX7_become h) rfl rfl (Nat.le_of_ble_eq_true rfl) (by decide) (by decide) (fun M47 h => ?_)
      refine V_aload_n dX10_regular_50 rfl ?_
      refine V_getR 9 fl_X10_48 dX10_regular_51 rfl rfl rfl ?_
      refine V_aload_n dX10_regular_54 rfl ?_
      refine V_getI fl_X10_182 dX10_regular_55 (kd_X2 (by omega)) rfl ?_
      refine V_aload_n dX10_regular_58 rfl ?_
      refine V_getR 97 fl_X10_76 dX10_regular_59 rfl rfl rfl ?_
      refine V_bipush 8 dX10_regular_62 (by decide) ?_
      refine M_Vi mv_X4_deriveAt lk_X10_223 dX10_regular_64 rfl rfl (sX4_deriveAt h) rfl rfl (Nat.le_of_ble_eq_true rfl) (by decide) (by decide) (fun v64 M64 h => ?_)
      refine V_pop dX10_regular_67 rfl ?_
      refine V_aload_n dX10_regular_68 rfl ?_
      refine V_getR 97 fl_X10_76 dX10_regular_69 rfl rfl rfl ?_
      refine V_aload_n dX10_regular_72 rfl ?_
      refine V_getR ((150 + Int32.toNatClampNeg a1) - 100) fl_X10_188 dX10_regular_73 (kd_X2 (by omega)) rfl (rf_X2 (by omega)) ?_
      refine M_Vi mv_X7_isSame lk_X10_264 dX10_regular_76 rfl rfl (sX7_isSame h) rfl rfl (Nat.le_of_ble_eq_true rfl) (by decide) (by decide) (fun v76 M76 h => ?_)
      refine V_if_eq 86 dX10_regular_79 (by decide) (fun q79 => ?_) (fun q79 => ?_)
      · replace h := h.1 q79
        refine V_iconst 0 dX10_regular_86 (by decide) ?_
        exact V_reti dX10_regular_87 rfl rfl h
      · replace h := h.2 q79
        refine V_iconst 1 dX10_regular_82 (by decide) ?_
        refine V_goto 87 dX10_regular_83 (by decide) ?_
        exact V_reti dX10_regular_87 rfl rfl h
    · replace h := h.2 q28
      refine V_bipush (-3) dX10_regular_31 (by decide) ?_
      exact V_reti dX10_regular_33 rfl rfl h
  · replace h := h.2 q5
    refine V_iconst (-1) dX10_regular_8 (by decide) ?_
    exact V_reti dX10_regular_9 rfl rfl h
def wX10_ways (a1 : Int32) (a2 : Int32) (M : Mem) (Q : Int32 → Mem → Prop) : Prop :=
  wX10_isForm a1 M (fun v2 M2 => ((¬ v2 = 0 →
      wX10_isSoughtSet a2 M2 (fun v11 M11 => ((¬ v11 = 0 →
          wX0_begin a2 M11 (fun M25 => (∃ n, lq2 (fun R33 (x33_3 : Int32) (x33_4 : Int32) (M33 : Mem) => (((M33 15 2) ≤ x33_4 →
                Q x33_3 M33) ∧ (¬ (M33 15 2) ≤ x33_4 →
                wX0_writeTo 97 x33_4 M33 (fun M55 => vp_in a1 40 ∧ wX4_deriveAt (M55 (150 + Int32.toNatClampNeg a1) 2) 97 8 M55 (fun v77 M77 => wX7_isSame 97 ((150 + Int32.toNatClampNeg a1) - 100) M77 (fun v94 M94 => ((v94 = 0 →
                        R33 x33_3 (x33_4 + 1) M94) ∧ (¬ v94 = 0 →
                        R33 (x33_3 + 1) (x33_4 + 1) M94)))))))) n 0 0 M25))) ∧ (v11 = 0 →
          Q (-2) M11)))) ∧ (v2 = 0 →
      Q (-1) M2)))
set_option maxHeartbeats 1000000 in
set_option maxRecDepth 20000 in
theorem sX10_ways {E : En} {a1 : Int32} {a2 : Int32} {M : Mem} {Q : Int32 → Mem → Prop} (h : wX10_ways a1 a2 M Q) : CM E 5 mX10_ways [.ref (E.2.2 0), .int a1, .int a2] M (Pi Q) := by
  unfold wX10_ways at h
  refine CM.of (by decide) rfl (Nat.le_of_ble_eq_true rfl) ?_
  refine V_aload_n dX10_ways_0 rfl ?_
  refine V_iload_n dX10_ways_1 rfl ?_
  refine M_Vi mv_X10_isForm lk_X10_176 dX10_ways_2 rfl rfl (sX10_isForm h) rfl rfl (Nat.le_of_ble_eq_true rfl) (by decide) (by decide) (fun v2 M2 h => ?_)
  refine V_if_ne 10 dX10_ways_5 (by decide) (fun q5 => ?_) (fun q5 => ?_)
  · replace h := h.1 q5
    refine V_iload_n dX10_ways_10 rfl ?_
    refine M_Si ms_X10_isSoughtSet lk_X10_238 dX10_ways_11 (sX10_isSoughtSet h) rfl rfl (Nat.le_of_ble_eq_true rfl) (by decide) (by decide) (fun v11 M11 h => ?_)
    refine V_if_ne 20 dX10_ways_14 (by decide) (fun q14 => ?_) (fun q14 => ?_)
    · replace h := h.1 q14
      refine V_aload_n dX10_ways_20 rfl ?_
      refine V_getR 15 fl_X10_62 dX10_ways_21 rfl rfl rfl ?_
      refine V_iload_n dX10_ways_24 rfl ?_
      refine M_Vv mv_X0_begin lk_X10_247 dX10_ways_25 rfl rfl (sX0_begin h) rfl rfl (Nat.le_of_ble_eq_true rfl) (by decide) (by decide) (fun M25 h => ?_)
      refine V_iconst 0 dX10_ways_28 (by decide) ?_
      refine V_istore_n dX10_ways_29 (by decide) ?_
      refine V_iconst 0 dX10_ways_30 (by decide) ?_
      refine V_istore dX10_ways_31 (by decide) ?_
      obtain ⟨n33, h⟩ := h
      refine V_take 5 ?_
      refine lq2_use (P := fun (x33_3 : Int32) (x33_4 : Int32) (M33 : Mem) => ∀ j33_2 : Value, V (Km E 5 (Pi Q)) mX10_ways 33 [.ref (E.2.2 0), .int a1, j33_2, .int x33_3, .int x33_4] [] (wsM E.1 E.2.2 M33) 0 0) (fun R33 hR33 x33_3 x33_4 M33 h j33_2 => ?_) n33 _ _ _ h _
      refine V_iload dX10_ways_33 rfl ?_
      refine V_aload_n dX10_ways_35 rfl ?_
      refine V_getR 15 fl_X10_62 dX10_ways_36 rfl rfl rfl ?_
      refine V_getI fl_X10_254 dX10_ways_39 rfl rfl ?_
      refine V_icmp_ge 109 dX10_ways_42 (by decide) (fun q42 => ?_) (fun q42 => ?_)
      · replace h := h.1 q42
        refine V_iload_n dX10_ways_109 rfl ?_
        exact V_reti dX10_ways_110 rfl rfl h
      · replace h := h.2 q42
        refine V_aload_n dX10_ways_45 rfl ?_
        refine V_getR 15 fl_X10_62 dX10_ways_46 rfl rfl rfl ?_
        refine V_aload_n dX10_ways_49 rfl ?_
        refine V_getR 97 fl_X10_76 dX10_ways_50 rfl rfl rfl ?_
        refine V_iload dX10_ways_53 rfl ?_
        refine M_Vv mv_X0_writeTo lk_X10_257 dX10_ways_55 rfl rfl (sX0_writeTo h) rfl rfl (Nat.le_of_ble_eq_true rfl) (by decide) (by decide) (fun M55 h => ?_)
        refine V_aload_n dX10_ways_58 rfl ?_
        refine V_getR 9 fl_X10_48 dX10_ways_59 rfl rfl rfl ?_
        refine V_aload_n dX10_ways_62 rfl ?_
        refine V_getR 6 fl_X10_30 dX10_ways_63 rfl rfl rfl ?_
        refine V_iload_n dX10_ways_66 rfl ?_
        obtain ⟨hi67, h⟩ := h
        have hb67 := vp_lt hi67
        refine V_aaldM (150 + Int32.toNatClampNeg a1) dX10_ways_67 rfl (by decide) hi67 rfl ?_
        refine V_getI fl_X10_182 dX10_ways_68 (kd_X2 (by omega)) rfl ?_
        refine V_aload_n dX10_ways_71 rfl ?_
        refine V_getR 97 fl_X10_76 dX10_ways_72 rfl rfl rfl ?_
        refine V_bipush 8 dX10_ways_75 (by decide) ?_
        refine M_Vi mv_X4_deriveAt lk_X10_223 dX10_ways_77 rfl rfl (sX4_deriveAt h) rfl rfl (Nat.le_of_ble_eq_true rfl) (by decide) (by decide) (fun v77 M77 h => ?_)
        refine V_pop dX10_ways_80 rfl ?_
        refine V_aload_n dX10_ways_81 rfl ?_
        refine V_getR 97 fl_X10_76 dX10_ways_82 rfl rfl rfl ?_
        refine V_aload_n dX10_ways_85 rfl ?_
        refine V_getR 6 fl_X10_30 dX10_ways_86 rfl rfl rfl ?_
        refine V_iload_n dX10_ways_89 rfl ?_
        have hb90 := vp_lt hi67
        refine V_aaldM (150 + Int32.toNatClampNeg a1) dX10_ways_90 rfl (by decide) hi67 rfl ?_
        refine V_getR ((150 + Int32.toNatClampNeg a1) - 100) fl_X10_188 dX10_ways_91 (kd_X2 (by omega)) rfl (rf_X2 (by omega)) ?_
        refine M_Vi mv_X7_isSame lk_X10_264 dX10_ways_94 rfl rfl (sX7_isSame h) rfl rfl (Nat.le_of_ble_eq_true rfl) (by decide) (by decide) (fun v94 M94 h => ?_)
        refine V_if_eq 103 dX10_ways_97 (by decide) (fun q97 => ?_) (fun q97 => ?_)
        · replace h := h.1 q97
          refine V_iincC 1 dX10_ways_103 (by decide) rfl (by decide) ?_
          refine V_goto 33 dX10_ways_106 (by decide) ?_
          refine V_take 5 ?_
          exact hR33 _ _ _ h _
        · replace h := h.2 q97
          refine V_iincC 1 dX10_ways_100 (by decide) rfl (by decide) ?_
          refine V_iincC 1 dX10_ways_103 (by decide) rfl (by decide) ?_
          refine V_goto 33 dX10_ways_106 (by decide) ?_
          refine V_take 5 ?_
          exact hR33 _ _ _ h _
    · replace h := h.2 q14
      refine V_bipush (-2) dX10_ways_17 (by decide) ?_
      exact V_reti dX10_ways_19 rfl rfl h
  · replace h := h.2 q5
    refine V_iconst (-1) dX10_ways_8 (by decide) ?_
    exact V_reti dX10_ways_9 rfl rfl h
def wX10_regularByTrial (a1 : Int32) (M : Mem) (Q : Int32 → Mem → Prop) : Prop :=
  (∃ n, lq2 (fun R4 (x4_2 : Int32) (x4_3 : Int32) (M4 : Mem) => ((6 ≤ x4_3 →
      Q x4_2 M4) ∧ (¬ 6 ≤ x4_3 →
      vp_in ((a1 * 6) + x4_3) 48 ∧ wX10_isForm (M4 7 (Int32.toNatClampNeg ((a1 * 6) + x4_3))) M4 (fun v26 M26 => ((v26 = 0 →
          R4 x4_2 (x4_3 + 1) M26) ∧ (¬ v26 = 0 →
          wX10_isIn x4_3 (M26 0 17) M26 (fun v37 M37 => ((¬ v37 = 0 →
              vp_in x4_3 6 ∧ wX7_become 97 (90 + Int32.toNatClampNeg x4_3) M37 (fun M56 => wX4_deriveBy 98 97 M56 (fun M71 => vp_in (M4 7 (Int32.toNatClampNeg ((a1 * 6) + x4_3))) 40 ∧ wX7_isSame 97 ((150 + Int32.toNatClampNeg (M4 7 (Int32.toNatClampNeg ((a1 * 6) + x4_3)))) - 100) M71 (fun v88 M88 => ((v88 = 0 →
                      R4 x4_2 (x4_3 + 1) M88) ∧ (¬ v88 = 0 →
                      R4 (x4_2 + 1) (x4_3 + 1) M88)))))) ∧ (v37 = 0 →
              R4 x4_2 (x4_3 + 1) M37))))))))) n 0 0 M)
set_option maxHeartbeats 1000000 in
set_option maxRecDepth 20000 in
theorem sX10_regularByTrial {E : En} {a1 : Int32} {M : Mem} {Q : Int32 → Mem → Prop} (h : wX10_regularByTrial a1 M Q) : CM E 5 mX10_regularByTrial [.ref (E.2.2 0), .int a1] M (Pi Q) := by
  unfold wX10_regularByTrial at h
  refine CM.of (by decide) rfl (Nat.le_of_ble_eq_true rfl) ?_
  refine V_iconst 0 dX10_regularByTrial_0 (by decide) ?_
  refine V_istore_n dX10_regularByTrial_1 (by decide) ?_
  refine V_iconst 0 dX10_regularByTrial_2 (by decide) ?_
  refine V_istore_n dX10_regularByTrial_3 (by decide) ?_
  obtain ⟨n4, h⟩ := h
  refine V_take 4 ?_
  refine lq2_use (P := fun (x4_2 : Int32) (x4_3 : Int32) (M4 : Mem) => V (Km E 5 (Pi Q)) mX10_regularByTrial 4 [.ref (E.2.2 0), .int a1, .int x4_2, .int x4_3] [] (wsM E.1 E.2.2 M4) 0 0) (fun R4 hR4 x4_2 x4_3 M4 h => ?_) n4 _ _ _ h
  refine V_iload_n dX10_regularByTrial_4 rfl ?_
  refine V_bipush 6 dX10_regularByTrial_5 (by decide) ?_
  refine V_icmp_ge 103 dX10_regularByTrial_7 (by decide) (fun q7 => ?_) (fun q7 => ?_)
  · replace h := h.1 q7
    refine V_iload_n dX10_regularByTrial_103 rfl ?_
    exact V_reti dX10_regularByTrial_104 rfl rfl h
  · replace h := h.2 q7
    refine V_aload_n dX10_regularByTrial_10 rfl ?_
    refine V_getR 7 fl_X10_34 dX10_regularByTrial_11 rfl rfl rfl ?_
    refine V_iload_n dX10_regularByTrial_14 rfl ?_
    refine V_bipush 6 dX10_regularByTrial_15 (by decide) ?_
    refine V_imul dX10_regularByTrial_17 ?_
    refine V_iload_n dX10_regularByTrial_18 rfl ?_
    refine V_iadd dX10_regularByTrial_19 ?_
    obtain ⟨hi20, h⟩ := h
    refine V_ialdM dX10_regularByTrial_20 rfl hi20 ?_
    refine V_istore dX10_regularByTrial_21 (by decide) ?_
    refine V_aload_n dX10_regularByTrial_23 rfl ?_
    refine V_iload dX10_regularByTrial_24 rfl ?_
    refine M_Vi mv_X10_isForm lk_X10_176 dX10_regularByTrial_26 rfl rfl (sX10_isForm h) rfl rfl (Nat.le_of_ble_eq_true rfl) (by decide) (by decide) (fun v26 M26 h => ?_)
    refine V_if_eq 97 dX10_regularByTrial_29 (by decide) (fun q29 => ?_) (fun q29 => ?_)
    · replace h := h.1 q29
      refine V_iincC 1 dX10_regularByTrial_97 (by decide) rfl (by decide) ?_
      refine V_goto 4 dX10_regularByTrial_100 (by decide) ?_
      refine V_take 4 ?_
      exact hR4 _ _ _ h
    · replace h := h.2 q29
      refine V_iload_n dX10_regularByTrial_32 rfl ?_
      refine V_aload_n dX10_regularByTrial_33 rfl ?_
      refine V_getI fl_X10_96 dX10_regularByTrial_34 rfl rfl ?_
      refine M_Si ms_X10_isIn lk_X10_128 dX10_regularByTrial_37 (sX10_isIn h) rfl rfl (Nat.le_of_ble_eq_true rfl) (by decide) (by decide) (fun v37 M37 h => ?_)
      refine V_if_ne 46 dX10_regularByTrial_40 (by decide) (fun q40 => ?_) (fun q40 => ?_)
      · replace h := h.1 q40
        refine V_aload_n dX10_regularByTrial_46 rfl ?_
        refine V_getR 97 fl_X10_76 dX10_regularByTrial_47 rfl rfl rfl ?_
        refine V_aload_n dX10_regularByTrial_50 rfl ?_
        refine V_getR 8 fl_X10_39 dX10_regularByTrial_51 rfl rfl rfl ?_
        refine V_iload_n dX10_regularByTrial_54 rfl ?_
        obtain ⟨hi55, h⟩ := h
        have hb55 := vp_lt hi55
        refine V_aaldM (90 + Int32.toNatClampNeg x4_3) dX10_regularByTrial_55 rfl (by decide) hi55 rfl ?_
        refine M_Vv mv_X7_become lk_X10_220 dX10_regularByTrial_56 rfl rfl (sX7_become h) rfl rfl (Nat.le_of_ble_eq_true rfl) (by decide) (by decide) (fun M56 h => ?_)
        refine V_aload_n dX10_regularByTrial_59 rfl ?_
        refine V_getR 9 fl_X10_48 dX10_regularByTrial_60 rfl rfl rfl ?_
        refine V_aload_n dX10_regularByTrial_63 rfl ?_
        refine V_getR 98 fl_X10_80 dX10_regularByTrial_64 rfl rfl rfl ?_
        refine V_aload_n dX10_regularByTrial_67 rfl ?_
        refine V_getR 97 fl_X10_76 dX10_regularByTrial_68 rfl rfl rfl ?_
        refine M_Vv mv_X4_deriveBy lk_X10_282 dX10_regularByTrial_71 rfl rfl (sX4_deriveBy h) rfl rfl (Nat.le_of_ble_eq_true rfl) (by decide) (by decide) (fun M71 h => ?_)
        refine V_aload_n dX10_regularByTrial_74 rfl ?_
        refine V_getR 97 fl_X10_76 dX10_regularByTrial_75 rfl rfl rfl ?_
        refine V_aload_n dX10_regularByTrial_78 rfl ?_
        refine V_getR 6 fl_X10_30 dX10_regularByTrial_79 rfl rfl rfl ?_
        refine V_iload dX10_regularByTrial_82 rfl ?_
        obtain ⟨hi84, h⟩ := h
        have hb84 := vp_lt hi84
        refine V_aaldM (150 + Int32.toNatClampNeg (M4 7 (Int32.toNatClampNeg ((a1 * 6) + x4_3)))) dX10_regularByTrial_84 rfl (by decide) hi84 rfl ?_
        refine V_getR ((150 + Int32.toNatClampNeg (M4 7 (Int32.toNatClampNeg ((a1 * 6) + x4_3)))) - 100) fl_X10_188 dX10_regularByTrial_85 (kd_X2 (by omega)) rfl (rf_X2 (by omega)) ?_
        refine M_Vi mv_X7_isSame lk_X10_264 dX10_regularByTrial_88 rfl rfl (sX7_isSame h) rfl rfl (Nat.le_of_ble_eq_true rfl) (by decide) (by decide) (fun v88 M88 h => ?_)
        refine V_if_eq 97 dX10_regularByTrial_91 (by decide) (fun q91 => ?_) (fun q91 => ?_)
        · replace h := h.1 q91
          refine V_iincC 1 dX10_regularByTrial_97 (by decide) rfl (by decide) ?_
          refine V_goto 4 dX10_regularByTrial_100 (by decide) ?_
          refine V_take 4 ?_
          exact hR4 _ _ _ h
        · replace h := h.2 q91
          refine V_iincC 1 dX10_regularByTrial_94 (by decide) rfl (by decide) ?_
          refine V_iincC 1 dX10_regularByTrial_97 (by decide) rfl (by decide) ?_
          refine V_goto 4 dX10_regularByTrial_100 (by decide) ?_
          refine V_take 4 ?_
          exact hR4 _ _ _ h
      · replace h := h.2 q40
        refine V_goto 97 dX10_regularByTrial_43 (by decide) ?_
        refine V_iincC 1 dX10_regularByTrial_97 (by decide) rfl (by decide) ?_
        refine V_goto 4 dX10_regularByTrial_100 (by decide) ?_
        refine V_take 4 ?_
        exact hR4 _ _ _ h
def wX10_orderBest (a1 : Int32) (M : Mem) (Q : Int32 → Mem → Prop) : Prop :=
  (∃ n, lq3 (fun R7 (x7_2 : Int32) (x7_3 : Int32) (x7_4 : Int32) (M7 : Mem) => ((720 ≤ x7_4 →
      Q x7_2 M7) ∧ (¬ 720 ≤ x7_4 →
      ((x7_3 = 0 →
        Q x7_2 M7) ∧ (¬ x7_3 = 0 →
        wX10_regularByTrial a1 M7 (fun v21 M21 => jn1 (fun (x46_2 : Int32) (M46 : Mem) => wX7_stepOrder 98 M46 (fun v50 M50 => R7 x46_2 v50 (x7_4 + 1) M50)) (fun J46 => ((v21 ≤ x7_2 →
              J46 x7_2 M21) ∧ (¬ v21 ≤ x7_2 →
              wX7_become 99 98 M21 (fun M43 => J46 v21 M43)))))))))) n (-1) 1 0 M)
set_option maxHeartbeats 1000000 in
set_option maxRecDepth 20000 in
theorem sX10_orderBest {E : En} {a1 : Int32} {M : Mem} {Q : Int32 → Mem → Prop} (h : wX10_orderBest a1 M Q) : CM E 6 mX10_orderBest [.ref (E.2.2 0), .int a1] M (Pi Q) := by
  unfold wX10_orderBest at h
  refine CM.of (by decide) rfl (Nat.le_of_ble_eq_true rfl) ?_
  refine V_iconst (-1) dX10_orderBest_0 (by decide) ?_
  refine V_istore_n dX10_orderBest_1 (by decide) ?_
  refine V_iconst 1 dX10_orderBest_2 (by decide) ?_
  refine V_istore_n dX10_orderBest_3 (by decide) ?_
  refine V_iconst 0 dX10_orderBest_4 (by decide) ?_
  refine V_istore dX10_orderBest_5 (by decide) ?_
  obtain ⟨n7, h⟩ := h
  refine V_take 5 ?_
  refine lq3_use (P := fun (x7_2 : Int32) (x7_3 : Int32) (x7_4 : Int32) (M7 : Mem) => V (Km E 6 (Pi Q)) mX10_orderBest 7 [.ref (E.2.2 0), .int a1, .int x7_2, .int x7_3, .int x7_4] [] (wsM E.1 E.2.2 M7) 0 0) (fun R7 hR7 x7_2 x7_3 x7_4 M7 h => ?_) n7 _ _ _ _ h
  refine V_iload dX10_orderBest_7 rfl ?_
  refine V_sipush 720 dX10_orderBest_9 (by decide) ?_
  refine V_icmp_ge 60 dX10_orderBest_12 (by decide) (fun q12 => ?_) (fun q12 => ?_)
  · replace h := h.1 q12
    refine V_iload_n dX10_orderBest_60 rfl ?_
    exact V_reti dX10_orderBest_61 rfl rfl h
  · replace h := h.2 q12
    refine V_iload_n dX10_orderBest_15 rfl ?_
    refine V_if_eq 60 dX10_orderBest_16 (by decide) (fun q16 => ?_) (fun q16 => ?_)
    · replace h := h.1 q16
      refine V_iload_n dX10_orderBest_60 rfl ?_
      exact V_reti dX10_orderBest_61 rfl rfl h
    · replace h := h.2 q16
      refine V_aload_n dX10_orderBest_19 rfl ?_
      refine V_iload_n dX10_orderBest_20 rfl ?_
      refine M_Vi mv_X10_regularByTrial lk_X10_275 dX10_orderBest_21 rfl rfl (sX10_regularByTrial h) rfl rfl (Nat.le_of_ble_eq_true rfl) (by decide) (by decide) (fun v21 M21 h => ?_)
      refine V_istore dX10_orderBest_24 (by decide) ?_
      refine V_iload dX10_orderBest_26 rfl ?_
      refine V_iload_n dX10_orderBest_28 rfl ?_
      refine jn1_use (P := fun (x46_2 : Int32) (M46 : Mem) => ∀ j46_3 : Value, ∀ j46_5 : Value, V (Km E 6 (Pi Q)) mX10_orderBest 46 [.ref (E.2.2 0), .int a1, .int x46_2, j46_3, .int x7_4, j46_5] [] (wsM E.1 E.2.2 M46) 0 0) (fun x46_2 M46 h j46_3 j46_5 => ?_) (fun J46 hJ46 h => ?_) h
      · refine V_aload_n dX10_orderBest_46 rfl ?_
        refine V_getR 98 fl_X10_80 dX10_orderBest_47 rfl rfl rfl ?_
        refine M_Vi mv_X7_stepOrder lk_X10_278 dX10_orderBest_50 rfl rfl (sX7_stepOrder h) rfl rfl (Nat.le_of_ble_eq_true rfl) (by decide) (by decide) (fun v50 M50 h => ?_)
        refine V_istore_n dX10_orderBest_53 (by decide) ?_
        refine V_iincC 1 dX10_orderBest_54 (by decide) rfl (by decide) ?_
        refine V_goto 7 dX10_orderBest_57 (by decide) ?_
        refine V_take 5 ?_
        exact hR7 _ _ _ _ h
      · refine V_icmp_le 46 dX10_orderBest_29 (by decide) (fun q29 => ?_) (fun q29 => ?_)
        · replace h := h.1 q29
          refine V_take 6 ?_
          exact hJ46 _ _ h _ _
        · replace h := h.2 q29
          refine V_iload dX10_orderBest_32 rfl ?_
          refine V_istore_n dX10_orderBest_34 (by decide) ?_
          refine V_aload_n dX10_orderBest_35 rfl ?_
          refine V_getR 99 fl_X10_83 dX10_orderBest_36 rfl rfl rfl ?_
          refine V_aload_n dX10_orderBest_39 rfl ?_
          refine V_getR 98 fl_X10_80 dX10_orderBest_40 rfl rfl rfl ?_
          refine M_Vv mv_X7_become lk_X10_220 dX10_orderBest_43 rfl rfl (sX7_become h) rfl rfl (Nat.le_of_ble_eq_true rfl) (by decide) (by decide) (fun M43 h => ?_)
          refine V_take 6 ?_
          exact hJ46 _ _ h _ _
def wX10_order (a1 : Int32) (a2 : Int32) (M : Mem) (Q : Int32 → Mem → Prop) : Prop :=
  wX10_isPlace a1 M (fun v2 M2 => ((v2 = 0 →
      Q (-1) M2) ∧ (¬ v2 = 0 →
      wX10_isWithin a2 (-1) 7 M2 (fun v12 M12 => ((¬ v12 = 0 →
          wX4_collectAt a1 98 M12 (fun M29 => (((M29 98 1) ≤ 6 →
              wX10_orderBest a1 M29 (fun v49 M49 => ((¬ a2 = (-1) →
                  wX7_at 99 a2 M49 (fun v67 M67 => Q v67 M67)) ∧ (a2 = (-1) →
                  Q v49 M49)))) ∧ (¬ (M29 98 1) ≤ 6 →
              Q (-3) M29)))) ∧ (v12 = 0 →
          Q (-1) M12))))))
set_option maxHeartbeats 1000000 in
set_option maxRecDepth 20000 in
theorem sX10_order {E : En} {a1 : Int32} {a2 : Int32} {M : Mem} {Q : Int32 → Mem → Prop} (h : wX10_order a1 a2 M Q) : CM E 7 mX10_order [.ref (E.2.2 0), .int a1, .int a2] M (Pi Q) := by
  unfold wX10_order at h
  refine CM.of (by decide) rfl (Nat.le_of_ble_eq_true rfl) ?_
  refine V_aload_n dX10_order_0 rfl ?_
  refine V_iload_n dX10_order_1 rfl ?_
  refine M_Vi mv_X10_isPlace lk_X10_152 dX10_order_2 rfl rfl (sX10_isPlace h) rfl rfl (Nat.le_of_ble_eq_true rfl) (by decide) (by decide) (fun v2 M2 h => ?_)
  refine V_if_eq 18 dX10_order_5 (by decide) (fun q5 => ?_) (fun q5 => ?_)
  · replace h := h.1 q5
    refine V_iconst (-1) dX10_order_18 (by decide) ?_
    exact V_reti dX10_order_19 rfl rfl h
  · replace h := h.2 q5
    refine V_iload_n dX10_order_8 rfl ?_
    refine V_iconst (-1) dX10_order_9 (by decide) ?_
    refine V_bipush 7 dX10_order_10 (by decide) ?_
    refine M_Si ms_X10_isWithin lk_X10_142 dX10_order_12 (sX10_isWithin h) rfl rfl (Nat.le_of_ble_eq_true rfl) (by decide) (by decide) (fun v12 M12 h => ?_)
    refine V_if_ne 20 dX10_order_15 (by decide) (fun q15 => ?_) (fun q15 => ?_)
    · replace h := h.1 q15
      refine V_aload_n dX10_order_20 rfl ?_
      refine V_getR 9 fl_X10_48 dX10_order_21 rfl rfl rfl ?_
      refine V_iload_n dX10_order_24 rfl ?_
      refine V_aload_n dX10_order_25 rfl ?_
      refine V_getR 98 fl_X10_80 dX10_order_26 rfl rfl rfl ?_
      refine M_Vv mv_X4_collectAt lk_X10_268 dX10_order_29 rfl rfl (sX4_collectAt h) rfl rfl (Nat.le_of_ble_eq_true rfl) (by decide) (by decide) (fun M29 h => ?_)
      refine V_aload_n dX10_order_32 rfl ?_
      refine V_getR 98 fl_X10_80 dX10_order_33 rfl rfl rfl ?_
      refine V_getI fl_X10_191 dX10_order_36 rfl rfl ?_
      refine V_bipush 6 dX10_order_39 (by decide) ?_
      refine V_icmp_le 47 dX10_order_41 (by decide) (fun q41 => ?_) (fun q41 => ?_)
      · replace h := h.1 q41
        refine V_aload_n dX10_order_47 rfl ?_
        refine V_iload_n dX10_order_48 rfl ?_
        refine M_Vi mv_X10_orderBest lk_X10_272 dX10_order_49 rfl rfl (sX10_orderBest h) rfl rfl (Nat.le_of_ble_eq_true rfl) (by decide) (by decide) (fun v49 M49 h => ?_)
        refine V_istore_n dX10_order_52 (by decide) ?_
        refine V_iload_n dX10_order_53 rfl ?_
        refine V_iconst (-1) dX10_order_54 (by decide) ?_
        refine V_icmp_ne 62 dX10_order_55 (by decide) (fun q55 => ?_) (fun q55 => ?_)
        · replace h := h.1 q55
          refine V_aload_n dX10_order_62 rfl ?_
          refine V_getR 99 fl_X10_83 dX10_order_63 rfl rfl rfl ?_
          refine V_iload_n dX10_order_66 rfl ?_
          refine M_Vi mv_X7_at lk_X10_194 dX10_order_67 rfl rfl (sX7_at h) rfl rfl (Nat.le_of_ble_eq_true rfl) (by decide) (by decide) (fun v67 M67 h => ?_)
          exact V_reti dX10_order_70 rfl rfl h
        · replace h := h.2 q55
          refine V_iload_n dX10_order_58 rfl ?_
          refine V_goto 70 dX10_order_59 (by decide) ?_
          exact V_reti dX10_order_70 rfl rfl h
      · replace h := h.2 q41
        refine V_bipush (-3) dX10_order_44 (by decide) ?_
        exact V_reti dX10_order_46 rfl rfl h
    · replace h := h.2 q15
      refine V_iconst (-1) dX10_order_18 (by decide) ?_
      exact V_reti dX10_order_19 rfl rfl h
def wX10_limit (a1 : Int32) (M : Mem) (Q : Int32 → Mem → Prop) : Prop :=
  wX10_isWithin a1 0 99 M (fun v4 M4 => ((¬ v4 = 0 →
      (∀ N26, N26 = mset M4 13 3 a1 → Q (M4 13 3) N26)) ∧ (v4 = 0 →
      Q (-2) M4)))
set_option maxHeartbeats 1000000 in
set_option maxRecDepth 20000 in
theorem sX10_limit {E : En} {a1 : Int32} {M : Mem} {Q : Int32 → Mem → Prop} (h : wX10_limit a1 M Q) : CM E 2 mX10_limit [.ref (E.2.2 0), .int a1] M (Pi Q) := by
  unfold wX10_limit at h
  refine CM.of (by decide) rfl (Nat.le_of_ble_eq_true rfl) ?_
  refine V_iload_n dX10_limit_0 rfl ?_
  refine V_iconst 0 dX10_limit_1 (by decide) ?_
  refine V_bipush 99 dX10_limit_2 (by decide) ?_
  refine M_Si ms_X10_isWithin lk_X10_142 dX10_limit_4 (sX10_isWithin h) rfl rfl (Nat.le_of_ble_eq_true rfl) (by decide) (by decide) (fun v4 M4 h => ?_)
  refine V_if_ne 13 dX10_limit_7 (by decide) (fun q7 => ?_) (fun q7 => ?_)
  · replace h := h.1 q7
    refine V_aload_n dX10_limit_13 rfl ?_
    refine V_getR 13 fl_X10_55 dX10_limit_14 rfl rfl rfl ?_
    refine V_getI fl_X10_286 dX10_limit_17 rfl rfl ?_
    refine V_istore_n dX10_limit_20 (by decide) ?_
    refine V_aload_n dX10_limit_21 rfl ?_
    refine V_getR 13 fl_X10_55 dX10_limit_22 rfl rfl rfl ?_
    refine V_iload_n dX10_limit_25 rfl ?_
    refine V_putN fp_X10_286 dX10_limit_26 rfl rfl rfl rfl (fun N26 e26 => ?_)
    replace h := h N26 e26
    refine V_iload_n dX10_limit_29 rfl ?_
    exact V_reti dX10_limit_30 rfl rfl h
  · replace h := h.2 q7
    refine V_bipush (-2) dX10_limit_10 (by decide) ?_
    exact V_reti dX10_limit_12 rfl rfl h
def wX10_costBetween (a1 : Int32) (a2 : Int32) (a3 : Int32) (M : Mem) (Q : Int32 → Mem → Prop) : Prop :=
  vp_in ((a1 * 6) + a3) 48 ∧ vp_in ((a2 * 6) + a3) 48 ∧ wX10_isForm (M 7 (Int32.toNatClampNeg ((a1 * 6) + a3))) M (fun v29 M29 => ((v29 = 0 →
      Q (-9) M29) ∧ (¬ v29 = 0 →
      wX10_isForm (M 7 (Int32.toNatClampNeg ((a2 * 6) + a3))) M29 (fun v38 M38 => ((v38 = 0 →
          Q (-9) M38) ∧ (¬ v38 = 0 →
          vp_in (M 7 (Int32.toNatClampNeg ((a1 * 6) + a3))) 40 ∧ vp_in (M 7 (Int32.toNatClampNeg ((a2 * 6) + a3))) 40 ∧ wX6_leastCost ((150 + Int32.toNatClampNeg (M 7 (Int32.toNatClampNeg ((a1 * 6) + a3)))) - 100) ((150 + Int32.toNatClampNeg (M 7 (Int32.toNatClampNeg ((a2 * 6) + a3)))) - 100) M38 (fun v68 M68 => Q v68 M68)))))))
set_option maxHeartbeats 1000000 in
set_option maxRecDepth 20000 in
theorem sX10_costBetween {E : En} {a1 : Int32} {a2 : Int32} {a3 : Int32} {M : Mem} {Q : Int32 → Mem → Prop} (h : wX10_costBetween a1 a2 a3 M Q) : CM E 5 mX10_costBetween [.ref (E.2.2 0), .int a1, .int a2, .int a3] M (Pi Q) := by
  unfold wX10_costBetween at h
  refine CM.of (by decide) rfl (Nat.le_of_ble_eq_true rfl) ?_
  refine V_aload_n dX10_costBetween_0 rfl ?_
  refine V_getR 7 fl_X10_34 dX10_costBetween_1 rfl rfl rfl ?_
  refine V_iload_n dX10_costBetween_4 rfl ?_
  refine V_bipush 6 dX10_costBetween_5 (by decide) ?_
  refine V_imul dX10_costBetween_7 ?_
  refine V_iload_n dX10_costBetween_8 rfl ?_
  refine V_iadd dX10_costBetween_9 ?_
  obtain ⟨hi10, h⟩ := h
  refine V_ialdM dX10_costBetween_10 rfl hi10 ?_
  refine V_istore dX10_costBetween_11 (by decide) ?_
  refine V_aload_n dX10_costBetween_13 rfl ?_
  refine V_getR 7 fl_X10_34 dX10_costBetween_14 rfl rfl rfl ?_
  refine V_iload_n dX10_costBetween_17 rfl ?_
  refine V_bipush 6 dX10_costBetween_18 (by decide) ?_
  refine V_imul dX10_costBetween_20 ?_
  refine V_iload_n dX10_costBetween_21 rfl ?_
  refine V_iadd dX10_costBetween_22 ?_
  obtain ⟨hi23, h⟩ := h
  refine V_ialdM dX10_costBetween_23 rfl hi23 ?_
  refine V_istore dX10_costBetween_24 (by decide) ?_
  refine V_aload_n dX10_costBetween_26 rfl ?_
  refine V_iload dX10_costBetween_27 rfl ?_
  refine M_Vi mv_X10_isForm lk_X10_176 dX10_costBetween_29 rfl rfl (sX10_isForm h) rfl rfl (Nat.le_of_ble_eq_true rfl) (by decide) (by decide) (fun v29 M29 h => ?_)
  refine V_if_eq 74 dX10_costBetween_32 (by decide) (fun q32 => ?_) (fun q32 => ?_)
  · replace h := h.1 q32
    refine V_bipush (-9) dX10_costBetween_74 (by decide) ?_
    exact V_reti dX10_costBetween_76 rfl rfl h
  · replace h := h.2 q32
    refine V_aload_n dX10_costBetween_35 rfl ?_
    refine V_iload dX10_costBetween_36 rfl ?_
    refine M_Vi mv_X10_isForm lk_X10_176 dX10_costBetween_38 rfl rfl (sX10_isForm h) rfl rfl (Nat.le_of_ble_eq_true rfl) (by decide) (by decide) (fun v38 M38 h => ?_)
    refine V_if_eq 74 dX10_costBetween_41 (by decide) (fun q41 => ?_) (fun q41 => ?_)
    · replace h := h.1 q41
      refine V_bipush (-9) dX10_costBetween_74 (by decide) ?_
      exact V_reti dX10_costBetween_76 rfl rfl h
    · replace h := h.2 q41
      refine V_aload_n dX10_costBetween_44 rfl ?_
      refine V_getR 13 fl_X10_55 dX10_costBetween_45 rfl rfl rfl ?_
      refine V_aload_n dX10_costBetween_48 rfl ?_
      refine V_getR 6 fl_X10_30 dX10_costBetween_49 rfl rfl rfl ?_
      refine V_iload dX10_costBetween_52 rfl ?_
      obtain ⟨hi54, h⟩ := h
      have hb54 := vp_lt hi54
      refine V_aaldM (150 + Int32.toNatClampNeg (M 7 (Int32.toNatClampNeg ((a1 * 6) + a3)))) dX10_costBetween_54 rfl (by decide) hi54 rfl ?_
      refine V_getR ((150 + Int32.toNatClampNeg (M 7 (Int32.toNatClampNeg ((a1 * 6) + a3)))) - 100) fl_X10_188 dX10_costBetween_55 (kd_X2 (by omega)) rfl (rf_X2 (by omega)) ?_
      refine V_aload_n dX10_costBetween_58 rfl ?_
      refine V_getR 6 fl_X10_30 dX10_costBetween_59 rfl rfl rfl ?_
      refine V_iload dX10_costBetween_62 rfl ?_
      obtain ⟨hi64, h⟩ := h
      have hb64 := vp_lt hi64
      refine V_aaldM (150 + Int32.toNatClampNeg (M 7 (Int32.toNatClampNeg ((a2 * 6) + a3)))) dX10_costBetween_64 rfl (by decide) hi64 rfl ?_
      refine V_getR ((150 + Int32.toNatClampNeg (M 7 (Int32.toNatClampNeg ((a2 * 6) + a3)))) - 100) fl_X10_188 dX10_costBetween_65 (kd_X2 (by omega)) rfl (rf_X2 (by omega)) ?_
      refine M_Vi mv_X6_leastCost lk_X10_230 dX10_costBetween_68 rfl rfl (sX6_leastCost h) rfl rfl (Nat.le_of_ble_eq_true rfl) (by decide) (by decide) (fun v68 M68 h => ?_)
      refine V_goto 76 dX10_costBetween_71 (by decide) ?_
      exact V_reti dX10_costBetween_76 rfl rfl h
def wX10_likePlaces (a1 : Int32) (a2 : Int32) (M : Mem) (Q : Int32 → Mem → Prop) : Prop :=
  (∃ n, lq2 (fun R5 (x5_3 : Int32) (x5_4 : Int32) (M5 : Mem) => (((M5 0 15) ≤ x5_4 →
      Q x5_3 M5) ∧ (¬ (M5 0 15) ≤ x5_4 →
      wX10_costBetween a1 x5_4 a2 M5 (fun v19 M19 => wX10_isWithin v19 0 (M19 13 3) M19 (fun v30 M30 => ((v30 = 0 →
            R5 x5_3 (x5_4 + 1) M30) ∧ (¬ v30 = 0 →
            R5 (x5_3 ||| (1 <<< (x5_4 &&& 31))) (x5_4 + 1) M30))))))) n 0 0 M)
set_option maxHeartbeats 1000000 in
set_option maxRecDepth 20000 in
theorem sX10_likePlaces {E : En} {a1 : Int32} {a2 : Int32} {M : Mem} {Q : Int32 → Mem → Prop} (h : wX10_likePlaces a1 a2 M Q) : CM E 6 mX10_likePlaces [.ref (E.2.2 0), .int a1, .int a2] M (Pi Q) := by
  unfold wX10_likePlaces at h
  refine CM.of (by decide) rfl (Nat.le_of_ble_eq_true rfl) ?_
  refine V_iconst 0 dX10_likePlaces_0 (by decide) ?_
  refine V_istore_n dX10_likePlaces_1 (by decide) ?_
  refine V_iconst 0 dX10_likePlaces_2 (by decide) ?_
  refine V_istore dX10_likePlaces_3 (by decide) ?_
  obtain ⟨n5, h⟩ := h
  refine V_take 5 ?_
  refine lq2_use (P := fun (x5_3 : Int32) (x5_4 : Int32) (M5 : Mem) => V (Km E 6 (Pi Q)) mX10_likePlaces 5 [.ref (E.2.2 0), .int a1, .int a2, .int x5_3, .int x5_4] [] (wsM E.1 E.2.2 M5) 0 0) (fun R5 hR5 x5_3 x5_4 M5 h => ?_) n5 _ _ _ h
  refine V_iload dX10_likePlaces_5 rfl ?_
  refine V_aload_n dX10_likePlaces_7 rfl ?_
  refine V_getI fl_X10_89 dX10_likePlaces_8 rfl rfl ?_
  refine V_icmp_ge 49 dX10_likePlaces_11 (by decide) (fun q11 => ?_) (fun q11 => ?_)
  · replace h := h.1 q11
    refine V_iload_n dX10_likePlaces_49 rfl ?_
    exact V_reti dX10_likePlaces_50 rfl rfl h
  · replace h := h.2 q11
    refine V_aload_n dX10_likePlaces_14 rfl ?_
    refine V_iload_n dX10_likePlaces_15 rfl ?_
    refine V_iload dX10_likePlaces_16 rfl ?_
    refine V_iload_n dX10_likePlaces_18 rfl ?_
    refine M_Vi mv_X10_costBetween lk_X10_295 dX10_likePlaces_19 rfl rfl (sX10_costBetween h) rfl rfl (Nat.le_of_ble_eq_true rfl) (by decide) (by decide) (fun v19 M19 h => ?_)
    refine V_iconst 0 dX10_likePlaces_22 (by decide) ?_
    refine V_aload_n dX10_likePlaces_23 rfl ?_
    refine V_getR 13 fl_X10_55 dX10_likePlaces_24 rfl rfl rfl ?_
    refine V_getI fl_X10_286 dX10_likePlaces_27 rfl rfl ?_
    refine M_Si ms_X10_isWithin lk_X10_142 dX10_likePlaces_30 (sX10_isWithin h) rfl rfl (Nat.le_of_ble_eq_true rfl) (by decide) (by decide) (fun v30 M30 h => ?_)
    refine V_if_eq 43 dX10_likePlaces_33 (by decide) (fun q33 => ?_) (fun q33 => ?_)
    · replace h := h.1 q33
      refine V_iincC 1 dX10_likePlaces_43 (by decide) rfl (by decide) ?_
      refine V_goto 5 dX10_likePlaces_46 (by decide) ?_
      refine V_take 5 ?_
      exact hR5 _ _ _ h
    · replace h := h.2 q33
      refine V_iload_n dX10_likePlaces_36 rfl ?_
      refine V_iconst 1 dX10_likePlaces_37 (by decide) ?_
      refine V_iload dX10_likePlaces_38 rfl ?_
      refine V_ishl dX10_likePlaces_40 ?_
      refine V_ior dX10_likePlaces_41 ?_
      refine V_istore_n dX10_likePlaces_42 (by decide) ?_
      refine V_iincC 1 dX10_likePlaces_43 (by decide) rfl (by decide) ?_
      refine V_goto 5 dX10_likePlaces_46 (by decide) ?_
      refine V_take 5 ?_
      exact hR5 _ _ _ h
def wJ6_numberOfTrailingZeros_0f7a4 (a0 : Int32) (M : Mem) (Q : Int32 → Mem → Prop) : Prop :=
  ((0 < ((a0 ^^^ (-1)) &&& (a0 - 1)) →
    jn2 (fun (x34_0 : Int32) (x34_1 : Int32) (M34 : Mem) => jn2 (fun (x49_0 : Int32) (x49_1 : Int32) (M49 : Mem) => jn2 (fun (x62_0 : Int32) (x62_1 : Int32) (M62 : Mem) => jn2 (fun (x74_0 : Int32) (x74_1 : Int32) (M74 : Mem) => Q (x74_1 + (Int32.toUInt32 x74_0 >>> (Int32.toUInt32 1 &&& Int32.toUInt32 31)).toInt32) M74) (fun J74 => ((x62_0 ≤ 4 →
              J74 x62_0 x62_1 M62) ∧ (¬ x62_0 ≤ 4 →
              (∀ t73 : Int32, t73 = (Int32.toUInt32 x62_0 >>> (Int32.toUInt32 2 &&& Int32.toUInt32 31)).toInt32 → J74 t73 (x62_1 + 2) M62))))) (fun J62 => ((x49_0 ≤ 16 →
            J62 x49_0 x49_1 M49) ∧ (¬ x49_0 ≤ 16 →
            (∀ t61 : Int32, t61 = (Int32.toUInt32 x49_0 >>> (Int32.toUInt32 4 &&& Int32.toUInt32 31)).toInt32 → J62 t61 (x49_1 + 4) M49))))) (fun J49 => ((x34_0 ≤ 256 →
          J49 x34_0 x34_1 M34) ∧ (¬ x34_0 ≤ 256 →
          (∀ t48 : Int32, t48 = (Int32.toUInt32 x34_0 >>> (Int32.toUInt32 8 &&& Int32.toUInt32 31)).toInt32 → J49 t48 (x34_1 + 8) M34))))) (fun J34 => ((((a0 ^^^ (-1)) &&& (a0 - 1)) ≤ 65536 →
        J34 ((a0 ^^^ (-1)) &&& (a0 - 1)) 1 M) ∧ (¬ ((a0 ^^^ (-1)) &&& (a0 - 1)) ≤ 65536 →
        (∀ t33 : Int32, t33 = (Int32.toUInt32 ((a0 ^^^ (-1)) &&& (a0 - 1)) >>> (Int32.toUInt32 16 &&& Int32.toUInt32 31)).toInt32 → J34 t33 (1 + 16) M))))) ∧ (¬ 0 < ((a0 ^^^ (-1)) &&& (a0 - 1)) →
    Q (((a0 ^^^ (-1)) &&& (a0 - 1)) &&& 32) M))
set_option maxHeartbeats 1000000 in
set_option maxRecDepth 20000 in
theorem sJ6_numberOfTrailingZeros_0f7a4 {E : En} {a0 : Int32} {M : Mem} {Q : Int32 → Mem → Prop} (h : wJ6_numberOfTrailingZeros_0f7a4 a0 M Q) : CM E 1 mJ6_numberOfTrailingZeros_0f7a4 [.int a0] M (Pi Q) := by
  unfold wJ6_numberOfTrailingZeros_0f7a4 at h
  refine CM.of (by decide) rfl (Nat.le_of_ble_eq_true rfl) ?_
  refine V_iload_n dJ6_numberOfTrailingZeros_0f7a4_0 rfl ?_
  refine V_iconst (-1) dJ6_numberOfTrailingZeros_0f7a4_1 (by decide) ?_
  refine V_ixor dJ6_numberOfTrailingZeros_0f7a4_2 ?_
  refine V_iload_n dJ6_numberOfTrailingZeros_0f7a4_3 rfl ?_
  refine V_iconst 1 dJ6_numberOfTrailingZeros_0f7a4_4 (by decide) ?_
  refine V_isub dJ6_numberOfTrailingZeros_0f7a4_5 ?_
  refine V_iand dJ6_numberOfTrailingZeros_0f7a4_6 ?_
  refine V_istore_n dJ6_numberOfTrailingZeros_0f7a4_7 (by decide) ?_
  refine V_iload_n dJ6_numberOfTrailingZeros_0f7a4_8 rfl ?_
  refine V_if_gt 17 dJ6_numberOfTrailingZeros_0f7a4_9 (by decide) (fun q9 => ?_) (fun q9 => ?_)
  · replace h := h.1 q9
    refine V_iconst 1 dJ6_numberOfTrailingZeros_0f7a4_17 (by decide) ?_
    refine V_istore_n dJ6_numberOfTrailingZeros_0f7a4_18 (by decide) ?_
    refine V_iload_n dJ6_numberOfTrailingZeros_0f7a4_19 rfl ?_
    refine V_ldcw 65536 dJ6_numberOfTrailingZeros_0f7a4_20 k_J6_264 ?_
    refine jn2_use (P := fun (x34_0 : Int32) (x34_1 : Int32) (M34 : Mem) => V (Km E 1 (Pi Q)) mJ6_numberOfTrailingZeros_0f7a4 34 [.int x34_0, .int x34_1] [] (wsM E.1 E.2.2 M34) 0 0) (fun x34_0 x34_1 M34 h => ?_) (fun J34 hJ34 h => ?_) h
    · refine V_iload_n dJ6_numberOfTrailingZeros_0f7a4_34 rfl ?_
      refine V_sipush 256 dJ6_numberOfTrailingZeros_0f7a4_35 (by decide) ?_
      refine jn2_use (P := fun (x49_0 : Int32) (x49_1 : Int32) (M49 : Mem) => V (Km E 1 (Pi Q)) mJ6_numberOfTrailingZeros_0f7a4 49 [.int x49_0, .int x49_1] [] (wsM E.1 E.2.2 M49) 0 0) (fun x49_0 x49_1 M49 h => ?_) (fun J49 hJ49 h => ?_) h
      · refine V_iload_n dJ6_numberOfTrailingZeros_0f7a4_49 rfl ?_
        refine V_bipush 16 dJ6_numberOfTrailingZeros_0f7a4_50 (by decide) ?_
        refine jn2_use (P := fun (x62_0 : Int32) (x62_1 : Int32) (M62 : Mem) => V (Km E 1 (Pi Q)) mJ6_numberOfTrailingZeros_0f7a4 62 [.int x62_0, .int x62_1] [] (wsM E.1 E.2.2 M62) 0 0) (fun x62_0 x62_1 M62 h => ?_) (fun J62 hJ62 h => ?_) h
        · refine V_iload_n dJ6_numberOfTrailingZeros_0f7a4_62 rfl ?_
          refine V_iconst 4 dJ6_numberOfTrailingZeros_0f7a4_63 (by decide) ?_
          refine jn2_use (P := fun (x74_0 : Int32) (x74_1 : Int32) (M74 : Mem) => V (Km E 1 (Pi Q)) mJ6_numberOfTrailingZeros_0f7a4 74 [.int x74_0, .int x74_1] [] (wsM E.1 E.2.2 M74) 0 0) (fun x74_0 x74_1 M74 h => ?_) (fun J74 hJ74 h => ?_) h
          · refine V_iload_n dJ6_numberOfTrailingZeros_0f7a4_74 rfl ?_
            refine V_iload_n dJ6_numberOfTrailingZeros_0f7a4_75 rfl ?_
            refine V_iconst 1 dJ6_numberOfTrailingZeros_0f7a4_76 (by decide) ?_
            refine V_iushr dJ6_numberOfTrailingZeros_0f7a4_77 ?_
            refine V_iadd dJ6_numberOfTrailingZeros_0f7a4_78 ?_
            exact V_reti dJ6_numberOfTrailingZeros_0f7a4_79 rfl rfl h
          · refine V_icmp_le 74 dJ6_numberOfTrailingZeros_0f7a4_64 (by decide) (fun q64 => ?_) (fun q64 => ?_)
            · replace h := h.1 q64
              refine V_take 2 ?_
              exact hJ74 _ _ _ h
            · replace h := h.2 q64
              refine V_iincC 2 dJ6_numberOfTrailingZeros_0f7a4_67 (by decide) rfl (by decide) ?_
              refine V_iload_n dJ6_numberOfTrailingZeros_0f7a4_70 rfl ?_
              refine V_iconst 2 dJ6_numberOfTrailingZeros_0f7a4_71 (by decide) ?_
              refine V_iushr dJ6_numberOfTrailingZeros_0f7a4_72 ?_
              refine V_name (fun t73 e73 => ?_)
              replace h := h t73 e73
              refine V_istore_n dJ6_numberOfTrailingZeros_0f7a4_73 (by decide) ?_
              refine V_take 2 ?_
              exact hJ74 _ _ _ h
        · refine V_icmp_le 62 dJ6_numberOfTrailingZeros_0f7a4_52 (by decide) (fun q52 => ?_) (fun q52 => ?_)
          · replace h := h.1 q52
            refine V_take 2 ?_
            exact hJ62 _ _ _ h
          · replace h := h.2 q52
            refine V_iincC 4 dJ6_numberOfTrailingZeros_0f7a4_55 (by decide) rfl (by decide) ?_
            refine V_iload_n dJ6_numberOfTrailingZeros_0f7a4_58 rfl ?_
            refine V_iconst 4 dJ6_numberOfTrailingZeros_0f7a4_59 (by decide) ?_
            refine V_iushr dJ6_numberOfTrailingZeros_0f7a4_60 ?_
            refine V_name (fun t61 e61 => ?_)
            replace h := h t61 e61
            refine V_istore_n dJ6_numberOfTrailingZeros_0f7a4_61 (by decide) ?_
            refine V_take 2 ?_
            exact hJ62 _ _ _ h
      · refine V_icmp_le 49 dJ6_numberOfTrailingZeros_0f7a4_38 (by decide) (fun q38 => ?_) (fun q38 => ?_)
        · replace h := h.1 q38
          refine V_take 2 ?_
          exact hJ49 _ _ _ h
        · replace h := h.2 q38
          refine V_iincC 8 dJ6_numberOfTrailingZeros_0f7a4_41 (by decide) rfl (by decide) ?_
          refine V_iload_n dJ6_numberOfTrailingZeros_0f7a4_44 rfl ?_
          refine V_bipush 8 dJ6_numberOfTrailingZeros_0f7a4_45 (by decide) ?_
          refine V_iushr dJ6_numberOfTrailingZeros_0f7a4_47 ?_
          refine V_name (fun t48 e48 => ?_)
          replace h := h t48 e48
          refine V_istore_n dJ6_numberOfTrailingZeros_0f7a4_48 (by decide) ?_
          refine V_take 2 ?_
          exact hJ49 _ _ _ h
    · refine V_icmp_le 34 dJ6_numberOfTrailingZeros_0f7a4_23 (by decide) (fun q23 => ?_) (fun q23 => ?_)
      · replace h := h.1 q23
        refine V_take 2 ?_
        exact hJ34 _ _ _ h
      · replace h := h.2 q23
        refine V_iincC 16 dJ6_numberOfTrailingZeros_0f7a4_26 (by decide) rfl (by decide) ?_
        refine V_iload_n dJ6_numberOfTrailingZeros_0f7a4_29 rfl ?_
        refine V_bipush 16 dJ6_numberOfTrailingZeros_0f7a4_30 (by decide) ?_
        refine V_iushr dJ6_numberOfTrailingZeros_0f7a4_32 ?_
        refine V_name (fun t33 e33 => ?_)
        replace h := h t33 e33
        refine V_istore_n dJ6_numberOfTrailingZeros_0f7a4_33 (by decide) ?_
        refine V_take 2 ?_
        exact hJ34 _ _ _ h
  · replace h := h.2 q9
    refine V_iload_n dJ6_numberOfTrailingZeros_0f7a4_12 rfl ?_
    refine V_bipush 32 dJ6_numberOfTrailingZeros_0f7a4_13 (by decide) ?_
    refine V_iand dJ6_numberOfTrailingZeros_0f7a4_15 ?_
    exact V_reti dJ6_numberOfTrailingZeros_0f7a4_16 rfl rfl h
def wX10_leastJoined (a0 : Int32) (a1 : Nat) (a2 : Int32) (M : Mem) (Q : Int32 → Mem → Prop) : Prop :=
  kd a1 = 20 ∧ (∃ n, lq2 (fun R7 (x7_3 : Int32) (x7_4 : Int32) (M7 : Mem) => ((8 ≤ x7_4 →
      wJ6_numberOfTrailingZeros_0f7a4 x7_3 M7 (fun v55 M55 => Q v55 M55)) ∧ (¬ 8 ≤ x7_4 →
      (∃ n, lq2 (fun R17 (x17_3 : Int32) (x17_5 : Int32) (M17 : Mem) => ((8 ≤ x17_5 →
          R7 x17_3 (x7_4 + 1) M17) ∧ (¬ 8 ≤ x17_5 →
          wX10_isIn x17_5 x17_3 M17 (fun v27 M27 => ((v27 = 0 →
              R17 x17_3 (x17_5 + 1) M27) ∧ (¬ v27 = 0 →
              vp_in x17_5 (ln a1) ∧ R17 (x17_3 ||| ((M27 a1 (Int32.toNatClampNeg x17_5)) &&& a0)) (x17_5 + 1) M27)))))) n x7_3 0 M7)))) n (1 <<< (a2 &&& 31)) 0 M)
set_option maxHeartbeats 1000000 in
set_option maxRecDepth 20000 in
theorem sX10_leastJoined {E : En} {a0 : Int32} {a1 : Nat} {a2 : Int32} {M : Mem} {Q : Int32 → Mem → Prop} (h : wX10_leastJoined a0 a1 a2 M Q) : CM E 2 mX10_leastJoined [.int a0, .ref (E.2.2 a1), .int a2] M (Pi Q) := by
  unfold wX10_leastJoined at h
  obtain ⟨hk1, h⟩ := h
  refine CM.of (by decide) rfl (Nat.le_of_ble_eq_true rfl) ?_
  refine V_iconst 1 dX10_leastJoined_0 (by decide) ?_
  refine V_iload_n dX10_leastJoined_1 rfl ?_
  refine V_ishl dX10_leastJoined_2 ?_
  refine V_istore_n dX10_leastJoined_3 (by decide) ?_
  refine V_iconst 0 dX10_leastJoined_4 (by decide) ?_
  refine V_istore dX10_leastJoined_5 (by decide) ?_
  obtain ⟨n7, h⟩ := h
  refine V_take 5 ?_
  refine lq2_use (P := fun (x7_3 : Int32) (x7_4 : Int32) (M7 : Mem) => ∀ j7_2 : Value, V (Km E 2 (Pi Q)) mX10_leastJoined 7 [.int a0, .ref (E.2.2 a1), j7_2, .int x7_3, .int x7_4] [] (wsM E.1 E.2.2 M7) 0 0) (fun R7 hR7 x7_3 x7_4 M7 h j7_2 => ?_) n7 _ _ _ h _
  refine V_iload dX10_leastJoined_7 rfl ?_
  refine V_bipush 8 dX10_leastJoined_9 (by decide) ?_
  refine V_icmp_ge 54 dX10_leastJoined_11 (by decide) (fun q11 => ?_) (fun q11 => ?_)
  · replace h := h.1 q11
    refine V_iload_n dX10_leastJoined_54 rfl ?_
    refine M_Si ms_J6_numberOfTrailingZeros_0f7a4 lk_X10_301 dX10_leastJoined_55 (sJ6_numberOfTrailingZeros_0f7a4 h) rfl rfl (Nat.le_of_ble_eq_true rfl) (by decide) (by decide) (fun v55 M55 h => ?_)
    exact V_reti dX10_leastJoined_58 rfl rfl h
  · replace h := h.2 q11
    refine V_iconst 0 dX10_leastJoined_14 (by decide) ?_
    refine V_istore dX10_leastJoined_15 (by decide) ?_
    obtain ⟨n17, h⟩ := h
    refine V_take 6 ?_
    refine lq2_use (P := fun (x17_3 : Int32) (x17_5 : Int32) (M17 : Mem) => ∀ j17_2 : Value, V (Km E 2 (Pi Q)) mX10_leastJoined 17 [.int a0, .ref (E.2.2 a1), j17_2, .int x17_3, .int x7_4, .int x17_5] [] (wsM E.1 E.2.2 M17) 0 0) (fun R17 hR17 x17_3 x17_5 M17 h j17_2 => ?_) n17 _ _ _ h _
    refine V_iload dX10_leastJoined_17 rfl ?_
    refine V_bipush 8 dX10_leastJoined_19 (by decide) ?_
    refine V_icmp_ge 48 dX10_leastJoined_21 (by decide) (fun q21 => ?_) (fun q21 => ?_)
    · replace h := h.1 q21
      refine V_iincC 1 dX10_leastJoined_48 (by decide) rfl (by decide) ?_
      refine V_goto 7 dX10_leastJoined_51 (by decide) ?_
      refine V_take 5 ?_
      exact hR7 _ _ _ h _
    · replace h := h.2 q21
      refine V_iload dX10_leastJoined_24 rfl ?_
      refine V_iload_n dX10_leastJoined_26 rfl ?_
      refine M_Si ms_X10_isIn lk_X10_128 dX10_leastJoined_27 (sX10_isIn h) rfl rfl (Nat.le_of_ble_eq_true rfl) (by decide) (by decide) (fun v27 M27 h => ?_)
      refine V_if_eq 42 dX10_leastJoined_30 (by decide) (fun q30 => ?_) (fun q30 => ?_)
      · replace h := h.1 q30
        refine V_iincC 1 dX10_leastJoined_42 (by decide) rfl (by decide) ?_
        refine V_goto 17 dX10_leastJoined_45 (by decide) ?_
        refine V_take 6 ?_
        exact hR17 _ _ _ h _
      · replace h := h.2 q30
        refine V_iload_n dX10_leastJoined_33 rfl ?_
        refine V_aload_n dX10_leastJoined_34 rfl ?_
        refine V_iload dX10_leastJoined_35 rfl ?_
        obtain ⟨hi37, h⟩ := h
        refine V_ialdM dX10_leastJoined_37 hk1 hi37 ?_
        refine V_iload_n dX10_leastJoined_38 rfl ?_
        refine V_iand dX10_leastJoined_39 ?_
        refine V_ior dX10_leastJoined_40 ?_
        refine V_istore_n dX10_leastJoined_41 (by decide) ?_
        refine V_iincC 1 dX10_leastJoined_42 (by decide) rfl (by decide) ?_
        refine V_goto 17 dX10_leastJoined_45 (by decide) ?_
        refine V_take 6 ?_
        exact hR17 _ _ _ h _
def wX10_countOrLeast (a0 : Int32) (a1 : Nat) (a2 : Int32) (M : Mem) (Q : Int32 → Mem → Prop) : Prop :=
  kd a1 = 20 ∧ ((a2 = (-1) →
    (∃ n, lq2 (fun R30 (x30_3 : Int32) (x30_4 : Int32) (M30 : Mem) => ((8 ≤ x30_4 →
        Q x30_3 M30) ∧ (¬ 8 ≤ x30_4 →
        wX10_isIn x30_4 a0 M30 (fun v40 M40 => ((v40 = 0 →
            R30 x30_3 (x30_4 + 1) M40) ∧ (¬ v40 = 0 →
            wX10_leastJoined a0 a1 x30_4 M40 (fun v50 M50 => ((¬ v50 = x30_4 →
                R30 x30_3 (x30_4 + 1) M50) ∧ (v50 = x30_4 →
                R30 (x30_3 + 1) (x30_4 + 1) M50))))))))) n 0 0 M)) ∧ (¬ a2 = (-1) →
    wX10_isIn a2 a0 M (fun v7 M7 => ((v7 = 0 →
        Q (-9) M7) ∧ (¬ v7 = 0 →
        wX10_leastJoined a0 a1 a2 M7 (fun v16 M16 => Q v16 M16))))))
set_option maxHeartbeats 1000000 in
set_option maxRecDepth 20000 in
theorem sX10_countOrLeast {E : En} {a0 : Int32} {a1 : Nat} {a2 : Int32} {M : Mem} {Q : Int32 → Mem → Prop} (h : wX10_countOrLeast a0 a1 a2 M Q) : CM E 3 mX10_countOrLeast [.int a0, .ref (E.2.2 a1), .int a2] M (Pi Q) := by
  unfold wX10_countOrLeast at h
  obtain ⟨hk1, h⟩ := h
  refine CM.of (by decide) rfl (Nat.le_of_ble_eq_true rfl) ?_
  refine V_iload_n dX10_countOrLeast_0 rfl ?_
  refine V_iconst (-1) dX10_countOrLeast_1 (by decide) ?_
  refine V_icmp_eq 25 dX10_countOrLeast_2 (by decide) (fun q2 => ?_) (fun q2 => ?_)
  · replace h := h.1 q2
    refine V_iconst 0 dX10_countOrLeast_25 (by decide) ?_
    refine V_istore_n dX10_countOrLeast_26 (by decide) ?_
    refine V_iconst 0 dX10_countOrLeast_27 (by decide) ?_
    refine V_istore dX10_countOrLeast_28 (by decide) ?_
    obtain ⟨n30, h⟩ := h
    refine V_take 5 ?_
    refine lq2_use (P := fun (x30_3 : Int32) (x30_4 : Int32) (M30 : Mem) => ∀ j30_2 : Value, V (Km E 3 (Pi Q)) mX10_countOrLeast 30 [.int a0, .ref (E.2.2 a1), j30_2, .int x30_3, .int x30_4] [] (wsM E.1 E.2.2 M30) 0 0) (fun R30 hR30 x30_3 x30_4 M30 h j30_2 => ?_) n30 _ _ _ h _
    refine V_iload dX10_countOrLeast_30 rfl ?_
    refine V_bipush 8 dX10_countOrLeast_32 (by decide) ?_
    refine V_icmp_ge 67 dX10_countOrLeast_34 (by decide) (fun q34 => ?_) (fun q34 => ?_)
    · replace h := h.1 q34
      refine V_iload_n dX10_countOrLeast_67 rfl ?_
      exact V_reti dX10_countOrLeast_68 rfl rfl h
    · replace h := h.2 q34
      refine V_iload dX10_countOrLeast_37 rfl ?_
      refine V_iload_n dX10_countOrLeast_39 rfl ?_
      refine M_Si ms_X10_isIn lk_X10_128 dX10_countOrLeast_40 (sX10_isIn h) rfl rfl (Nat.le_of_ble_eq_true rfl) (by decide) (by decide) (fun v40 M40 h => ?_)
      refine V_if_eq 61 dX10_countOrLeast_43 (by decide) (fun q43 => ?_) (fun q43 => ?_)
      · replace h := h.1 q43
        refine V_iincC 1 dX10_countOrLeast_61 (by decide) rfl (by decide) ?_
        refine V_goto 30 dX10_countOrLeast_64 (by decide) ?_
        refine V_take 5 ?_
        exact hR30 _ _ _ h _
      · replace h := h.2 q43
        refine V_iload_n dX10_countOrLeast_46 rfl ?_
        refine V_aload_n dX10_countOrLeast_47 rfl ?_
        refine V_iload dX10_countOrLeast_48 rfl ?_
        refine M_Si ms_X10_leastJoined lk_X10_298 dX10_countOrLeast_50 (sX10_leastJoined h) rfl rfl (Nat.le_of_ble_eq_true rfl) (by decide) (by decide) (fun v50 M50 h => ?_)
        refine V_iload dX10_countOrLeast_53 rfl ?_
        refine V_icmp_ne 61 dX10_countOrLeast_55 (by decide) (fun q55 => ?_) (fun q55 => ?_)
        · replace h := h.1 q55
          refine V_iincC 1 dX10_countOrLeast_61 (by decide) rfl (by decide) ?_
          refine V_goto 30 dX10_countOrLeast_64 (by decide) ?_
          refine V_take 5 ?_
          exact hR30 _ _ _ h _
        · replace h := h.2 q55
          refine V_iincC 1 dX10_countOrLeast_58 (by decide) rfl (by decide) ?_
          refine V_iincC 1 dX10_countOrLeast_61 (by decide) rfl (by decide) ?_
          refine V_goto 30 dX10_countOrLeast_64 (by decide) ?_
          refine V_take 5 ?_
          exact hR30 _ _ _ h _
  · replace h := h.2 q2
    refine V_iload_n dX10_countOrLeast_5 rfl ?_
    refine V_iload_n dX10_countOrLeast_6 rfl ?_
    refine M_Si ms_X10_isIn lk_X10_128 dX10_countOrLeast_7 (sX10_isIn h) rfl rfl (Nat.le_of_ble_eq_true rfl) (by decide) (by decide) (fun v7 M7 h => ?_)
    refine V_if_eq 22 dX10_countOrLeast_10 (by decide) (fun q10 => ?_) (fun q10 => ?_)
    · replace h := h.1 q10
      refine V_bipush (-9) dX10_countOrLeast_22 (by decide) ?_
      exact V_reti dX10_countOrLeast_24 rfl rfl h
    · replace h := h.2 q10
      refine V_iload_n dX10_countOrLeast_13 rfl ?_
      refine V_aload_n dX10_countOrLeast_14 rfl ?_
      refine V_iload_n dX10_countOrLeast_15 rfl ?_
      refine M_Si ms_X10_leastJoined lk_X10_298 dX10_countOrLeast_16 (sX10_leastJoined h) rfl rfl (Nat.le_of_ble_eq_true rfl) (by decide) (by decide) (fun v16 M16 h => ?_)
      refine V_goto 24 dX10_countOrLeast_19 (by decide) ?_
      exact V_reti dX10_countOrLeast_24 rfl rfl h
def wX10_group (a1 : Int32) (a2 : Int32) (M : Mem) (Q : Int32 → Mem → Prop) : Prop :=
  wX10_isMeaning a1 M (fun v1 M1 => ((v1 = 0 →
      Q (-1) M1) ∧ (¬ v1 = 0 →
      jn0 (fun (M22 : Mem) => (∃ n, lq1 (fun R24 (x24_3 : Int32) (M24 : Mem) => ((8 ≤ x24_3 →
            wX10_saidPlaces a1 M24 (fun v50 M50 => wX10_countOrLeast v50 19 a2 M50 (fun v58 M58 => Q v58 M58))) ∧ (¬ 8 ≤ x24_3 →
            wX10_likePlaces x24_3 a1 M24 (fun v38 M38 => vp_in x24_3 8 ∧ (∀ N41, N41 = mset M38 19 (Int32.toNatClampNeg x24_3) v38 → R24 (x24_3 + 1) N41))))) n 0 M22)) (fun J22 => ((a2 = (-1) →
          J22 M1) ∧ (¬ a2 = (-1) →
          wX10_isPlace a2 M1 (fun v14 M14 => ((¬ v14 = 0 →
              J22 M14) ∧ (v14 = 0 →
              Q (-1) M14)))))))))
set_option maxHeartbeats 1000000 in
set_option maxRecDepth 20000 in
theorem sX10_group {E : En} {a1 : Int32} {a2 : Int32} {M : Mem} {Q : Int32 → Mem → Prop} (h : wX10_group a1 a2 M Q) : CM E 7 mX10_group [.ref (E.2.2 0), .int a1, .int a2] M (Pi Q) := by
  unfold wX10_group at h
  refine CM.of (by decide) rfl (Nat.le_of_ble_eq_true rfl) ?_
  refine V_iload_n dX10_group_0 rfl ?_
  refine M_Si ms_X10_isMeaning lk_X10_156 dX10_group_1 (sX10_isMeaning h) rfl rfl (Nat.le_of_ble_eq_true rfl) (by decide) (by decide) (fun v1 M1 h => ?_)
  refine V_if_eq 20 dX10_group_4 (by decide) (fun q4 => ?_) (fun q4 => ?_)
  · replace h := h.1 q4
    refine V_iconst (-1) dX10_group_20 (by decide) ?_
    exact V_reti dX10_group_21 rfl rfl h
  · replace h := h.2 q4
    refine V_iload_n dX10_group_7 rfl ?_
    refine V_iconst (-1) dX10_group_8 (by decide) ?_
    refine jn0_use (P := fun (M22 : Mem) => V (Km E 7 (Pi Q)) mX10_group 22 [.ref (E.2.2 0), .int a1, .int a2] [] (wsM E.1 E.2.2 M22) 0 0) (fun M22 h => ?_) (fun J22 hJ22 h => ?_) h
    · refine V_iconst 0 dX10_group_22 (by decide) ?_
      refine V_istore_n dX10_group_23 (by decide) ?_
      obtain ⟨n24, h⟩ := h
      refine V_take 4 ?_
      refine lq1_use (P := fun (x24_3 : Int32) (M24 : Mem) => V (Km E 7 (Pi Q)) mX10_group 24 [.ref (E.2.2 0), .int a1, .int a2, .int x24_3] [] (wsM E.1 E.2.2 M24) 0 0) (fun R24 hR24 x24_3 M24 h => ?_) n24 _ _ h
      refine V_iload_n dX10_group_24 rfl ?_
      refine V_bipush 8 dX10_group_25 (by decide) ?_
      refine V_icmp_ge 48 dX10_group_27 (by decide) (fun q27 => ?_) (fun q27 => ?_)
      · replace h := h.1 q27
        refine V_aload_n dX10_group_48 rfl ?_
        refine V_iload_n dX10_group_49 rfl ?_
        refine M_Vi mv_X10_saidPlaces lk_X10_241 dX10_group_50 rfl rfl (sX10_saidPlaces h) rfl rfl (Nat.le_of_ble_eq_true rfl) (by decide) (by decide) (fun v50 M50 h => ?_)
        refine V_aload_n dX10_group_53 rfl ?_
        refine V_getR 19 fl_X10_86 dX10_group_54 rfl rfl rfl ?_
        refine V_iload_n dX10_group_57 rfl ?_
        refine M_Si ms_X10_countOrLeast lk_X10_292 dX10_group_58 (sX10_countOrLeast h) rfl rfl (Nat.le_of_ble_eq_true rfl) (by decide) (by decide) (fun v58 M58 h => ?_)
        exact V_reti dX10_group_61 rfl rfl h
      · replace h := h.2 q27
        refine V_aload_n dX10_group_30 rfl ?_
        refine V_getR 19 fl_X10_86 dX10_group_31 rfl rfl rfl ?_
        refine V_iload_n dX10_group_34 rfl ?_
        refine V_aload_n dX10_group_35 rfl ?_
        refine V_iload_n dX10_group_36 rfl ?_
        refine V_iload_n dX10_group_37 rfl ?_
        refine M_Vi mv_X10_likePlaces lk_X10_289 dX10_group_38 rfl rfl (sX10_likePlaces h) rfl rfl (Nat.le_of_ble_eq_true rfl) (by decide) (by decide) (fun v38 M38 h => ?_)
        obtain ⟨hi41, h⟩ := h
        refine V_iastN dX10_group_41 rfl hi41 (fun N41 e41 => ?_)
        replace h := h N41 e41
        refine V_iincC 1 dX10_group_42 (by decide) rfl (by decide) ?_
        refine V_goto 24 dX10_group_45 (by decide) ?_
        refine V_take 4 ?_
        exact hR24 _ _ h
    · refine V_icmp_eq 22 dX10_group_9 (by decide) (fun q9 => ?_) (fun q9 => ?_)
      · replace h := h.1 q9
        refine V_take 3 ?_
        exact hJ22 _ h
      · replace h := h.2 q9
        refine V_aload_n dX10_group_12 rfl ?_
        refine V_iload_n dX10_group_13 rfl ?_
        refine M_Vi mv_X10_isPlace lk_X10_152 dX10_group_14 rfl rfl (sX10_isPlace h) rfl rfl (Nat.le_of_ble_eq_true rfl) (by decide) (by decide) (fun v14 M14 h => ?_)
        refine V_if_ne 22 dX10_group_17 (by decide) (fun q17 => ?_) (fun q17 => ?_)
        · replace h := h.1 q17
          refine V_take 3 ?_
          exact hJ22 _ h
        · replace h := h.2 q17
          refine V_iconst (-1) dX10_group_20 (by decide) ?_
          exact V_reti dX10_group_21 rfl rfl h
def wX10_border (a1 : Int32) (a2 : Int32) (M : Mem) (Q : Int32 → Mem → Prop) : Prop :=
  wX10_isMeaning a1 M (fun v1 M1 => ((v1 = 0 →
      Q (-1) M1) ∧ (¬ v1 = 0 →
      wX10_isWithin a2 (-1) 27 M1 (fun v11 M11 => ((¬ v11 = 0 →
          (∃ n, lq2 (fun R24 (x24_3 : Int32) (x24_4 : Int32) (M24 : Mem) => (((M24 0 15) ≤ x24_4 →
              ((¬ a2 = (-1) →
                Q (-9) M24) ∧ (a2 = (-1) →
                Q x24_3 M24))) ∧ (¬ (M24 0 15) ≤ x24_4 →
              (∃ n, lq2 (fun R39 (x39_3 : Int32) (x39_5 : Int32) (M39 : Mem) => (((M39 0 15) ≤ x39_5 →
                  R24 x39_3 (x24_4 + 1) M39) ∧ (¬ (M39 0 15) ≤ x39_5 →
                  vp_in x24_4 8 ∧ wX10_isIn x39_5 (M39 5 (Int32.toNatClampNeg x24_4)) M39 (fun v57 M57 => ((v57 = 0 →
                      R39 x39_3 (x39_5 + 1) M57) ∧ (¬ v57 = 0 →
                      wX10_costBetween x24_4 x39_5 a1 M57 (fun v69 M69 => (((M69 13 3) < v69 →
                          ((¬ x39_3 = a2 →
                            R39 (x39_3 + 1) (x39_5 + 1) M69) ∧ (x39_3 = a2 →
                            Q ((10 * x24_4) + x39_5) M69))) ∧ (¬ (M69 13 3) < v69 →
                          R39 x39_3 (x39_5 + 1) M69))))))))) n x24_3 (x24_4 + 1) M24)))) n 0 0 M11)) ∧ (v11 = 0 →
          Q (-1) M11))))))
set_option maxHeartbeats 1000000 in
set_option maxRecDepth 20000 in
theorem sX10_border {E : En} {a1 : Int32} {a2 : Int32} {M : Mem} {Q : Int32 → Mem → Prop} (h : wX10_border a1 a2 M Q) : CM E 6 mX10_border [.ref (E.2.2 0), .int a1, .int a2] M (Pi Q) := by
  unfold wX10_border at h
  refine CM.of (by decide) rfl (Nat.le_of_ble_eq_true rfl) ?_
  refine V_iload_n dX10_border_0 rfl ?_
  refine M_Si ms_X10_isMeaning lk_X10_156 dX10_border_1 (sX10_isMeaning h) rfl rfl (Nat.le_of_ble_eq_true rfl) (by decide) (by decide) (fun v1 M1 h => ?_)
  refine V_if_eq 17 dX10_border_4 (by decide) (fun q4 => ?_) (fun q4 => ?_)
  · replace h := h.1 q4
    refine V_iconst (-1) dX10_border_17 (by decide) ?_
    exact V_reti dX10_border_18 rfl rfl h
  · replace h := h.2 q4
    refine V_iload_n dX10_border_7 rfl ?_
    refine V_iconst (-1) dX10_border_8 (by decide) ?_
    refine V_bipush 27 dX10_border_9 (by decide) ?_
    refine M_Si ms_X10_isWithin lk_X10_142 dX10_border_11 (sX10_isWithin h) rfl rfl (Nat.le_of_ble_eq_true rfl) (by decide) (by decide) (fun v11 M11 h => ?_)
    refine V_if_ne 19 dX10_border_14 (by decide) (fun q14 => ?_) (fun q14 => ?_)
    · replace h := h.1 q14
      refine V_iconst 0 dX10_border_19 (by decide) ?_
      refine V_istore_n dX10_border_20 (by decide) ?_
      refine V_iconst 0 dX10_border_21 (by decide) ?_
      refine V_istore dX10_border_22 (by decide) ?_
      obtain ⟨n24, h⟩ := h
      refine V_take 5 ?_
      refine lq2_use (P := fun (x24_3 : Int32) (x24_4 : Int32) (M24 : Mem) => V (Km E 6 (Pi Q)) mX10_border 24 [.ref (E.2.2 0), .int a1, .int a2, .int x24_3, .int x24_4] [] (wsM E.1 E.2.2 M24) 0 0) (fun R24 hR24 x24_3 x24_4 M24 h => ?_) n24 _ _ _ h
      refine V_iload dX10_border_24 rfl ?_
      refine V_aload_n dX10_border_26 rfl ?_
      refine V_getI fl_X10_89 dX10_border_27 rfl rfl ?_
      refine V_icmp_ge 114 dX10_border_30 (by decide) (fun q30 => ?_) (fun q30 => ?_)
      · replace h := h.1 q30
        refine V_iload_n dX10_border_114 rfl ?_
        refine V_iconst (-1) dX10_border_115 (by decide) ?_
        refine V_icmp_ne 123 dX10_border_116 (by decide) (fun q116 => ?_) (fun q116 => ?_)
        · replace h := h.1 q116
          refine V_bipush (-9) dX10_border_123 (by decide) ?_
          exact V_reti dX10_border_125 rfl rfl h
        · replace h := h.2 q116
          refine V_iload_n dX10_border_119 rfl ?_
          refine V_goto 125 dX10_border_120 (by decide) ?_
          exact V_reti dX10_border_125 rfl rfl h
      · replace h := h.2 q30
        refine V_iload dX10_border_33 rfl ?_
        refine V_iconst 1 dX10_border_35 (by decide) ?_
        refine V_iadd dX10_border_36 ?_
        refine V_istore dX10_border_37 (by decide) ?_
        obtain ⟨n39, h⟩ := h
        refine V_take 6 ?_
        refine lq2_use (P := fun (x39_3 : Int32) (x39_5 : Int32) (M39 : Mem) => V (Km E 6 (Pi Q)) mX10_border 39 [.ref (E.2.2 0), .int a1, .int a2, .int x39_3, .int x24_4, .int x39_5] [] (wsM E.1 E.2.2 M39) 0 0) (fun R39 hR39 x39_3 x39_5 M39 h => ?_) n39 _ _ _ h
        refine V_iload dX10_border_39 rfl ?_
        refine V_aload_n dX10_border_41 rfl ?_
        refine V_getI fl_X10_89 dX10_border_42 rfl rfl ?_
        refine V_icmp_ge 108 dX10_border_45 (by decide) (fun q45 => ?_) (fun q45 => ?_)
        · replace h := h.1 q45
          refine V_iincC 1 dX10_border_108 (by decide) rfl (by decide) ?_
          refine V_goto 24 dX10_border_111 (by decide) ?_
          refine V_take 5 ?_
          exact hR24 _ _ _ h
        · replace h := h.2 q45
          refine V_iload dX10_border_48 rfl ?_
          refine V_aload_n dX10_border_50 rfl ?_
          refine V_getR 5 fl_X10_24 dX10_border_51 rfl rfl rfl ?_
          refine V_iload dX10_border_54 rfl ?_
          obtain ⟨hi56, h⟩ := h
          refine V_ialdM dX10_border_56 rfl hi56 ?_
          refine M_Si ms_X10_isIn lk_X10_128 dX10_border_57 (sX10_isIn h) rfl rfl (Nat.le_of_ble_eq_true rfl) (by decide) (by decide) (fun v57 M57 h => ?_)
          refine V_if_eq 102 dX10_border_60 (by decide) (fun q60 => ?_) (fun q60 => ?_)
          · replace h := h.1 q60
            refine V_iincC 1 dX10_border_102 (by decide) rfl (by decide) ?_
            refine V_goto 39 dX10_border_105 (by decide) ?_
            refine V_take 6 ?_
            exact hR39 _ _ _ h
          · replace h := h.2 q60
            refine V_aload_n dX10_border_63 rfl ?_
            refine V_iload dX10_border_64 rfl ?_
            refine V_iload dX10_border_66 rfl ?_
            refine V_iload_n dX10_border_68 rfl ?_
            refine M_Vi mv_X10_costBetween lk_X10_295 dX10_border_69 rfl rfl (sX10_costBetween h) rfl rfl (Nat.le_of_ble_eq_true rfl) (by decide) (by decide) (fun v69 M69 h => ?_)
            refine V_aload_n dX10_border_72 rfl ?_
            refine V_getR 13 fl_X10_55 dX10_border_73 rfl rfl rfl ?_
            refine V_getI fl_X10_286 dX10_border_76 rfl rfl ?_
            refine V_icmp_gt 85 dX10_border_79 (by decide) (fun q79 => ?_) (fun q79 => ?_)
            · replace h := h.1 q79
              refine V_iload_n dX10_border_85 rfl ?_
              refine V_iload_n dX10_border_86 rfl ?_
              refine V_icmp_ne 99 dX10_border_87 (by decide) (fun q87 => ?_) (fun q87 => ?_)
              · replace h := h.1 q87
                refine V_iincC 1 dX10_border_99 (by decide) rfl (by decide) ?_
                refine V_iincC 1 dX10_border_102 (by decide) rfl (by decide) ?_
                refine V_goto 39 dX10_border_105 (by decide) ?_
                refine V_take 6 ?_
                exact hR39 _ _ _ h
              · replace h := h.2 q87
                refine V_bipush 10 dX10_border_90 (by decide) ?_
                refine V_iload dX10_border_92 rfl ?_
                refine V_imul dX10_border_94 ?_
                refine V_iload dX10_border_95 rfl ?_
                refine V_iadd dX10_border_97 ?_
                exact V_reti dX10_border_98 rfl rfl h
            · replace h := h.2 q79
              refine V_goto 102 dX10_border_82 (by decide) ?_
              refine V_iincC 1 dX10_border_102 (by decide) rfl (by decide) ?_
              refine V_goto 39 dX10_border_105 (by decide) ?_
              refine V_take 6 ?_
              exact hR39 _ _ _ h
    · replace h := h.2 q14
      refine V_iconst (-1) dX10_border_17 (by decide) ?_
      exact V_reti dX10_border_18 rfl rfl h
def wX10_bundle (a1 : Int32) (a2 : Int32) (M : Mem) (Q : Int32 → Mem → Prop) : Prop :=
  wX10_isPlace a1 M (fun v2 M2 => ((v2 = 0 →
      Q (-1) M2) ∧ (¬ v2 = 0 →
      wX10_isPlace a2 M2 (fun v10 M10 => ((¬ v10 = 0 →
          ((¬ a1 = a2 →
            (∃ n, lq2 (fun R31 (x31_3 : Int32) (x31_4 : Int32) (M31 : Mem) => ((6 ≤ x31_4 →
                Q x31_3 M31) ∧ (¬ 6 ≤ x31_4 →
                wX10_costBetween a1 a2 x31_4 M31 (fun v43 M43 => ((v43 ≤ (M43 13 3) →
                    R31 x31_3 (x31_4 + 1) M43) ∧ (¬ v43 ≤ (M43 13 3) →
                    R31 (x31_3 + 1) (x31_4 + 1) M43)))))) n 0 0 M10)) ∧ (a1 = a2 →
            Q (-2) M10))) ∧ (v10 = 0 →
          Q (-1) M10))))))
set_option maxHeartbeats 1000000 in
set_option maxRecDepth 20000 in
theorem sX10_bundle {E : En} {a1 : Int32} {a2 : Int32} {M : Mem} {Q : Int32 → Mem → Prop} (h : wX10_bundle a1 a2 M Q) : CM E 6 mX10_bundle [.ref (E.2.2 0), .int a1, .int a2] M (Pi Q) := by
  unfold wX10_bundle at h
  refine CM.of (by decide) rfl (Nat.le_of_ble_eq_true rfl) ?_
  refine V_aload_n dX10_bundle_0 rfl ?_
  refine V_iload_n dX10_bundle_1 rfl ?_
  refine M_Vi mv_X10_isPlace lk_X10_152 dX10_bundle_2 rfl rfl (sX10_isPlace h) rfl rfl (Nat.le_of_ble_eq_true rfl) (by decide) (by decide) (fun v2 M2 h => ?_)
  refine V_if_eq 16 dX10_bundle_5 (by decide) (fun q5 => ?_) (fun q5 => ?_)
  · replace h := h.1 q5
    refine V_iconst (-1) dX10_bundle_16 (by decide) ?_
    exact V_reti dX10_bundle_17 rfl rfl h
  · replace h := h.2 q5
    refine V_aload_n dX10_bundle_8 rfl ?_
    refine V_iload_n dX10_bundle_9 rfl ?_
    refine M_Vi mv_X10_isPlace lk_X10_152 dX10_bundle_10 rfl rfl (sX10_isPlace h) rfl rfl (Nat.le_of_ble_eq_true rfl) (by decide) (by decide) (fun v10 M10 h => ?_)
    refine V_if_ne 18 dX10_bundle_13 (by decide) (fun q13 => ?_) (fun q13 => ?_)
    · replace h := h.1 q13
      refine V_iload_n dX10_bundle_18 rfl ?_
      refine V_iload_n dX10_bundle_19 rfl ?_
      refine V_icmp_ne 26 dX10_bundle_20 (by decide) (fun q20 => ?_) (fun q20 => ?_)
      · replace h := h.1 q20
        refine V_iconst 0 dX10_bundle_26 (by decide) ?_
        refine V_istore_n dX10_bundle_27 (by decide) ?_
        refine V_iconst 0 dX10_bundle_28 (by decide) ?_
        refine V_istore dX10_bundle_29 (by decide) ?_
        obtain ⟨n31, h⟩ := h
        refine V_take 5 ?_
        refine lq2_use (P := fun (x31_3 : Int32) (x31_4 : Int32) (M31 : Mem) => V (Km E 6 (Pi Q)) mX10_bundle 31 [.ref (E.2.2 0), .int a1, .int a2, .int x31_3, .int x31_4] [] (wsM E.1 E.2.2 M31) 0 0) (fun R31 hR31 x31_3 x31_4 M31 h => ?_) n31 _ _ _ h
        refine V_iload dX10_bundle_31 rfl ?_
        refine V_bipush 6 dX10_bundle_33 (by decide) ?_
        refine V_icmp_ge 65 dX10_bundle_35 (by decide) (fun q35 => ?_) (fun q35 => ?_)
        · replace h := h.1 q35
          refine V_iload_n dX10_bundle_65 rfl ?_
          exact V_reti dX10_bundle_66 rfl rfl h
        · replace h := h.2 q35
          refine V_aload_n dX10_bundle_38 rfl ?_
          refine V_iload_n dX10_bundle_39 rfl ?_
          refine V_iload_n dX10_bundle_40 rfl ?_
          refine V_iload dX10_bundle_41 rfl ?_
          refine M_Vi mv_X10_costBetween lk_X10_295 dX10_bundle_43 rfl rfl (sX10_costBetween h) rfl rfl (Nat.le_of_ble_eq_true rfl) (by decide) (by decide) (fun v43 M43 h => ?_)
          refine V_aload_n dX10_bundle_46 rfl ?_
          refine V_getR 13 fl_X10_55 dX10_bundle_47 rfl rfl rfl ?_
          refine V_getI fl_X10_286 dX10_bundle_50 rfl rfl ?_
          refine V_icmp_le 59 dX10_bundle_53 (by decide) (fun q53 => ?_) (fun q53 => ?_)
          · replace h := h.1 q53
            refine V_iincC 1 dX10_bundle_59 (by decide) rfl (by decide) ?_
            refine V_goto 31 dX10_bundle_62 (by decide) ?_
            refine V_take 5 ?_
            exact hR31 _ _ _ h
          · replace h := h.2 q53
            refine V_iincC 1 dX10_bundle_56 (by decide) rfl (by decide) ?_
            refine V_iincC 1 dX10_bundle_59 (by decide) rfl (by decide) ?_
            refine V_goto 31 dX10_bundle_62 (by decide) ?_
            refine V_take 5 ?_
            exact hR31 _ _ _ h
      · replace h := h.2 q20
        refine V_bipush (-2) dX10_bundle_23 (by decide) ?_
        exact V_reti dX10_bundle_25 rfl rfl h
    · replace h := h.2 q13
      refine V_iconst (-1) dX10_bundle_16 (by decide) ?_
      exact V_reti dX10_bundle_17 rfl rfl h
def wX10_area (a1 : Int32) (a2 : Int32) (M : Mem) (Q : Int32 → Mem → Prop) : Prop :=
  wX10_isLaw a1 M (fun v2 M2 => ((v2 = 0 →
      Q (-1) M2) ∧ (¬ v2 = 0 →
      jn0 (fun (M23 : Mem) => vp_in a1 9 ∧ wX10_countOrLeast (M23 (32 + Int32.toNatClampNeg a1) 0) 5 a2 M23 (fun v40 M40 => Q v40 M40)) (fun J23 => ((a2 = (-1) →
          J23 M2) ∧ (¬ a2 = (-1) →
          wX10_isPlace a2 M2 (fun v15 M15 => ((¬ v15 = 0 →
              J23 M15) ∧ (v15 = 0 →
              Q (-1) M15)))))))))
set_option maxHeartbeats 1000000 in
set_option maxRecDepth 20000 in
theorem sX10_area {E : En} {a1 : Int32} {a2 : Int32} {M : Mem} {Q : Int32 → Mem → Prop} (h : wX10_area a1 a2 M Q) : CM E 4 mX10_area [.ref (E.2.2 0), .int a1, .int a2] M (Pi Q) := by
  unfold wX10_area at h
  refine CM.of (by decide) rfl (Nat.le_of_ble_eq_true rfl) ?_
  refine V_aload_n dX10_area_0 rfl ?_
  refine V_iload_n dX10_area_1 rfl ?_
  refine M_Vi mv_X10_isLaw lk_X10_208 dX10_area_2 rfl rfl (sX10_isLaw h) rfl rfl (Nat.le_of_ble_eq_true rfl) (by decide) (by decide) (fun v2 M2 h => ?_)
  refine V_if_eq 21 dX10_area_5 (by decide) (fun q5 => ?_) (fun q5 => ?_)
  · replace h := h.1 q5
    refine V_iconst (-1) dX10_area_21 (by decide) ?_
    exact V_reti dX10_area_22 rfl rfl h
  · replace h := h.2 q5
    refine V_iload_n dX10_area_8 rfl ?_
    refine V_iconst (-1) dX10_area_9 (by decide) ?_
    refine jn0_use (P := fun (M23 : Mem) => V (Km E 4 (Pi Q)) mX10_area 23 [.ref (E.2.2 0), .int a1, .int a2] [] (wsM E.1 E.2.2 M23) 0 0) (fun M23 h => ?_) (fun J23 hJ23 h => ?_) h
    · refine V_aload_n dX10_area_23 rfl ?_
      refine V_getR 9 fl_X10_48 dX10_area_24 rfl rfl rfl ?_
      refine V_getR 10 fl_X10_211 dX10_area_27 rfl rfl rfl ?_
      refine V_iload_n dX10_area_30 rfl ?_
      obtain ⟨hi31, h⟩ := h
      have hb31 := vp_lt hi31
      refine V_aaldM (32 + Int32.toNatClampNeg a1) dX10_area_31 rfl (by decide) hi31 rfl ?_
      refine V_getI fl_X10_215 dX10_area_32 (kd_X3 (by omega)) rfl ?_
      refine V_aload_n dX10_area_35 rfl ?_
      refine V_getR 5 fl_X10_24 dX10_area_36 rfl rfl rfl ?_
      refine V_iload_n dX10_area_39 rfl ?_
      refine M_Si ms_X10_countOrLeast lk_X10_292 dX10_area_40 (sX10_countOrLeast h) rfl rfl (Nat.le_of_ble_eq_true rfl) (by decide) (by decide) (fun v40 M40 h => ?_)
      exact V_reti dX10_area_43 rfl rfl h
    · refine V_icmp_eq 23 dX10_area_10 (by decide) (fun q10 => ?_) (fun q10 => ?_)
      · replace h := h.1 q10
        refine V_take 3 ?_
        exact hJ23 _ h
      · replace h := h.2 q10
        refine V_aload_n dX10_area_13 rfl ?_
        refine V_iload_n dX10_area_14 rfl ?_
        refine M_Vi mv_X10_isPlace lk_X10_152 dX10_area_15 rfl rfl (sX10_isPlace h) rfl rfl (Nat.le_of_ble_eq_true rfl) (by decide) (by decide) (fun v15 M15 h => ?_)
        refine V_if_ne 23 dX10_area_18 (by decide) (fun q18 => ?_) (fun q18 => ?_)
        · replace h := h.1 q18
          refine V_take 3 ?_
          exact hJ23 _ h
        · replace h := h.2 q18
          refine V_iconst (-1) dX10_area_21 (by decide) ?_
          exact V_reti dX10_area_22 rfl rfl h
def wX10_sheet (a1 : Int32) (a2 : Int32) (a3 : Int32) (M : Mem) (Q : Int32 → Mem → Prop) : Prop :=
  (∀ N2, N2 = mset M 0 19 0 → wX10_isBelow a1 4 N2 (fun v7 M7 => ((¬ v7 = 0 →
      wX10_isBelow a2 3 M7 (fun v17 M17 => ((v17 = 0 →
          Q (-2) M17) ∧ (¬ v17 = 0 →
          ((a3 ≤ 60 →
            ((0 ≤ a3 →
              vp_in a1 4 ∧ wX8_renew (41 + Int32.toNatClampNeg a1) a2 a3 M17 (fun M50 => Q 1 M50)) ∧ (¬ 0 ≤ a3 →
              wX10_failBy 4 M17 (fun v38 M38 => Q v38 M38)))) ∧ (¬ a3 ≤ 60 →
            Q (-2) M17)))))) ∧ (v7 = 0 →
      Q (-1) M7))))
set_option maxHeartbeats 1000000 in
set_option maxRecDepth 20000 in
theorem sX10_sheet {E : En} {a1 : Int32} {a2 : Int32} {a3 : Int32} {M : Mem} {Q : Int32 → Mem → Prop} (h : wX10_sheet a1 a2 a3 M Q) : CM E 3 mX10_sheet [.ref (E.2.2 0), .int a1, .int a2, .int a3] M (Pi Q) := by
  unfold wX10_sheet at h
  refine CM.of (by decide) rfl (Nat.le_of_ble_eq_true rfl) ?_
  refine V_aload_n dX10_sheet_0 rfl ?_
  refine V_iconst 0 dX10_sheet_1 (by decide) ?_
  refine V_putN fp_X10_102 dX10_sheet_2 rfl rfl rfl rfl (fun N2 e2 => ?_)
  replace h := h N2 e2
  refine V_iload_n dX10_sheet_5 rfl ?_
  refine V_iconst 4 dX10_sheet_6 (by decide) ?_
  refine M_Si ms_X10_isBelow lk_X10_114 dX10_sheet_7 (sX10_isBelow h) rfl rfl (Nat.le_of_ble_eq_true rfl) (by decide) (by decide) (fun v7 M7 h => ?_)
  refine V_if_ne 15 dX10_sheet_10 (by decide) (fun q10 => ?_) (fun q10 => ?_)
  · replace h := h.1 q10
    refine V_iload_n dX10_sheet_15 rfl ?_
    refine V_iconst 3 dX10_sheet_16 (by decide) ?_
    refine M_Si ms_X10_isBelow lk_X10_114 dX10_sheet_17 (sX10_isBelow h) rfl rfl (Nat.le_of_ble_eq_true rfl) (by decide) (by decide) (fun v17 M17 h => ?_)
    refine V_if_eq 29 dX10_sheet_20 (by decide) (fun q20 => ?_) (fun q20 => ?_)
    · replace h := h.1 q20
      refine V_bipush (-2) dX10_sheet_29 (by decide) ?_
      exact V_reti dX10_sheet_31 rfl rfl h
    · replace h := h.2 q20
      refine V_iload_n dX10_sheet_23 rfl ?_
      refine V_bipush 60 dX10_sheet_24 (by decide) ?_
      refine V_icmp_le 32 dX10_sheet_26 (by decide) (fun q26 => ?_) (fun q26 => ?_)
      · replace h := h.1 q26
        refine V_iload_n dX10_sheet_32 rfl ?_
        refine V_if_ge 42 dX10_sheet_33 (by decide) (fun q33 => ?_) (fun q33 => ?_)
        · replace h := h.1 q33
          refine V_aload_n dX10_sheet_42 rfl ?_
          refine V_getR 17 fl_X10_68 dX10_sheet_43 rfl rfl rfl ?_
          refine V_iload_n dX10_sheet_46 rfl ?_
          obtain ⟨hi47, h⟩ := h
          have hb47 := vp_lt hi47
          refine V_aaldM (41 + Int32.toNatClampNeg a1) dX10_sheet_47 rfl (by decide) hi47 rfl ?_
          refine V_iload_n dX10_sheet_48 rfl ?_
          refine V_iload_n dX10_sheet_49 rfl ?_
          refine M_Vv mv_X8_renew lk_X10_307 dX10_sheet_50 rfl (kd_X8 (by omega)) (sX8_renew h) rfl rfl (Nat.le_of_ble_eq_true rfl) (by decide) (by decide) (fun M50 h => ?_)
          refine V_iconst 1 dX10_sheet_53 (by decide) ?_
          exact V_reti dX10_sheet_54 rfl rfl h
        · replace h := h.2 q33
          refine V_aload_n dX10_sheet_36 rfl ?_
          refine V_iconst 4 dX10_sheet_37 (by decide) ?_
          refine M_Vi mv_X10_failBy lk_X10_304 dX10_sheet_38 rfl rfl (sX10_failBy h) rfl rfl (Nat.le_of_ble_eq_true rfl) (by decide) (by decide) (fun v38 M38 h => ?_)
          exact V_reti dX10_sheet_41 rfl rfl h
      · replace h := h.2 q26
        refine V_bipush (-2) dX10_sheet_29 (by decide) ?_
        exact V_reti dX10_sheet_31 rfl rfl h
  · replace h := h.2 q10
    refine V_iconst (-1) dX10_sheet_13 (by decide) ?_
    exact V_reti dX10_sheet_14 rfl rfl h
def wX10_lose (a1 : Int32) (M : Mem) (Q : Int32 → Mem → Prop) : Prop :=
  wX10_isBelow a1 4 M (fun v2 M2 => ((¬ v2 = 0 →
      vp_in a1 4 ∧ wX8_loseRow (41 + Int32.toNatClampNeg a1) M2 (fun v16 M16 => ((v16 = 0 →
          Q 0 M16) ∧ (¬ v16 = 0 →
          Q 1 M16)))) ∧ (v2 = 0 →
      Q (-1) M2)))
set_option maxHeartbeats 1000000 in
set_option maxRecDepth 20000 in
theorem sX10_lose {E : En} {a1 : Int32} {M : Mem} {Q : Int32 → Mem → Prop} (h : wX10_lose a1 M Q) : CM E 2 mX10_lose [.ref (E.2.2 0), .int a1] M (Pi Q) := by
  unfold wX10_lose at h
  refine CM.of (by decide) rfl (Nat.le_of_ble_eq_true rfl) ?_
  refine V_iload_n dX10_lose_0 rfl ?_
  refine V_iconst 4 dX10_lose_1 (by decide) ?_
  refine M_Si ms_X10_isBelow lk_X10_114 dX10_lose_2 (sX10_isBelow h) rfl rfl (Nat.le_of_ble_eq_true rfl) (by decide) (by decide) (fun v2 M2 h => ?_)
  refine V_if_ne 10 dX10_lose_5 (by decide) (fun q5 => ?_) (fun q5 => ?_)
  · replace h := h.1 q5
    refine V_aload_n dX10_lose_10 rfl ?_
    refine V_getR 17 fl_X10_68 dX10_lose_11 rfl rfl rfl ?_
    refine V_iload_n dX10_lose_14 rfl ?_
    obtain ⟨hi15, h⟩ := h
    have hb15 := vp_lt hi15
    refine V_aaldM (41 + Int32.toNatClampNeg a1) dX10_lose_15 rfl (by decide) hi15 rfl ?_
    refine M_Vi mv_X8_loseRow lk_X10_311 dX10_lose_16 rfl (kd_X8 (by omega)) (sX8_loseRow h) rfl rfl (Nat.le_of_ble_eq_true rfl) (by decide) (by decide) (fun v16 M16 h => ?_)
    refine V_if_eq 26 dX10_lose_19 (by decide) (fun q19 => ?_) (fun q19 => ?_)
    · replace h := h.1 q19
      refine V_iconst 0 dX10_lose_26 (by decide) ?_
      exact V_reti dX10_lose_27 rfl rfl h
    · replace h := h.2 q19
      refine V_iconst 1 dX10_lose_22 (by decide) ?_
      refine V_goto 27 dX10_lose_23 (by decide) ?_
      exact V_reti dX10_lose_27 rfl rfl h
  · replace h := h.2 q5
    refine V_iconst (-1) dX10_lose_8 (by decide) ?_
    exact V_reti dX10_lose_9 rfl rfl h
def wX10_put (a1 : Int32) (a2 : Int32) (a3 : Int32) (M : Mem) (Q : Int32 → Mem → Prop) : Prop :=
  (∀ N2, N2 = mset M 0 19 0 → wX10_isBelow a1 4 N2 (fun v7 M7 => ((¬ v7 = 0 →
      vp_in a1 4 ∧ ((¬ (M7 (41 + Int32.toNatClampNeg a1) 1) = 0 →
        wX10_isBelow a2 (M7 (41 + Int32.toNatClampNeg a1) 3) M7 (fun v43 M43 => ((¬ v43 = 0 →
            wX8_putCut (41 + Int32.toNatClampNeg a1) a2 a3 M43 (fun M63 => Q 1 M63)) ∧ (v43 = 0 →
            wX10_failBy 3 M43 (fun v51 M51 => Q v51 M51))))) ∧ ((M7 (41 + Int32.toNatClampNeg a1) 1) = 0 →
        wX10_failBy 1 M7 (fun v29 M29 => Q v29 M29)))) ∧ (v7 = 0 →
      Q (-1) M7))))
set_option maxHeartbeats 1000000 in
set_option maxRecDepth 20000 in
theorem sX10_put {E : En} {a1 : Int32} {a2 : Int32} {a3 : Int32} {M : Mem} {Q : Int32 → Mem → Prop} (h : wX10_put a1 a2 a3 M Q) : CM E 2 mX10_put [.ref (E.2.2 0), .int a1, .int a2, .int a3] M (Pi Q) := by
  unfold wX10_put at h
  refine CM.of (by decide) rfl (Nat.le_of_ble_eq_true rfl) ?_
  refine V_aload_n dX10_put_0 rfl ?_
  refine V_iconst 0 dX10_put_1 (by decide) ?_
  refine V_putN fp_X10_102 dX10_put_2 rfl rfl rfl rfl (fun N2 e2 => ?_)
  replace h := h N2 e2
  refine V_iload_n dX10_put_5 rfl ?_
  refine V_iconst 4 dX10_put_6 (by decide) ?_
  refine M_Si ms_X10_isBelow lk_X10_114 dX10_put_7 (sX10_isBelow h) rfl rfl (Nat.le_of_ble_eq_true rfl) (by decide) (by decide) (fun v7 M7 h => ?_)
  refine V_if_ne 15 dX10_put_10 (by decide) (fun q10 => ?_) (fun q10 => ?_)
  · replace h := h.1 q10
    refine V_aload_n dX10_put_15 rfl ?_
    refine V_getR 17 fl_X10_68 dX10_put_16 rfl rfl rfl ?_
    refine V_iload_n dX10_put_19 rfl ?_
    obtain ⟨hi20, h⟩ := h
    have hb20 := vp_lt hi20
    refine V_aaldM (41 + Int32.toNatClampNeg a1) dX10_put_20 rfl (by decide) hi20 rfl ?_
    refine V_getI fl_X10_314 dX10_put_21 (kd_X8 (by omega)) rfl ?_
    refine V_if_ne 33 dX10_put_24 (by decide) (fun q24 => ?_) (fun q24 => ?_)
    · replace h := h.1 q24
      refine V_iload_n dX10_put_33 rfl ?_
      refine V_aload_n dX10_put_34 rfl ?_
      refine V_getR 17 fl_X10_68 dX10_put_35 rfl rfl rfl ?_
      refine V_iload_n dX10_put_38 rfl ?_
      have hb39 := vp_lt hi20
      refine V_aaldM (41 + Int32.toNatClampNeg a1) dX10_put_39 rfl (by decide) hi20 rfl ?_
      refine V_getI fl_X10_318 dX10_put_40 (kd_X8 (by omega)) rfl ?_
      refine M_Si ms_X10_isBelow lk_X10_114 dX10_put_43 (sX10_isBelow h) rfl rfl (Nat.le_of_ble_eq_true rfl) (by decide) (by decide) (fun v43 M43 h => ?_)
      refine V_if_ne 55 dX10_put_46 (by decide) (fun q46 => ?_) (fun q46 => ?_)
      · replace h := h.1 q46
        refine V_aload_n dX10_put_55 rfl ?_
        refine V_getR 17 fl_X10_68 dX10_put_56 rfl rfl rfl ?_
        refine V_iload_n dX10_put_59 rfl ?_
        have hb60 := vp_lt hi20
        refine V_aaldM (41 + Int32.toNatClampNeg a1) dX10_put_60 rfl (by decide) hi20 rfl ?_
        refine V_iload_n dX10_put_61 rfl ?_
        refine V_iload_n dX10_put_62 rfl ?_
        refine M_Vv mv_X8_putCut lk_X10_319 dX10_put_63 rfl (kd_X8 (by omega)) (sX8_putCut h) rfl rfl (Nat.le_of_ble_eq_true rfl) (by decide) (by decide) (fun M63 h => ?_)
        refine V_iconst 1 dX10_put_66 (by decide) ?_
        exact V_reti dX10_put_67 rfl rfl h
      · replace h := h.2 q46
        refine V_aload_n dX10_put_49 rfl ?_
        refine V_iconst 3 dX10_put_50 (by decide) ?_
        refine M_Vi mv_X10_failBy lk_X10_304 dX10_put_51 rfl rfl (sX10_failBy h) rfl rfl (Nat.le_of_ble_eq_true rfl) (by decide) (by decide) (fun v51 M51 h => ?_)
        exact V_reti dX10_put_54 rfl rfl h
    · replace h := h.2 q24
      refine V_aload_n dX10_put_27 rfl ?_
      refine V_iconst 1 dX10_put_28 (by decide) ?_
      refine M_Vi mv_X10_failBy lk_X10_304 dX10_put_29 rfl rfl (sX10_failBy h) rfl rfl (Nat.le_of_ble_eq_true rfl) (by decide) (by decide) (fun v29 M29 h => ?_)
      exact V_reti dX10_put_32 rfl rfl h
  · replace h := h.2 q10
    refine V_iconst (-1) dX10_put_13 (by decide) ?_
    exact V_reti dX10_put_14 rfl rfl h
def wX10_cell (a1 : Int32) (a2 : Int32) (a3 : Int32) (M : Mem) (Q : Int64 → Mem → Prop) : Prop :=
  (∀ N2, N2 = mset M 0 19 0 → wX10_isBelow a1 4 N2 (fun v7 M7 => ((v7 = 0 →
      Q (-9223372036854775808) M7) ∧ (¬ v7 = 0 →
      wX10_isBelow a3 3 M7 (fun v15 M15 => ((¬ v15 = 0 →
          vp_in a1 4 ∧ wX8_faultOfRow (41 + Int32.toNatClampNeg a1) a3 M15 (fun v33 M33 => (∀ N36, N36 = mset M33 0 19 v33 → jn0 (fun (M67 : Mem) => ((¬ (M67 0 19) = 0 →
                Q (-9223372036854775808) M67) ∧ ((M67 0 19) = 0 →
                vp_in a2 60 ∧ Q (Int32.toInt64 (M67 ((41 + Int32.toNatClampNeg a1) + 4) (Int32.toNatClampNeg a2))) M67))) (fun J67 => ((¬ (N36 0 19) = 0 →
                J67 N36) ∧ ((N36 0 19) = 0 →
                wX10_isBelow a2 (N36 (41 + Int32.toNatClampNeg a1) 3) N36 (fun v56 M56 => ((¬ v56 = 0 →
                    J67 M56) ∧ (v56 = 0 →
                    (∀ N64, N64 = mset M56 0 19 3 → J67 N64)))))))))) ∧ (v15 = 0 →
          Q (-9223372036854775808) M15)))))))
set_option maxHeartbeats 1000000 in
set_option maxRecDepth 20000 in
theorem sX10_cell {E : En} {a1 : Int32} {a2 : Int32} {a3 : Int32} {M : Mem} {Q : Int64 → Mem → Prop} (h : wX10_cell a1 a2 a3 M Q) : CM E 2 mX10_cell [.ref (E.2.2 0), .int a1, .int a2, .int a3] M (Pl Q) := by
  unfold wX10_cell at h
  refine CM.of (by decide) rfl (Nat.le_of_ble_eq_true rfl) ?_
  refine V_aload_n dX10_cell_0 rfl ?_
  refine V_iconst 0 dX10_cell_1 (by decide) ?_
  refine V_putN fp_X10_102 dX10_cell_2 rfl rfl rfl rfl (fun N2 e2 => ?_)
  replace h := h N2 e2
  refine V_iload_n dX10_cell_5 rfl ?_
  refine V_iconst 4 dX10_cell_6 (by decide) ?_
  refine M_Si ms_X10_isBelow lk_X10_114 dX10_cell_7 (sX10_isBelow h) rfl rfl (Nat.le_of_ble_eq_true rfl) (by decide) (by decide) (fun v7 M7 h => ?_)
  refine V_if_eq 21 dX10_cell_10 (by decide) (fun q10 => ?_) (fun q10 => ?_)
  · replace h := h.1 q10
    refine V_ldc2 (-9223372036854775808) dX10_cell_21 k_X10_322 ?_
    exact V_retl dX10_cell_24 rfl h
  · replace h := h.2 q10
    refine V_iload_n dX10_cell_13 rfl ?_
    refine V_iconst 3 dX10_cell_14 (by decide) ?_
    refine M_Si ms_X10_isBelow lk_X10_114 dX10_cell_15 (sX10_isBelow h) rfl rfl (Nat.le_of_ble_eq_true rfl) (by decide) (by decide) (fun v15 M15 h => ?_)
    refine V_if_ne 25 dX10_cell_18 (by decide) (fun q18 => ?_) (fun q18 => ?_)
    · replace h := h.1 q18
      refine V_aload_n dX10_cell_25 rfl ?_
      refine V_aload_n dX10_cell_26 rfl ?_
      refine V_getR 17 fl_X10_68 dX10_cell_27 rfl rfl rfl ?_
      refine V_iload_n dX10_cell_30 rfl ?_
      obtain ⟨hi31, h⟩ := h
      have hb31 := vp_lt hi31
      refine V_aaldM (41 + Int32.toNatClampNeg a1) dX10_cell_31 rfl (by decide) hi31 rfl ?_
      refine V_iload_n dX10_cell_32 rfl ?_
      refine M_Vi mv_X8_faultOfRow lk_X10_324 dX10_cell_33 rfl (kd_X8 (by omega)) (sX8_faultOfRow h) rfl rfl (Nat.le_of_ble_eq_true rfl) (by decide) (by decide) (fun v33 M33 h => ?_)
      refine V_putN fp_X10_102 dX10_cell_36 rfl rfl rfl rfl (fun N36 e36 => ?_)
      replace h := h N36 e36
      refine V_aload_n dX10_cell_39 rfl ?_
      refine V_getI fl_X10_102 dX10_cell_40 rfl rfl ?_
      refine jn0_use (P := fun (M67 : Mem) => ∀ j67_3 : Value, V (Km E 2 (Pl Q)) mX10_cell 67 [.ref (E.2.2 0), .int a1, .int a2, j67_3] [] (wsM E.1 E.2.2 M67) 0 0) (fun M67 h j67_3 => ?_) (fun J67 hJ67 h => ?_) h
      · refine V_aload_n dX10_cell_67 rfl ?_
        refine V_getI fl_X10_102 dX10_cell_68 rfl rfl ?_
        refine V_if_ne 89 dX10_cell_71 (by decide) (fun q71 => ?_) (fun q71 => ?_)
        · replace h := h.1 q71
          refine V_ldc2 (-9223372036854775808) dX10_cell_89 k_X10_322 ?_
          exact V_retl dX10_cell_92 rfl h
        · replace h := h.2 q71
          refine V_aload_n dX10_cell_74 rfl ?_
          refine V_getR 17 fl_X10_68 dX10_cell_75 rfl rfl rfl ?_
          refine V_iload_n dX10_cell_78 rfl ?_
          have hb79 := vp_lt hi31
          refine V_aaldM (41 + Int32.toNatClampNeg a1) dX10_cell_79 rfl (by decide) hi31 rfl ?_
          refine V_getR ((41 + Int32.toNatClampNeg a1) + 4) fl_X10_327 dX10_cell_80 (kd_X8 (by omega)) rfl (rf_X8 (by omega)) ?_
          refine V_iload_n dX10_cell_83 rfl ?_
          obtain ⟨hi84, h⟩ := h
          refine V_ialdM dX10_cell_84 (kd_cel (by omega)) (by rw [(ln_cel (by omega))]; exact hi84) ?_
          refine V_i2l dX10_cell_85 ?_
          refine V_goto 92 dX10_cell_86 (by decide) ?_
          exact V_retl dX10_cell_92 rfl h
      · refine V_if_ne 67 dX10_cell_43 (by decide) (fun q43 => ?_) (fun q43 => ?_)
        · replace h := h.1 q43
          refine V_take 4 ?_
          exact hJ67 _ h _
        · replace h := h.2 q43
          refine V_iload_n dX10_cell_46 rfl ?_
          refine V_aload_n dX10_cell_47 rfl ?_
          refine V_getR 17 fl_X10_68 dX10_cell_48 rfl rfl rfl ?_
          refine V_iload_n dX10_cell_51 rfl ?_
          have hb52 := vp_lt hi31
          refine V_aaldM (41 + Int32.toNatClampNeg a1) dX10_cell_52 rfl (by decide) hi31 rfl ?_
          refine V_getI fl_X10_318 dX10_cell_53 (kd_X8 (by omega)) rfl ?_
          refine M_Si ms_X10_isBelow lk_X10_114 dX10_cell_56 (sX10_isBelow h) rfl rfl (Nat.le_of_ble_eq_true rfl) (by decide) (by decide) (fun v56 M56 h => ?_)
          refine V_if_ne 67 dX10_cell_59 (by decide) (fun q59 => ?_) (fun q59 => ?_)
          · replace h := h.1 q59
            refine V_take 4 ?_
            exact hJ67 _ h _
          · replace h := h.2 q59
            refine V_aload_n dX10_cell_62 rfl ?_
            refine V_iconst 3 dX10_cell_63 (by decide) ?_
            refine V_putN fp_X10_102 dX10_cell_64 rfl rfl rfl rfl (fun N64 e64 => ?_)
            replace h := h N64 e64
            refine V_take 4 ?_
            exact hJ67 _ h _
    · replace h := h.2 q18
      refine V_ldc2 (-9223372036854775808) dX10_cell_21 k_X10_322 ?_
      exact V_retl dX10_cell_24 rfl h
def wX10_leaveTrace (a1 : Int32) (M : Mem) (Q : Mem → Prop) : Prop :=
  (∀ N10, N10 = mset M 0 18 ((31 * (M 0 18)) + a1) → Q N10)
set_option maxHeartbeats 1000000 in
set_option maxRecDepth 20000 in
theorem sX10_leaveTrace {E : En} {a1 : Int32} {M : Mem} {Q : Mem → Prop} (h : wX10_leaveTrace a1 M Q) : CM E 1 mX10_leaveTrace [.ref (E.2.2 0), .int a1] M (Pv Q) := by
  unfold wX10_leaveTrace at h
  refine CM.of (by decide) rfl (Nat.le_of_ble_eq_true rfl) ?_
  refine V_aload_n dX10_leaveTrace_0 rfl ?_
  refine V_bipush 31 dX10_leaveTrace_1 (by decide) ?_
  refine V_aload_n dX10_leaveTrace_3 rfl ?_
  refine V_getI fl_X10_99 dX10_leaveTrace_4 rfl rfl ?_
  refine V_imul dX10_leaveTrace_7 ?_
  refine V_iload_n dX10_leaveTrace_8 rfl ?_
  refine V_iadd dX10_leaveTrace_9 ?_
  refine V_putN fp_X10_99 dX10_leaveTrace_10 rfl rfl rfl rfl (fun N10 e10 => ?_)
  replace h := h N10 e10
  exact V_retv dX10_leaveTrace_13 rfl h
def wX10_tellForm (a1 : Nat) (M : Mem) (Q : Int32 → Mem → Prop) : Prop :=
  (150 ≤ a1 ∧ a1 < 190) ∧ wX10_leaveTrace 1 M (fun M2 => Q (M2 (a1 - 100) 1) M2)
set_option maxHeartbeats 1000000 in
set_option maxRecDepth 20000 in
theorem sX10_tellForm {E : En} {a1 : Nat} {M : Mem} {Q : Int32 → Mem → Prop} (h : wX10_tellForm a1 M Q) : CM E 2 mX10_tellForm [.ref (E.2.2 0), .ref (E.2.2 a1)] M (Pi Q) := by
  unfold wX10_tellForm at h
  obtain ⟨hk1, h⟩ := h
  refine CM.of (by decide) rfl (Nat.le_of_ble_eq_true rfl) ?_
  refine V_aload_n dX10_tellForm_0 rfl ?_
  refine V_iconst 1 dX10_tellForm_1 (by decide) ?_
  refine M_Vv mv_X10_leaveTrace lk_X10_340 dX10_tellForm_2 rfl rfl (sX10_leaveTrace h) rfl rfl (Nat.le_of_ble_eq_true rfl) (by decide) (by decide) (fun M2 h => ?_)
  refine V_aload_n dX10_tellForm_5 rfl ?_
  refine V_getR (a1 - 100) fl_X10_188 dX10_tellForm_6 (kd_X2 (by omega)) rfl (rf_X2 (by omega)) ?_
  refine V_getI fl_X10_191 dX10_tellForm_9 (kd_X7 (by omega)) rfl ?_
  exact V_reti dX10_tellForm_12 rfl rfl h
def wX10_tellLoan (a1 : Nat) (M : Mem) (Q : Int32 → Mem → Prop) : Prop :=
  (150 ≤ a1 ∧ a1 < 190) ∧ wX10_leaveTrace 2 M (fun M2 => wX10_tellForm a1 M2 (fun v7 M7 => Q (v7 + 10) M7))
set_option maxHeartbeats 1000000 in
set_option maxRecDepth 20000 in
theorem sX10_tellLoan {E : En} {a1 : Nat} {M : Mem} {Q : Int32 → Mem → Prop} (h : wX10_tellLoan a1 M Q) : CM E 3 mX10_tellLoan [.ref (E.2.2 0), .ref (E.2.2 a1)] M (Pi Q) := by
  unfold wX10_tellLoan at h
  obtain ⟨hk1, h⟩ := h
  refine CM.of (by decide) rfl (Nat.le_of_ble_eq_true rfl) ?_
  refine V_aload_n dX10_tellLoan_0 rfl ?_
  refine V_iconst 2 dX10_tellLoan_1 (by decide) ?_
  refine M_Vv mv_X10_leaveTrace lk_X10_340 dX10_tellLoan_2 rfl rfl (sX10_leaveTrace h) rfl rfl (Nat.le_of_ble_eq_true rfl) (by decide) (by decide) (fun M2 h => ?_)
  refine V_aload_n dX10_tellLoan_5 rfl ?_
  refine V_aload_n dX10_tellLoan_6 rfl ?_
  refine M_Vi mv_X10_tellForm lk_X10_337 dX10_tellLoan_7 rfl rfl (sX10_tellForm h) rfl rfl (Nat.le_of_ble_eq_true rfl) (by decide) (by decide) (fun v7 M7 h => ?_)
  refine V_bipush 10 dX10_tellLoan_10 (by decide) ?_
  refine V_iadd dX10_tellLoan_12 ?_
  exact V_reti dX10_tellLoan_13 rfl rfl h
def wX10_tellGuess (a1 : Nat) (M : Mem) (Q : Int32 → Mem → Prop) : Prop :=
  (150 ≤ a1 ∧ a1 < 190) ∧ wX10_leaveTrace 3 M (fun M2 => wX10_tellLoan a1 M2 (fun v7 M7 => wX10_tellForm a1 M7 (fun v12 M12 => Q (v7 + v12) M12)))
set_option maxHeartbeats 1000000 in
set_option maxRecDepth 20000 in
theorem sX10_tellGuess {E : En} {a1 : Nat} {M : Mem} {Q : Int32 → Mem → Prop} (h : wX10_tellGuess a1 M Q) : CM E 4 mX10_tellGuess [.ref (E.2.2 0), .ref (E.2.2 a1)] M (Pi Q) := by
  unfold wX10_tellGuess at h
  obtain ⟨hk1, h⟩ := h
  refine CM.of (by decide) rfl (Nat.le_of_ble_eq_true rfl) ?_
  refine V_aload_n dX10_tellGuess_0 rfl ?_
  refine V_iconst 3 dX10_tellGuess_1 (by decide) ?_
  refine M_Vv mv_X10_leaveTrace lk_X10_340 dX10_tellGuess_2 rfl rfl (sX10_leaveTrace h) rfl rfl (Nat.le_of_ble_eq_true rfl) (by decide) (by decide) (fun M2 h => ?_)
  refine V_aload_n dX10_tellGuess_5 rfl ?_
  refine V_aload_n dX10_tellGuess_6 rfl ?_
  refine M_Vi mv_X10_tellLoan lk_X10_334 dX10_tellGuess_7 rfl rfl (sX10_tellLoan h) rfl rfl (Nat.le_of_ble_eq_true rfl) (by decide) (by decide) (fun v7 M7 h => ?_)
  refine V_aload_n dX10_tellGuess_10 rfl ?_
  refine V_aload_n dX10_tellGuess_11 rfl ?_
  refine M_Vi mv_X10_tellForm lk_X10_337 dX10_tellGuess_12 rfl rfl (sX10_tellForm h) rfl rfl (Nat.le_of_ble_eq_true rfl) (by decide) (by decide) (fun v12 M12 h => ?_)
  refine V_iadd dX10_tellGuess_15 ?_
  exact V_reti dX10_tellGuess_16 rfl rfl h
def wX10_tell (a1 : Int32) (M : Mem) (Q : Int32 → Mem → Prop) : Prop :=
  wX10_isForm a1 M (fun v2 M2 => ((¬ v2 = 0 →
      vp_in a1 40 ∧ (((M2 (150 + Int32.toNatClampNeg a1) 1) = 1 →
        wX10_tellLoan (150 + Int32.toNatClampNeg a1) M2 (fun v62 M62 => Q v62 M62)) ∧ ((M2 (150 + Int32.toNatClampNeg a1) 1) = 2 →
        wX10_tellGuess (150 + Int32.toNatClampNeg a1) M2 (fun v51 M51 => Q v51 M51)) ∧ (¬ (M2 (150 + Int32.toNatClampNeg a1) 1) = 1 → ¬ (M2 (150 + Int32.toNatClampNeg a1) 1) = 2 → wX10_tellForm (150 + Int32.toNatClampNeg a1) M2 (fun v73 M73 => Q v73 M73)))) ∧ (v2 = 0 →
      Q (-1) M2)))
set_option maxHeartbeats 1000000 in
set_option maxRecDepth 20000 in
theorem sX10_tell {E : En} {a1 : Int32} {M : Mem} {Q : Int32 → Mem → Prop} (h : wX10_tell a1 M Q) : CM E 5 mX10_tell [.ref (E.2.2 0), .int a1] M (Pi Q) := by
  unfold wX10_tell at h
  refine CM.of (by decide) rfl (Nat.le_of_ble_eq_true rfl) ?_
  refine V_aload_n dX10_tell_0 rfl ?_
  refine V_iload_n dX10_tell_1 rfl ?_
  refine M_Vi mv_X10_isForm lk_X10_176 dX10_tell_2 rfl rfl (sX10_isForm h) rfl rfl (Nat.le_of_ble_eq_true rfl) (by decide) (by decide) (fun v2 M2 h => ?_)
  refine V_if_ne 10 dX10_tell_5 (by decide) (fun q5 => ?_) (fun q5 => ?_)
  · replace h := h.1 q5
    refine V_aload_n dX10_tell_10 rfl ?_
    refine V_getR 6 fl_X10_30 dX10_tell_11 rfl rfl rfl ?_
    refine V_iload_n dX10_tell_14 rfl ?_
    obtain ⟨hi15, h⟩ := h
    have hb15 := vp_lt hi15
    refine V_aaldM (150 + Int32.toNatClampNeg a1) dX10_tell_15 rfl (by decide) hi15 rfl ?_
    refine V_getI fl_X10_179 dX10_tell_16 (kd_X2 (by omega)) rfl ?_
    rcases Classical.em ((M2 (150 + Int32.toNatClampNeg a1) 1) = 1) with q | q19_0
    · replace h := h.1 q
      refine V_lookup (off := 36) 55 dX10_tell_19 (by decide) (by rw [q] <;> rfl) (by decide) ?_
      refine V_aload_n dX10_tell_55 rfl ?_
      refine V_aload_n dX10_tell_56 rfl ?_
      refine V_getR 6 fl_X10_30 dX10_tell_57 rfl rfl rfl ?_
      refine V_iload_n dX10_tell_60 rfl ?_
      have hb61 := vp_lt hi15
      refine V_aaldM (150 + Int32.toNatClampNeg a1) dX10_tell_61 rfl (by decide) hi15 rfl ?_
      refine M_Vi mv_X10_tellLoan lk_X10_334 dX10_tell_62 rfl rfl (sX10_tellLoan h) rfl rfl (Nat.le_of_ble_eq_true rfl) (by decide) (by decide) (fun v62 M62 h => ?_)
      exact V_reti dX10_tell_65 rfl rfl h
    rcases Classical.em ((M2 (150 + Int32.toNatClampNeg a1) 1) = 2) with q | q19_1
    · replace h := h.2.1 q
      refine V_lookup (off := 25) 44 dX10_tell_19 (by decide) (by rw [q] <;> rfl) (by decide) ?_
      refine V_aload_n dX10_tell_44 rfl ?_
      refine V_aload_n dX10_tell_45 rfl ?_
      refine V_getR 6 fl_X10_30 dX10_tell_46 rfl rfl rfl ?_
      refine V_iload_n dX10_tell_49 rfl ?_
      have hb50 := vp_lt hi15
      refine V_aaldM (150 + Int32.toNatClampNeg a1) dX10_tell_50 rfl (by decide) hi15 rfl ?_
      refine M_Vi mv_X10_tellGuess lk_X10_330 dX10_tell_51 rfl rfl (sX10_tellGuess h) rfl rfl (Nat.le_of_ble_eq_true rfl) (by decide) (by decide) (fun v51 M51 h => ?_)
      exact V_reti dX10_tell_54 rfl rfl h
    replace h := h.2.2 q19_0 q19_1
    refine V_lookup (off := 47) 66 dX10_tell_19 (by decide) (by show Op.lookupswitch.offset [_, _] _ _ = _; rw [lv_osw q19_0 (show (1 : Int32).toInt = 1 by decide), lv_osw q19_1 (show (2 : Int32).toInt = 2 by decide)] <;> rfl) (by decide) ?_
    refine V_aload_n dX10_tell_66 rfl ?_
    refine V_aload_n dX10_tell_67 rfl ?_
    refine V_getR 6 fl_X10_30 dX10_tell_68 rfl rfl rfl ?_
    refine V_iload_n dX10_tell_71 rfl ?_
    have hb72 := vp_lt hi15
    refine V_aaldM (150 + Int32.toNatClampNeg a1) dX10_tell_72 rfl (by decide) hi15 rfl ?_
    refine M_Vi mv_X10_tellForm lk_X10_337 dX10_tell_73 rfl rfl (sX10_tellForm h) rfl rfl (Nat.le_of_ble_eq_true rfl) (by decide) (by decide) (fun v73 M73 h => ?_)
    exact V_reti dX10_tell_76 rfl rfl h
  · replace h := h.2 q5
    refine V_iconst (-1) dX10_tell_8 (by decide) ?_
    exact V_reti dX10_tell_9 rfl rfl h
def wX10_name (a1 : Int32) (M : Mem) (Q : Int32 → Mem → Prop) : Prop :=
  wX10_isForm a1 M (fun v2 M2 => ((¬ v2 = 0 →
      vp_in a1 40 ∧ ((¬ (M2 (150 + Int32.toNatClampNeg a1) 1) = 2 →
        wX10_leaveTrace 4 M2 (fun M33 => Q a1 M33)) ∧ ((M2 (150 + Int32.toNatClampNeg a1) 1) = 2 →
        wX10_leaveTrace 5 M2 (fun M25 => Q 70 M25)))) ∧ (v2 = 0 →
      Q (-1) M2)))
set_option maxHeartbeats 1000000 in
set_option maxRecDepth 20000 in
theorem sX10_name {E : En} {a1 : Int32} {M : Mem} {Q : Int32 → Mem → Prop} (h : wX10_name a1 M Q) : CM E 3 mX10_name [.ref (E.2.2 0), .int a1] M (Pi Q) := by
  unfold wX10_name at h
  refine CM.of (by decide) rfl (Nat.le_of_ble_eq_true rfl) ?_
  refine V_aload_n dX10_name_0 rfl ?_
  refine V_iload_n dX10_name_1 rfl ?_
  refine M_Vi mv_X10_isForm lk_X10_176 dX10_name_2 rfl rfl (sX10_isForm h) rfl rfl (Nat.le_of_ble_eq_true rfl) (by decide) (by decide) (fun v2 M2 h => ?_)
  refine V_if_ne 10 dX10_name_5 (by decide) (fun q5 => ?_) (fun q5 => ?_)
  · replace h := h.1 q5
    refine V_aload_n dX10_name_10 rfl ?_
    refine V_getR 6 fl_X10_30 dX10_name_11 rfl rfl rfl ?_
    refine V_iload_n dX10_name_14 rfl ?_
    obtain ⟨hi15, h⟩ := h
    have hb15 := vp_lt hi15
    refine V_aaldM (150 + Int32.toNatClampNeg a1) dX10_name_15 rfl (by decide) hi15 rfl ?_
    refine V_getI fl_X10_179 dX10_name_16 (kd_X2 (by omega)) rfl ?_
    refine V_iconst 2 dX10_name_19 (by decide) ?_
    refine V_icmp_ne 31 dX10_name_20 (by decide) (fun q20 => ?_) (fun q20 => ?_)
    · replace h := h.1 q20
      refine V_aload_n dX10_name_31 rfl ?_
      refine V_iconst 4 dX10_name_32 (by decide) ?_
      refine M_Vv mv_X10_leaveTrace lk_X10_340 dX10_name_33 rfl rfl (sX10_leaveTrace h) rfl rfl (Nat.le_of_ble_eq_true rfl) (by decide) (by decide) (fun M33 h => ?_)
      refine V_iload_n dX10_name_36 rfl ?_
      exact V_reti dX10_name_37 rfl rfl h
    · replace h := h.2 q20
      refine V_aload_n dX10_name_23 rfl ?_
      refine V_iconst 5 dX10_name_24 (by decide) ?_
      refine M_Vv mv_X10_leaveTrace lk_X10_340 dX10_name_25 rfl rfl (sX10_leaveTrace h) rfl rfl (Nat.le_of_ble_eq_true rfl) (by decide) (by decide) (fun M25 h => ?_)
      refine V_bipush 70 dX10_name_28 (by decide) ?_
      exact V_reti dX10_name_30 rfl rfl h
  · replace h := h.2 q5
    refine V_iconst (-1) dX10_name_8 (by decide) ?_
    exact V_reti dX10_name_9 rfl rfl h
def wX10_as (a1 : Int32) (a2 : Int32) (M : Mem) (Q : Int32 → Mem → Prop) : Prop :=
  (∀ N2, N2 = mset M 0 19 0 → wX10_isForm a1 N2 (fun v7 M7 => ((¬ v7 = 0 →
      wX10_isWithin a2 0 2 M7 (fun v18 M18 => ((¬ v18 = 0 →
          vp_in a1 40 ∧ (((M18 (150 + Int32.toNatClampNeg a1) 1) < a2 →
            wX10_failBy 2 M18 (fun v46 M46 => Q v46 M46)) ∧ (¬ (M18 (150 + Int32.toNatClampNeg a1) 1) < a2 →
            Q 1 M18))) ∧ (v18 = 0 →
          Q (-2) M18)))) ∧ (v7 = 0 →
      Q (-1) M7))))
set_option maxHeartbeats 1000000 in
set_option maxRecDepth 20000 in
theorem sX10_as {E : En} {a1 : Int32} {a2 : Int32} {M : Mem} {Q : Int32 → Mem → Prop} (h : wX10_as a1 a2 M Q) : CM E 3 mX10_as [.ref (E.2.2 0), .int a1, .int a2] M (Pi Q) := by
  unfold wX10_as at h
  refine CM.of (by decide) rfl (Nat.le_of_ble_eq_true rfl) ?_
  refine V_aload_n dX10_as_0 rfl ?_
  refine V_iconst 0 dX10_as_1 (by decide) ?_
  refine V_putN fp_X10_102 dX10_as_2 rfl rfl rfl rfl (fun N2 e2 => ?_)
  replace h := h N2 e2
  refine V_aload_n dX10_as_5 rfl ?_
  refine V_iload_n dX10_as_6 rfl ?_
  refine M_Vi mv_X10_isForm lk_X10_176 dX10_as_7 rfl rfl (sX10_isForm h) rfl rfl (Nat.le_of_ble_eq_true rfl) (by decide) (by decide) (fun v7 M7 h => ?_)
  refine V_if_ne 15 dX10_as_10 (by decide) (fun q10 => ?_) (fun q10 => ?_)
  · replace h := h.1 q10
    refine V_iload_n dX10_as_15 rfl ?_
    refine V_iconst 0 dX10_as_16 (by decide) ?_
    refine V_iconst 2 dX10_as_17 (by decide) ?_
    refine M_Si ms_X10_isWithin lk_X10_142 dX10_as_18 (sX10_isWithin h) rfl rfl (Nat.le_of_ble_eq_true rfl) (by decide) (by decide) (fun v18 M18 h => ?_)
    refine V_if_ne 27 dX10_as_21 (by decide) (fun q21 => ?_) (fun q21 => ?_)
    · replace h := h.1 q21
      refine V_aload_n dX10_as_27 rfl ?_
      refine V_getR 6 fl_X10_30 dX10_as_28 rfl rfl rfl ?_
      refine V_iload_n dX10_as_31 rfl ?_
      obtain ⟨hi32, h⟩ := h
      have hb32 := vp_lt hi32
      refine V_aaldM (150 + Int32.toNatClampNeg a1) dX10_as_32 rfl (by decide) hi32 rfl ?_
      refine V_getI fl_X10_179 dX10_as_33 (kd_X2 (by omega)) rfl ?_
      refine V_iload_n dX10_as_36 rfl ?_
      refine V_icmp_lt 44 dX10_as_37 (by decide) (fun q37 => ?_) (fun q37 => ?_)
      · replace h := h.1 q37
        refine V_aload_n dX10_as_44 rfl ?_
        refine V_iconst 2 dX10_as_45 (by decide) ?_
        refine M_Vi mv_X10_failBy lk_X10_304 dX10_as_46 rfl rfl (sX10_failBy h) rfl rfl (Nat.le_of_ble_eq_true rfl) (by decide) (by decide) (fun v46 M46 h => ?_)
        exact V_reti dX10_as_49 rfl rfl h
      · replace h := h.2 q37
        refine V_iconst 1 dX10_as_40 (by decide) ?_
        refine V_goto 49 dX10_as_41 (by decide) ?_
        exact V_reti dX10_as_49 rfl rfl h
    · replace h := h.2 q21
      refine V_bipush (-2) dX10_as_24 (by decide) ?_
      exact V_reti dX10_as_26 rfl rfl h
  · replace h := h.2 q10
    refine V_iconst (-1) dX10_as_13 (by decide) ?_
    exact V_reti dX10_as_14 rfl rfl h
def wX10_trace  (M : Mem) (Q : Int32 → Mem → Prop) : Prop :=
  Q (M 0 18) M
set_option maxHeartbeats 1000000 in
set_option maxRecDepth 20000 in
theorem sX10_trace {E : En}  {M : Mem} {Q : Int32 → Mem → Prop} (h : wX10_trace  M Q) : CM E 1 mX10_trace [.ref (E.2.2 0)] M (Pi Q) := by
  unfold wX10_trace at h
  refine CM.of (by decide) rfl (Nat.le_of_ble_eq_true rfl) ?_
  refine V_aload_n dX10_trace_0 rfl ?_
  refine V_getI fl_X10_99 dX10_trace_1 rfl rfl ?_
  exact V_reti dX10_trace_4 rfl rfl h
def wX10_fault  (M : Mem) (Q : Int32 → Mem → Prop) : Prop :=
  Q (M 0 19) M
set_option maxHeartbeats 1000000 in
set_option maxRecDepth 20000 in
theorem sX10_fault {E : En}  {M : Mem} {Q : Int32 → Mem → Prop} (h : wX10_fault  M Q) : CM E 1 mX10_fault [.ref (E.2.2 0)] M (Pi Q) := by
  unfold wX10_fault at h
  refine CM.of (by decide) rfl (Nat.le_of_ble_eq_true rfl) ?_
  refine V_aload_n dX10_fault_0 rfl ?_
  refine V_getI fl_X10_102 dX10_fault_1 rfl rfl ?_
  exact V_reti dX10_fault_4 rfl rfl h
def wX10_many (a1 : Int32) (M : Mem) (Q : Int32 → Mem → Prop) : Prop :=
  ((a1 = 0 →
    Q (M 0 15) M) ∧ (a1 = 1 →
    Q (M 0 16) M) ∧ (a1 = 2 →
    Q (M 9 4) M) ∧ (a1 = 3 →
    wJ6_bitCount_0f7a4 (M 0 17) M (fun v54 M54 => Q v54 M54)) ∧ (¬ a1 = 0 → ¬ a1 = 1 → ¬ a1 = 2 → ¬ a1 = 3 → Q (-2) M))
set_option maxHeartbeats 1000000 in
set_option maxRecDepth 20000 in
theorem sX10_many {E : En} {a1 : Int32} {M : Mem} {Q : Int32 → Mem → Prop} (h : wX10_many a1 M Q) : CM E 2 mX10_many [.ref (E.2.2 0), .int a1] M (Pi Q) := by
  unfold wX10_many at h
  refine CM.of (by decide) rfl (Nat.le_of_ble_eq_true rfl) ?_
  refine V_iload_n dX10_many_0 rfl ?_
  rcases Classical.em (a1 = 0) with q | q1_0
  · replace h := h.1 q
    refine V_tableIn (off := 31) 32 dX10_many_1 (by rw [q]; decide) (by rw [q]; decide) (by rw [q] <;> rfl) (by decide) ?_
    refine V_aload_n dX10_many_32 rfl ?_
    refine V_getI fl_X10_89 dX10_many_33 rfl rfl ?_
    exact V_reti dX10_many_36 rfl rfl h
  rcases Classical.em (a1 = 1) with q | q1_1
  · replace h := h.2.1 q
    refine V_tableIn (off := 36) 37 dX10_many_1 (by rw [q]; decide) (by rw [q]; decide) (by rw [q] <;> rfl) (by decide) ?_
    refine V_aload_n dX10_many_37 rfl ?_
    refine V_getI fl_X10_93 dX10_many_38 rfl rfl ?_
    exact V_reti dX10_many_41 rfl rfl h
  rcases Classical.em (a1 = 2) with q | q1_2
  · replace h := h.2.2.1 q
    refine V_tableIn (off := 41) 42 dX10_many_1 (by rw [q]; decide) (by rw [q]; decide) (by rw [q] <;> rfl) (by decide) ?_
    refine V_aload_n dX10_many_42 rfl ?_
    refine V_getR 9 fl_X10_48 dX10_many_43 rfl rfl rfl ?_
    refine V_getI fl_X10_343 dX10_many_46 rfl rfl ?_
    exact V_reti dX10_many_49 rfl rfl h
  rcases Classical.em (a1 = 3) with q | q1_3
  · replace h := h.2.2.2.1 q
    refine V_tableIn (off := 49) 50 dX10_many_1 (by rw [q]; decide) (by rw [q]; decide) (by rw [q] <;> rfl) (by decide) ?_
    refine V_aload_n dX10_many_50 rfl ?_
    refine V_getI fl_X10_96 dX10_many_51 rfl rfl ?_
    refine M_Si ms_J6_bitCount_0f7a4 lk_X10_346 dX10_many_54 (sJ6_bitCount_0f7a4 h) rfl rfl (Nat.le_of_ble_eq_true rfl) (by decide) (by decide) (fun v54 M54 h => ?_)
    exact V_reti dX10_many_57 rfl rfl h
  replace h := h.2.2.2.2 q1_0 q1_1 q1_2 q1_3
  refine V_tableOut 58 dX10_many_1 (by have z0 := lv_neT q1_0 (show (0 : Int32).toInt = 0 by decide); have z1 := lv_neT q1_1 (show (1 : Int32).toInt = 1 by decide); have z2 := lv_neT q1_2 (show (2 : Int32).toInt = 2 by decide); have z3 := lv_neT q1_3 (show (3 : Int32).toInt = 3 by decide); omega) (by decide) ?_
  refine V_bipush (-2) dX10_many_58 (by decide) ?_
  exact V_reti dX10_many_60 rfl rfl h
