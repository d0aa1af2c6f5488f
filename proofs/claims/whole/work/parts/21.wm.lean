def wX11_fails (a1 : Int32) (M : Mem) (Q : Int32 → Mem → Prop) : Prop :=
  (∀ N2, N2 = mset M 49 0 a1 → Q ((-10) - a1) N2)
set_option maxHeartbeats 1000000 in
set_option maxRecDepth 20000 in
theorem sX11_fails {E : En} {a1 : Int32} {M : Mem} {Q : Int32 → Mem → Prop} (h : wX11_fails a1 M Q) : CM E 1 mX11_fails [.ref (E.2.2 49), .int a1] M (Pi Q) := by
  unfold wX11_fails at h
  refine CM.of (by decide) rfl (Nat.le_of_ble_eq_true rfl) ?_
  refine V_aload_n dX11_fails_0 rfl ?_
  refine V_iload_n dX11_fails_1 rfl ?_
  refine V_putN fp_X11_119 dX11_fails_2 rfl rfl rfl rfl (fun N2 e2 => ?_)
  replace h := h N2 e2
  refine V_bipush (-10) dX11_fails_5 (by decide) ?_
  refine V_iload_n dX11_fails_7 rfl ?_
  refine V_isub dX11_fails_8 ?_
  exact V_reti dX11_fails_9 rfl rfl h
def wX11_lost (a1 : Int32) (M : Mem) (Q : Int64 → Mem → Prop) : Prop :=
  (∀ N2, N2 = mset M 49 0 a1 → Q (-9223372036854775808) N2)
set_option maxHeartbeats 1000000 in
set_option maxRecDepth 20000 in
theorem sX11_lost {E : En} {a1 : Int32} {M : Mem} {Q : Int64 → Mem → Prop} (h : wX11_lost a1 M Q) : CM E 1 mX11_lost [.ref (E.2.2 49), .int a1] M (Pl Q) := by
  unfold wX11_lost at h
  refine CM.of (by decide) rfl (Nat.le_of_ble_eq_true rfl) ?_
  refine V_aload_n dX11_lost_0 rfl ?_
  refine V_iload_n dX11_lost_1 rfl ?_
  refine V_putN fp_X11_119 dX11_lost_2 rfl rfl rfl rfl (fun N2 e2 => ?_)
  replace h := h N2 e2
  refine V_ldc2 (-9223372036854775808) dX11_lost_5 k_X11_122 ?_
  exact V_retl dX11_lost_8 rfl h
def wX11_within (a0 : Int32) (a1 : Int32) (a2 : Int32) (M : Mem) (Q : Int32 → Mem → Prop) : Prop :=
  ((a0 < a1 →
    Q 0 M) ∧ (¬ a0 < a1 →
    ((a2 < a0 →
      Q 0 M) ∧ (¬ a2 < a0 →
      Q 1 M))))
set_option maxHeartbeats 1000000 in
set_option maxRecDepth 20000 in
theorem sX11_within {E : En} {a0 : Int32} {a1 : Int32} {a2 : Int32} {M : Mem} {Q : Int32 → Mem → Prop} (h : wX11_within a0 a1 a2 M Q) : CM E 1 mX11_within [.int a0, .int a1, .int a2] M (Pi Q) := by
  unfold wX11_within at h
  refine CM.of (by decide) rfl (Nat.le_of_ble_eq_true rfl) ?_
  refine V_iload_n dX11_within_0 rfl ?_
  refine V_iload_n dX11_within_1 rfl ?_
  refine V_icmp_lt 14 dX11_within_2 (by decide) (fun q2 => ?_) (fun q2 => ?_)
  · replace h := h.1 q2
    refine V_iconst 0 dX11_within_14 (by decide) ?_
    exact V_reti dX11_within_15 rfl rfl h
  · replace h := h.2 q2
    refine V_iload_n dX11_within_5 rfl ?_
    refine V_iload_n dX11_within_6 rfl ?_
    refine V_icmp_gt 14 dX11_within_7 (by decide) (fun q7 => ?_) (fun q7 => ?_)
    · replace h := h.1 q7
      refine V_iconst 0 dX11_within_14 (by decide) ?_
      exact V_reti dX11_within_15 rfl rfl h
    · replace h := h.2 q7
      refine V_iconst 1 dX11_within_10 (by decide) ?_
      refine V_goto 15 dX11_within_11 (by decide) ?_
      exact V_reti dX11_within_15 rfl rfl h
def wX11_has (a0 : Int32) (a1 : Int32) (M : Mem) (Q : Int32 → Mem → Prop) : Prop :=
  ((¬ ((a0 >>> (a1 &&& 31)) &&& 1) = 1 →
    Q 0 M) ∧ (((a0 >>> (a1 &&& 31)) &&& 1) = 1 →
    Q 1 M))
set_option maxHeartbeats 1000000 in
set_option maxRecDepth 20000 in
theorem sX11_has {E : En} {a0 : Int32} {a1 : Int32} {M : Mem} {Q : Int32 → Mem → Prop} (h : wX11_has a0 a1 M Q) : CM E 1 mX11_has [.int a0, .int a1] M (Pi Q) := by
  unfold wX11_has at h
  refine CM.of (by decide) rfl (Nat.le_of_ble_eq_true rfl) ?_
  refine V_iload_n dX11_has_0 rfl ?_
  refine V_iload_n dX11_has_1 rfl ?_
  refine V_ishr dX11_has_2 ?_
  refine V_iconst 1 dX11_has_3 (by decide) ?_
  refine V_iand dX11_has_4 ?_
  refine V_iconst 1 dX11_has_5 (by decide) ?_
  refine V_icmp_ne 13 dX11_has_6 (by decide) (fun q6 => ?_) (fun q6 => ?_)
  · replace h := h.1 q6
    refine V_iconst 0 dX11_has_13 (by decide) ?_
    exact V_reti dX11_has_14 rfl rfl h
  · replace h := h.2 q6
    refine V_iconst 1 dX11_has_9 (by decide) ?_
    refine V_goto 14 dX11_has_10 (by decide) ?_
    exact V_reti dX11_has_14 rfl rfl h
def wX11_isSheet (a0 : Int32) (M : Mem) (Q : Int32 → Mem → Prop) : Prop :=
  wX11_within a0 0 3 M (fun v3 M3 => isB v3 ∧ Q v3 M3)
set_option maxHeartbeats 1000000 in
set_option maxRecDepth 20000 in
theorem sX11_isSheet {E : En} {a0 : Int32} {M : Mem} {Q : Int32 → Mem → Prop} (h : wX11_isSheet a0 M Q) : CM E 2 mX11_isSheet [.int a0] M (Pi Q) := by
  unfold wX11_isSheet at h
  refine CM.of (by decide) rfl (Nat.le_of_ble_eq_true rfl) ?_
  refine V_iload_n dX11_isSheet_0 rfl ?_
  refine V_iconst 0 dX11_isSheet_1 (by decide) ?_
  refine V_iconst 3 dX11_isSheet_2 (by decide) ?_
  refine M_Si ms_X11_within lk_X11_124 dX11_isSheet_3 (sX11_within h) rfl rfl (Nat.le_of_ble_eq_true rfl) (by decide) (by decide) (fun v3 M3 h => ?_)
  exact V_reti dX11_isSheet_6 rfl (nb h.1) h.2
def wX11_isLane (a0 : Int32) (M : Mem) (Q : Int32 → Mem → Prop) : Prop :=
  wX11_within a0 0 2 M (fun v3 M3 => isB v3 ∧ Q v3 M3)
set_option maxHeartbeats 1000000 in
set_option maxRecDepth 20000 in
theorem sX11_isLane {E : En} {a0 : Int32} {M : Mem} {Q : Int32 → Mem → Prop} (h : wX11_isLane a0 M Q) : CM E 2 mX11_isLane [.int a0] M (Pi Q) := by
  unfold wX11_isLane at h
  refine CM.of (by decide) rfl (Nat.le_of_ble_eq_true rfl) ?_
  refine V_iload_n dX11_isLane_0 rfl ?_
  refine V_iconst 0 dX11_isLane_1 (by decide) ?_
  refine V_iconst 2 dX11_isLane_2 (by decide) ?_
  refine M_Si ms_X11_within lk_X11_124 dX11_isLane_3 (sX11_within h) rfl rfl (Nat.le_of_ble_eq_true rfl) (by decide) (by decide) (fun v3 M3 h => ?_)
  exact V_reti dX11_isLane_6 rfl (nb h.1) h.2
def wX11_against (a1 : Int32) (a2 : Int32) (a3 : Int32) (a4 : Int32) (M : Mem) (Q : Int32 → Mem → Prop) : Prop :=
  vp_in a1 4 ∧ jn0 (fun (M23 : Mem) => ((¬ (M23 192 (Int32.toNatClampNeg a1)) = (-9) →
      ((0 ≤ a4 →
        ((a3 < 0 →
          Q 3 M23) ∧ (¬ a3 < 0 →
          (((M23 193 (Int32.toNatClampNeg a1)) < a3 →
            Q 3 M23) ∧ (¬ (M23 193 (Int32.toNatClampNeg a1)) < a3 →
            ((a4 ≤ ((M23 193 (Int32.toNatClampNeg a1)) - a3) →
              Q 0 M23) ∧ (¬ a4 ≤ ((M23 193 (Int32.toNatClampNeg a1)) - a3) →
              Q 3 M23))))))) ∧ (¬ 0 ≤ a4 →
        Q 4 M23))) ∧ ((M23 192 (Int32.toNatClampNeg a1)) = (-9) →
      Q 1 M23))) (fun J23 => (((M 192 (Int32.toNatClampNeg a1)) = (-9) →
      J23 M) ∧ (¬ (M 192 (Int32.toNatClampNeg a1)) = (-9) →
      (((M 192 (Int32.toNatClampNeg a1)) = a2 →
        J23 M) ∧ (¬ (M 192 (Int32.toNatClampNeg a1)) = a2 →
        Q 2 M)))))
set_option maxHeartbeats 1000000 in
set_option maxRecDepth 20000 in
theorem sX11_against {E : En} {a1 : Int32} {a2 : Int32} {a3 : Int32} {a4 : Int32} {M : Mem} {Q : Int32 → Mem → Prop} (h : wX11_against a1 a2 a3 a4 M Q) : CM E 1 mX11_against [.ref (E.2.2 49), .int a1, .int a2, .int a3, .int a4] M (Pi Q) := by
  unfold wX11_against at h
  refine CM.of (by decide) rfl (Nat.le_of_ble_eq_true rfl) ?_
  refine V_aload_n dX11_against_0 rfl ?_
  refine V_getR 192 fl_X11_9 dX11_against_1 rfl rfl rfl ?_
  refine V_iload_n dX11_against_4 rfl ?_
  obtain ⟨hi5, h⟩ := h
  refine V_ialdM dX11_against_5 rfl hi5 ?_
  refine V_bipush (-9) dX11_against_6 (by decide) ?_
  refine jn0_use (P := fun (M23 : Mem) => ∀ j23_2 : Value, V (Km E 1 (Pi Q)) mX11_against 23 [.ref (E.2.2 49), .int a1, j23_2, .int a3, .int a4] [] (wsM E.1 E.2.2 M23) 0 0) (fun M23 h j23_2 => ?_) (fun J23 hJ23 h => ?_) h
  · refine V_aload_n dX11_against_23 rfl ?_
    refine V_getR 192 fl_X11_9 dX11_against_24 rfl rfl rfl ?_
    refine V_iload_n dX11_against_27 rfl ?_
    refine V_ialdM dX11_against_28 rfl hi5 ?_
    refine V_bipush (-9) dX11_against_29 (by decide) ?_
    refine V_icmp_ne 36 dX11_against_31 (by decide) (fun q31 => ?_) (fun q31 => ?_)
    · replace h := h.1 q31
      refine V_iload dX11_against_36 rfl ?_
      refine V_if_ge 43 dX11_against_38 (by decide) (fun q38 => ?_) (fun q38 => ?_)
      · replace h := h.1 q38
        refine V_iload_n dX11_against_43 rfl ?_
        refine V_if_lt 70 dX11_against_44 (by decide) (fun q44 => ?_) (fun q44 => ?_)
        · replace h := h.1 q44
          refine V_iconst 3 dX11_against_70 (by decide) ?_
          exact V_reti dX11_against_71 rfl rfl h
        · replace h := h.2 q44
          refine V_iload_n dX11_against_47 rfl ?_
          refine V_aload_n dX11_against_48 rfl ?_
          refine V_getR 193 fl_X11_13 dX11_against_49 rfl rfl rfl ?_
          refine V_iload_n dX11_against_52 rfl ?_
          refine V_ialdM dX11_against_53 rfl hi5 ?_
          refine V_icmp_gt 70 dX11_against_54 (by decide) (fun q54 => ?_) (fun q54 => ?_)
          · replace h := h.1 q54
            refine V_iconst 3 dX11_against_70 (by decide) ?_
            exact V_reti dX11_against_71 rfl rfl h
          · replace h := h.2 q54
            refine V_iload dX11_against_57 rfl ?_
            refine V_aload_n dX11_against_59 rfl ?_
            refine V_getR 193 fl_X11_13 dX11_against_60 rfl rfl rfl ?_
            refine V_iload_n dX11_against_63 rfl ?_
            refine V_ialdM dX11_against_64 rfl hi5 ?_
            refine V_iload_n dX11_against_65 rfl ?_
            refine V_isub dX11_against_66 ?_
            refine V_icmp_le 72 dX11_against_67 (by decide) (fun q67 => ?_) (fun q67 => ?_)
            · replace h := h.1 q67
              refine V_iconst 0 dX11_against_72 (by decide) ?_
              exact V_reti dX11_against_73 rfl rfl h
            · replace h := h.2 q67
              refine V_iconst 3 dX11_against_70 (by decide) ?_
              exact V_reti dX11_against_71 rfl rfl h
      · replace h := h.2 q38
        refine V_iconst 4 dX11_against_41 (by decide) ?_
        exact V_reti dX11_against_42 rfl rfl h
    · replace h := h.2 q31
      refine V_iconst 1 dX11_against_34 (by decide) ?_
      exact V_reti dX11_against_35 rfl rfl h
  · refine V_icmp_eq 23 dX11_against_8 (by decide) (fun q8 => ?_) (fun q8 => ?_)
    · replace h := h.1 q8
      refine V_take 5 ?_
      exact hJ23 _ h _
    · replace h := h.2 q8
      refine V_aload_n dX11_against_11 rfl ?_
      refine V_getR 192 fl_X11_9 dX11_against_12 rfl rfl rfl ?_
      refine V_iload_n dX11_against_15 rfl ?_
      refine V_ialdM dX11_against_16 rfl hi5 ?_
      refine V_iload_n dX11_against_17 rfl ?_
      refine V_icmp_eq 23 dX11_against_18 (by decide) (fun q18 => ?_) (fun q18 => ?_)
      · replace h := h.1 q18
        refine V_take 5 ?_
        exact hJ23 _ h _
      · replace h := h.2 q18
        refine V_iconst 2 dX11_against_21 (by decide) ?_
        exact V_reti dX11_against_22 rfl rfl h
def wX11_areCells (a1 : Int32) (a2 : Int32) (a3 : Int32) (a4 : Int32) (M : Mem) (Q : Int32 → Mem → Prop) : Prop :=
  (∃ n, lq1 (fun R3 (x3_5 : Int32) (M3 : Mem) => ((a2 ≤ x3_5 →
      Q 1 M3) ∧ (¬ a2 ≤ x3_5 →
      vp_in (a1 + x3_5) 240 ∧ wX11_within (M3 194 (Int32.toNatClampNeg (a1 + x3_5))) a3 a4 M3 (fun v21 M21 => ((¬ v21 = 0 →
          R3 (x3_5 + 1) M21) ∧ (v21 = 0 →
          Q 0 M21)))))) n 0 M)
set_option maxHeartbeats 1000000 in
set_option maxRecDepth 20000 in
theorem sX11_areCells {E : En} {a1 : Int32} {a2 : Int32} {a3 : Int32} {a4 : Int32} {M : Mem} {Q : Int32 → Mem → Prop} (h : wX11_areCells a1 a2 a3 a4 M Q) : CM E 2 mX11_areCells [.ref (E.2.2 49), .int a1, .int a2, .int a3, .int a4] M (Pi Q) := by
  unfold wX11_areCells at h
  refine CM.of (by decide) rfl (Nat.le_of_ble_eq_true rfl) ?_
  refine V_iconst 0 dX11_areCells_0 (by decide) ?_
  refine V_istore dX11_areCells_1 (by decide) ?_
  obtain ⟨n3, h⟩ := h
  refine V_take 6 ?_
  refine lq1_use (P := fun (x3_5 : Int32) (M3 : Mem) => V (Km E 2 (Pi Q)) mX11_areCells 3 [.ref (E.2.2 49), .int a1, .int a2, .int a3, .int a4, .int x3_5] [] (wsM E.1 E.2.2 M3) 0 0) (fun R3 hR3 x3_5 M3 h => ?_) n3 _ _ h
  refine V_iload dX11_areCells_3 rfl ?_
  refine V_iload_n dX11_areCells_5 rfl ?_
  refine V_icmp_ge 35 dX11_areCells_6 (by decide) (fun q6 => ?_) (fun q6 => ?_)
  · replace h := h.1 q6
    refine V_iconst 1 dX11_areCells_35 (by decide) ?_
    exact V_reti dX11_areCells_36 rfl rfl h
  · replace h := h.2 q6
    refine V_aload_n dX11_areCells_9 rfl ?_
    refine V_getR 194 fl_X11_16 dX11_areCells_10 rfl rfl rfl ?_
    refine V_iload_n dX11_areCells_13 rfl ?_
    refine V_iload dX11_areCells_14 rfl ?_
    refine V_iadd dX11_areCells_16 ?_
    obtain ⟨hi17, h⟩ := h
    refine V_ialdM dX11_areCells_17 rfl hi17 ?_
    refine V_iload_n dX11_areCells_18 rfl ?_
    refine V_iload dX11_areCells_19 rfl ?_
    refine M_Si ms_X11_within lk_X11_124 dX11_areCells_21 (sX11_within h) rfl rfl (Nat.le_of_ble_eq_true rfl) (by decide) (by decide) (fun v21 M21 h => ?_)
    refine V_if_ne 29 dX11_areCells_24 (by decide) (fun q24 => ?_) (fun q24 => ?_)
    · replace h := h.1 q24
      refine V_iincC 1 dX11_areCells_29 (by decide) rfl (by decide) ?_
      refine V_goto 3 dX11_areCells_32 (by decide) ?_
      refine V_take 6 ?_
      exact hR3 _ _ h
    · replace h := h.2 q24
      refine V_iconst 0 dX11_areCells_27 (by decide) ?_
      exact V_reti dX11_areCells_28 rfl rfl h
def wX11_isSound (a0 : Int32) (M : Mem) (Q : Int32 → Mem → Prop) : Prop :=
  wX11_within a0 0 15 M (fun v4 M4 => isB v4 ∧ Q v4 M4)
set_option maxHeartbeats 1000000 in
set_option maxRecDepth 20000 in
theorem sX11_isSound {E : En} {a0 : Int32} {M : Mem} {Q : Int32 → Mem → Prop} (h : wX11_isSound a0 M Q) : CM E 2 mX11_isSound [.int a0] M (Pi Q) := by
  unfold wX11_isSound at h
  refine CM.of (by decide) rfl (Nat.le_of_ble_eq_true rfl) ?_
  refine V_iload_n dX11_isSound_0 rfl ?_
  refine V_iconst 0 dX11_isSound_1 (by decide) ?_
  refine V_bipush 15 dX11_isSound_2 (by decide) ?_
  refine M_Si ms_X11_within lk_X11_124 dX11_isSound_4 (sX11_within h) rfl rfl (Nat.le_of_ble_eq_true rfl) (by decide) (by decide) (fun v4 M4 h => ?_)
  exact V_reti dX11_isSound_7 rfl (nb h.1) h.2
def wX11_sound (a1 : Int32) (a2 : Int32) (a3 : Int32) (M : Mem) (Q : Int32 → Mem → Prop) : Prop :=
  wX11_isSound a1 M (fun v1 M1 => ((¬ v1 = 0 →
      wX11_within a2 0 63 M1 (fun v13 M13 => ((v13 = 0 →
          Q (-2) M13) ∧ (¬ v13 = 0 →
          wX11_within a3 0 63 M13 (fun v23 M23 => ((v23 = 0 →
              Q (-2) M23) ∧ (¬ v23 = 0 →
              (((a2 &&& a3) = 0 →
                vp_in a1 16 ∧ jn1 (fun (y63_0 : Int32) (M63 : Mem) => (∀ N71, N71 = mset M63 195 (Int32.toNatClampNeg a1) a2 → (∀ N78, N78 = mset N71 196 (Int32.toNatClampNeg a1) a3 → Q y63_0 N78))) (fun J63 => ((¬ (M23 195 (Int32.toNatClampNeg a1)) = a2 →
                    J63 1 M23) ∧ ((M23 195 (Int32.toNatClampNeg a1)) = a2 →
                    ((¬ (M23 196 (Int32.toNatClampNeg a1)) = a3 →
                      J63 1 M23) ∧ ((M23 196 (Int32.toNatClampNeg a1)) = a3 →
                      J63 0 M23)))))) ∧ (¬ (a2 &&& a3) = 0 →
                Q (-2) M23))))))))) ∧ (v1 = 0 →
      Q (-1) M1)))
set_option maxHeartbeats 1000000 in
set_option maxRecDepth 20000 in
theorem sX11_sound {E : En} {a1 : Int32} {a2 : Int32} {a3 : Int32} {M : Mem} {Q : Int32 → Mem → Prop} (h : wX11_sound a1 a2 a3 M Q) : CM E 3 mX11_sound [.ref (E.2.2 49), .int a1, .int a2, .int a3] M (Pi Q) := by
  unfold wX11_sound at h
  refine CM.of (by decide) rfl (Nat.le_of_ble_eq_true rfl) ?_
  refine V_iload_n dX11_sound_0 rfl ?_
  refine M_Si ms_X11_isSound lk_X11_128 dX11_sound_1 (sX11_isSound h) rfl rfl (Nat.le_of_ble_eq_true rfl) (by decide) (by decide) (fun v1 M1 h => ?_)
  refine V_if_ne 9 dX11_sound_4 (by decide) (fun q4 => ?_) (fun q4 => ?_)
  · replace h := h.1 q4
    refine V_iload_n dX11_sound_9 rfl ?_
    refine V_iconst 0 dX11_sound_10 (by decide) ?_
    refine V_bipush 63 dX11_sound_11 (by decide) ?_
    refine M_Si ms_X11_within lk_X11_124 dX11_sound_13 (sX11_within h) rfl rfl (Nat.le_of_ble_eq_true rfl) (by decide) (by decide) (fun v13 M13 h => ?_)
    refine V_if_eq 35 dX11_sound_16 (by decide) (fun q16 => ?_) (fun q16 => ?_)
    · replace h := h.1 q16
      refine V_bipush (-2) dX11_sound_35 (by decide) ?_
      exact V_reti dX11_sound_37 rfl rfl h
    · replace h := h.2 q16
      refine V_iload_n dX11_sound_19 rfl ?_
      refine V_iconst 0 dX11_sound_20 (by decide) ?_
      refine V_bipush 63 dX11_sound_21 (by decide) ?_
      refine M_Si ms_X11_within lk_X11_124 dX11_sound_23 (sX11_within h) rfl rfl (Nat.le_of_ble_eq_true rfl) (by decide) (by decide) (fun v23 M23 h => ?_)
      refine V_if_eq 35 dX11_sound_26 (by decide) (fun q26 => ?_) (fun q26 => ?_)
      · replace h := h.1 q26
        refine V_bipush (-2) dX11_sound_35 (by decide) ?_
        exact V_reti dX11_sound_37 rfl rfl h
      · replace h := h.2 q26
        refine V_iload_n dX11_sound_29 rfl ?_
        refine V_iload_n dX11_sound_30 rfl ?_
        refine V_iand dX11_sound_31 ?_
        refine V_if_eq 38 dX11_sound_32 (by decide) (fun q32 => ?_) (fun q32 => ?_)
        · replace h := h.1 q32
          refine V_aload_n dX11_sound_38 rfl ?_
          refine V_getR 195 fl_X11_19 dX11_sound_39 rfl rfl rfl ?_
          refine V_iload_n dX11_sound_42 rfl ?_
          obtain ⟨hi43, h⟩ := h
          refine V_ialdM dX11_sound_43 rfl hi43 ?_
          refine V_iload_n dX11_sound_44 rfl ?_
          refine jn1_use (P := fun (y63_0 : Int32) (M63 : Mem) => V (Km E 3 (Pi Q)) mX11_sound 63 [.ref (E.2.2 49), .int a1, .int a2, .int a3] [.int y63_0] (wsM E.1 E.2.2 M63) 0 0) (fun y63_0 M63 h => ?_) (fun J63 hJ63 h => ?_) h
          · refine V_istore dX11_sound_63 (by decide) ?_
            refine V_aload_n dX11_sound_65 rfl ?_
            refine V_getR 195 fl_X11_19 dX11_sound_66 rfl rfl rfl ?_
            refine V_iload_n dX11_sound_69 rfl ?_
            refine V_iload_n dX11_sound_70 rfl ?_
            refine V_iastN dX11_sound_71 rfl hi43 (fun N71 e71 => ?_)
            replace h := h N71 e71
            refine V_aload_n dX11_sound_72 rfl ?_
            refine V_getR 196 fl_X11_22 dX11_sound_73 rfl rfl rfl ?_
            refine V_iload_n dX11_sound_76 rfl ?_
            refine V_iload_n dX11_sound_77 rfl ?_
            refine V_iastN dX11_sound_78 rfl hi43 (fun N78 e78 => ?_)
            replace h := h N78 e78
            refine V_iload dX11_sound_79 rfl ?_
            exact V_reti dX11_sound_81 rfl rfl h
          · refine V_icmp_ne 62 dX11_sound_45 (by decide) (fun q45 => ?_) (fun q45 => ?_)
            · replace h := h.1 q45
              refine V_iconst 1 dX11_sound_62 (by decide) ?_
              refine V_take 4 ?_
              exact hJ63 _ _ h
            · replace h := h.2 q45
              refine V_aload_n dX11_sound_48 rfl ?_
              refine V_getR 196 fl_X11_22 dX11_sound_49 rfl rfl rfl ?_
              refine V_iload_n dX11_sound_52 rfl ?_
              refine V_ialdM dX11_sound_53 rfl hi43 ?_
              refine V_iload_n dX11_sound_54 rfl ?_
              refine V_icmp_ne 62 dX11_sound_55 (by decide) (fun q55 => ?_) (fun q55 => ?_)
              · replace h := h.1 q55
                refine V_iconst 1 dX11_sound_62 (by decide) ?_
                refine V_take 4 ?_
                exact hJ63 _ _ h
              · replace h := h.2 q55
                refine V_iconst 0 dX11_sound_58 (by decide) ?_
                refine V_goto 63 dX11_sound_59 (by decide) ?_
                refine V_take 4 ?_
                exact hJ63 _ _ h
        · replace h := h.2 q32
          refine V_bipush (-2) dX11_sound_35 (by decide) ?_
          exact V_reti dX11_sound_37 rfl rfl h
  · replace h := h.2 q4
    refine V_iconst (-1) dX11_sound_7 (by decide) ?_
    exact V_reti dX11_sound_8 rfl rfl h
def wX11_feature (a1 : Int32) (a2 : Int32) (M : Mem) (Q : Int32 → Mem → Prop) : Prop :=
  wX11_isSound a1 M (fun v1 M1 => ((¬ v1 = 0 →
      wX11_within a2 0 5 M1 (fun v12 M12 => ((¬ v12 = 0 →
          vp_in a1 16 ∧ wX11_has (M12 195 (Int32.toNatClampNeg a1)) a2 M12 (fun v28 M28 => ((v28 = 0 →
              wX11_has (M28 196 (Int32.toNatClampNeg a1)) a2 M28 (fun v45 M45 => ((v45 = 0 →
                  Q (-9) M45) ∧ (¬ v45 = 0 →
                  Q 0 M45)))) ∧ (¬ v28 = 0 →
              Q 1 M28)))) ∧ (v12 = 0 →
          Q (-2) M12)))) ∧ (v1 = 0 →
      Q (-1) M1)))
set_option maxHeartbeats 1000000 in
set_option maxRecDepth 20000 in
theorem sX11_feature {E : En} {a1 : Int32} {a2 : Int32} {M : Mem} {Q : Int32 → Mem → Prop} (h : wX11_feature a1 a2 M Q) : CM E 3 mX11_feature [.ref (E.2.2 49), .int a1, .int a2] M (Pi Q) := by
  unfold wX11_feature at h
  refine CM.of (by decide) rfl (Nat.le_of_ble_eq_true rfl) ?_
  refine V_iload_n dX11_feature_0 rfl ?_
  refine M_Si ms_X11_isSound lk_X11_128 dX11_feature_1 (sX11_isSound h) rfl rfl (Nat.le_of_ble_eq_true rfl) (by decide) (by decide) (fun v1 M1 h => ?_)
  refine V_if_ne 9 dX11_feature_4 (by decide) (fun q4 => ?_) (fun q4 => ?_)
  · replace h := h.1 q4
    refine V_iload_n dX11_feature_9 rfl ?_
    refine V_iconst 0 dX11_feature_10 (by decide) ?_
    refine V_iconst 5 dX11_feature_11 (by decide) ?_
    refine M_Si ms_X11_within lk_X11_124 dX11_feature_12 (sX11_within h) rfl rfl (Nat.le_of_ble_eq_true rfl) (by decide) (by decide) (fun v12 M12 h => ?_)
    refine V_if_ne 21 dX11_feature_15 (by decide) (fun q15 => ?_) (fun q15 => ?_)
    · replace h := h.1 q15
      refine V_aload_n dX11_feature_21 rfl ?_
      refine V_getR 195 fl_X11_19 dX11_feature_22 rfl rfl rfl ?_
      refine V_iload_n dX11_feature_25 rfl ?_
      obtain ⟨hi26, h⟩ := h
      refine V_ialdM dX11_feature_26 rfl hi26 ?_
      refine V_iload_n dX11_feature_27 rfl ?_
      refine M_Si ms_X11_has lk_X11_132 dX11_feature_28 (sX11_has h) rfl rfl (Nat.le_of_ble_eq_true rfl) (by decide) (by decide) (fun v28 M28 h => ?_)
      refine V_if_eq 38 dX11_feature_31 (by decide) (fun q31 => ?_) (fun q31 => ?_)
      · replace h := h.1 q31
        refine V_aload_n dX11_feature_38 rfl ?_
        refine V_getR 196 fl_X11_22 dX11_feature_39 rfl rfl rfl ?_
        refine V_iload_n dX11_feature_42 rfl ?_
        refine V_ialdM dX11_feature_43 rfl hi26 ?_
        refine V_iload_n dX11_feature_44 rfl ?_
        refine M_Si ms_X11_has lk_X11_132 dX11_feature_45 (sX11_has h) rfl rfl (Nat.le_of_ble_eq_true rfl) (by decide) (by decide) (fun v45 M45 h => ?_)
        refine V_if_eq 55 dX11_feature_48 (by decide) (fun q48 => ?_) (fun q48 => ?_)
        · replace h := h.1 q48
          refine V_bipush (-9) dX11_feature_55 (by decide) ?_
          exact V_reti dX11_feature_57 rfl rfl h
        · replace h := h.2 q48
          refine V_iconst 0 dX11_feature_51 (by decide) ?_
          refine V_goto 57 dX11_feature_52 (by decide) ?_
          exact V_reti dX11_feature_57 rfl rfl h
      · replace h := h.2 q31
        refine V_iconst 1 dX11_feature_34 (by decide) ?_
        refine V_goto 57 dX11_feature_35 (by decide) ?_
        exact V_reti dX11_feature_57 rfl rfl h
    · replace h := h.2 q15
      refine V_bipush (-2) dX11_feature_18 (by decide) ?_
      exact V_reti dX11_feature_20 rfl rfl h
  · replace h := h.2 q4
    refine V_iconst (-1) dX11_feature_7 (by decide) ?_
    exact V_reti dX11_feature_8 rfl rfl h
def wX11_differOf (a1 : Int32) (a2 : Int32) (M : Mem) (Q : Int32 → Mem → Prop) : Prop :=
  (∃ n, lq2 (fun R5 (x5_3 : Int32) (x5_4 : Int32) (M5 : Mem) => ((6 ≤ x5_4 →
      Q x5_3 M5) ∧ (¬ 6 ≤ x5_4 →
      vp_in a1 16 ∧ wX11_has ((M5 195 (Int32.toNatClampNeg a1)) ||| (M5 196 (Int32.toNatClampNeg a1))) x5_4 M5 (fun v27 M27 => vp_in a2 16 ∧ wX11_has ((M27 195 (Int32.toNatClampNeg a2)) ||| (M27 196 (Int32.toNatClampNeg a2))) x5_4 M27 (fun v47 M47 => jn0 (fun (M98 : Mem) => ((¬ v27 = 0 →
              R5 (x5_3 + 1) (x5_4 + 1) M98) ∧ (v27 = 0 →
              ((v47 = 0 →
                R5 x5_3 (x5_4 + 1) M98) ∧ (¬ v47 = 0 →
                R5 (x5_3 + 1) (x5_4 + 1) M98))))) (fun J98 => ((v27 = 0 →
              J98 M47) ∧ (¬ v27 = 0 →
              ((v47 = 0 →
                J98 M47) ∧ (¬ v47 = 0 →
                wX11_has (M47 195 (Int32.toNatClampNeg a1)) x5_4 M47 (fun v71 M71 => wX11_has (M71 195 (Int32.toNatClampNeg a2)) x5_4 M71 (fun v82 M82 => jn1 (fun (y93_0 : Int32) (M93 : Mem) => R5 (x5_3 + y93_0) (x5_4 + 1) M93) (fun J93 => ((¬ v71 = v82 →
                        J93 2 M82) ∧ (v71 = v82 →
                        J93 0 M82))))))))))))))) n 0 0 M)
set_option maxHeartbeats 1000000 in
set_option maxRecDepth 20000 in
theorem sX11_differOf {E : En} {a1 : Int32} {a2 : Int32} {M : Mem} {Q : Int32 → Mem → Prop} (h : wX11_differOf a1 a2 M Q) : CM E 2 mX11_differOf [.ref (E.2.2 49), .int a1, .int a2] M (Pi Q) := by
  unfold wX11_differOf at h
  refine CM.of (by decide) rfl (Nat.le_of_ble_eq_true rfl) ?_
  refine V_iconst 0 dX11_differOf_0 (by decide) ?_
  refine V_istore_n dX11_differOf_1 (by decide) ?_
  refine V_iconst 0 dX11_differOf_2 (by decide) ?_
  refine V_istore dX11_differOf_3 (by decide) ?_
  obtain ⟨n5, h⟩ := h
  refine V_take 5 ?_
  refine lq2_use (P := fun (x5_3 : Int32) (x5_4 : Int32) (M5 : Mem) => V (Km E 2 (Pi Q)) mX11_differOf 5 [.ref (E.2.2 49), .int a1, .int a2, .int x5_3, .int x5_4] [] (wsM E.1 E.2.2 M5) 0 0) (fun R5 hR5 x5_3 x5_4 M5 h => ?_) n5 _ _ _ h
  refine V_iload dX11_differOf_5 rfl ?_
  refine V_bipush 6 dX11_differOf_7 (by decide) ?_
  refine V_icmp_ge 117 dX11_differOf_9 (by decide) (fun q9 => ?_) (fun q9 => ?_)
  · replace h := h.1 q9
    refine V_iload_n dX11_differOf_117 rfl ?_
    exact V_reti dX11_differOf_118 rfl rfl h
  · replace h := h.2 q9
    refine V_aload_n dX11_differOf_12 rfl ?_
    refine V_getR 195 fl_X11_19 dX11_differOf_13 rfl rfl rfl ?_
    refine V_iload_n dX11_differOf_16 rfl ?_
    obtain ⟨hi17, h⟩ := h
    refine V_ialdM dX11_differOf_17 rfl hi17 ?_
    refine V_aload_n dX11_differOf_18 rfl ?_
    refine V_getR 196 fl_X11_22 dX11_differOf_19 rfl rfl rfl ?_
    refine V_iload_n dX11_differOf_22 rfl ?_
    refine V_ialdM dX11_differOf_23 rfl hi17 ?_
    refine V_ior dX11_differOf_24 ?_
    refine V_iload dX11_differOf_25 rfl ?_
    refine M_Si ms_X11_has lk_X11_132 dX11_differOf_27 (sX11_has h) rfl rfl (Nat.le_of_ble_eq_true rfl) (by decide) (by decide) (fun v27 M27 h => ?_)
    refine V_istore dX11_differOf_30 (by decide) ?_
    refine V_aload_n dX11_differOf_32 rfl ?_
    refine V_getR 195 fl_X11_19 dX11_differOf_33 rfl rfl rfl ?_
    refine V_iload_n dX11_differOf_36 rfl ?_
    obtain ⟨hi37, h⟩ := h
    refine V_ialdM dX11_differOf_37 rfl hi37 ?_
    refine V_aload_n dX11_differOf_38 rfl ?_
    refine V_getR 196 fl_X11_22 dX11_differOf_39 rfl rfl rfl ?_
    refine V_iload_n dX11_differOf_42 rfl ?_
    refine V_ialdM dX11_differOf_43 rfl hi37 ?_
    refine V_ior dX11_differOf_44 ?_
    refine V_iload dX11_differOf_45 rfl ?_
    refine M_Si ms_X11_has lk_X11_132 dX11_differOf_47 (sX11_has h) rfl rfl (Nat.le_of_ble_eq_true rfl) (by decide) (by decide) (fun v47 M47 h => ?_)
    refine V_istore dX11_differOf_50 (by decide) ?_
    refine V_iload dX11_differOf_52 rfl ?_
    refine jn0_use (P := fun (M98 : Mem) => V (Km E 2 (Pi Q)) mX11_differOf 98 [.ref (E.2.2 49), .int a1, .int a2, .int x5_3, .int x5_4, .int v27, .int v47] [] (wsM E.1 E.2.2 M98) 0 0) (fun M98 h => ?_) (fun J98 hJ98 h => ?_) h
    · refine V_iload dX11_differOf_98 rfl ?_
      refine V_if_ne 108 dX11_differOf_100 (by decide) (fun q100 => ?_) (fun q100 => ?_)
      · replace h := h.1 q100
        refine V_iincC 1 dX11_differOf_108 (by decide) rfl (by decide) ?_
        refine V_iincC 1 dX11_differOf_111 (by decide) rfl (by decide) ?_
        refine V_goto 5 dX11_differOf_114 (by decide) ?_
        refine V_take 5 ?_
        exact hR5 _ _ _ h
      · replace h := h.2 q100
        refine V_iload dX11_differOf_103 rfl ?_
        refine V_if_eq 111 dX11_differOf_105 (by decide) (fun q105 => ?_) (fun q105 => ?_)
        · replace h := h.1 q105
          refine V_iincC 1 dX11_differOf_111 (by decide) rfl (by decide) ?_
          refine V_goto 5 dX11_differOf_114 (by decide) ?_
          refine V_take 5 ?_
          exact hR5 _ _ _ h
        · replace h := h.2 q105
          refine V_iincC 1 dX11_differOf_108 (by decide) rfl (by decide) ?_
          refine V_iincC 1 dX11_differOf_111 (by decide) rfl (by decide) ?_
          refine V_goto 5 dX11_differOf_114 (by decide) ?_
          refine V_take 5 ?_
          exact hR5 _ _ _ h
    · refine V_if_eq 98 dX11_differOf_54 (by decide) (fun q54 => ?_) (fun q54 => ?_)
      · replace h := h.1 q54
        refine V_take 7 ?_
        exact hJ98 _ h
      · replace h := h.2 q54
        refine V_iload dX11_differOf_57 rfl ?_
        refine V_if_eq 98 dX11_differOf_59 (by decide) (fun q59 => ?_) (fun q59 => ?_)
        · replace h := h.1 q59
          refine V_take 7 ?_
          exact hJ98 _ h
        · replace h := h.2 q59
          refine V_iload_n dX11_differOf_62 rfl ?_
          refine V_aload_n dX11_differOf_63 rfl ?_
          refine V_getR 195 fl_X11_19 dX11_differOf_64 rfl rfl rfl ?_
          refine V_iload_n dX11_differOf_67 rfl ?_
          refine V_ialdM dX11_differOf_68 rfl hi17 ?_
          refine V_iload dX11_differOf_69 rfl ?_
          refine M_Si ms_X11_has lk_X11_132 dX11_differOf_71 (sX11_has h) rfl rfl (Nat.le_of_ble_eq_true rfl) (by decide) (by decide) (fun v71 M71 h => ?_)
          refine V_aload_n dX11_differOf_74 rfl ?_
          refine V_getR 195 fl_X11_19 dX11_differOf_75 rfl rfl rfl ?_
          refine V_iload_n dX11_differOf_78 rfl ?_
          refine V_ialdM dX11_differOf_79 rfl hi37 ?_
          refine V_iload dX11_differOf_80 rfl ?_
          refine M_Si ms_X11_has lk_X11_132 dX11_differOf_82 (sX11_has h) rfl rfl (Nat.le_of_ble_eq_true rfl) (by decide) (by decide) (fun v82 M82 h => ?_)
          refine jn1_use (P := fun (y93_0 : Int32) (M93 : Mem) => ∀ j93_3 : Value, ∀ j93_5 : Value, ∀ j93_6 : Value, V (Km E 2 (Pi Q)) mX11_differOf 93 [.ref (E.2.2 49), .int a1, .int a2, j93_3, .int x5_4, j93_5, j93_6] [.int y93_0, .int x5_3] (wsM E.1 E.2.2 M93) 0 0) (fun y93_0 M93 h j93_3 j93_5 j93_6 => ?_) (fun J93 hJ93 h => ?_) h
          · refine V_iadd dX11_differOf_93 ?_
            refine V_istore_n dX11_differOf_94 (by decide) ?_
            refine V_goto 111 dX11_differOf_95 (by decide) ?_
            refine V_iincC 1 dX11_differOf_111 (by decide) rfl (by decide) ?_
            refine V_goto 5 dX11_differOf_114 (by decide) ?_
            refine V_take 5 ?_
            exact hR5 _ _ _ h
          · refine V_icmp_ne 92 dX11_differOf_85 (by decide) (fun q85 => ?_) (fun q85 => ?_)
            · replace h := h.1 q85
              refine V_iconst 2 dX11_differOf_92 (by decide) ?_
              refine V_take 7 ?_
              exact hJ93 _ _ h _ _ _
            · replace h := h.2 q85
              refine V_iconst 0 dX11_differOf_88 (by decide) ?_
              refine V_goto 93 dX11_differOf_89 (by decide) ?_
              refine V_take 7 ?_
              exact hJ93 _ _ h _ _ _
def wX11_differ (a1 : Int32) (a2 : Int32) (M : Mem) (Q : Int32 → Mem → Prop) : Prop :=
  wX11_isSound a1 M (fun v1 M1 => ((v1 = 0 →
      Q (-1) M1) ∧ (¬ v1 = 0 →
      wX11_isSound a2 M1 (fun v8 M8 => ((v8 = 0 →
          Q (-1) M8) ∧ (¬ v8 = 0 →
          wX11_differOf a1 a2 M8 (fun v17 M17 => Q v17 M17)))))))
set_option maxHeartbeats 1000000 in
set_option maxRecDepth 20000 in
theorem sX11_differ {E : En} {a1 : Int32} {a2 : Int32} {M : Mem} {Q : Int32 → Mem → Prop} (h : wX11_differ a1 a2 M Q) : CM E 3 mX11_differ [.ref (E.2.2 49), .int a1, .int a2] M (Pi Q) := by
  unfold wX11_differ at h
  refine CM.of (by decide) rfl (Nat.le_of_ble_eq_true rfl) ?_
  refine V_iload_n dX11_differ_0 rfl ?_
  refine M_Si ms_X11_isSound lk_X11_128 dX11_differ_1 (sX11_isSound h) rfl rfl (Nat.le_of_ble_eq_true rfl) (by decide) (by decide) (fun v1 M1 h => ?_)
  refine V_if_eq 23 dX11_differ_4 (by decide) (fun q4 => ?_) (fun q4 => ?_)
  · replace h := h.1 q4
    refine V_iconst (-1) dX11_differ_23 (by decide) ?_
    exact V_reti dX11_differ_24 rfl rfl h
  · replace h := h.2 q4
    refine V_iload_n dX11_differ_7 rfl ?_
    refine M_Si ms_X11_isSound lk_X11_128 dX11_differ_8 (sX11_isSound h) rfl rfl (Nat.le_of_ble_eq_true rfl) (by decide) (by decide) (fun v8 M8 h => ?_)
    refine V_if_eq 23 dX11_differ_11 (by decide) (fun q11 => ?_) (fun q11 => ?_)
    · replace h := h.1 q11
      refine V_iconst (-1) dX11_differ_23 (by decide) ?_
      exact V_reti dX11_differ_24 rfl rfl h
    · replace h := h.2 q11
      refine V_aload_n dX11_differ_14 rfl ?_
      refine V_iload_n dX11_differ_15 rfl ?_
      refine V_iload_n dX11_differ_16 rfl ?_
      refine M_Vi mv_X11_differOf lk_X11_136 dX11_differ_17 rfl rfl (sX11_differOf h) rfl rfl (Nat.le_of_ble_eq_true rfl) (by decide) (by decide) (fun v17 M17 h => ?_)
      refine V_goto 24 dX11_differ_20 (by decide) ?_
      exact V_reti dX11_differ_24 rfl rfl h
def wX11_isCollector (a0 : Int32) (M : Mem) (Q : Int32 → Mem → Prop) : Prop :=
  wX11_within a0 0 2 M (fun v3 M3 => isB v3 ∧ Q v3 M3)
set_option maxHeartbeats 1000000 in
set_option maxRecDepth 20000 in
theorem sX11_isCollector {E : En} {a0 : Int32} {M : Mem} {Q : Int32 → Mem → Prop} (h : wX11_isCollector a0 M Q) : CM E 2 mX11_isCollector [.int a0] M (Pi Q) := by
  unfold wX11_isCollector at h
  refine CM.of (by decide) rfl (Nat.le_of_ble_eq_true rfl) ?_
  refine V_iload_n dX11_isCollector_0 rfl ?_
  refine V_iconst 0 dX11_isCollector_1 (by decide) ?_
  refine V_iconst 2 dX11_isCollector_2 (by decide) ?_
  refine M_Si ms_X11_within lk_X11_124 dX11_isCollector_3 (sX11_within h) rfl rfl (Nat.le_of_ble_eq_true rfl) (by decide) (by decide) (fun v3 M3 h => ?_)
  exact V_reti dX11_isCollector_6 rfl (nb h.1) h.2
def wX11_entry (a1 : Int32) (a2 : Int32) (a3 : Int32) (a4 : Int32) (a5 : Int32) (a6 : Int32) (M : Mem) (Q : Int32 → Mem → Prop) : Prop :=
  (∀ N2, N2 = mset M 49 0 0 → wX11_isCollector a1 N2 (fun v6 M6 => ((v6 = 0 →
      Q (-1) M6) ∧ (¬ v6 = 0 →
      wX11_isSound a2 M6 (fun v13 M13 => ((v13 = 0 →
          Q (-1) M13) ∧ (¬ v13 = 0 →
          wX11_isSheet a3 M13 (fun v20 M20 => ((¬ v20 = 0 →
              wX11_isLane a4 M20 (fun v30 M30 => ((¬ v30 = 0 →
                  wX11_against a3 a4 a5 a6 M30 (fun v47 M47 => ((v47 = 0 →
                      wX11_within a6 1 3 M47 (fun v77 M77 => ((v77 = 0 →
                          Q (-2) M77) ∧ (¬ v77 = 0 →
                          wX11_areCells ((60 * a3) + a5) a6 0 127 M77 (fun v91 M91 => ((¬ v91 = 0 →
                              vp_in a1 3 ∧ ((¬ (M91 197 (Int32.toNatClampNeg a1)) = 10 →
                                vp_in ((10 * a1) + (M91 197 (Int32.toNatClampNeg a1))) 30 ∧ (∀ N134, N134 = mset M91 198 (Int32.toNatClampNeg ((10 * a1) + (M91 197 (Int32.toNatClampNeg a1)))) a2 → (∀ N143, N143 = mset N134 199 (Int32.toNatClampNeg ((10 * a1) + (M91 197 (Int32.toNatClampNeg a1)))) a6 → (∃ n, lq1 (fun R147 (x147_10 : Int32) (M147 : Mem) => ((a6 ≤ x147_10 →
                                    (∀ N191, N191 = mset M147 197 (Int32.toNatClampNeg a1) ((M147 197 (Int32.toNatClampNeg a1)) + 1) → Q (N191 197 (Int32.toNatClampNeg a1)) N191)) ∧ (¬ a6 ≤ x147_10 →
                                    vp_in (((60 * a3) + a5) + x147_10) 240 ∧ vp_in ((3 * ((10 * a1) + (M91 197 (Int32.toNatClampNeg a1)))) + x147_10) 90 ∧ (∀ N175, N175 = mset M147 200 (Int32.toNatClampNeg ((3 * ((10 * a1) + (M91 197 (Int32.toNatClampNeg a1)))) + x147_10)) (M147 194 (Int32.toNatClampNeg (((60 * a3) + a5) + x147_10))) → R147 (x147_10 + 1) N175)))) n 0 N143)))) ∧ ((M91 197 (Int32.toNatClampNeg a1)) = 10 →
                                Q (-4) M91))) ∧ (v91 = 0 →
                              Q (-2) M91))))))) ∧ (¬ v47 = 0 →
                      wX11_fails v47 M47 (fun v60 M60 => Q v60 M60))))) ∧ (v30 = 0 →
                  Q (-2) M30)))) ∧ (v20 = 0 →
              Q (-1) M20))))))))))
set_option maxHeartbeats 1000000 in
set_option maxRecDepth 20000 in
theorem sX11_entry {E : En} {a1 : Int32} {a2 : Int32} {a3 : Int32} {a4 : Int32} {a5 : Int32} {a6 : Int32} {M : Mem} {Q : Int32 → Mem → Prop} (h : wX11_entry a1 a2 a3 a4 a5 a6 M Q) : CM E 3 mX11_entry [.ref (E.2.2 49), .int a1, .int a2, .int a3, .int a4, .int a5, .int a6] M (Pi Q) := by
  unfold wX11_entry at h
  refine CM.of (by decide) rfl (Nat.le_of_ble_eq_true rfl) ?_
  refine V_aload_n dX11_entry_0 rfl ?_
  refine V_iconst 0 dX11_entry_1 (by decide) ?_
  refine V_putN fp_X11_119 dX11_entry_2 rfl rfl rfl rfl (fun N2 e2 => ?_)
  replace h := h N2 e2
  refine V_iload_n dX11_entry_5 rfl ?_
  refine M_Si ms_X11_isCollector lk_X11_140 dX11_entry_6 (sX11_isCollector h) rfl rfl (Nat.le_of_ble_eq_true rfl) (by decide) (by decide) (fun v6 M6 h => ?_)
  refine V_if_eq 26 dX11_entry_9 (by decide) (fun q9 => ?_) (fun q9 => ?_)
  · replace h := h.1 q9
    refine V_iconst (-1) dX11_entry_26 (by decide) ?_
    exact V_reti dX11_entry_27 rfl rfl h
  · replace h := h.2 q9
    refine V_iload_n dX11_entry_12 rfl ?_
    refine M_Si ms_X11_isSound lk_X11_128 dX11_entry_13 (sX11_isSound h) rfl rfl (Nat.le_of_ble_eq_true rfl) (by decide) (by decide) (fun v13 M13 h => ?_)
    refine V_if_eq 26 dX11_entry_16 (by decide) (fun q16 => ?_) (fun q16 => ?_)
    · replace h := h.1 q16
      refine V_iconst (-1) dX11_entry_26 (by decide) ?_
      exact V_reti dX11_entry_27 rfl rfl h
    · replace h := h.2 q16
      refine V_iload_n dX11_entry_19 rfl ?_
      refine M_Si ms_X11_isSheet lk_X11_143 dX11_entry_20 (sX11_isSheet h) rfl rfl (Nat.le_of_ble_eq_true rfl) (by decide) (by decide) (fun v20 M20 h => ?_)
      refine V_if_ne 28 dX11_entry_23 (by decide) (fun q23 => ?_) (fun q23 => ?_)
      · replace h := h.1 q23
        refine V_iload dX11_entry_28 rfl ?_
        refine M_Si ms_X11_isLane lk_X11_146 dX11_entry_30 (sX11_isLane h) rfl rfl (Nat.le_of_ble_eq_true rfl) (by decide) (by decide) (fun v30 M30 h => ?_)
        refine V_if_ne 39 dX11_entry_33 (by decide) (fun q33 => ?_) (fun q33 => ?_)
        · replace h := h.1 q33
          refine V_aload_n dX11_entry_39 rfl ?_
          refine V_iload_n dX11_entry_40 rfl ?_
          refine V_iload dX11_entry_41 rfl ?_
          refine V_iload dX11_entry_43 rfl ?_
          refine V_iload dX11_entry_45 rfl ?_
          refine M_Vi mv_X11_against lk_X11_149 dX11_entry_47 rfl rfl (sX11_against h) rfl rfl (Nat.le_of_ble_eq_true rfl) (by decide) (by decide) (fun v47 M47 h => ?_)
          refine V_istore dX11_entry_50 (by decide) ?_
          refine V_iload dX11_entry_52 rfl ?_
          refine V_if_eq 64 dX11_entry_54 (by decide) (fun q54 => ?_) (fun q54 => ?_)
          · replace h := h.1 q54
            refine V_bipush 60 dX11_entry_64 (by decide) ?_
            refine V_iload_n dX11_entry_66 rfl ?_
            refine V_imul dX11_entry_67 ?_
            refine V_iload dX11_entry_68 rfl ?_
            refine V_iadd dX11_entry_70 ?_
            refine V_istore dX11_entry_71 (by decide) ?_
            refine V_iload dX11_entry_73 rfl ?_
            refine V_iconst 1 dX11_entry_75 (by decide) ?_
            refine V_iconst 3 dX11_entry_76 (by decide) ?_
            refine M_Si ms_X11_within lk_X11_124 dX11_entry_77 (sX11_within h) rfl rfl (Nat.le_of_ble_eq_true rfl) (by decide) (by decide) (fun v77 M77 h => ?_)
            refine V_if_eq 97 dX11_entry_80 (by decide) (fun q80 => ?_) (fun q80 => ?_)
            · replace h := h.1 q80
              refine V_bipush (-2) dX11_entry_97 (by decide) ?_
              exact V_reti dX11_entry_99 rfl rfl h
            · replace h := h.2 q80
              refine V_aload_n dX11_entry_83 rfl ?_
              refine V_iload dX11_entry_84 rfl ?_
              refine V_iload dX11_entry_86 rfl ?_
              refine V_iconst 0 dX11_entry_88 (by decide) ?_
              refine V_bipush 127 dX11_entry_89 (by decide) ?_
              refine M_Vi mv_X11_areCells lk_X11_157 dX11_entry_91 rfl rfl (sX11_areCells h) rfl rfl (Nat.le_of_ble_eq_true rfl) (by decide) (by decide) (fun v91 M91 h => ?_)
              refine V_if_ne 100 dX11_entry_94 (by decide) (fun q94 => ?_) (fun q94 => ?_)
              · replace h := h.1 q94
                refine V_aload_n dX11_entry_100 rfl ?_
                refine V_getR 197 fl_X11_25 dX11_entry_101 rfl rfl rfl ?_
                refine V_iload_n dX11_entry_104 rfl ?_
                obtain ⟨hi105, h⟩ := h
                refine V_ialdM dX11_entry_105 rfl hi105 ?_
                refine V_bipush 10 dX11_entry_106 (by decide) ?_
                refine V_icmp_ne 114 dX11_entry_108 (by decide) (fun q108 => ?_) (fun q108 => ?_)
                · replace h := h.1 q108
                  refine V_bipush 10 dX11_entry_114 (by decide) ?_
                  refine V_iload_n dX11_entry_116 rfl ?_
                  refine V_imul dX11_entry_117 ?_
                  refine V_aload_n dX11_entry_118 rfl ?_
                  refine V_getR 197 fl_X11_25 dX11_entry_119 rfl rfl rfl ?_
                  refine V_iload_n dX11_entry_122 rfl ?_
                  refine V_ialdM dX11_entry_123 rfl hi105 ?_
                  refine V_iadd dX11_entry_124 ?_
                  refine V_istore dX11_entry_125 (by decide) ?_
                  refine V_aload_n dX11_entry_127 rfl ?_
                  refine V_getR 198 fl_X11_28 dX11_entry_128 rfl rfl rfl ?_
                  refine V_iload dX11_entry_131 rfl ?_
                  refine V_iload_n dX11_entry_133 rfl ?_
                  obtain ⟨hi134, h⟩ := h
                  refine V_iastN dX11_entry_134 rfl hi134 (fun N134 e134 => ?_)
                  replace h := h N134 e134
                  refine V_aload_n dX11_entry_135 rfl ?_
                  refine V_getR 199 fl_X11_31 dX11_entry_136 rfl rfl rfl ?_
                  refine V_iload dX11_entry_139 rfl ?_
                  refine V_iload dX11_entry_141 rfl ?_
                  refine V_iastN dX11_entry_143 rfl hi134 (fun N143 e143 => ?_)
                  replace h := h N143 e143
                  refine V_iconst 0 dX11_entry_144 (by decide) ?_
                  refine V_istore dX11_entry_145 (by decide) ?_
                  obtain ⟨n147, h⟩ := h
                  refine V_take 11 ?_
                  refine lq1_use (P := fun (x147_10 : Int32) (M147 : Mem) => ∀ j147_2 : Value, ∀ j147_3 : Value, ∀ j147_4 : Value, ∀ j147_5 : Value, ∀ j147_7 : Value, V (Km E 3 (Pi Q)) mX11_entry 147 [.ref (E.2.2 49), .int a1, j147_2, j147_3, j147_4, j147_5, .int a6, j147_7, .int ((60 * a3) + a5), .int ((10 * a1) + (M91 197 (Int32.toNatClampNeg a1))), .int x147_10] [] (wsM E.1 E.2.2 M147) 0 0) (fun R147 hR147 x147_10 M147 h j147_2 j147_3 j147_4 j147_5 j147_7 => ?_) n147 _ _ h _ _ _ _ _
                  refine V_iload dX11_entry_147 rfl ?_
                  refine V_iload dX11_entry_149 rfl ?_
                  refine V_icmp_ge 182 dX11_entry_151 (by decide) (fun q151 => ?_) (fun q151 => ?_)
                  · replace h := h.1 q151
                    refine V_aload_n dX11_entry_182 rfl ?_
                    refine V_getR 197 fl_X11_25 dX11_entry_183 rfl rfl rfl ?_
                    refine V_iload_n dX11_entry_186 rfl ?_
                    refine V_dup2 dX11_entry_187 rfl rfl ?_
                    refine V_ialdM dX11_entry_188 rfl hi105 ?_
                    refine V_iconst 1 dX11_entry_189 (by decide) ?_
                    refine V_iadd dX11_entry_190 ?_
                    refine V_iastN dX11_entry_191 rfl hi105 (fun N191 e191 => ?_)
                    replace h := h N191 e191
                    refine V_aload_n dX11_entry_192 rfl ?_
                    refine V_getR 197 fl_X11_25 dX11_entry_193 rfl rfl rfl ?_
                    refine V_iload_n dX11_entry_196 rfl ?_
                    refine V_ialdM dX11_entry_197 rfl hi105 ?_
                    exact V_reti dX11_entry_198 rfl rfl h
                  · replace h := h.2 q151
                    refine V_aload_n dX11_entry_154 rfl ?_
                    refine V_getR 200 fl_X11_34 dX11_entry_155 rfl rfl rfl ?_
                    refine V_iconst 3 dX11_entry_158 (by decide) ?_
                    refine V_iload dX11_entry_159 rfl ?_
                    refine V_imul dX11_entry_161 ?_
                    refine V_iload dX11_entry_162 rfl ?_
                    refine V_iadd dX11_entry_164 ?_
                    refine V_aload_n dX11_entry_165 rfl ?_
                    refine V_getR 194 fl_X11_16 dX11_entry_166 rfl rfl rfl ?_
                    refine V_iload dX11_entry_169 rfl ?_
                    refine V_iload dX11_entry_171 rfl ?_
                    refine V_iadd dX11_entry_173 ?_
                    obtain ⟨hi174, h⟩ := h
                    refine V_ialdM dX11_entry_174 rfl hi174 ?_
                    obtain ⟨hi175, h⟩ := h
                    refine V_iastN dX11_entry_175 rfl hi175 (fun N175 e175 => ?_)
                    replace h := h N175 e175
                    refine V_iincC 1 dX11_entry_176 (by decide) rfl (by decide) ?_
                    refine V_goto 147 dX11_entry_179 (by decide) ?_
                    refine V_take 11 ?_
                    exact hR147 _ _ h _ _ _ _ _
                · replace h := h.2 q108
                  refine V_bipush (-4) dX11_entry_111 (by decide) ?_
                  exact V_reti dX11_entry_113 rfl rfl h
              · replace h := h.2 q94
                refine V_bipush (-2) dX11_entry_97 (by decide) ?_
                exact V_reti dX11_entry_99 rfl rfl h
          · replace h := h.2 q54
            refine V_aload_n dX11_entry_57 rfl ?_
            refine V_iload dX11_entry_58 rfl ?_
            refine M_Vi mv_X11_fails lk_X11_153 dX11_entry_60 rfl rfl (sX11_fails h) rfl rfl (Nat.le_of_ble_eq_true rfl) (by decide) (by decide) (fun v60 M60 h => ?_)
            exact V_reti dX11_entry_63 rfl rfl h
        · replace h := h.2 q33
          refine V_bipush (-2) dX11_entry_36 (by decide) ?_
          exact V_reti dX11_entry_38 rfl rfl h
      · replace h := h.2 q23
        refine V_iconst (-1) dX11_entry_26 (by decide) ?_
        exact V_reti dX11_entry_27 rfl rfl h
def wX11_stands (a1 : Int32) (a2 : Int32) (a3 : Int32) (M : Mem) (Q : Int32 → Mem → Prop) : Prop :=
  vp_in a1 30 ∧ (((M 199 (Int32.toNatClampNeg a1)) ≤ (a3 - a2) →
    (∃ n, lq1 (fun R17 (x17_4 : Int32) (M17 : Mem) => (((M17 199 (Int32.toNatClampNeg a1)) ≤ x17_4 →
        Q 1 M17) ∧ (¬ (M17 199 (Int32.toNatClampNeg a1)) ≤ x17_4 →
        vp_in (a2 + x17_4) 240 ∧ vp_in ((3 * a1) + x17_4) 90 ∧ (((M17 194 (Int32.toNatClampNeg (a2 + x17_4))) = (M17 200 (Int32.toNatClampNeg ((3 * a1) + x17_4))) →
          R17 (x17_4 + 1) M17) ∧ (¬ (M17 194 (Int32.toNatClampNeg (a2 + x17_4))) = (M17 200 (Int32.toNatClampNeg ((3 * a1) + x17_4))) →
          Q 0 M17))))) n 0 M)) ∧ (¬ (M 199 (Int32.toNatClampNeg a1)) ≤ (a3 - a2) →
    Q 0 M))
set_option maxHeartbeats 1000000 in
set_option maxRecDepth 20000 in
theorem sX11_stands {E : En} {a1 : Int32} {a2 : Int32} {a3 : Int32} {M : Mem} {Q : Int32 → Mem → Prop} (h : wX11_stands a1 a2 a3 M Q) : CM E 1 mX11_stands [.ref (E.2.2 49), .int a1, .int a2, .int a3] M (Pi Q) := by
  unfold wX11_stands at h
  refine CM.of (by decide) rfl (Nat.le_of_ble_eq_true rfl) ?_
  refine V_aload_n dX11_stands_0 rfl ?_
  refine V_getR 199 fl_X11_31 dX11_stands_1 rfl rfl rfl ?_
  refine V_iload_n dX11_stands_4 rfl ?_
  obtain ⟨hi5, h⟩ := h
  refine V_ialdM dX11_stands_5 rfl hi5 ?_
  refine V_iload_n dX11_stands_6 rfl ?_
  refine V_iload_n dX11_stands_7 rfl ?_
  refine V_isub dX11_stands_8 ?_
  refine V_icmp_le 14 dX11_stands_9 (by decide) (fun q9 => ?_) (fun q9 => ?_)
  · replace h := h.1 q9
    refine V_iconst 0 dX11_stands_14 (by decide) ?_
    refine V_istore dX11_stands_15 (by decide) ?_
    obtain ⟨n17, h⟩ := h
    refine V_take 5 ?_
    refine lq1_use (P := fun (x17_4 : Int32) (M17 : Mem) => ∀ j17_3 : Value, V (Km E 1 (Pi Q)) mX11_stands 17 [.ref (E.2.2 49), .int a1, .int a2, j17_3, .int x17_4] [] (wsM E.1 E.2.2 M17) 0 0) (fun R17 hR17 x17_4 M17 h j17_3 => ?_) n17 _ _ h _
    refine V_iload dX11_stands_17 rfl ?_
    refine V_aload_n dX11_stands_19 rfl ?_
    refine V_getR 199 fl_X11_31 dX11_stands_20 rfl rfl rfl ?_
    refine V_iload_n dX11_stands_23 rfl ?_
    refine V_ialdM dX11_stands_24 rfl hi5 ?_
    refine V_icmp_ge 59 dX11_stands_25 (by decide) (fun q25 => ?_) (fun q25 => ?_)
    · replace h := h.1 q25
      refine V_iconst 1 dX11_stands_59 (by decide) ?_
      exact V_reti dX11_stands_60 rfl rfl h
    · replace h := h.2 q25
      refine V_aload_n dX11_stands_28 rfl ?_
      refine V_getR 194 fl_X11_16 dX11_stands_29 rfl rfl rfl ?_
      refine V_iload_n dX11_stands_32 rfl ?_
      refine V_iload dX11_stands_33 rfl ?_
      refine V_iadd dX11_stands_35 ?_
      obtain ⟨hi36, h⟩ := h
      refine V_ialdM dX11_stands_36 rfl hi36 ?_
      refine V_aload_n dX11_stands_37 rfl ?_
      refine V_getR 200 fl_X11_34 dX11_stands_38 rfl rfl rfl ?_
      refine V_iconst 3 dX11_stands_41 (by decide) ?_
      refine V_iload_n dX11_stands_42 rfl ?_
      refine V_imul dX11_stands_43 ?_
      refine V_iload dX11_stands_44 rfl ?_
      refine V_iadd dX11_stands_46 ?_
      obtain ⟨hi47, h⟩ := h
      refine V_ialdM dX11_stands_47 rfl hi47 ?_
      refine V_icmp_eq 53 dX11_stands_48 (by decide) (fun q48 => ?_) (fun q48 => ?_)
      · replace h := h.1 q48
        refine V_iincC 1 dX11_stands_53 (by decide) rfl (by decide) ?_
        refine V_goto 17 dX11_stands_56 (by decide) ?_
        refine V_take 5 ?_
        exact hR17 _ _ h _
      · replace h := h.2 q48
        refine V_iconst 0 dX11_stands_51 (by decide) ?_
        exact V_reti dX11_stands_52 rfl rfl h
  · replace h := h.2 q9
    refine V_iconst 0 dX11_stands_12 (by decide) ?_
    exact V_reti dX11_stands_13 rfl rfl h
def wX11_entryAt (a1 : Int32) (a2 : Int32) (a3 : Int32) (M : Mem) (Q : Int32 → Mem → Prop) : Prop :=
  (∃ n, lq2 (fun R10 (x10_4 : Int32) (x10_5 : Int32) (M10 : Mem) => vp_in a1 3 ∧ ((((10 * a1) + (M10 197 (Int32.toNatClampNeg a1))) ≤ x10_5 →
      Q x10_4 M10) ∧ (¬ ((10 * a1) + (M10 197 (Int32.toNatClampNeg a1))) ≤ x10_5 →
      wX11_stands x10_5 a2 a3 M10 (fun v31 M31 => ((v31 = 0 →
          R10 x10_4 (x10_5 + 1) M31) ∧ (¬ v31 = 0 →
          ((x10_4 = (-9) →
            R10 x10_5 (x10_5 + 1) M31) ∧ (¬ x10_4 = (-9) →
            vp_in x10_5 30 ∧ vp_in x10_4 30 ∧ (((M31 199 (Int32.toNatClampNeg x10_5)) < (M31 199 (Int32.toNatClampNeg x10_4)) →
              R10 x10_4 (x10_5 + 1) M31) ∧ (¬ (M31 199 (Int32.toNatClampNeg x10_5)) < (M31 199 (Int32.toNatClampNeg x10_4)) →
              R10 x10_5 (x10_5 + 1) M31)))))))))) n (-9) (10 * a1) M)
set_option maxHeartbeats 1000000 in
set_option maxRecDepth 20000 in
theorem sX11_entryAt {E : En} {a1 : Int32} {a2 : Int32} {a3 : Int32} {M : Mem} {Q : Int32 → Mem → Prop} (h : wX11_entryAt a1 a2 a3 M Q) : CM E 2 mX11_entryAt [.ref (E.2.2 49), .int a1, .int a2, .int a3] M (Pi Q) := by
  unfold wX11_entryAt at h
  refine CM.of (by decide) rfl (Nat.le_of_ble_eq_true rfl) ?_
  refine V_bipush (-9) dX11_entryAt_0 (by decide) ?_
  refine V_istore dX11_entryAt_2 (by decide) ?_
  refine V_bipush 10 dX11_entryAt_4 (by decide) ?_
  refine V_iload_n dX11_entryAt_6 rfl ?_
  refine V_imul dX11_entryAt_7 ?_
  refine V_istore dX11_entryAt_8 (by decide) ?_
  obtain ⟨n10, h⟩ := h
  refine V_take 6 ?_
  refine lq2_use (P := fun (x10_4 : Int32) (x10_5 : Int32) (M10 : Mem) => V (Km E 2 (Pi Q)) mX11_entryAt 10 [.ref (E.2.2 49), .int a1, .int a2, .int a3, .int x10_4, .int x10_5] [] (wsM E.1 E.2.2 M10) 0 0) (fun R10 hR10 x10_4 x10_5 M10 h => ?_) n10 _ _ _ h
  refine V_iload dX11_entryAt_10 rfl ?_
  refine V_bipush 10 dX11_entryAt_12 (by decide) ?_
  refine V_iload_n dX11_entryAt_14 rfl ?_
  refine V_imul dX11_entryAt_15 ?_
  refine V_aload_n dX11_entryAt_16 rfl ?_
  refine V_getR 197 fl_X11_25 dX11_entryAt_17 rfl rfl rfl ?_
  refine V_iload_n dX11_entryAt_20 rfl ?_
  obtain ⟨hi21, h⟩ := h
  refine V_ialdM dX11_entryAt_21 rfl hi21 ?_
  refine V_iadd dX11_entryAt_22 ?_
  refine V_icmp_ge 71 dX11_entryAt_23 (by decide) (fun q23 => ?_) (fun q23 => ?_)
  · replace h := h.1 q23
    refine V_iload dX11_entryAt_71 rfl ?_
    exact V_reti dX11_entryAt_73 rfl rfl h
  · replace h := h.2 q23
    refine V_aload_n dX11_entryAt_26 rfl ?_
    refine V_iload dX11_entryAt_27 rfl ?_
    refine V_iload_n dX11_entryAt_29 rfl ?_
    refine V_iload_n dX11_entryAt_30 rfl ?_
    refine M_Vi mv_X11_stands lk_X11_161 dX11_entryAt_31 rfl rfl (sX11_stands h) rfl rfl (Nat.le_of_ble_eq_true rfl) (by decide) (by decide) (fun v31 M31 h => ?_)
    refine V_if_eq 65 dX11_entryAt_34 (by decide) (fun q34 => ?_) (fun q34 => ?_)
    · replace h := h.1 q34
      refine V_iincC 1 dX11_entryAt_65 (by decide) rfl (by decide) ?_
      refine V_goto 10 dX11_entryAt_68 (by decide) ?_
      refine V_take 6 ?_
      exact hR10 _ _ _ h
    · replace h := h.2 q34
      refine V_iload dX11_entryAt_37 rfl ?_
      refine V_bipush (-9) dX11_entryAt_39 (by decide) ?_
      refine V_icmp_eq 61 dX11_entryAt_41 (by decide) (fun q41 => ?_) (fun q41 => ?_)
      · replace h := h.1 q41
        refine V_iload dX11_entryAt_61 rfl ?_
        refine V_istore dX11_entryAt_63 (by decide) ?_
        refine V_iincC 1 dX11_entryAt_65 (by decide) rfl (by decide) ?_
        refine V_goto 10 dX11_entryAt_68 (by decide) ?_
        refine V_take 6 ?_
        exact hR10 _ _ _ h
      · replace h := h.2 q41
        refine V_aload_n dX11_entryAt_44 rfl ?_
        refine V_getR 199 fl_X11_31 dX11_entryAt_45 rfl rfl rfl ?_
        refine V_iload dX11_entryAt_48 rfl ?_
        obtain ⟨hi50, h⟩ := h
        refine V_ialdM dX11_entryAt_50 rfl hi50 ?_
        refine V_aload_n dX11_entryAt_51 rfl ?_
        refine V_getR 199 fl_X11_31 dX11_entryAt_52 rfl rfl rfl ?_
        refine V_iload dX11_entryAt_55 rfl ?_
        obtain ⟨hi57, h⟩ := h
        refine V_ialdM dX11_entryAt_57 rfl hi57 ?_
        refine V_icmp_lt 65 dX11_entryAt_58 (by decide) (fun q58 => ?_) (fun q58 => ?_)
        · replace h := h.1 q58
          refine V_iincC 1 dX11_entryAt_65 (by decide) rfl (by decide) ?_
          refine V_goto 10 dX11_entryAt_68 (by decide) ?_
          refine V_take 6 ?_
          exact hR10 _ _ _ h
        · replace h := h.2 q58
          refine V_iload dX11_entryAt_61 rfl ?_
          refine V_istore dX11_entryAt_63 (by decide) ?_
          refine V_iincC 1 dX11_entryAt_65 (by decide) rfl (by decide) ?_
          refine V_goto 10 dX11_entryAt_68 (by decide) ?_
          refine V_take 6 ?_
          exact hR10 _ _ _ h
def wX11_isPlace (a1 : Int32) (M : Mem) (Q : Int32 → Mem → Prop) : Prop :=
  ((a1 < 0 →
    Q 0 M) ∧ (¬ a1 < 0 →
    (((M 49 11) ≤ a1 →
      Q 0 M) ∧ (¬ (M 49 11) ≤ a1 →
      Q 1 M))))
set_option maxHeartbeats 1000000 in
set_option maxRecDepth 20000 in
theorem sX11_isPlace {E : En} {a1 : Int32} {M : Mem} {Q : Int32 → Mem → Prop} (h : wX11_isPlace a1 M Q) : CM E 1 mX11_isPlace [.ref (E.2.2 49), .int a1] M (Pi Q) := by
  unfold wX11_isPlace at h
  refine CM.of (by decide) rfl (Nat.le_of_ble_eq_true rfl) ?_
  refine V_iload_n dX11_isPlace_0 rfl ?_
  refine V_if_lt 16 dX11_isPlace_1 (by decide) (fun q1 => ?_) (fun q1 => ?_)
  · replace h := h.1 q1
    refine V_iconst 0 dX11_isPlace_16 (by decide) ?_
    exact V_reti dX11_isPlace_17 rfl rfl h
  · replace h := h.2 q1
    refine V_iload_n dX11_isPlace_4 rfl ?_
    refine V_aload_n dX11_isPlace_5 rfl ?_
    refine V_getI fl_X11_164 dX11_isPlace_6 rfl rfl ?_
    refine V_icmp_ge 16 dX11_isPlace_9 (by decide) (fun q9 => ?_) (fun q9 => ?_)
    · replace h := h.1 q9
      refine V_iconst 0 dX11_isPlace_16 (by decide) ?_
      exact V_reti dX11_isPlace_17 rfl rfl h
    · replace h := h.2 q9
      refine V_iconst 1 dX11_isPlace_12 (by decide) ?_
      refine V_goto 17 dX11_isPlace_13 (by decide) ?_
      exact V_reti dX11_isPlace_17 rfl rfl h
def wX11_isMeaning (a0 : Int32) (M : Mem) (Q : Int32 → Mem → Prop) : Prop :=
  wX11_within a0 0 5 M (fun v3 M3 => isB v3 ∧ Q v3 M3)
set_option maxHeartbeats 1000000 in
set_option maxRecDepth 20000 in
theorem sX11_isMeaning {E : En} {a0 : Int32} {M : Mem} {Q : Int32 → Mem → Prop} (h : wX11_isMeaning a0 M Q) : CM E 2 mX11_isMeaning [.int a0] M (Pi Q) := by
  unfold wX11_isMeaning at h
  refine CM.of (by decide) rfl (Nat.le_of_ble_eq_true rfl) ?_
  refine V_iload_n dX11_isMeaning_0 rfl ?_
  refine V_iconst 0 dX11_isMeaning_1 (by decide) ?_
  refine V_iconst 5 dX11_isMeaning_2 (by decide) ?_
  refine M_Si ms_X11_within lk_X11_124 dX11_isMeaning_3 (sX11_within h) rfl rfl (Nat.le_of_ble_eq_true rfl) (by decide) (by decide) (fun v3 M3 h => ?_)
  exact V_reti dX11_isMeaning_6 rfl (nb h.1) h.2
def wX11_place  (M : Mem) (Q : Int32 → Mem → Prop) : Prop :=
  ((¬ (M 49 11) = 8 →
    (∀ N19, N19 = mset M 49 11 ((M 49 11) + 1) → Q ((N19 49 11) - 1) N19)) ∧ ((M 49 11) = 8 →
    Q (-4) M))
set_option maxHeartbeats 1000000 in
set_option maxRecDepth 20000 in
theorem sX11_place {E : En}  {M : Mem} {Q : Int32 → Mem → Prop} (h : wX11_place  M Q) : CM E 1 mX11_place [.ref (E.2.2 49)] M (Pi Q) := by
  unfold wX11_place at h
  refine CM.of (by decide) rfl (Nat.le_of_ble_eq_true rfl) ?_
  refine V_aload_n dX11_place_0 rfl ?_
  refine V_getI fl_X11_164 dX11_place_1 rfl rfl ?_
  refine V_bipush 8 dX11_place_4 (by decide) ?_
  refine V_icmp_ne 12 dX11_place_6 (by decide) (fun q6 => ?_) (fun q6 => ?_)
  · replace h := h.1 q6
    refine V_aload_n dX11_place_12 rfl ?_
    refine V_dup dX11_place_13 rfl ?_
    refine V_getI fl_X11_164 dX11_place_14 rfl rfl ?_
    refine V_iconst 1 dX11_place_17 (by decide) ?_
    refine V_iadd dX11_place_18 ?_
    refine V_putN fp_X11_164 dX11_place_19 rfl rfl rfl rfl (fun N19 e19 => ?_)
    replace h := h N19 e19
    refine V_aload_n dX11_place_22 rfl ?_
    refine V_getI fl_X11_164 dX11_place_23 rfl rfl ?_
    refine V_iconst 1 dX11_place_26 (by decide) ?_
    refine V_isub dX11_place_27 ?_
    exact V_reti dX11_place_28 rfl rfl h
  · replace h := h.2 q6
    refine V_bipush (-4) dX11_place_9 (by decide) ?_
    exact V_reti dX11_place_11 rfl rfl h
def wX11_near (a1 : Int32) (a2 : Int32) (a3 : Int32) (M : Mem) (Q : Int32 → Mem → Prop) : Prop :=
  wX11_isPlace a1 M (fun v2 M2 => ((v2 = 0 →
      Q (-1) M2) ∧ (¬ v2 = 0 →
      wX11_isPlace a2 M2 (fun v10 M10 => ((¬ v10 = 0 →
          ((¬ a1 = a2 →
            vp_in a1 8 ∧ wX11_has (M10 202 (Int32.toNatClampNeg a1)) a2 M10 (fun v33 M33 => ((¬ v33 = a3 →
                jn1 (fun (y76_0 : Int32) (M76 : Mem) => (∀ N76, N76 = mset M76 202 (Int32.toNatClampNeg a1) y76_0 → ((a3 = 0 →
                    vp_in a2 8 ∧ (∀ N111, N111 = mset N76 202 (Int32.toNatClampNeg a2) ((N76 202 (Int32.toNatClampNeg a2)) &&& ((1 <<< (a1 &&& 31)) ^^^ (-1))) → Q 1 N111)) ∧ (¬ a3 = 0 →
                    vp_in a2 8 ∧ (∀ N111, N111 = mset N76 202 (Int32.toNatClampNeg a2) ((N76 202 (Int32.toNatClampNeg a2)) ||| (1 <<< (a1 &&& 31))) → Q 1 N111))))) (fun J76 => ((a3 = 0 →
                    J76 ((M33 202 (Int32.toNatClampNeg a1)) &&& ((1 <<< (a2 &&& 31)) ^^^ (-1))) M33) ∧ (¬ a3 = 0 →
                    J76 ((M33 202 (Int32.toNatClampNeg a1)) ||| (1 <<< (a2 &&& 31))) M33)))) ∧ (v33 = a3 →
                Q 0 M33)))) ∧ (a1 = a2 →
            Q (-2) M10))) ∧ (v10 = 0 →
          Q (-1) M10))))))
set_option maxHeartbeats 1000000 in
set_option maxRecDepth 20000 in
theorem sX11_near {E : En} {a1 : Int32} {a2 : Int32} {a3 : Int32} {M : Mem} {Q : Int32 → Mem → Prop} (h : wX11_near a1 a2 a3 M Q) : CM E 2 mX11_near [.ref (E.2.2 49), .int a1, .int a2, .int a3] M (Pi Q) := by
  unfold wX11_near at h
  refine CM.of (by decide) rfl (Nat.le_of_ble_eq_true rfl) ?_
  refine V_aload_n dX11_near_0 rfl ?_
  refine V_iload_n dX11_near_1 rfl ?_
  refine M_Vi mv_X11_isPlace lk_X11_167 dX11_near_2 rfl rfl (sX11_isPlace h) rfl rfl (Nat.le_of_ble_eq_true rfl) (by decide) (by decide) (fun v2 M2 h => ?_)
  refine V_if_eq 16 dX11_near_5 (by decide) (fun q5 => ?_) (fun q5 => ?_)
  · replace h := h.1 q5
    refine V_iconst (-1) dX11_near_16 (by decide) ?_
    exact V_reti dX11_near_17 rfl rfl h
  · replace h := h.2 q5
    refine V_aload_n dX11_near_8 rfl ?_
    refine V_iload_n dX11_near_9 rfl ?_
    refine M_Vi mv_X11_isPlace lk_X11_167 dX11_near_10 rfl rfl (sX11_isPlace h) rfl rfl (Nat.le_of_ble_eq_true rfl) (by decide) (by decide) (fun v10 M10 h => ?_)
    refine V_if_ne 18 dX11_near_13 (by decide) (fun q13 => ?_) (fun q13 => ?_)
    · replace h := h.1 q13
      refine V_iload_n dX11_near_18 rfl ?_
      refine V_iload_n dX11_near_19 rfl ?_
      refine V_icmp_ne 26 dX11_near_20 (by decide) (fun q20 => ?_) (fun q20 => ?_)
      · replace h := h.1 q20
        refine V_aload_n dX11_near_26 rfl ?_
        refine V_getR 202 fl_X11_37 dX11_near_27 rfl rfl rfl ?_
        refine V_iload_n dX11_near_30 rfl ?_
        obtain ⟨hi31, h⟩ := h
        refine V_ialdM dX11_near_31 rfl hi31 ?_
        refine V_iload_n dX11_near_32 rfl ?_
        refine M_Si ms_X11_has lk_X11_132 dX11_near_33 (sX11_has h) rfl rfl (Nat.le_of_ble_eq_true rfl) (by decide) (by decide) (fun v33 M33 h => ?_)
        refine V_iload_n dX11_near_36 rfl ?_
        refine V_icmp_ne 42 dX11_near_37 (by decide) (fun q37 => ?_) (fun q37 => ?_)
        · replace h := h.1 q37
          refine V_aload_n dX11_near_42 rfl ?_
          refine V_getR 202 fl_X11_37 dX11_near_43 rfl rfl rfl ?_
          refine V_iload_n dX11_near_46 rfl ?_
          refine V_iload_n dX11_near_47 rfl ?_
          refine jn1_use (P := fun (y76_0 : Int32) (M76 : Mem) => V (Km E 2 (Pi Q)) mX11_near 76 [.ref (E.2.2 49), .int a1, .int a2, .int a3] [.int y76_0, .int a1, .ref (E.2.2 202)] (wsM E.1 E.2.2 M76) 0 0) (fun y76_0 M76 h => ?_) (fun J76 hJ76 h => ?_) h
          · refine V_iastN dX11_near_76 rfl hi31 (fun N76 e76 => ?_)
            replace h := h N76 e76
            refine V_aload_n dX11_near_77 rfl ?_
            refine V_getR 202 fl_X11_37 dX11_near_78 rfl rfl rfl ?_
            refine V_iload_n dX11_near_81 rfl ?_
            refine V_iload_n dX11_near_82 rfl ?_
            refine V_if_eq 99 dX11_near_83 (by decide) (fun q83 => ?_) (fun q83 => ?_)
            · replace h := h.1 q83
              refine V_aload_n dX11_near_99 rfl ?_
              refine V_getR 202 fl_X11_37 dX11_near_100 rfl rfl rfl ?_
              refine V_iload_n dX11_near_103 rfl ?_
              obtain ⟨hi104, h⟩ := h
              refine V_ialdM dX11_near_104 rfl hi104 ?_
              refine V_iconst 1 dX11_near_105 (by decide) ?_
              refine V_iload_n dX11_near_106 rfl ?_
              refine V_ishl dX11_near_107 ?_
              refine V_iconst (-1) dX11_near_108 (by decide) ?_
              refine V_ixor dX11_near_109 ?_
              refine V_iand dX11_near_110 ?_
              refine V_iastN dX11_near_111 rfl hi104 (fun N111 e111 => ?_)
              replace h := h N111 e111
              refine V_iconst 1 dX11_near_112 (by decide) ?_
              exact V_reti dX11_near_113 rfl rfl h
            · replace h := h.2 q83
              refine V_aload_n dX11_near_86 rfl ?_
              refine V_getR 202 fl_X11_37 dX11_near_87 rfl rfl rfl ?_
              refine V_iload_n dX11_near_90 rfl ?_
              obtain ⟨hi91, h⟩ := h
              refine V_ialdM dX11_near_91 rfl hi91 ?_
              refine V_iconst 1 dX11_near_92 (by decide) ?_
              refine V_iload_n dX11_near_93 rfl ?_
              refine V_ishl dX11_near_94 ?_
              refine V_ior dX11_near_95 ?_
              refine V_goto 111 dX11_near_96 (by decide) ?_
              refine V_iastN dX11_near_111 rfl hi91 (fun N111 e111 => ?_)
              replace h := h N111 e111
              refine V_iconst 1 dX11_near_112 (by decide) ?_
              exact V_reti dX11_near_113 rfl rfl h
          · refine V_if_eq 64 dX11_near_48 (by decide) (fun q48 => ?_) (fun q48 => ?_)
            · replace h := h.1 q48
              refine V_aload_n dX11_near_64 rfl ?_
              refine V_getR 202 fl_X11_37 dX11_near_65 rfl rfl rfl ?_
              refine V_iload_n dX11_near_68 rfl ?_
              refine V_ialdM dX11_near_69 rfl hi31 ?_
              refine V_iconst 1 dX11_near_70 (by decide) ?_
              refine V_iload_n dX11_near_71 rfl ?_
              refine V_ishl dX11_near_72 ?_
              refine V_iconst (-1) dX11_near_73 (by decide) ?_
              refine V_ixor dX11_near_74 ?_
              refine V_iand dX11_near_75 ?_
              refine V_take 4 ?_
              exact hJ76 _ _ h
            · replace h := h.2 q48
              refine V_aload_n dX11_near_51 rfl ?_
              refine V_getR 202 fl_X11_37 dX11_near_52 rfl rfl rfl ?_
              refine V_iload_n dX11_near_55 rfl ?_
              refine V_ialdM dX11_near_56 rfl hi31 ?_
              refine V_iconst 1 dX11_near_57 (by decide) ?_
              refine V_iload_n dX11_near_58 rfl ?_
              refine V_ishl dX11_near_59 ?_
              refine V_ior dX11_near_60 ?_
              refine V_goto 76 dX11_near_61 (by decide) ?_
              refine V_take 4 ?_
              exact hJ76 _ _ h
        · replace h := h.2 q37
          refine V_iconst 0 dX11_near_40 (by decide) ?_
          exact V_reti dX11_near_41 rfl rfl h
      · replace h := h.2 q20
        refine V_bipush (-2) dX11_near_23 (by decide) ?_
        exact V_reti dX11_near_25 rfl rfl h
    · replace h := h.2 q13
      refine V_iconst (-1) dX11_near_16 (by decide) ?_
      exact V_reti dX11_near_17 rfl rfl h
def wX11_isForm (a1 : Int32) (M : Mem) (Q : Int32 → Mem → Prop) : Prop :=
  ((a1 < 0 →
    Q 0 M) ∧ (¬ a1 < 0 →
    (((M 49 13) ≤ a1 →
      Q 0 M) ∧ (¬ (M 49 13) ≤ a1 →
      Q 1 M))))
set_option maxHeartbeats 1000000 in
set_option maxRecDepth 20000 in
theorem sX11_isForm {E : En} {a1 : Int32} {M : Mem} {Q : Int32 → Mem → Prop} (h : wX11_isForm a1 M Q) : CM E 1 mX11_isForm [.ref (E.2.2 49), .int a1] M (Pi Q) := by
  unfold wX11_isForm at h
  refine CM.of (by decide) rfl (Nat.le_of_ble_eq_true rfl) ?_
  refine V_iload_n dX11_isForm_0 rfl ?_
  refine V_if_lt 16 dX11_isForm_1 (by decide) (fun q1 => ?_) (fun q1 => ?_)
  · replace h := h.1 q1
    refine V_iconst 0 dX11_isForm_16 (by decide) ?_
    exact V_reti dX11_isForm_17 rfl rfl h
  · replace h := h.2 q1
    refine V_iload_n dX11_isForm_4 rfl ?_
    refine V_aload_n dX11_isForm_5 rfl ?_
    refine V_getI fl_X11_170 dX11_isForm_6 rfl rfl ?_
    refine V_icmp_ge 16 dX11_isForm_9 (by decide) (fun q9 => ?_) (fun q9 => ?_)
    · replace h := h.1 q9
      refine V_iconst 0 dX11_isForm_16 (by decide) ?_
      exact V_reti dX11_isForm_17 rfl rfl h
    · replace h := h.2 q9
      refine V_iconst 1 dX11_isForm_12 (by decide) ?_
      refine V_goto 17 dX11_isForm_13 (by decide) ?_
      exact V_reti dX11_isForm_17 rfl rfl h
def wX11_formComes (a1 : Int32) (a2 : Int32) (a3 : Int32) (a4 : Int32) (M : Mem) (Q : Int32 → Mem → Prop) : Prop :=
  vp_in (M 49 13) 40 ∧ (∀ N9, N9 = mset M 204 (Int32.toNatClampNeg (M 49 13)) a1 → vp_in (N9 49 13) 40 ∧ (∀ N19, N19 = mset N9 205 (Int32.toNatClampNeg (N9 49 13)) a2 → vp_in (N19 49 13) 40 ∧ (∀ N29, N29 = mset N19 206 (Int32.toNatClampNeg (N19 49 13)) a3 → vp_in (N29 49 13) 40 ∧ (∀ N40, N40 = mset N29 207 (Int32.toNatClampNeg (N29 49 13)) a4 → (∀ N48, N48 = mset N40 49 13 ((N40 49 13) + 1) → Q ((N48 49 13) - 1) N48)))))
set_option maxHeartbeats 1000000 in
set_option maxRecDepth 20000 in
theorem sX11_formComes {E : En} {a1 : Int32} {a2 : Int32} {a3 : Int32} {a4 : Int32} {M : Mem} {Q : Int32 → Mem → Prop} (h : wX11_formComes a1 a2 a3 a4 M Q) : CM E 1 mX11_formComes [.ref (E.2.2 49), .int a1, .int a2, .int a3, .int a4] M (Pi Q) := by
  unfold wX11_formComes at h
  refine CM.of (by decide) rfl (Nat.le_of_ble_eq_true rfl) ?_
  refine V_aload_n dX11_formComes_0 rfl ?_
  refine V_getR 204 fl_X11_40 dX11_formComes_1 rfl rfl rfl ?_
  refine V_aload_n dX11_formComes_4 rfl ?_
  refine V_getI fl_X11_170 dX11_formComes_5 rfl rfl ?_
  refine V_iload_n dX11_formComes_8 rfl ?_
  obtain ⟨hi9, h⟩ := h
  refine V_iastN dX11_formComes_9 rfl hi9 (fun N9 e9 => ?_)
  replace h := h N9 e9
  refine V_aload_n dX11_formComes_10 rfl ?_
  refine V_getR 205 fl_X11_43 dX11_formComes_11 rfl rfl rfl ?_
  refine V_aload_n dX11_formComes_14 rfl ?_
  refine V_getI fl_X11_170 dX11_formComes_15 rfl rfl ?_
  refine V_iload_n dX11_formComes_18 rfl ?_
  obtain ⟨hi19, h⟩ := h
  refine V_iastN dX11_formComes_19 rfl hi19 (fun N19 e19 => ?_)
  replace h := h N19 e19
  refine V_aload_n dX11_formComes_20 rfl ?_
  refine V_getR 206 fl_X11_46 dX11_formComes_21 rfl rfl rfl ?_
  refine V_aload_n dX11_formComes_24 rfl ?_
  refine V_getI fl_X11_170 dX11_formComes_25 rfl rfl ?_
  refine V_iload_n dX11_formComes_28 rfl ?_
  obtain ⟨hi29, h⟩ := h
  refine V_iastN dX11_formComes_29 rfl hi29 (fun N29 e29 => ?_)
  replace h := h N29 e29
  refine V_aload_n dX11_formComes_30 rfl ?_
  refine V_getR 207 fl_X11_49 dX11_formComes_31 rfl rfl rfl ?_
  refine V_aload_n dX11_formComes_34 rfl ?_
  refine V_getI fl_X11_170 dX11_formComes_35 rfl rfl ?_
  refine V_iload dX11_formComes_38 rfl ?_
  obtain ⟨hi40, h⟩ := h
  refine V_iastN dX11_formComes_40 rfl hi40 (fun N40 e40 => ?_)
  replace h := h N40 e40
  refine V_aload_n dX11_formComes_41 rfl ?_
  refine V_dup dX11_formComes_42 rfl ?_
  refine V_getI fl_X11_170 dX11_formComes_43 rfl rfl ?_
  refine V_iconst 1 dX11_formComes_46 (by decide) ?_
  refine V_iadd dX11_formComes_47 ?_
  refine V_putN fp_X11_170 dX11_formComes_48 rfl rfl rfl rfl (fun N48 e48 => ?_)
  replace h := h N48 e48
  refine V_aload_n dX11_formComes_51 rfl ?_
  refine V_getI fl_X11_170 dX11_formComes_52 rfl rfl ?_
  refine V_iconst 1 dX11_formComes_55 (by decide) ?_
  refine V_isub dX11_formComes_56 ?_
  exact V_reti dX11_formComes_57 rfl rfl h
def wX11_form (a1 : Int32) (a2 : Int32) (a3 : Int32) (a4 : Int32) (a5 : Int32) (a6 : Int32) (a7 : Int32) (M : Mem) (Q : Int32 → Mem → Prop) : Prop :=
  (∀ N2, N2 = mset M 49 0 0 → wX11_isPlace a2 N2 (fun v7 M7 => ((v7 = 0 →
      Q (-1) M7) ∧ (¬ v7 = 0 →
      wX11_isMeaning a3 M7 (fun v14 M14 => ((v14 = 0 →
          Q (-1) M14) ∧ (¬ v14 = 0 →
          wX11_isSheet a4 M14 (fun v22 M22 => ((¬ v22 = 0 →
              wX11_within a1 0 2 M22 (fun v33 M33 => ((v33 = 0 →
                  Q (-2) M33) ∧ (¬ v33 = 0 →
                  wX11_isLane a5 M33 (fun v41 M41 => ((¬ v41 = 0 →
                      wX11_against a4 a5 a6 a7 M41 (fun v59 M59 => ((v59 = 0 →
                          ((a7 ≤ 8 →
                            wX11_areCells ((60 * a4) + a6) a7 0 15 M59 (fun v104 M104 => ((¬ v104 = 0 →
                                ((¬ (M104 49 13) = 40 →
                                  (∃ n, lq1 (fun R127 (x127_10 : Int32) (M127 : Mem) => ((a7 ≤ x127_10 →
                                      wX11_formComes a1 a2 a3 a7 M127 (fun v171 M171 => Q v171 M171)) ∧ (¬ a7 ≤ x127_10 →
                                      vp_in (((60 * a4) + a6) + x127_10) 240 ∧ vp_in ((8 * (M127 49 13)) + x127_10) 320 ∧ (∀ N158, N158 = mset M127 208 (Int32.toNatClampNeg ((8 * (M127 49 13)) + x127_10)) (M127 194 (Int32.toNatClampNeg (((60 * a4) + a6) + x127_10))) → R127 (x127_10 + 1) N158)))) n 0 M104)) ∧ ((M104 49 13) = 40 →
                                  Q (-4) M104))) ∧ (v104 = 0 →
                                Q (-1) M104)))) ∧ (¬ a7 ≤ 8 →
                            Q (-2) M59))) ∧ (¬ v59 = 0 →
                          wX11_fails v59 M59 (fun v72 M72 => Q v72 M72))))) ∧ (v41 = 0 →
                      Q (-2) M41))))))) ∧ (v22 = 0 →
              Q (-1) M22))))))))))
set_option maxHeartbeats 1000000 in
set_option maxRecDepth 20000 in
theorem sX11_form {E : En} {a1 : Int32} {a2 : Int32} {a3 : Int32} {a4 : Int32} {a5 : Int32} {a6 : Int32} {a7 : Int32} {M : Mem} {Q : Int32 → Mem → Prop} (h : wX11_form a1 a2 a3 a4 a5 a6 a7 M Q) : CM E 3 mX11_form [.ref (E.2.2 49), .int a1, .int a2, .int a3, .int a4, .int a5, .int a6, .int a7] M (Pi Q) := by
  unfold wX11_form at h
  refine CM.of (by decide) rfl (Nat.le_of_ble_eq_true rfl) ?_
  refine V_aload_n dX11_form_0 rfl ?_
  refine V_iconst 0 dX11_form_1 (by decide) ?_
  refine V_putN fp_X11_119 dX11_form_2 rfl rfl rfl rfl (fun N2 e2 => ?_)
  replace h := h N2 e2
  refine V_aload_n dX11_form_5 rfl ?_
  refine V_iload_n dX11_form_6 rfl ?_
  refine M_Vi mv_X11_isPlace lk_X11_167 dX11_form_7 rfl rfl (sX11_isPlace h) rfl rfl (Nat.le_of_ble_eq_true rfl) (by decide) (by decide) (fun v7 M7 h => ?_)
  refine V_if_eq 28 dX11_form_10 (by decide) (fun q10 => ?_) (fun q10 => ?_)
  · replace h := h.1 q10
    refine V_iconst (-1) dX11_form_28 (by decide) ?_
    exact V_reti dX11_form_29 rfl rfl h
  · replace h := h.2 q10
    refine V_iload_n dX11_form_13 rfl ?_
    refine M_Si ms_X11_isMeaning lk_X11_173 dX11_form_14 (sX11_isMeaning h) rfl rfl (Nat.le_of_ble_eq_true rfl) (by decide) (by decide) (fun v14 M14 h => ?_)
    refine V_if_eq 28 dX11_form_17 (by decide) (fun q17 => ?_) (fun q17 => ?_)
    · replace h := h.1 q17
      refine V_iconst (-1) dX11_form_28 (by decide) ?_
      exact V_reti dX11_form_29 rfl rfl h
    · replace h := h.2 q17
      refine V_iload dX11_form_20 rfl ?_
      refine M_Si ms_X11_isSheet lk_X11_143 dX11_form_22 (sX11_isSheet h) rfl rfl (Nat.le_of_ble_eq_true rfl) (by decide) (by decide) (fun v22 M22 h => ?_)
      refine V_if_ne 30 dX11_form_25 (by decide) (fun q25 => ?_) (fun q25 => ?_)
      · replace h := h.1 q25
        refine V_iload_n dX11_form_30 rfl ?_
        refine V_iconst 0 dX11_form_31 (by decide) ?_
        refine V_iconst 2 dX11_form_32 (by decide) ?_
        refine M_Si ms_X11_within lk_X11_124 dX11_form_33 (sX11_within h) rfl rfl (Nat.le_of_ble_eq_true rfl) (by decide) (by decide) (fun v33 M33 h => ?_)
        refine V_if_eq 47 dX11_form_36 (by decide) (fun q36 => ?_) (fun q36 => ?_)
        · replace h := h.1 q36
          refine V_bipush (-2) dX11_form_47 (by decide) ?_
          exact V_reti dX11_form_49 rfl rfl h
        · replace h := h.2 q36
          refine V_iload dX11_form_39 rfl ?_
          refine M_Si ms_X11_isLane lk_X11_146 dX11_form_41 (sX11_isLane h) rfl rfl (Nat.le_of_ble_eq_true rfl) (by decide) (by decide) (fun v41 M41 h => ?_)
          refine V_if_ne 50 dX11_form_44 (by decide) (fun q44 => ?_) (fun q44 => ?_)
          · replace h := h.1 q44
            refine V_aload_n dX11_form_50 rfl ?_
            refine V_iload dX11_form_51 rfl ?_
            refine V_iload dX11_form_53 rfl ?_
            refine V_iload dX11_form_55 rfl ?_
            refine V_iload dX11_form_57 rfl ?_
            refine M_Vi mv_X11_against lk_X11_149 dX11_form_59 rfl rfl (sX11_against h) rfl rfl (Nat.le_of_ble_eq_true rfl) (by decide) (by decide) (fun v59 M59 h => ?_)
            refine V_istore dX11_form_62 (by decide) ?_
            refine V_iload dX11_form_64 rfl ?_
            refine V_if_eq 76 dX11_form_66 (by decide) (fun q66 => ?_) (fun q66 => ?_)
            · replace h := h.1 q66
              refine V_bipush 60 dX11_form_76 (by decide) ?_
              refine V_iload dX11_form_78 rfl ?_
              refine V_imul dX11_form_80 ?_
              refine V_iload dX11_form_81 rfl ?_
              refine V_iadd dX11_form_83 ?_
              refine V_istore dX11_form_84 (by decide) ?_
              refine V_iload dX11_form_86 rfl ?_
              refine V_bipush 8 dX11_form_88 (by decide) ?_
              refine V_icmp_le 96 dX11_form_90 (by decide) (fun q90 => ?_) (fun q90 => ?_)
              · replace h := h.1 q90
                refine V_aload_n dX11_form_96 rfl ?_
                refine V_iload dX11_form_97 rfl ?_
                refine V_iload dX11_form_99 rfl ?_
                refine V_iconst 0 dX11_form_101 (by decide) ?_
                refine V_bipush 15 dX11_form_102 (by decide) ?_
                refine M_Vi mv_X11_areCells lk_X11_157 dX11_form_104 rfl rfl (sX11_areCells h) rfl rfl (Nat.le_of_ble_eq_true rfl) (by decide) (by decide) (fun v104 M104 h => ?_)
                refine V_if_ne 112 dX11_form_107 (by decide) (fun q107 => ?_) (fun q107 => ?_)
                · replace h := h.1 q107
                  refine V_aload_n dX11_form_112 rfl ?_
                  refine V_getI fl_X11_170 dX11_form_113 rfl rfl ?_
                  refine V_bipush 40 dX11_form_116 (by decide) ?_
                  refine V_icmp_ne 124 dX11_form_118 (by decide) (fun q118 => ?_) (fun q118 => ?_)
                  · replace h := h.1 q118
                    refine V_iconst 0 dX11_form_124 (by decide) ?_
                    refine V_istore dX11_form_125 (by decide) ?_
                    obtain ⟨n127, h⟩ := h
                    refine V_take 11 ?_
                    refine lq1_use (P := fun (x127_10 : Int32) (M127 : Mem) => ∀ j127_4 : Value, ∀ j127_5 : Value, ∀ j127_6 : Value, ∀ j127_8 : Value, V (Km E 3 (Pi Q)) mX11_form 127 [.ref (E.2.2 49), .int a1, .int a2, .int a3, j127_4, j127_5, j127_6, .int a7, j127_8, .int ((60 * a4) + a6), .int x127_10] [] (wsM E.1 E.2.2 M127) 0 0) (fun R127 hR127 x127_10 M127 h j127_4 j127_5 j127_6 j127_8 => ?_) n127 _ _ h _ _ _ _
                    refine V_iload dX11_form_127 rfl ?_
                    refine V_iload dX11_form_129 rfl ?_
                    refine V_icmp_ge 165 dX11_form_131 (by decide) (fun q131 => ?_) (fun q131 => ?_)
                    · replace h := h.1 q131
                      refine V_aload_n dX11_form_165 rfl ?_
                      refine V_iload_n dX11_form_166 rfl ?_
                      refine V_iload_n dX11_form_167 rfl ?_
                      refine V_iload_n dX11_form_168 rfl ?_
                      refine V_iload dX11_form_169 rfl ?_
                      refine M_Vi mv_X11_formComes lk_X11_176 dX11_form_171 rfl rfl (sX11_formComes h) rfl rfl (Nat.le_of_ble_eq_true rfl) (by decide) (by decide) (fun v171 M171 h => ?_)
                      exact V_reti dX11_form_174 rfl rfl h
                    · replace h := h.2 q131
                      refine V_aload_n dX11_form_134 rfl ?_
                      refine V_getR 208 fl_X11_52 dX11_form_135 rfl rfl rfl ?_
                      refine V_bipush 8 dX11_form_138 (by decide) ?_
                      refine V_aload_n dX11_form_140 rfl ?_
                      refine V_getI fl_X11_170 dX11_form_141 rfl rfl ?_
                      refine V_imul dX11_form_144 ?_
                      refine V_iload dX11_form_145 rfl ?_
                      refine V_iadd dX11_form_147 ?_
                      refine V_aload_n dX11_form_148 rfl ?_
                      refine V_getR 194 fl_X11_16 dX11_form_149 rfl rfl rfl ?_
                      refine V_iload dX11_form_152 rfl ?_
                      refine V_iload dX11_form_154 rfl ?_
                      refine V_iadd dX11_form_156 ?_
                      obtain ⟨hi157, h⟩ := h
                      refine V_ialdM dX11_form_157 rfl hi157 ?_
                      obtain ⟨hi158, h⟩ := h
                      refine V_iastN dX11_form_158 rfl hi158 (fun N158 e158 => ?_)
                      replace h := h N158 e158
                      refine V_iincC 1 dX11_form_159 (by decide) rfl (by decide) ?_
                      refine V_goto 127 dX11_form_162 (by decide) ?_
                      refine V_take 11 ?_
                      exact hR127 _ _ h _ _ _ _
                  · replace h := h.2 q118
                    refine V_bipush (-4) dX11_form_121 (by decide) ?_
                    exact V_reti dX11_form_123 rfl rfl h
                · replace h := h.2 q107
                  refine V_iconst (-1) dX11_form_110 (by decide) ?_
                  exact V_reti dX11_form_111 rfl rfl h
              · replace h := h.2 q90
                refine V_bipush (-2) dX11_form_93 (by decide) ?_
                exact V_reti dX11_form_95 rfl rfl h
            · replace h := h.2 q66
              refine V_aload_n dX11_form_69 rfl ?_
              refine V_iload dX11_form_70 rfl ?_
              refine M_Vi mv_X11_fails lk_X11_153 dX11_form_72 rfl rfl (sX11_fails h) rfl rfl (Nat.le_of_ble_eq_true rfl) (by decide) (by decide) (fun v72 M72 h => ?_)
              exact V_reti dX11_form_75 rfl rfl h
          · replace h := h.2 q44
            refine V_bipush (-2) dX11_form_47 (by decide) ?_
            exact V_reti dX11_form_49 rfl rfl h
      · replace h := h.2 q25
        refine V_iconst (-1) dX11_form_28 (by decide) ?_
        exact V_reti dX11_form_29 rfl rfl h
def wX11_read (a1 : Int32) (a2 : Int32) (a3 : Int32) (a4 : Int32) (a5 : Int32) (a6 : Int32) (a7 : Int32) (M : Mem) (Q : Int32 → Mem → Prop) : Prop :=
  (∀ N2, N2 = mset M 49 0 0 → wX11_isCollector a1 N2 (fun v6 M6 => ((v6 = 0 →
      Q (-1) M6) ∧ (¬ v6 = 0 →
      wX11_isPlace a2 M6 (fun v14 M14 => ((v14 = 0 →
          Q (-1) M14) ∧ (¬ v14 = 0 →
          wX11_isMeaning a3 M14 (fun v21 M21 => ((v21 = 0 →
              Q (-1) M21) ∧ (¬ v21 = 0 →
              wX11_isSheet a4 M21 (fun v29 M29 => ((¬ v29 = 0 →
                  wX11_isLane a5 M29 (fun v39 M39 => ((¬ v39 = 0 →
                      wX11_against a4 a5 a6 a7 M39 (fun v57 M57 => ((v57 = 0 →
                          (∃ n, lq2 (fun R91 (x91_10 : Int32) (x91_11 : Int32) (M91 : Mem) => (((((60 * a4) + a6) + a7) ≤ x91_10 →
                              ((¬ (M91 49 13) = 40 →
                                (∃ n, lq1 (fun R185 (x185_12 : Int32) (M185 : Mem) => ((x91_11 ≤ x185_12 →
                                    wX11_formComes 0 a2 a3 x91_11 M185 (fun v226 M226 => Q v226 M226)) ∧ (¬ x91_11 ≤ x185_12 →
                                    vp_in x185_12 8 ∧ vp_in ((8 * (M185 49 13)) + x185_12) 320 ∧ (∀ N213, N213 = mset M185 208 (Int32.toNatClampNeg ((8 * (M185 49 13)) + x185_12)) (M185 209 (Int32.toNatClampNeg x185_12)) → R185 (x185_12 + 1) N213)))) n 0 M91)) ∧ ((M91 49 13) = 40 →
                                Q (-4) M91))) ∧ (¬ (((60 * a4) + a6) + a7) ≤ x91_10 →
                              wX11_entryAt a1 x91_10 (((60 * a4) + a6) + a7) M91 (fun v110 M110 => jn0 (fun (M129 : Mem) => Q ((-100) - (x91_10 - ((60 * a4) + a6))) M129) (fun J129 => ((v110 = (-9) →
                                    J129 M110) ∧ (¬ v110 = (-9) →
                                    ((¬ x91_11 = 8 →
                                      vp_in v110 30 ∧ vp_in x91_11 8 ∧ (∀ N151, N151 = mset M110 209 (Int32.toNatClampNeg x91_11) (M110 198 (Int32.toNatClampNeg v110)) → R91 (x91_10 + (N151 199 (Int32.toNatClampNeg v110))) (x91_11 + 1) N151)) ∧ (x91_11 = 8 →
                                      J129 M110))))))))) n ((60 * a4) + a6) 0 M57)) ∧ (¬ v57 = 0 →
                          wX11_fails v57 M57 (fun v70 M70 => Q v70 M70))))) ∧ (v39 = 0 →
                      Q (-2) M39)))) ∧ (v29 = 0 →
                  Q (-1) M29)))))))))))))
set_option maxHeartbeats 1000000 in
set_option maxRecDepth 20000 in
theorem sX11_read {E : En} {a1 : Int32} {a2 : Int32} {a3 : Int32} {a4 : Int32} {a5 : Int32} {a6 : Int32} {a7 : Int32} {M : Mem} {Q : Int32 → Mem → Prop} (h : wX11_read a1 a2 a3 a4 a5 a6 a7 M Q) : CM E 3 mX11_read [.ref (E.2.2 49), .int a1, .int a2, .int a3, .int a4, .int a5, .int a6, .int a7] M (Pi Q) := by
  unfold wX11_read at h
  refine CM.of (by decide) rfl (Nat.le_of_ble_eq_true rfl) ?_
  refine V_aload_n dX11_read_0 rfl ?_
  refine V_iconst 0 dX11_read_1 (by decide) ?_
  refine V_putN fp_X11_119 dX11_read_2 rfl rfl rfl rfl (fun N2 e2 => ?_)
  replace h := h N2 e2
  refine V_iload_n dX11_read_5 rfl ?_
  refine M_Si ms_X11_isCollector lk_X11_140 dX11_read_6 (sX11_isCollector h) rfl rfl (Nat.le_of_ble_eq_true rfl) (by decide) (by decide) (fun v6 M6 h => ?_)
  refine V_if_eq 35 dX11_read_9 (by decide) (fun q9 => ?_) (fun q9 => ?_)
  · replace h := h.1 q9
    refine V_iconst (-1) dX11_read_35 (by decide) ?_
    exact V_reti dX11_read_36 rfl rfl h
  · replace h := h.2 q9
    refine V_aload_n dX11_read_12 rfl ?_
    refine V_iload_n dX11_read_13 rfl ?_
    refine M_Vi mv_X11_isPlace lk_X11_167 dX11_read_14 rfl rfl (sX11_isPlace h) rfl rfl (Nat.le_of_ble_eq_true rfl) (by decide) (by decide) (fun v14 M14 h => ?_)
    refine V_if_eq 35 dX11_read_17 (by decide) (fun q17 => ?_) (fun q17 => ?_)
    · replace h := h.1 q17
      refine V_iconst (-1) dX11_read_35 (by decide) ?_
      exact V_reti dX11_read_36 rfl rfl h
    · replace h := h.2 q17
      refine V_iload_n dX11_read_20 rfl ?_
      refine M_Si ms_X11_isMeaning lk_X11_173 dX11_read_21 (sX11_isMeaning h) rfl rfl (Nat.le_of_ble_eq_true rfl) (by decide) (by decide) (fun v21 M21 h => ?_)
      refine V_if_eq 35 dX11_read_24 (by decide) (fun q24 => ?_) (fun q24 => ?_)
      · replace h := h.1 q24
        refine V_iconst (-1) dX11_read_35 (by decide) ?_
        exact V_reti dX11_read_36 rfl rfl h
      · replace h := h.2 q24
        refine V_iload dX11_read_27 rfl ?_
        refine M_Si ms_X11_isSheet lk_X11_143 dX11_read_29 (sX11_isSheet h) rfl rfl (Nat.le_of_ble_eq_true rfl) (by decide) (by decide) (fun v29 M29 h => ?_)
        refine V_if_ne 37 dX11_read_32 (by decide) (fun q32 => ?_) (fun q32 => ?_)
        · replace h := h.1 q32
          refine V_iload dX11_read_37 rfl ?_
          refine M_Si ms_X11_isLane lk_X11_146 dX11_read_39 (sX11_isLane h) rfl rfl (Nat.le_of_ble_eq_true rfl) (by decide) (by decide) (fun v39 M39 h => ?_)
          refine V_if_ne 48 dX11_read_42 (by decide) (fun q42 => ?_) (fun q42 => ?_)
          · replace h := h.1 q42
            refine V_aload_n dX11_read_48 rfl ?_
            refine V_iload dX11_read_49 rfl ?_
            refine V_iload dX11_read_51 rfl ?_
            refine V_iload dX11_read_53 rfl ?_
            refine V_iload dX11_read_55 rfl ?_
            refine M_Vi mv_X11_against lk_X11_149 dX11_read_57 rfl rfl (sX11_against h) rfl rfl (Nat.le_of_ble_eq_true rfl) (by decide) (by decide) (fun v57 M57 h => ?_)
            refine V_istore dX11_read_60 (by decide) ?_
            refine V_iload dX11_read_62 rfl ?_
            refine V_if_eq 74 dX11_read_64 (by decide) (fun q64 => ?_) (fun q64 => ?_)
            · replace h := h.1 q64
              refine V_bipush 60 dX11_read_74 (by decide) ?_
              refine V_iload dX11_read_76 rfl ?_
              refine V_imul dX11_read_78 ?_
              refine V_iload dX11_read_79 rfl ?_
              refine V_iadd dX11_read_81 ?_
              refine V_istore dX11_read_82 (by decide) ?_
              refine V_iload dX11_read_84 rfl ?_
              refine V_istore dX11_read_86 (by decide) ?_
              refine V_iconst 0 dX11_read_88 (by decide) ?_
              refine V_istore dX11_read_89 (by decide) ?_
              obtain ⟨n91, h⟩ := h
              refine V_take 12 ?_
              refine lq2_use (P := fun (x91_10 : Int32) (x91_11 : Int32) (M91 : Mem) => ∀ j91_4 : Value, ∀ j91_5 : Value, ∀ j91_6 : Value, ∀ j91_8 : Value, V (Km E 3 (Pi Q)) mX11_read 91 [.ref (E.2.2 49), .int a1, .int a2, .int a3, j91_4, j91_5, j91_6, .int a7, j91_8, .int ((60 * a4) + a6), .int x91_10, .int x91_11] [] (wsM E.1 E.2.2 M91) 0 0) (fun R91 hR91 x91_10 x91_11 M91 h j91_4 j91_5 j91_6 j91_8 => ?_) n91 _ _ _ h _ _ _ _
              refine V_iload dX11_read_91 rfl ?_
              refine V_iload dX11_read_93 rfl ?_
              refine V_iload dX11_read_95 rfl ?_
              refine V_iadd dX11_read_97 ?_
              refine V_icmp_ge 170 dX11_read_98 (by decide) (fun q98 => ?_) (fun q98 => ?_)
              · replace h := h.1 q98
                refine V_aload_n dX11_read_170 rfl ?_
                refine V_getI fl_X11_170 dX11_read_171 rfl rfl ?_
                refine V_bipush 40 dX11_read_174 (by decide) ?_
                refine V_icmp_ne 182 dX11_read_176 (by decide) (fun q176 => ?_) (fun q176 => ?_)
                · replace h := h.1 q176
                  refine V_iconst 0 dX11_read_182 (by decide) ?_
                  refine V_istore dX11_read_183 (by decide) ?_
                  obtain ⟨n185, h⟩ := h
                  refine V_take 13 ?_
                  refine lq1_use (P := fun (x185_12 : Int32) (M185 : Mem) => ∀ j185_1 : Value, ∀ j185_4 : Value, ∀ j185_5 : Value, ∀ j185_6 : Value, ∀ j185_7 : Value, ∀ j185_8 : Value, ∀ j185_9 : Value, ∀ j185_10 : Value, V (Km E 3 (Pi Q)) mX11_read 185 [.ref (E.2.2 49), j185_1, .int a2, .int a3, j185_4, j185_5, j185_6, j185_7, j185_8, j185_9, j185_10, .int x91_11, .int x185_12] [] (wsM E.1 E.2.2 M185) 0 0) (fun R185 hR185 x185_12 M185 h j185_1 j185_4 j185_5 j185_6 j185_7 j185_8 j185_9 j185_10 => ?_) n185 _ _ h _ _ _ _ _ _ _ _
                  refine V_iload dX11_read_185 rfl ?_
                  refine V_iload dX11_read_187 rfl ?_
                  refine V_icmp_ge 220 dX11_read_189 (by decide) (fun q189 => ?_) (fun q189 => ?_)
                  · replace h := h.1 q189
                    refine V_aload_n dX11_read_220 rfl ?_
                    refine V_iconst 0 dX11_read_221 (by decide) ?_
                    refine V_iload_n dX11_read_222 rfl ?_
                    refine V_iload_n dX11_read_223 rfl ?_
                    refine V_iload dX11_read_224 rfl ?_
                    refine M_Vi mv_X11_formComes lk_X11_176 dX11_read_226 rfl rfl (sX11_formComes h) rfl rfl (Nat.le_of_ble_eq_true rfl) (by decide) (by decide) (fun v226 M226 h => ?_)
                    exact V_reti dX11_read_229 rfl rfl h
                  · replace h := h.2 q189
                    refine V_aload_n dX11_read_192 rfl ?_
                    refine V_getR 208 fl_X11_52 dX11_read_193 rfl rfl rfl ?_
                    refine V_bipush 8 dX11_read_196 (by decide) ?_
                    refine V_aload_n dX11_read_198 rfl ?_
                    refine V_getI fl_X11_170 dX11_read_199 rfl rfl ?_
                    refine V_imul dX11_read_202 ?_
                    refine V_iload dX11_read_203 rfl ?_
                    refine V_iadd dX11_read_205 ?_
                    refine V_aload_n dX11_read_206 rfl ?_
                    refine V_getR 209 fl_X11_55 dX11_read_207 rfl rfl rfl ?_
                    refine V_iload dX11_read_210 rfl ?_
                    obtain ⟨hi212, h⟩ := h
                    refine V_ialdM dX11_read_212 rfl hi212 ?_
                    obtain ⟨hi213, h⟩ := h
                    refine V_iastN dX11_read_213 rfl hi213 (fun N213 e213 => ?_)
                    replace h := h N213 e213
                    refine V_iincC 1 dX11_read_214 (by decide) rfl (by decide) ?_
                    refine V_goto 185 dX11_read_217 (by decide) ?_
                    refine V_take 13 ?_
                    exact hR185 _ _ h _ _ _ _ _ _ _ _
                · replace h := h.2 q176
                  refine V_bipush (-4) dX11_read_179 (by decide) ?_
                  exact V_reti dX11_read_181 rfl rfl h
              · replace h := h.2 q98
                refine V_aload_n dX11_read_101 rfl ?_
                refine V_iload_n dX11_read_102 rfl ?_
                refine V_iload dX11_read_103 rfl ?_
                refine V_iload dX11_read_105 rfl ?_
                refine V_iload dX11_read_107 rfl ?_
                refine V_iadd dX11_read_109 ?_
                refine M_Vi mv_X11_entryAt lk_X11_179 dX11_read_110 rfl rfl (sX11_entryAt h) rfl rfl (Nat.le_of_ble_eq_true rfl) (by decide) (by decide) (fun v110 M110 h => ?_)
                refine V_istore dX11_read_113 (by decide) ?_
                refine V_iload dX11_read_115 rfl ?_
                refine V_bipush (-9) dX11_read_117 (by decide) ?_
                refine jn0_use (P := fun (M129 : Mem) => ∀ j129_0 : Value, ∀ j129_1 : Value, ∀ j129_2 : Value, ∀ j129_3 : Value, ∀ j129_4 : Value, ∀ j129_5 : Value, ∀ j129_6 : Value, ∀ j129_7 : Value, ∀ j129_8 : Value, ∀ j129_11 : Value, ∀ j129_12 : Value, V (Km E 3 (Pi Q)) mX11_read 129 [j129_0, j129_1, j129_2, j129_3, j129_4, j129_5, j129_6, j129_7, j129_8, .int ((60 * a4) + a6), .int x91_10, j129_11, j129_12] [] (wsM E.1 E.2.2 M129) 0 0) (fun M129 h j129_0 j129_1 j129_2 j129_3 j129_4 j129_5 j129_6 j129_7 j129_8 j129_11 j129_12 => ?_) (fun J129 hJ129 h => ?_) h
                · refine V_bipush (-100) dX11_read_129 (by decide) ?_
                  refine V_iload dX11_read_131 rfl ?_
                  refine V_iload dX11_read_133 rfl ?_
                  refine V_isub dX11_read_135 ?_
                  refine V_isub dX11_read_136 ?_
                  exact V_reti dX11_read_137 rfl rfl h
                · refine V_icmp_eq 129 dX11_read_119 (by decide) (fun q119 => ?_) (fun q119 => ?_)
                  · replace h := h.1 q119
                    refine V_take 13 ?_
                    exact hJ129 _ h _ _ _ _ _ _ _ _ _ _ _
                  · replace h := h.2 q119
                    refine V_iload dX11_read_122 rfl ?_
                    refine V_bipush 8 dX11_read_124 (by decide) ?_
                    refine V_icmp_ne 138 dX11_read_126 (by decide) (fun q126 => ?_) (fun q126 => ?_)
                    · replace h := h.1 q126
                      refine V_aload_n dX11_read_138 rfl ?_
                      refine V_getR 209 fl_X11_55 dX11_read_139 rfl rfl rfl ?_
                      refine V_iload dX11_read_142 rfl ?_
                      refine V_aload_n dX11_read_144 rfl ?_
                      refine V_getR 198 fl_X11_28 dX11_read_145 rfl rfl rfl ?_
                      refine V_iload dX11_read_148 rfl ?_
                      obtain ⟨hi150, h⟩ := h
                      refine V_ialdM dX11_read_150 rfl hi150 ?_
                      obtain ⟨hi151, h⟩ := h
                      refine V_iastN dX11_read_151 rfl hi151 (fun N151 e151 => ?_)
                      replace h := h N151 e151
                      refine V_iincC 1 dX11_read_152 (by decide) rfl (by decide) ?_
                      refine V_iload dX11_read_155 rfl ?_
                      refine V_aload_n dX11_read_157 rfl ?_
                      refine V_getR 199 fl_X11_31 dX11_read_158 rfl rfl rfl ?_
                      refine V_iload dX11_read_161 rfl ?_
                      refine V_ialdM dX11_read_163 rfl hi150 ?_
                      refine V_iadd dX11_read_164 ?_
                      refine V_istore dX11_read_165 (by decide) ?_
                      refine V_goto 91 dX11_read_167 (by decide) ?_
                      refine V_take 12 ?_
                      exact hR91 _ _ _ h _ _ _ _
                    · replace h := h.2 q126
                      refine V_take 13 ?_
                      exact hJ129 _ h _ _ _ _ _ _ _ _ _ _ _
            · replace h := h.2 q64
              refine V_aload_n dX11_read_67 rfl ?_
              refine V_iload dX11_read_68 rfl ?_
              refine M_Vi mv_X11_fails lk_X11_153 dX11_read_70 rfl rfl (sX11_fails h) rfl rfl (Nat.le_of_ble_eq_true rfl) (by decide) (by decide) (fun v70 M70 h => ?_)
              exact V_reti dX11_read_73 rfl rfl h
          · replace h := h.2 q42
            refine V_bipush (-2) dX11_read_45 (by decide) ?_
            exact V_reti dX11_read_47 rfl rfl h
        · replace h := h.2 q32
          refine V_iconst (-1) dX11_read_35 (by decide) ?_
          exact V_reti dX11_read_36 rfl rfl h
def wX11_ofForm (a1 : Int32) (a2 : Int32) (M : Mem) (Q : Int32 → Mem → Prop) : Prop :=
  wX11_isForm a1 M (fun v2 M2 => ((¬ v2 = 0 →
      ((a2 = 0 →
        vp_in a1 40 ∧ Q (M2 204 (Int32.toNatClampNeg a1)) M2) ∧ (a2 = 1 →
        vp_in a1 40 ∧ Q (M2 205 (Int32.toNatClampNeg a1)) M2) ∧ (a2 = 2 →
        vp_in a1 40 ∧ Q (M2 206 (Int32.toNatClampNeg a1)) M2) ∧ (a2 = 3 →
        vp_in a1 40 ∧ Q (M2 207 (Int32.toNatClampNeg a1)) M2) ∧ (¬ a2 = 0 → ¬ a2 = 1 → ¬ a2 = 2 → ¬ a2 = 3 → vp_in a1 40 ∧ wX11_within a2 10 (9 + (M2 207 (Int32.toNatClampNeg a1))) M2 (fun v80 M80 => ((v80 = 0 →
            Q (-2) M80) ∧ (¬ v80 = 0 →
            vp_in (((8 * a1) + a2) - 10) 320 ∧ Q (M80 208 (Int32.toNatClampNeg (((8 * a1) + a2) - 10))) M80)))))) ∧ (v2 = 0 →
      Q (-1) M2)))
set_option maxHeartbeats 1000000 in
set_option maxRecDepth 20000 in
theorem sX11_ofForm {E : En} {a1 : Int32} {a2 : Int32} {M : Mem} {Q : Int32 → Mem → Prop} (h : wX11_ofForm a1 a2 M Q) : CM E 2 mX11_ofForm [.ref (E.2.2 49), .int a1, .int a2] M (Pi Q) := by
  unfold wX11_ofForm at h
  refine CM.of (by decide) rfl (Nat.le_of_ble_eq_true rfl) ?_
  refine V_aload_n dX11_ofForm_0 rfl ?_
  refine V_iload_n dX11_ofForm_1 rfl ?_
  refine M_Vi mv_X11_isForm lk_X11_183 dX11_ofForm_2 rfl rfl (sX11_isForm h) rfl rfl (Nat.le_of_ble_eq_true rfl) (by decide) (by decide) (fun v2 M2 h => ?_)
  refine V_if_ne 10 dX11_ofForm_5 (by decide) (fun q5 => ?_) (fun q5 => ?_)
  · replace h := h.1 q5
    refine V_iload_n dX11_ofForm_10 rfl ?_
    rcases Classical.em (a2 = 0) with q | q11_0
    · replace h := h.1 q
      refine V_tableIn (off := 29) 40 dX11_ofForm_11 (by rw [q]; decide) (by rw [q]; decide) (by rw [q] <;> rfl) (by decide) ?_
      refine V_aload_n dX11_ofForm_40 rfl ?_
      refine V_getR 204 fl_X11_40 dX11_ofForm_41 rfl rfl rfl ?_
      refine V_iload_n dX11_ofForm_44 rfl ?_
      obtain ⟨hi45, h⟩ := h
      refine V_ialdM dX11_ofForm_45 rfl hi45 ?_
      exact V_reti dX11_ofForm_46 rfl rfl h
    rcases Classical.em (a2 = 1) with q | q11_1
    · replace h := h.2.1 q
      refine V_tableIn (off := 36) 47 dX11_ofForm_11 (by rw [q]; decide) (by rw [q]; decide) (by rw [q] <;> rfl) (by decide) ?_
      refine V_aload_n dX11_ofForm_47 rfl ?_
      refine V_getR 205 fl_X11_43 dX11_ofForm_48 rfl rfl rfl ?_
      refine V_iload_n dX11_ofForm_51 rfl ?_
      obtain ⟨hi52, h⟩ := h
      refine V_ialdM dX11_ofForm_52 rfl hi52 ?_
      exact V_reti dX11_ofForm_53 rfl rfl h
    rcases Classical.em (a2 = 2) with q | q11_2
    · replace h := h.2.2.1 q
      refine V_tableIn (off := 43) 54 dX11_ofForm_11 (by rw [q]; decide) (by rw [q]; decide) (by rw [q] <;> rfl) (by decide) ?_
      refine V_aload_n dX11_ofForm_54 rfl ?_
      refine V_getR 206 fl_X11_46 dX11_ofForm_55 rfl rfl rfl ?_
      refine V_iload_n dX11_ofForm_58 rfl ?_
      obtain ⟨hi59, h⟩ := h
      refine V_ialdM dX11_ofForm_59 rfl hi59 ?_
      exact V_reti dX11_ofForm_60 rfl rfl h
    rcases Classical.em (a2 = 3) with q | q11_3
    · replace h := h.2.2.2.1 q
      refine V_tableIn (off := 50) 61 dX11_ofForm_11 (by rw [q]; decide) (by rw [q]; decide) (by rw [q] <;> rfl) (by decide) ?_
      refine V_aload_n dX11_ofForm_61 rfl ?_
      refine V_getR 207 fl_X11_49 dX11_ofForm_62 rfl rfl rfl ?_
      refine V_iload_n dX11_ofForm_65 rfl ?_
      obtain ⟨hi66, h⟩ := h
      refine V_ialdM dX11_ofForm_66 rfl hi66 ?_
      exact V_reti dX11_ofForm_67 rfl rfl h
    replace h := h.2.2.2.2 q11_0 q11_1 q11_2 q11_3
    refine V_tableOut 68 dX11_ofForm_11 (by have z0 := lv_neT q11_0 (show (0 : Int32).toInt = 0 by decide); have z1 := lv_neT q11_1 (show (1 : Int32).toInt = 1 by decide); have z2 := lv_neT q11_2 (show (2 : Int32).toInt = 2 by decide); have z3 := lv_neT q11_3 (show (3 : Int32).toInt = 3 by decide); omega) (by decide) ?_
    refine V_iload_n dX11_ofForm_68 rfl ?_
    refine V_bipush 10 dX11_ofForm_69 (by decide) ?_
    refine V_bipush 9 dX11_ofForm_71 (by decide) ?_
    refine V_aload_n dX11_ofForm_73 rfl ?_
    refine V_getR 207 fl_X11_49 dX11_ofForm_74 rfl rfl rfl ?_
    refine V_iload_n dX11_ofForm_77 rfl ?_
    obtain ⟨hi78, h⟩ := h
    refine V_ialdM dX11_ofForm_78 rfl hi78 ?_
    refine V_iadd dX11_ofForm_79 ?_
    refine M_Si ms_X11_within lk_X11_124 dX11_ofForm_80 (sX11_within h) rfl rfl (Nat.le_of_ble_eq_true rfl) (by decide) (by decide) (fun v80 M80 h => ?_)
    refine V_if_eq 103 dX11_ofForm_83 (by decide) (fun q83 => ?_) (fun q83 => ?_)
    · replace h := h.1 q83
      refine V_bipush (-2) dX11_ofForm_103 (by decide) ?_
      exact V_reti dX11_ofForm_105 rfl rfl h
    · replace h := h.2 q83
      refine V_aload_n dX11_ofForm_86 rfl ?_
      refine V_getR 208 fl_X11_52 dX11_ofForm_87 rfl rfl rfl ?_
      refine V_bipush 8 dX11_ofForm_90 (by decide) ?_
      refine V_iload_n dX11_ofForm_92 rfl ?_
      refine V_imul dX11_ofForm_93 ?_
      refine V_iload_n dX11_ofForm_94 rfl ?_
      refine V_iadd dX11_ofForm_95 ?_
      refine V_bipush 10 dX11_ofForm_96 (by decide) ?_
      refine V_isub dX11_ofForm_98 ?_
      obtain ⟨hi99, h⟩ := h
      refine V_ialdM dX11_ofForm_99 rfl hi99 ?_
      refine V_goto 105 dX11_ofForm_100 (by decide) ?_
      exact V_reti dX11_ofForm_105 rfl rfl h
  · replace h := h.2 q5
    refine V_iconst (-1) dX11_ofForm_8 (by decide) ?_
    exact V_reti dX11_ofForm_9 rfl rfl h
def wX11_saidAt (a1 : Int32) (a2 : Int32) (M : Mem) (Q : Int32 → Mem → Prop) : Prop :=
  (∃ n, lq2 (fun R6 (x6_3 : Int32) (x6_4 : Int32) (M6 : Mem) => (((M6 49 13) ≤ x6_4 →
      Q x6_3 M6) ∧ (¬ (M6 49 13) ≤ x6_4 →
      vp_in x6_4 40 ∧ ((¬ (M6 205 (Int32.toNatClampNeg x6_4)) = a1 →
        R6 x6_3 (x6_4 + 1) M6) ∧ ((M6 205 (Int32.toNatClampNeg x6_4)) = a1 →
        ((¬ (M6 206 (Int32.toNatClampNeg x6_4)) = a2 →
          R6 x6_3 (x6_4 + 1) M6) ∧ ((M6 206 (Int32.toNatClampNeg x6_4)) = a2 →
          R6 x6_4 (x6_4 + 1) M6))))))) n (-9) 0 M)
set_option maxHeartbeats 1000000 in
set_option maxRecDepth 20000 in
theorem sX11_saidAt {E : En} {a1 : Int32} {a2 : Int32} {M : Mem} {Q : Int32 → Mem → Prop} (h : wX11_saidAt a1 a2 M Q) : CM E 1 mX11_saidAt [.ref (E.2.2 49), .int a1, .int a2] M (Pi Q) := by
  unfold wX11_saidAt at h
  refine CM.of (by decide) rfl (Nat.le_of_ble_eq_true rfl) ?_
  refine V_bipush (-9) dX11_saidAt_0 (by decide) ?_
  refine V_istore_n dX11_saidAt_2 (by decide) ?_
  refine V_iconst 0 dX11_saidAt_3 (by decide) ?_
  refine V_istore dX11_saidAt_4 (by decide) ?_
  obtain ⟨n6, h⟩ := h
  refine V_take 5 ?_
  refine lq2_use (P := fun (x6_3 : Int32) (x6_4 : Int32) (M6 : Mem) => V (Km E 1 (Pi Q)) mX11_saidAt 6 [.ref (E.2.2 49), .int a1, .int a2, .int x6_3, .int x6_4] [] (wsM E.1 E.2.2 M6) 0 0) (fun R6 hR6 x6_3 x6_4 M6 h => ?_) n6 _ _ _ h
  refine V_iload dX11_saidAt_6 rfl ?_
  refine V_aload_n dX11_saidAt_8 rfl ?_
  refine V_getI fl_X11_170 dX11_saidAt_9 rfl rfl ?_
  refine V_icmp_ge 50 dX11_saidAt_12 (by decide) (fun q12 => ?_) (fun q12 => ?_)
  · replace h := h.1 q12
    refine V_iload_n dX11_saidAt_50 rfl ?_
    exact V_reti dX11_saidAt_51 rfl rfl h
  · replace h := h.2 q12
    refine V_aload_n dX11_saidAt_15 rfl ?_
    refine V_getR 205 fl_X11_43 dX11_saidAt_16 rfl rfl rfl ?_
    refine V_iload dX11_saidAt_19 rfl ?_
    obtain ⟨hi21, h⟩ := h
    refine V_ialdM dX11_saidAt_21 rfl hi21 ?_
    refine V_iload_n dX11_saidAt_22 rfl ?_
    refine V_icmp_ne 42 dX11_saidAt_23 (by decide) (fun q23 => ?_) (fun q23 => ?_)
    · replace h := h.1 q23
      refine V_iload_n dX11_saidAt_42 rfl ?_
      refine V_istore_n dX11_saidAt_43 (by decide) ?_
      refine V_iincC 1 dX11_saidAt_44 (by decide) rfl (by decide) ?_
      refine V_goto 6 dX11_saidAt_47 (by decide) ?_
      refine V_take 5 ?_
      exact hR6 _ _ _ h
    · replace h := h.2 q23
      refine V_aload_n dX11_saidAt_26 rfl ?_
      refine V_getR 206 fl_X11_46 dX11_saidAt_27 rfl rfl rfl ?_
      refine V_iload dX11_saidAt_30 rfl ?_
      refine V_ialdM dX11_saidAt_32 rfl hi21 ?_
      refine V_iload_n dX11_saidAt_33 rfl ?_
      refine V_icmp_ne 42 dX11_saidAt_34 (by decide) (fun q34 => ?_) (fun q34 => ?_)
      · replace h := h.1 q34
        refine V_iload_n dX11_saidAt_42 rfl ?_
        refine V_istore_n dX11_saidAt_43 (by decide) ?_
        refine V_iincC 1 dX11_saidAt_44 (by decide) rfl (by decide) ?_
        refine V_goto 6 dX11_saidAt_47 (by decide) ?_
        refine V_take 5 ?_
        exact hR6 _ _ _ h
      · replace h := h.2 q34
        refine V_iload dX11_saidAt_37 rfl ?_
        refine V_goto 43 dX11_saidAt_39 (by decide) ?_
        refine V_istore_n dX11_saidAt_43 (by decide) ?_
        refine V_iincC 1 dX11_saidAt_44 (by decide) rfl (by decide) ?_
        refine V_goto 6 dX11_saidAt_47 (by decide) ?_
        refine V_take 5 ?_
        exact hR6 _ _ _ h
def wX11_said (a1 : Int32) (a2 : Int32) (M : Mem) (Q : Int32 → Mem → Prop) : Prop :=
  wX11_isPlace a1 M (fun v2 M2 => ((v2 = 0 →
      Q (-1) M2) ∧ (¬ v2 = 0 →
      wX11_isMeaning a2 M2 (fun v9 M9 => ((v9 = 0 →
          Q (-1) M9) ∧ (¬ v9 = 0 →
          wX11_saidAt a1 a2 M9 (fun v18 M18 => Q v18 M18)))))))
set_option maxHeartbeats 1000000 in
set_option maxRecDepth 20000 in
theorem sX11_said {E : En} {a1 : Int32} {a2 : Int32} {M : Mem} {Q : Int32 → Mem → Prop} (h : wX11_said a1 a2 M Q) : CM E 3 mX11_said [.ref (E.2.2 49), .int a1, .int a2] M (Pi Q) := by
  unfold wX11_said at h
  refine CM.of (by decide) rfl (Nat.le_of_ble_eq_true rfl) ?_
  refine V_aload_n dX11_said_0 rfl ?_
  refine V_iload_n dX11_said_1 rfl ?_
  refine M_Vi mv_X11_isPlace lk_X11_167 dX11_said_2 rfl rfl (sX11_isPlace h) rfl rfl (Nat.le_of_ble_eq_true rfl) (by decide) (by decide) (fun v2 M2 h => ?_)
  refine V_if_eq 24 dX11_said_5 (by decide) (fun q5 => ?_) (fun q5 => ?_)
  · replace h := h.1 q5
    refine V_iconst (-1) dX11_said_24 (by decide) ?_
    exact V_reti dX11_said_25 rfl rfl h
  · replace h := h.2 q5
    refine V_iload_n dX11_said_8 rfl ?_
    refine M_Si ms_X11_isMeaning lk_X11_173 dX11_said_9 (sX11_isMeaning h) rfl rfl (Nat.le_of_ble_eq_true rfl) (by decide) (by decide) (fun v9 M9 h => ?_)
    refine V_if_eq 24 dX11_said_12 (by decide) (fun q12 => ?_) (fun q12 => ?_)
    · replace h := h.1 q12
      refine V_iconst (-1) dX11_said_24 (by decide) ?_
      exact V_reti dX11_said_25 rfl rfl h
    · replace h := h.2 q12
      refine V_aload_n dX11_said_15 rfl ?_
      refine V_iload_n dX11_said_16 rfl ?_
      refine V_iload_n dX11_said_17 rfl ?_
      refine M_Vi mv_X11_saidAt lk_X11_186 dX11_said_18 rfl rfl (sX11_saidAt h) rfl rfl (Nat.le_of_ble_eq_true rfl) (by decide) (by decide) (fun v18 M18 h => ?_)
      refine V_goto 25 dX11_said_21 (by decide) ?_
      exact V_reti dX11_said_25 rfl rfl h
def wX11_root (a1 : Int32) (a2 : Int32) (a3 : Int32) (a4 : Int32) (a5 : Int32) (M : Mem) (Q : Int32 → Mem → Prop) : Prop :=
  (∀ N2, N2 = mset M 49 0 0 → wX11_isMeaning a1 N2 (fun v6 M6 => ((v6 = 0 →
      Q (-1) M6) ∧ (¬ v6 = 0 →
      wX11_isSheet a2 M6 (fun v13 M13 => ((¬ v13 = 0 →
          wX11_isLane a3 M13 (fun v22 M22 => ((¬ v22 = 0 →
              wX11_against a2 a3 a4 a5 M22 (fun v38 M38 => ((v38 = 0 →
                  ((a5 ≤ 8 →
                    wX11_areCells ((60 * a2) + a4) a5 0 15 M38 (fun v82 M82 => ((¬ v82 = 0 →
                        vp_in a1 6 ∧ (∀ N97, N97 = mset M82 210 (Int32.toNatClampNeg a1) a5 → (∃ n, lq1 (fun R101 (x101_8 : Int32) (M101 : Mem) => ((a5 ≤ x101_8 →
                            Q a5 M101) ∧ (¬ a5 ≤ x101_8 →
                            vp_in (((60 * a2) + a4) + x101_8) 240 ∧ vp_in ((8 * a1) + x101_8) 48 ∧ (∀ N129, N129 = mset M101 211 (Int32.toNatClampNeg ((8 * a1) + x101_8)) (M101 194 (Int32.toNatClampNeg (((60 * a2) + a4) + x101_8))) → R101 (x101_8 + 1) N129)))) n 0 N97))) ∧ (v82 = 0 →
                        Q (-1) M82)))) ∧ (¬ a5 ≤ 8 →
                    Q (-2) M38))) ∧ (¬ v38 = 0 →
                  wX11_fails v38 M38 (fun v51 M51 => Q v51 M51))))) ∧ (v22 = 0 →
              Q (-2) M22)))) ∧ (v13 = 0 →
          Q (-1) M13)))))))
set_option maxHeartbeats 1000000 in
set_option maxRecDepth 20000 in
theorem sX11_root {E : En} {a1 : Int32} {a2 : Int32} {a3 : Int32} {a4 : Int32} {a5 : Int32} {M : Mem} {Q : Int32 → Mem → Prop} (h : wX11_root a1 a2 a3 a4 a5 M Q) : CM E 3 mX11_root [.ref (E.2.2 49), .int a1, .int a2, .int a3, .int a4, .int a5] M (Pi Q) := by
  unfold wX11_root at h
  refine CM.of (by decide) rfl (Nat.le_of_ble_eq_true rfl) ?_
  refine V_aload_n dX11_root_0 rfl ?_
  refine V_iconst 0 dX11_root_1 (by decide) ?_
  refine V_putN fp_X11_119 dX11_root_2 rfl rfl rfl rfl (fun N2 e2 => ?_)
  replace h := h N2 e2
  refine V_iload_n dX11_root_5 rfl ?_
  refine M_Si ms_X11_isMeaning lk_X11_173 dX11_root_6 (sX11_isMeaning h) rfl rfl (Nat.le_of_ble_eq_true rfl) (by decide) (by decide) (fun v6 M6 h => ?_)
  refine V_if_eq 19 dX11_root_9 (by decide) (fun q9 => ?_) (fun q9 => ?_)
  · replace h := h.1 q9
    refine V_iconst (-1) dX11_root_19 (by decide) ?_
    exact V_reti dX11_root_20 rfl rfl h
  · replace h := h.2 q9
    refine V_iload_n dX11_root_12 rfl ?_
    refine M_Si ms_X11_isSheet lk_X11_143 dX11_root_13 (sX11_isSheet h) rfl rfl (Nat.le_of_ble_eq_true rfl) (by decide) (by decide) (fun v13 M13 h => ?_)
    refine V_if_ne 21 dX11_root_16 (by decide) (fun q16 => ?_) (fun q16 => ?_)
    · replace h := h.1 q16
      refine V_iload_n dX11_root_21 rfl ?_
      refine M_Si ms_X11_isLane lk_X11_146 dX11_root_22 (sX11_isLane h) rfl rfl (Nat.le_of_ble_eq_true rfl) (by decide) (by decide) (fun v22 M22 h => ?_)
      refine V_if_ne 31 dX11_root_25 (by decide) (fun q25 => ?_) (fun q25 => ?_)
      · replace h := h.1 q25
        refine V_aload_n dX11_root_31 rfl ?_
        refine V_iload_n dX11_root_32 rfl ?_
        refine V_iload_n dX11_root_33 rfl ?_
        refine V_iload dX11_root_34 rfl ?_
        refine V_iload dX11_root_36 rfl ?_
        refine M_Vi mv_X11_against lk_X11_149 dX11_root_38 rfl rfl (sX11_against h) rfl rfl (Nat.le_of_ble_eq_true rfl) (by decide) (by decide) (fun v38 M38 h => ?_)
        refine V_istore dX11_root_41 (by decide) ?_
        refine V_iload dX11_root_43 rfl ?_
        refine V_if_eq 55 dX11_root_45 (by decide) (fun q45 => ?_) (fun q45 => ?_)
        · replace h := h.1 q45
          refine V_bipush 60 dX11_root_55 (by decide) ?_
          refine V_iload_n dX11_root_57 rfl ?_
          refine V_imul dX11_root_58 ?_
          refine V_iload dX11_root_59 rfl ?_
          refine V_iadd dX11_root_61 ?_
          refine V_istore dX11_root_62 (by decide) ?_
          refine V_iload dX11_root_64 rfl ?_
          refine V_bipush 8 dX11_root_66 (by decide) ?_
          refine V_icmp_le 74 dX11_root_68 (by decide) (fun q68 => ?_) (fun q68 => ?_)
          · replace h := h.1 q68
            refine V_aload_n dX11_root_74 rfl ?_
            refine V_iload dX11_root_75 rfl ?_
            refine V_iload dX11_root_77 rfl ?_
            refine V_iconst 0 dX11_root_79 (by decide) ?_
            refine V_bipush 15 dX11_root_80 (by decide) ?_
            refine M_Vi mv_X11_areCells lk_X11_157 dX11_root_82 rfl rfl (sX11_areCells h) rfl rfl (Nat.le_of_ble_eq_true rfl) (by decide) (by decide) (fun v82 M82 h => ?_)
            refine V_if_ne 90 dX11_root_85 (by decide) (fun q85 => ?_) (fun q85 => ?_)
            · replace h := h.1 q85
              refine V_aload_n dX11_root_90 rfl ?_
              refine V_getR 210 fl_X11_58 dX11_root_91 rfl rfl rfl ?_
              refine V_iload_n dX11_root_94 rfl ?_
              refine V_iload dX11_root_95 rfl ?_
              obtain ⟨hi97, h⟩ := h
              refine V_iastN dX11_root_97 rfl hi97 (fun N97 e97 => ?_)
              replace h := h N97 e97
              refine V_iconst 0 dX11_root_98 (by decide) ?_
              refine V_istore dX11_root_99 (by decide) ?_
              obtain ⟨n101, h⟩ := h
              refine V_take 9 ?_
              refine lq1_use (P := fun (x101_8 : Int32) (M101 : Mem) => ∀ j101_2 : Value, ∀ j101_3 : Value, ∀ j101_4 : Value, ∀ j101_6 : Value, V (Km E 3 (Pi Q)) mX11_root 101 [.ref (E.2.2 49), .int a1, j101_2, j101_3, j101_4, .int a5, j101_6, .int ((60 * a2) + a4), .int x101_8] [] (wsM E.1 E.2.2 M101) 0 0) (fun R101 hR101 x101_8 M101 h j101_2 j101_3 j101_4 j101_6 => ?_) n101 _ _ h _ _ _ _
              refine V_iload dX11_root_101 rfl ?_
              refine V_iload dX11_root_103 rfl ?_
              refine V_icmp_ge 136 dX11_root_105 (by decide) (fun q105 => ?_) (fun q105 => ?_)
              · replace h := h.1 q105
                refine V_iload dX11_root_136 rfl ?_
                exact V_reti dX11_root_138 rfl rfl h
              · replace h := h.2 q105
                refine V_aload_n dX11_root_108 rfl ?_
                refine V_getR 211 fl_X11_61 dX11_root_109 rfl rfl rfl ?_
                refine V_bipush 8 dX11_root_112 (by decide) ?_
                refine V_iload_n dX11_root_114 rfl ?_
                refine V_imul dX11_root_115 ?_
                refine V_iload dX11_root_116 rfl ?_
                refine V_iadd dX11_root_118 ?_
                refine V_aload_n dX11_root_119 rfl ?_
                refine V_getR 194 fl_X11_16 dX11_root_120 rfl rfl rfl ?_
                refine V_iload dX11_root_123 rfl ?_
                refine V_iload dX11_root_125 rfl ?_
                refine V_iadd dX11_root_127 ?_
                obtain ⟨hi128, h⟩ := h
                refine V_ialdM dX11_root_128 rfl hi128 ?_
                obtain ⟨hi129, h⟩ := h
                refine V_iastN dX11_root_129 rfl hi129 (fun N129 e129 => ?_)
                replace h := h N129 e129
                refine V_iincC 1 dX11_root_130 (by decide) rfl (by decide) ?_
                refine V_goto 101 dX11_root_133 (by decide) ?_
                refine V_take 9 ?_
                exact hR101 _ _ h _ _ _ _
            · replace h := h.2 q85
              refine V_iconst (-1) dX11_root_88 (by decide) ?_
              exact V_reti dX11_root_89 rfl rfl h
          · replace h := h.2 q68
            refine V_bipush (-2) dX11_root_71 (by decide) ?_
            exact V_reti dX11_root_73 rfl rfl h
        · replace h := h.2 q45
          refine V_aload_n dX11_root_48 rfl ?_
          refine V_iload dX11_root_49 rfl ?_
          refine M_Vi mv_X11_fails lk_X11_153 dX11_root_51 rfl rfl (sX11_fails h) rfl rfl (Nat.le_of_ble_eq_true rfl) (by decide) (by decide) (fun v51 M51 h => ?_)
          exact V_reti dX11_root_54 rfl rfl h
      · replace h := h.2 q25
        refine V_bipush (-2) dX11_root_28 (by decide) ?_
        exact V_reti dX11_root_30 rfl rfl h
    · replace h := h.2 q16
      refine V_iconst (-1) dX11_root_19 (by decide) ?_
      exact V_reti dX11_root_20 rfl rfl h
def wX11_ofRoot (a1 : Int32) (a2 : Int32) (M : Mem) (Q : Int32 → Mem → Prop) : Prop :=
  wX11_isMeaning a1 M (fun v1 M1 => ((v1 = 0 →
      Q (-1) M1) ∧ (¬ v1 = 0 →
      wX11_within a2 (-1) 7 M1 (fun v11 M11 => ((¬ v11 = 0 →
          ((¬ a2 = (-1) →
            vp_in a1 6 ∧ (((M11 210 (Int32.toNatClampNeg a1)) ≤ a2 →
              Q (-9) M11) ∧ (¬ (M11 210 (Int32.toNatClampNeg a1)) ≤ a2 →
              vp_in ((8 * a1) + a2) 48 ∧ Q (M11 211 (Int32.toNatClampNeg ((8 * a1) + a2))) M11))) ∧ (a2 = (-1) →
            vp_in a1 6 ∧ Q (M11 210 (Int32.toNatClampNeg a1)) M11))) ∧ (v11 = 0 →
          Q (-1) M11))))))
set_option maxHeartbeats 1000000 in
set_option maxRecDepth 20000 in
theorem sX11_ofRoot {E : En} {a1 : Int32} {a2 : Int32} {M : Mem} {Q : Int32 → Mem → Prop} (h : wX11_ofRoot a1 a2 M Q) : CM E 3 mX11_ofRoot [.ref (E.2.2 49), .int a1, .int a2] M (Pi Q) := by
  unfold wX11_ofRoot at h
  refine CM.of (by decide) rfl (Nat.le_of_ble_eq_true rfl) ?_
  refine V_iload_n dX11_ofRoot_0 rfl ?_
  refine M_Si ms_X11_isMeaning lk_X11_173 dX11_ofRoot_1 (sX11_isMeaning h) rfl rfl (Nat.le_of_ble_eq_true rfl) (by decide) (by decide) (fun v1 M1 h => ?_)
  refine V_if_eq 17 dX11_ofRoot_4 (by decide) (fun q4 => ?_) (fun q4 => ?_)
  · replace h := h.1 q4
    refine V_iconst (-1) dX11_ofRoot_17 (by decide) ?_
    exact V_reti dX11_ofRoot_18 rfl rfl h
  · replace h := h.2 q4
    refine V_iload_n dX11_ofRoot_7 rfl ?_
    refine V_iconst (-1) dX11_ofRoot_8 (by decide) ?_
    refine V_bipush 7 dX11_ofRoot_9 (by decide) ?_
    refine M_Si ms_X11_within lk_X11_124 dX11_ofRoot_11 (sX11_within h) rfl rfl (Nat.le_of_ble_eq_true rfl) (by decide) (by decide) (fun v11 M11 h => ?_)
    refine V_if_ne 19 dX11_ofRoot_14 (by decide) (fun q14 => ?_) (fun q14 => ?_)
    · replace h := h.1 q14
      refine V_iload_n dX11_ofRoot_19 rfl ?_
      refine V_iconst (-1) dX11_ofRoot_20 (by decide) ?_
      refine V_icmp_ne 33 dX11_ofRoot_21 (by decide) (fun q21 => ?_) (fun q21 => ?_)
      · replace h := h.1 q21
        refine V_iload_n dX11_ofRoot_33 rfl ?_
        refine V_aload_n dX11_ofRoot_34 rfl ?_
        refine V_getR 210 fl_X11_58 dX11_ofRoot_35 rfl rfl rfl ?_
        refine V_iload_n dX11_ofRoot_38 rfl ?_
        obtain ⟨hi39, h⟩ := h
        refine V_ialdM dX11_ofRoot_39 rfl hi39 ?_
        refine V_icmp_ge 57 dX11_ofRoot_40 (by decide) (fun q40 => ?_) (fun q40 => ?_)
        · replace h := h.1 q40
          refine V_bipush (-9) dX11_ofRoot_57 (by decide) ?_
          exact V_reti dX11_ofRoot_59 rfl rfl h
        · replace h := h.2 q40
          refine V_aload_n dX11_ofRoot_43 rfl ?_
          refine V_getR 211 fl_X11_61 dX11_ofRoot_44 rfl rfl rfl ?_
          refine V_bipush 8 dX11_ofRoot_47 (by decide) ?_
          refine V_iload_n dX11_ofRoot_49 rfl ?_
          refine V_imul dX11_ofRoot_50 ?_
          refine V_iload_n dX11_ofRoot_51 rfl ?_
          refine V_iadd dX11_ofRoot_52 ?_
          obtain ⟨hi53, h⟩ := h
          refine V_ialdM dX11_ofRoot_53 rfl hi53 ?_
          refine V_goto 59 dX11_ofRoot_54 (by decide) ?_
          exact V_reti dX11_ofRoot_59 rfl rfl h
      · replace h := h.2 q21
        refine V_aload_n dX11_ofRoot_24 rfl ?_
        refine V_getR 210 fl_X11_58 dX11_ofRoot_25 rfl rfl rfl ?_
        refine V_iload_n dX11_ofRoot_28 rfl ?_
        obtain ⟨hi29, h⟩ := h
        refine V_ialdM dX11_ofRoot_29 rfl hi29 ?_
        refine V_goto 59 dX11_ofRoot_30 (by decide) ?_
        exact V_reti dX11_ofRoot_59 rfl rfl h
    · replace h := h.2 q14
      refine V_iconst (-1) dX11_ofRoot_17 (by decide) ?_
      exact V_reti dX11_ofRoot_18 rfl rfl h
def wX11_codeAt  (M : Mem) (Q : Int32 → Mem → Prop) : Prop :=
  (((M 49 29) ≤ (M 49 28) →
    Q (-9) M) ∧ (¬ (M 49 29) ≤ (M 49 28) →
    vp_in (M 49 28) 240 ∧ Q (M 194 (Int32.toNatClampNeg (M 49 28))) M))
set_option maxHeartbeats 1000000 in
set_option maxRecDepth 20000 in
theorem sX11_codeAt {E : En}  {M : Mem} {Q : Int32 → Mem → Prop} (h : wX11_codeAt  M Q) : CM E 1 mX11_codeAt [.ref (E.2.2 49)] M (Pi Q) := by
  unfold wX11_codeAt at h
  refine CM.of (by decide) rfl (Nat.le_of_ble_eq_true rfl) ?_
  refine V_aload_n dX11_codeAt_0 rfl ?_
  refine V_getI fl_X11_189 dX11_codeAt_1 rfl rfl ?_
  refine V_aload_n dX11_codeAt_4 rfl ?_
  refine V_getI fl_X11_192 dX11_codeAt_5 rfl rfl ?_
  refine V_icmp_ge 23 dX11_codeAt_8 (by decide) (fun q8 => ?_) (fun q8 => ?_)
  · replace h := h.1 q8
    refine V_bipush (-9) dX11_codeAt_23 (by decide) ?_
    exact V_reti dX11_codeAt_25 rfl rfl h
  · replace h := h.2 q8
    refine V_aload_n dX11_codeAt_11 rfl ?_
    refine V_getR 194 fl_X11_16 dX11_codeAt_12 rfl rfl rfl ?_
    refine V_aload_n dX11_codeAt_15 rfl ?_
    refine V_getI fl_X11_189 dX11_codeAt_16 rfl rfl ?_
    obtain ⟨hi19, h⟩ := h
    refine V_ialdM dX11_codeAt_19 rfl hi19 ?_
    refine V_goto 25 dX11_codeAt_20 (by decide) ?_
    exact V_reti dX11_codeAt_25 rfl rfl h
def wX11_readsTarget  (M : Mem) (Q : Int32 → Mem → Prop) : Prop :=
  wX11_codeAt  M (fun v1 M1 => wX11_within v1 97 112 M1 (fun v10 M10 => ((v10 = 0 →
        jn0 (fun (M46 : Mem) => (∀ N53, N53 = mset M46 49 28 ((M46 49 28) + 1) → wX11_codeAt  N53 (fun v57 M57 => wX11_within v57 48 53 M57 (fun v66 M66 => ((¬ v66 = 0 →
                (∀ N82, N82 = mset M66 49 28 ((M66 49 28) + 1) → jn1 (fun (y98_0 : Int32) (M98 : Mem) => Q ((y98_0 + v57) - 48) M98) (fun J98 => ((¬ v1 = 43 →
                    J98 24 N82) ∧ (v1 = 43 →
                    J98 16 N82))))) ∧ (v66 = 0 →
                Q (-9) M66)))))) (fun J46 => ((v1 = 43 →
            J46 M10) ∧ (¬ v1 = 43 →
            ((v1 = 45 →
              J46 M10) ∧ (¬ v1 = 45 →
              Q (-9) M10)))))) ∧ (¬ v10 = 0 →
        (∀ N23, N23 = mset M10 49 28 ((M10 49 28) + 1) → Q (v1 - 97) N23)))))
set_option maxHeartbeats 1000000 in
set_option maxRecDepth 20000 in
theorem sX11_readsTarget {E : En}  {M : Mem} {Q : Int32 → Mem → Prop} (h : wX11_readsTarget  M Q) : CM E 2 mX11_readsTarget [.ref (E.2.2 49)] M (Pi Q) := by
  unfold wX11_readsTarget at h
  refine CM.of (by decide) rfl (Nat.le_of_ble_eq_true rfl) ?_
  refine V_aload_n dX11_readsTarget_0 rfl ?_
  refine M_Vi mv_X11_codeAt lk_X11_195 dX11_readsTarget_1 rfl rfl (sX11_codeAt h) rfl rfl (Nat.le_of_ble_eq_true rfl) (by decide) (by decide) (fun v1 M1 h => ?_)
  refine V_istore_n dX11_readsTarget_4 (by decide) ?_
  refine V_iload_n dX11_readsTarget_5 rfl ?_
  refine V_bipush 97 dX11_readsTarget_6 (by decide) ?_
  refine V_bipush 112 dX11_readsTarget_8 (by decide) ?_
  refine M_Si ms_X11_within lk_X11_124 dX11_readsTarget_10 (sX11_within h) rfl rfl (Nat.le_of_ble_eq_true rfl) (by decide) (by decide) (fun v10 M10 h => ?_)
  refine V_if_eq 31 dX11_readsTarget_13 (by decide) (fun q13 => ?_) (fun q13 => ?_)
  · replace h := h.1 q13
    refine V_iload_n dX11_readsTarget_31 rfl ?_
    refine V_bipush 43 dX11_readsTarget_32 (by decide) ?_
    refine jn0_use (P := fun (M46 : Mem) => V (Km E 2 (Pi Q)) mX11_readsTarget 46 [.ref (E.2.2 49), .int v1] [] (wsM E.1 E.2.2 M46) 0 0) (fun M46 h => ?_) (fun J46 hJ46 h => ?_) h
    · refine V_aload_n dX11_readsTarget_46 rfl ?_
      refine V_dup dX11_readsTarget_47 rfl ?_
      refine V_getI fl_X11_189 dX11_readsTarget_48 rfl rfl ?_
      refine V_iconst 1 dX11_readsTarget_51 (by decide) ?_
      refine V_iadd dX11_readsTarget_52 ?_
      refine V_putN fp_X11_189 dX11_readsTarget_53 rfl rfl rfl rfl (fun N53 e53 => ?_)
      replace h := h N53 e53
      refine V_aload_n dX11_readsTarget_56 rfl ?_
      refine M_Vi mv_X11_codeAt lk_X11_195 dX11_readsTarget_57 rfl rfl (sX11_codeAt h) rfl rfl (Nat.le_of_ble_eq_true rfl) (by decide) (by decide) (fun v57 M57 h => ?_)
      refine V_istore_n dX11_readsTarget_60 (by decide) ?_
      refine V_iload_n dX11_readsTarget_61 rfl ?_
      refine V_bipush 48 dX11_readsTarget_62 (by decide) ?_
      refine V_bipush 53 dX11_readsTarget_64 (by decide) ?_
      refine M_Si ms_X11_within lk_X11_124 dX11_readsTarget_66 (sX11_within h) rfl rfl (Nat.le_of_ble_eq_true rfl) (by decide) (by decide) (fun v66 M66 h => ?_)
      refine V_if_ne 75 dX11_readsTarget_69 (by decide) (fun q69 => ?_) (fun q69 => ?_)
      · replace h := h.1 q69
        refine V_aload_n dX11_readsTarget_75 rfl ?_
        refine V_dup dX11_readsTarget_76 rfl ?_
        refine V_getI fl_X11_189 dX11_readsTarget_77 rfl rfl ?_
        refine V_iconst 1 dX11_readsTarget_80 (by decide) ?_
        refine V_iadd dX11_readsTarget_81 ?_
        refine V_putN fp_X11_189 dX11_readsTarget_82 rfl rfl rfl rfl (fun N82 e82 => ?_)
        replace h := h N82 e82
        refine V_iload_n dX11_readsTarget_85 rfl ?_
        refine V_bipush 43 dX11_readsTarget_86 (by decide) ?_
        refine jn1_use (P := fun (y98_0 : Int32) (M98 : Mem) => ∀ j98_0 : Value, ∀ j98_1 : Value, V (Km E 2 (Pi Q)) mX11_readsTarget 98 [j98_0, j98_1, .int v57] [.int y98_0] (wsM E.1 E.2.2 M98) 0 0) (fun y98_0 M98 h j98_0 j98_1 => ?_) (fun J98 hJ98 h => ?_) h
        · refine V_iload_n dX11_readsTarget_98 rfl ?_
          refine V_iadd dX11_readsTarget_99 ?_
          refine V_bipush 48 dX11_readsTarget_100 (by decide) ?_
          refine V_isub dX11_readsTarget_102 ?_
          exact V_reti dX11_readsTarget_103 rfl rfl h
        · refine V_icmp_ne 96 dX11_readsTarget_88 (by decide) (fun q88 => ?_) (fun q88 => ?_)
          · replace h := h.1 q88
            refine V_bipush 24 dX11_readsTarget_96 (by decide) ?_
            refine V_take 3 ?_
            exact hJ98 _ _ h _ _
          · replace h := h.2 q88
            refine V_bipush 16 dX11_readsTarget_91 (by decide) ?_
            refine V_goto 98 dX11_readsTarget_93 (by decide) ?_
            refine V_take 3 ?_
            exact hJ98 _ _ h _ _
      · replace h := h.2 q69
        refine V_bipush (-9) dX11_readsTarget_72 (by decide) ?_
        exact V_reti dX11_readsTarget_74 rfl rfl h
    · refine V_icmp_eq 46 dX11_readsTarget_34 (by decide) (fun q34 => ?_) (fun q34 => ?_)
      · replace h := h.1 q34
        refine V_take 2 ?_
        exact hJ46 _ h
      · replace h := h.2 q34
        refine V_iload_n dX11_readsTarget_37 rfl ?_
        refine V_bipush 45 dX11_readsTarget_38 (by decide) ?_
        refine V_icmp_eq 46 dX11_readsTarget_40 (by decide) (fun q40 => ?_) (fun q40 => ?_)
        · replace h := h.1 q40
          refine V_take 2 ?_
          exact hJ46 _ h
        · replace h := h.2 q40
          refine V_bipush (-9) dX11_readsTarget_43 (by decide) ?_
          exact V_reti dX11_readsTarget_45 rfl rfl h
  · replace h := h.2 q13
    refine V_aload_n dX11_readsTarget_16 rfl ?_
    refine V_dup dX11_readsTarget_17 rfl ?_
    refine V_getI fl_X11_189 dX11_readsTarget_18 rfl rfl ?_
    refine V_iconst 1 dX11_readsTarget_21 (by decide) ?_
    refine V_iadd dX11_readsTarget_22 ?_
    refine V_putN fp_X11_189 dX11_readsTarget_23 rfl rfl rfl rfl (fun N23 e23 => ?_)
    replace h := h N23 e23
    refine V_iload_n dX11_readsTarget_26 rfl ?_
    refine V_bipush 97 dX11_readsTarget_27 (by decide) ?_
    refine V_isub dX11_readsTarget_29 ?_
    exact V_reti dX11_readsTarget_30 rfl rfl h
def wX11_readsSide (a1 : Int32) (M : Mem) (Q : Int32 → Mem → Prop) : Prop :=
  wX11_codeAt  M (fun v1 M1 => ((¬ v1 = a1 →
      wX11_codeAt  M1 (fun v12 M12 => ((¬ v12 = 35 →
          wX11_readsTarget  M12 (fun v34 M34 => Q v34 M34)) ∧ (v12 = 35 →
          (∀ N27, N27 = mset M12 49 28 ((M12 49 28) + 1) → Q 41 N27))))) ∧ (v1 = a1 →
      Q 40 M1)))
set_option maxHeartbeats 1000000 in
set_option maxRecDepth 20000 in
theorem sX11_readsSide {E : En} {a1 : Int32} {M : Mem} {Q : Int32 → Mem → Prop} (h : wX11_readsSide a1 M Q) : CM E 3 mX11_readsSide [.ref (E.2.2 49), .int a1] M (Pi Q) := by
  unfold wX11_readsSide at h
  refine CM.of (by decide) rfl (Nat.le_of_ble_eq_true rfl) ?_
  refine V_aload_n dX11_readsSide_0 rfl ?_
  refine M_Vi mv_X11_codeAt lk_X11_195 dX11_readsSide_1 rfl rfl (sX11_codeAt h) rfl rfl (Nat.le_of_ble_eq_true rfl) (by decide) (by decide) (fun v1 M1 h => ?_)
  refine V_iload_n dX11_readsSide_4 rfl ?_
  refine V_icmp_ne 11 dX11_readsSide_5 (by decide) (fun q5 => ?_) (fun q5 => ?_)
  · replace h := h.1 q5
    refine V_aload_n dX11_readsSide_11 rfl ?_
    refine M_Vi mv_X11_codeAt lk_X11_195 dX11_readsSide_12 rfl rfl (sX11_codeAt h) rfl rfl (Nat.le_of_ble_eq_true rfl) (by decide) (by decide) (fun v12 M12 h => ?_)
    refine V_bipush 35 dX11_readsSide_15 (by decide) ?_
    refine V_icmp_ne 33 dX11_readsSide_17 (by decide) (fun q17 => ?_) (fun q17 => ?_)
    · replace h := h.1 q17
      refine V_aload_n dX11_readsSide_33 rfl ?_
      refine M_Vi mv_X11_readsTarget lk_X11_199 dX11_readsSide_34 rfl rfl (sX11_readsTarget h) rfl rfl (Nat.le_of_ble_eq_true rfl) (by decide) (by decide) (fun v34 M34 h => ?_)
      exact V_reti dX11_readsSide_37 rfl rfl h
    · replace h := h.2 q17
      refine V_aload_n dX11_readsSide_20 rfl ?_
      refine V_dup dX11_readsSide_21 rfl ?_
      refine V_getI fl_X11_189 dX11_readsSide_22 rfl rfl ?_
      refine V_iconst 1 dX11_readsSide_25 (by decide) ?_
      refine V_iadd dX11_readsSide_26 ?_
      refine V_putN fp_X11_189 dX11_readsSide_27 rfl rfl rfl rfl (fun N27 e27 => ?_)
      replace h := h N27 e27
      refine V_bipush 41 dX11_readsSide_30 (by decide) ?_
      exact V_reti dX11_readsSide_32 rfl rfl h
  · replace h := h.2 q5
    refine V_bipush 40 dX11_readsSide_8 (by decide) ?_
    exact V_reti dX11_readsSide_10 rfl rfl h
def wX11_readsLaw (a1 : Nat) (M : Mem) (Q : Int32 → Mem → Prop) : Prop :=
  kd a1 = 20 ∧ wX11_readsTarget  M (fun v3 M3 => vp_in 0 (ln a1) ∧ (∀ N6, N6 = mset M3 a1 (Int32.toNatClampNeg 0) v3 → (((N6 a1 (Int32.toNatClampNeg 0)) = (-9) →
      Q 0 N6) ∧ (¬ (N6 a1 (Int32.toNatClampNeg 0)) = (-9) →
      wX11_codeAt  N6 (fun v16 M16 => ((v16 = 62 →
          (∀ N33, N33 = mset M16 49 28 ((M16 49 28) + 1) → wX11_codeAt  N33 (fun v37 M37 => jn0 (fun (M60 : Mem) => jn1 (fun (y77_0 : Int32) (M77 : Mem) => vp_in 1 (ln a1) ∧ (∀ N77, N77 = mset M77 a1 (Int32.toNatClampNeg 1) y77_0 → vp_in 2 (ln a1) ∧ (∀ N82, N82 = mset N77 a1 (Int32.toNatClampNeg 2) 40 → vp_in 3 (ln a1) ∧ (∀ N87, N87 = mset N82 a1 (Int32.toNatClampNeg 3) 40 → (∀ N95, N95 = mset N87 49 28 ((N87 49 28) + 1) → ((¬ (N95 49 28) = (N95 49 29) →
                  wX11_codeAt  N95 (fun v112 M112 => ((v112 = 47 →
                      (∀ N129, N129 = mset M112 49 28 ((M112 49 28) + 1) → wX11_readsSide 95 N129 (fun v137 M137 => (∀ N140, N140 = mset M137 a1 (Int32.toNatClampNeg 2) v137 → (((N140 a1 (Int32.toNatClampNeg 2)) = (-9) →
                          Q 0 N140) ∧ (¬ (N140 a1 (Int32.toNatClampNeg 2)) = (-9) →
                          wX11_codeAt  N140 (fun v150 M150 => ((v150 = 95 →
                              (∀ N167, N167 = mset M150 49 28 ((M150 49 28) + 1) → wX11_readsSide (-9) N167 (fun v175 M175 => (∀ N178, N178 = mset M175 a1 (Int32.toNatClampNeg 3) v175 → (((N178 a1 (Int32.toNatClampNeg 3)) = (-9) →
                                  Q 0 N178) ∧ (¬ (N178 a1 (Int32.toNatClampNeg 3)) = (-9) →
                                  ((¬ (N178 49 28) = (N178 49 29) →
                                    Q 0 N178) ∧ ((N178 49 28) = (N178 49 29) →
                                    Q 1 N178)))))))) ∧ (¬ v150 = 95 →
                              Q 0 M150))))))))) ∧ (¬ v112 = 47 →
                      Q 0 M112)))) ∧ ((N95 49 28) = (N95 49 29) →
                  Q 1 N95))))))) (fun J77 => ((¬ v37 = 48 →
                  J77 (v37 - 97) M60) ∧ (v37 = 48 →
                  J77 42 M60)))) (fun J60 => ((v37 = 48 →
                J60 M37) ∧ (¬ v37 = 48 →
                wX11_within v37 97 112 M37 (fun v52 M52 => ((¬ v52 = 0 →
                    J60 M52) ∧ (v52 = 0 →
                    Q 0 M52))))))))) ∧ (¬ v16 = 62 →
          Q 0 M16)))))))
set_option maxHeartbeats 1000000 in
set_option maxRecDepth 20000 in
theorem sX11_readsLaw {E : En} {a1 : Nat} {M : Mem} {Q : Int32 → Mem → Prop} (h : wX11_readsLaw a1 M Q) : CM E 4 mX11_readsLaw [.ref (E.2.2 49), .ref (E.2.2 a1)] M (Pi Q) := by
  unfold wX11_readsLaw at h
  obtain ⟨hk1, h⟩ := h
  refine CM.of (by decide) rfl (Nat.le_of_ble_eq_true rfl) ?_
  refine V_aload_n dX11_readsLaw_0 rfl ?_
  refine V_iconst 0 dX11_readsLaw_1 (by decide) ?_
  refine V_aload_n dX11_readsLaw_2 rfl ?_
  refine M_Vi mv_X11_readsTarget lk_X11_199 dX11_readsLaw_3 rfl rfl (sX11_readsTarget h) rfl rfl (Nat.le_of_ble_eq_true rfl) (by decide) (by decide) (fun v3 M3 h => ?_)
  obtain ⟨hi6, h⟩ := h
  refine V_iastN dX11_readsLaw_6 hk1 hi6 (fun N6 e6 => ?_)
  replace h := h N6 e6
  refine V_aload_n dX11_readsLaw_7 rfl ?_
  refine V_iconst 0 dX11_readsLaw_8 (by decide) ?_
  refine V_ialdM dX11_readsLaw_9 hk1 hi6 ?_
  refine V_bipush (-9) dX11_readsLaw_10 (by decide) ?_
  refine V_icmp_eq 24 dX11_readsLaw_12 (by decide) (fun q12 => ?_) (fun q12 => ?_)
  · replace h := h.1 q12
    refine V_iconst 0 dX11_readsLaw_24 (by decide) ?_
    exact V_reti dX11_readsLaw_25 rfl rfl h
  · replace h := h.2 q12
    refine V_aload_n dX11_readsLaw_15 rfl ?_
    refine M_Vi mv_X11_codeAt lk_X11_195 dX11_readsLaw_16 rfl rfl (sX11_codeAt h) rfl rfl (Nat.le_of_ble_eq_true rfl) (by decide) (by decide) (fun v16 M16 h => ?_)
    refine V_bipush 62 dX11_readsLaw_19 (by decide) ?_
    refine V_icmp_eq 26 dX11_readsLaw_21 (by decide) (fun q21 => ?_) (fun q21 => ?_)
    · replace h := h.1 q21
      refine V_aload_n dX11_readsLaw_26 rfl ?_
      refine V_dup dX11_readsLaw_27 rfl ?_
      refine V_getI fl_X11_189 dX11_readsLaw_28 rfl rfl ?_
      refine V_iconst 1 dX11_readsLaw_31 (by decide) ?_
      refine V_iadd dX11_readsLaw_32 ?_
      refine V_putN fp_X11_189 dX11_readsLaw_33 rfl rfl rfl rfl (fun N33 e33 => ?_)
      replace h := h N33 e33
      refine V_aload_n dX11_readsLaw_36 rfl ?_
      refine M_Vi mv_X11_codeAt lk_X11_195 dX11_readsLaw_37 rfl rfl (sX11_codeAt h) rfl rfl (Nat.le_of_ble_eq_true rfl) (by decide) (by decide) (fun v37 M37 h => ?_)
      refine V_istore_n dX11_readsLaw_40 (by decide) ?_
      refine V_iload_n dX11_readsLaw_41 rfl ?_
      refine V_bipush 48 dX11_readsLaw_42 (by decide) ?_
      refine jn0_use (P := fun (M60 : Mem) => V (Km E 4 (Pi Q)) mX11_readsLaw 60 [.ref (E.2.2 49), .ref (E.2.2 a1), .int v37] [] (wsM E.1 E.2.2 M60) 0 0) (fun M60 h => ?_) (fun J60 hJ60 h => ?_) h
      · refine V_aload_n dX11_readsLaw_60 rfl ?_
        refine V_iconst 1 dX11_readsLaw_61 (by decide) ?_
        refine V_iload_n dX11_readsLaw_62 rfl ?_
        refine V_bipush 48 dX11_readsLaw_63 (by decide) ?_
        refine jn1_use (P := fun (y77_0 : Int32) (M77 : Mem) => ∀ j77_2 : Value, V (Km E 4 (Pi Q)) mX11_readsLaw 77 [.ref (E.2.2 49), .ref (E.2.2 a1), j77_2] [.int y77_0, .int 1, .ref (E.2.2 a1)] (wsM E.1 E.2.2 M77) 0 0) (fun y77_0 M77 h j77_2 => ?_) (fun J77 hJ77 h => ?_) h
        · obtain ⟨hi77, h⟩ := h
          refine V_iastN dX11_readsLaw_77 hk1 hi77 (fun N77 e77 => ?_)
          replace h := h N77 e77
          refine V_aload_n dX11_readsLaw_78 rfl ?_
          refine V_iconst 2 dX11_readsLaw_79 (by decide) ?_
          refine V_bipush 40 dX11_readsLaw_80 (by decide) ?_
          obtain ⟨hi82, h⟩ := h
          refine V_iastN dX11_readsLaw_82 hk1 hi82 (fun N82 e82 => ?_)
          replace h := h N82 e82
          refine V_aload_n dX11_readsLaw_83 rfl ?_
          refine V_iconst 3 dX11_readsLaw_84 (by decide) ?_
          refine V_bipush 40 dX11_readsLaw_85 (by decide) ?_
          obtain ⟨hi87, h⟩ := h
          refine V_iastN dX11_readsLaw_87 hk1 hi87 (fun N87 e87 => ?_)
          replace h := h N87 e87
          refine V_aload_n dX11_readsLaw_88 rfl ?_
          refine V_dup dX11_readsLaw_89 rfl ?_
          refine V_getI fl_X11_189 dX11_readsLaw_90 rfl rfl ?_
          refine V_iconst 1 dX11_readsLaw_93 (by decide) ?_
          refine V_iadd dX11_readsLaw_94 ?_
          refine V_putN fp_X11_189 dX11_readsLaw_95 rfl rfl rfl rfl (fun N95 e95 => ?_)
          replace h := h N95 e95
          refine V_aload_n dX11_readsLaw_98 rfl ?_
          refine V_getI fl_X11_189 dX11_readsLaw_99 rfl rfl ?_
          refine V_aload_n dX11_readsLaw_102 rfl ?_
          refine V_getI fl_X11_192 dX11_readsLaw_103 rfl rfl ?_
          refine V_icmp_ne 111 dX11_readsLaw_106 (by decide) (fun q106 => ?_) (fun q106 => ?_)
          · replace h := h.1 q106
            refine V_aload_n dX11_readsLaw_111 rfl ?_
            refine M_Vi mv_X11_codeAt lk_X11_195 dX11_readsLaw_112 rfl rfl (sX11_codeAt h) rfl rfl (Nat.le_of_ble_eq_true rfl) (by decide) (by decide) (fun v112 M112 h => ?_)
            refine V_bipush 47 dX11_readsLaw_115 (by decide) ?_
            refine V_icmp_eq 122 dX11_readsLaw_117 (by decide) (fun q117 => ?_) (fun q117 => ?_)
            · replace h := h.1 q117
              refine V_aload_n dX11_readsLaw_122 rfl ?_
              refine V_dup dX11_readsLaw_123 rfl ?_
              refine V_getI fl_X11_189 dX11_readsLaw_124 rfl rfl ?_
              refine V_iconst 1 dX11_readsLaw_127 (by decide) ?_
              refine V_iadd dX11_readsLaw_128 ?_
              refine V_putN fp_X11_189 dX11_readsLaw_129 rfl rfl rfl rfl (fun N129 e129 => ?_)
              replace h := h N129 e129
              refine V_aload_n dX11_readsLaw_132 rfl ?_
              refine V_iconst 2 dX11_readsLaw_133 (by decide) ?_
              refine V_aload_n dX11_readsLaw_134 rfl ?_
              refine V_bipush 95 dX11_readsLaw_135 (by decide) ?_
              refine M_Vi mv_X11_readsSide lk_X11_202 dX11_readsLaw_137 rfl rfl (sX11_readsSide h) rfl rfl (Nat.le_of_ble_eq_true rfl) (by decide) (by decide) (fun v137 M137 h => ?_)
              refine V_iastN dX11_readsLaw_140 hk1 hi82 (fun N140 e140 => ?_)
              replace h := h N140 e140
              refine V_aload_n dX11_readsLaw_141 rfl ?_
              refine V_iconst 2 dX11_readsLaw_142 (by decide) ?_
              refine V_ialdM dX11_readsLaw_143 hk1 hi82 ?_
              refine V_bipush (-9) dX11_readsLaw_144 (by decide) ?_
              refine V_icmp_eq 158 dX11_readsLaw_146 (by decide) (fun q146 => ?_) (fun q146 => ?_)
              · replace h := h.1 q146
                refine V_iconst 0 dX11_readsLaw_158 (by decide) ?_
                exact V_reti dX11_readsLaw_159 rfl rfl h
              · replace h := h.2 q146
                refine V_aload_n dX11_readsLaw_149 rfl ?_
                refine M_Vi mv_X11_codeAt lk_X11_195 dX11_readsLaw_150 rfl rfl (sX11_codeAt h) rfl rfl (Nat.le_of_ble_eq_true rfl) (by decide) (by decide) (fun v150 M150 h => ?_)
                refine V_bipush 95 dX11_readsLaw_153 (by decide) ?_
                refine V_icmp_eq 160 dX11_readsLaw_155 (by decide) (fun q155 => ?_) (fun q155 => ?_)
                · replace h := h.1 q155
                  refine V_aload_n dX11_readsLaw_160 rfl ?_
                  refine V_dup dX11_readsLaw_161 rfl ?_
                  refine V_getI fl_X11_189 dX11_readsLaw_162 rfl rfl ?_
                  refine V_iconst 1 dX11_readsLaw_165 (by decide) ?_
                  refine V_iadd dX11_readsLaw_166 ?_
                  refine V_putN fp_X11_189 dX11_readsLaw_167 rfl rfl rfl rfl (fun N167 e167 => ?_)
                  replace h := h N167 e167
                  refine V_aload_n dX11_readsLaw_170 rfl ?_
                  refine V_iconst 3 dX11_readsLaw_171 (by decide) ?_
                  refine V_aload_n dX11_readsLaw_172 rfl ?_
                  refine V_bipush (-9) dX11_readsLaw_173 (by decide) ?_
                  refine M_Vi mv_X11_readsSide lk_X11_202 dX11_readsLaw_175 rfl rfl (sX11_readsSide h) rfl rfl (Nat.le_of_ble_eq_true rfl) (by decide) (by decide) (fun v175 M175 h => ?_)
                  refine V_iastN dX11_readsLaw_178 hk1 hi87 (fun N178 e178 => ?_)
                  replace h := h N178 e178
                  refine V_aload_n dX11_readsLaw_179 rfl ?_
                  refine V_iconst 3 dX11_readsLaw_180 (by decide) ?_
                  refine V_ialdM dX11_readsLaw_181 hk1 hi87 ?_
                  refine V_bipush (-9) dX11_readsLaw_182 (by decide) ?_
                  refine V_icmp_eq 202 dX11_readsLaw_184 (by decide) (fun q184 => ?_) (fun q184 => ?_)
                  · replace h := h.1 q184
                    refine V_iconst 0 dX11_readsLaw_202 (by decide) ?_
                    exact V_reti dX11_readsLaw_203 rfl rfl h
                  · replace h := h.2 q184
                    refine V_aload_n dX11_readsLaw_187 rfl ?_
                    refine V_getI fl_X11_189 dX11_readsLaw_188 rfl rfl ?_
                    refine V_aload_n dX11_readsLaw_191 rfl ?_
                    refine V_getI fl_X11_192 dX11_readsLaw_192 rfl rfl ?_
                    refine V_icmp_ne 202 dX11_readsLaw_195 (by decide) (fun q195 => ?_) (fun q195 => ?_)
                    · replace h := h.1 q195
                      refine V_iconst 0 dX11_readsLaw_202 (by decide) ?_
                      exact V_reti dX11_readsLaw_203 rfl rfl h
                    · replace h := h.2 q195
                      refine V_iconst 1 dX11_readsLaw_198 (by decide) ?_
                      refine V_goto 203 dX11_readsLaw_199 (by decide) ?_
                      exact V_reti dX11_readsLaw_203 rfl rfl h
                · replace h := h.2 q155
                  refine V_iconst 0 dX11_readsLaw_158 (by decide) ?_
                  exact V_reti dX11_readsLaw_159 rfl rfl h
            · replace h := h.2 q117
              refine V_iconst 0 dX11_readsLaw_120 (by decide) ?_
              exact V_reti dX11_readsLaw_121 rfl rfl h
          · replace h := h.2 q106
            refine V_iconst 1 dX11_readsLaw_109 (by decide) ?_
            exact V_reti dX11_readsLaw_110 rfl rfl h
        · refine V_icmp_ne 73 dX11_readsLaw_65 (by decide) (fun q65 => ?_) (fun q65 => ?_)
          · replace h := h.1 q65
            refine V_iload_n dX11_readsLaw_73 rfl ?_
            refine V_bipush 97 dX11_readsLaw_74 (by decide) ?_
            refine V_isub dX11_readsLaw_76 ?_
            refine V_take 3 ?_
            exact hJ77 _ _ h _
          · replace h := h.2 q65
            refine V_bipush 42 dX11_readsLaw_68 (by decide) ?_
            refine V_goto 77 dX11_readsLaw_70 (by decide) ?_
            refine V_take 3 ?_
            exact hJ77 _ _ h _
      · refine V_icmp_eq 60 dX11_readsLaw_44 (by decide) (fun q44 => ?_) (fun q44 => ?_)
        · replace h := h.1 q44
          refine V_take 3 ?_
          exact hJ60 _ h
        · replace h := h.2 q44
          refine V_iload_n dX11_readsLaw_47 rfl ?_
          refine V_bipush 97 dX11_readsLaw_48 (by decide) ?_
          refine V_bipush 112 dX11_readsLaw_50 (by decide) ?_
          refine M_Si ms_X11_within lk_X11_124 dX11_readsLaw_52 (sX11_within h) rfl rfl (Nat.le_of_ble_eq_true rfl) (by decide) (by decide) (fun v52 M52 h => ?_)
          refine V_if_ne 60 dX11_readsLaw_55 (by decide) (fun q55 => ?_) (fun q55 => ?_)
          · replace h := h.1 q55
            refine V_take 3 ?_
            exact hJ60 _ h
          · replace h := h.2 q55
            refine V_iconst 0 dX11_readsLaw_58 (by decide) ?_
            exact V_reti dX11_readsLaw_59 rfl rfl h
    · replace h := h.2 q21
      refine V_iconst 0 dX11_readsLaw_24 (by decide) ?_
      exact V_reti dX11_readsLaw_25 rfl rfl h
def wX11_law (a1 : Int32) (a2 : Int32) (a3 : Int32) (a4 : Int32) (a5 : Int32) (M : Mem) (Q : Int32 → Mem → Prop) : Prop :=
  (∀ N2, N2 = mset M 49 0 0 → wX11_isSheet a2 N2 (fun v6 M6 => ((¬ v6 = 0 →
      wX11_within a1 0 ((1 <<< ((M6 49 11) &&& 31)) - 1) M6 (fun v24 M24 => ((v24 = 0 →
          Q (-2) M24) ∧ (¬ v24 = 0 →
          wX11_isLane a3 M24 (fun v31 M31 => ((¬ v31 = 0 →
              wX11_against a2 a3 a4 a5 M31 (fun v47 M47 => ((v47 = 0 →
                  (∀ N76, N76 = mset M47 49 28 ((60 * a2) + a4) → (∀ N85, N85 = mset N76 49 29 (((60 * a2) + a4) + a5) → wX11_readsLaw 220 N85 (fun v93 M93 => ((¬ v93 = 0 →
                      ((¬ (M93 49 22) = 8 →
                        vp_in (M93 49 22) 8 ∧ (∀ N131, N131 = mset M93 213 (Int32.toNatClampNeg (M93 49 22)) a1 → vp_in 0 4 ∧ vp_in (N131 49 22) 8 ∧ (∀ N146, N146 = mset N131 214 (Int32.toNatClampNeg (N131 49 22)) (N131 220 (Int32.toNatClampNeg 0)) → vp_in 1 4 ∧ vp_in (N146 49 22) 8 ∧ (∀ N161, N161 = mset N146 215 (Int32.toNatClampNeg (N146 49 22)) (N146 220 (Int32.toNatClampNeg 1)) → vp_in 2 4 ∧ vp_in (N161 49 22) 8 ∧ (∀ N176, N176 = mset N161 216 (Int32.toNatClampNeg (N161 49 22)) (N161 220 (Int32.toNatClampNeg 2)) → vp_in 3 4 ∧ vp_in (N176 49 22) 8 ∧ (∀ N191, N191 = mset N176 217 (Int32.toNatClampNeg (N176 49 22)) (N176 220 (Int32.toNatClampNeg 3)) → (∀ N199, N199 = mset N191 49 22 ((N191 49 22) + 1) → Q ((N199 49 22) - 1) N199))))))) ∧ ((M93 49 22) = 8 →
                        Q (-4) M93))) ∧ (v93 = 0 →
                      Q ((-100) - ((M93 49 28) - ((60 * a2) + a4))) M93)))))) ∧ (¬ v47 = 0 →
                  wX11_fails v47 M47 (fun v60 M60 => Q v60 M60))))) ∧ (v31 = 0 →
              Q (-2) M31))))))) ∧ (v6 = 0 →
      Q (-1) M6))))
set_option maxHeartbeats 1000000 in
set_option maxRecDepth 20000 in
theorem sX11_law {E : En} {a1 : Int32} {a2 : Int32} {a3 : Int32} {a4 : Int32} {a5 : Int32} {M : Mem} {Q : Int32 → Mem → Prop} (h : wX11_law a1 a2 a3 a4 a5 M Q) : CM E 5 mX11_law [.ref (E.2.2 49), .int a1, .int a2, .int a3, .int a4, .int a5] M (Pi Q) := by
  unfold wX11_law at h
  refine CM.of (by decide) rfl (Nat.le_of_ble_eq_true rfl) ?_
  refine V_aload_n dX11_law_0 rfl ?_
  refine V_iconst 0 dX11_law_1 (by decide) ?_
  refine V_putN fp_X11_119 dX11_law_2 rfl rfl rfl rfl (fun N2 e2 => ?_)
  replace h := h N2 e2
  refine V_iload_n dX11_law_5 rfl ?_
  refine M_Si ms_X11_isSheet lk_X11_143 dX11_law_6 (sX11_isSheet h) rfl rfl (Nat.le_of_ble_eq_true rfl) (by decide) (by decide) (fun v6 M6 h => ?_)
  refine V_if_ne 14 dX11_law_9 (by decide) (fun q9 => ?_) (fun q9 => ?_)
  · replace h := h.1 q9
    refine V_iload_n dX11_law_14 rfl ?_
    refine V_iconst 0 dX11_law_15 (by decide) ?_
    refine V_iconst 1 dX11_law_16 (by decide) ?_
    refine V_aload_n dX11_law_17 rfl ?_
    refine V_getI fl_X11_164 dX11_law_18 rfl rfl ?_
    refine V_ishl dX11_law_21 ?_
    refine V_iconst 1 dX11_law_22 (by decide) ?_
    refine V_isub dX11_law_23 ?_
    refine M_Si ms_X11_within lk_X11_124 dX11_law_24 (sX11_within h) rfl rfl (Nat.le_of_ble_eq_true rfl) (by decide) (by decide) (fun v24 M24 h => ?_)
    refine V_if_eq 37 dX11_law_27 (by decide) (fun q27 => ?_) (fun q27 => ?_)
    · replace h := h.1 q27
      refine V_bipush (-2) dX11_law_37 (by decide) ?_
      exact V_reti dX11_law_39 rfl rfl h
    · replace h := h.2 q27
      refine V_iload_n dX11_law_30 rfl ?_
      refine M_Si ms_X11_isLane lk_X11_146 dX11_law_31 (sX11_isLane h) rfl rfl (Nat.le_of_ble_eq_true rfl) (by decide) (by decide) (fun v31 M31 h => ?_)
      refine V_if_ne 40 dX11_law_34 (by decide) (fun q34 => ?_) (fun q34 => ?_)
      · replace h := h.1 q34
        refine V_aload_n dX11_law_40 rfl ?_
        refine V_iload_n dX11_law_41 rfl ?_
        refine V_iload_n dX11_law_42 rfl ?_
        refine V_iload dX11_law_43 rfl ?_
        refine V_iload dX11_law_45 rfl ?_
        refine M_Vi mv_X11_against lk_X11_149 dX11_law_47 rfl rfl (sX11_against h) rfl rfl (Nat.le_of_ble_eq_true rfl) (by decide) (by decide) (fun v47 M47 h => ?_)
        refine V_istore dX11_law_50 (by decide) ?_
        refine V_iload dX11_law_52 rfl ?_
        refine V_if_eq 64 dX11_law_54 (by decide) (fun q54 => ?_) (fun q54 => ?_)
        · replace h := h.1 q54
          refine V_bipush 60 dX11_law_64 (by decide) ?_
          refine V_iload_n dX11_law_66 rfl ?_
          refine V_imul dX11_law_67 ?_
          refine V_iload dX11_law_68 rfl ?_
          refine V_iadd dX11_law_70 ?_
          refine V_istore dX11_law_71 (by decide) ?_
          refine V_aload_n dX11_law_73 rfl ?_
          refine V_iload dX11_law_74 rfl ?_
          refine V_putN fp_X11_189 dX11_law_76 rfl rfl rfl rfl (fun N76 e76 => ?_)
          replace h := h N76 e76
          refine V_aload_n dX11_law_79 rfl ?_
          refine V_iload dX11_law_80 rfl ?_
          refine V_iload dX11_law_82 rfl ?_
          refine V_iadd dX11_law_84 ?_
          refine V_putN fp_X11_192 dX11_law_85 rfl rfl rfl rfl (fun N85 e85 => ?_)
          replace h := h N85 e85
          refine V_aload_n dX11_law_88 rfl ?_
          refine V_aload_n dX11_law_89 rfl ?_
          refine V_getR 220 fl_X11_79 dX11_law_90 rfl rfl rfl ?_
          refine M_Vi mv_X11_readsLaw lk_X11_205 dX11_law_93 rfl rfl (sX11_readsLaw h) rfl rfl (Nat.le_of_ble_eq_true rfl) (by decide) (by decide) (fun v93 M93 h => ?_)
          refine V_if_ne 110 dX11_law_96 (by decide) (fun q96 => ?_) (fun q96 => ?_)
          · replace h := h.1 q96
            refine V_aload_n dX11_law_110 rfl ?_
            refine V_getI fl_X11_209 dX11_law_111 rfl rfl ?_
            refine V_bipush 8 dX11_law_114 (by decide) ?_
            refine V_icmp_ne 122 dX11_law_116 (by decide) (fun q116 => ?_) (fun q116 => ?_)
            · replace h := h.1 q116
              refine V_aload_n dX11_law_122 rfl ?_
              refine V_getR 213 fl_X11_64 dX11_law_123 rfl rfl rfl ?_
              refine V_aload_n dX11_law_126 rfl ?_
              refine V_getI fl_X11_209 dX11_law_127 rfl rfl ?_
              refine V_iload_n dX11_law_130 rfl ?_
              obtain ⟨hi131, h⟩ := h
              refine V_iastN dX11_law_131 rfl hi131 (fun N131 e131 => ?_)
              replace h := h N131 e131
              refine V_aload_n dX11_law_132 rfl ?_
              refine V_getR 214 fl_X11_67 dX11_law_133 rfl rfl rfl ?_
              refine V_aload_n dX11_law_136 rfl ?_
              refine V_getI fl_X11_209 dX11_law_137 rfl rfl ?_
              refine V_aload_n dX11_law_140 rfl ?_
              refine V_getR 220 fl_X11_79 dX11_law_141 rfl rfl rfl ?_
              refine V_iconst 0 dX11_law_144 (by decide) ?_
              obtain ⟨hi145, h⟩ := h
              refine V_ialdM dX11_law_145 rfl hi145 ?_
              obtain ⟨hi146, h⟩ := h
              refine V_iastN dX11_law_146 rfl hi146 (fun N146 e146 => ?_)
              replace h := h N146 e146
              refine V_aload_n dX11_law_147 rfl ?_
              refine V_getR 215 fl_X11_70 dX11_law_148 rfl rfl rfl ?_
              refine V_aload_n dX11_law_151 rfl ?_
              refine V_getI fl_X11_209 dX11_law_152 rfl rfl ?_
              refine V_aload_n dX11_law_155 rfl ?_
              refine V_getR 220 fl_X11_79 dX11_law_156 rfl rfl rfl ?_
              refine V_iconst 1 dX11_law_159 (by decide) ?_
              obtain ⟨hi160, h⟩ := h
              refine V_ialdM dX11_law_160 rfl hi160 ?_
              obtain ⟨hi161, h⟩ := h
              refine V_iastN dX11_law_161 rfl hi161 (fun N161 e161 => ?_)
              replace h := h N161 e161
              refine V_aload_n dX11_law_162 rfl ?_
              refine V_getR 216 fl_X11_73 dX11_law_163 rfl rfl rfl ?_
              refine V_aload_n dX11_law_166 rfl ?_
              refine V_getI fl_X11_209 dX11_law_167 rfl rfl ?_
              refine V_aload_n dX11_law_170 rfl ?_
              refine V_getR 220 fl_X11_79 dX11_law_171 rfl rfl rfl ?_
              refine V_iconst 2 dX11_law_174 (by decide) ?_
              obtain ⟨hi175, h⟩ := h
              refine V_ialdM dX11_law_175 rfl hi175 ?_
              obtain ⟨hi176, h⟩ := h
              refine V_iastN dX11_law_176 rfl hi176 (fun N176 e176 => ?_)
              replace h := h N176 e176
              refine V_aload_n dX11_law_177 rfl ?_
              refine V_getR 217 fl_X11_76 dX11_law_178 rfl rfl rfl ?_
              refine V_aload_n dX11_law_181 rfl ?_
              refine V_getI fl_X11_209 dX11_law_182 rfl rfl ?_
              refine V_aload_n dX11_law_185 rfl ?_
              refine V_getR 220 fl_X11_79 dX11_law_186 rfl rfl rfl ?_
              refine V_iconst 3 dX11_law_189 (by decide) ?_
              obtain ⟨hi190, h⟩ := h
              refine V_ialdM dX11_law_190 rfl hi190 ?_
              obtain ⟨hi191, h⟩ := h
              refine V_iastN dX11_law_191 rfl hi191 (fun N191 e191 => ?_)
              replace h := h N191 e191
              refine V_aload_n dX11_law_192 rfl ?_
              refine V_dup dX11_law_193 rfl ?_
              refine V_getI fl_X11_209 dX11_law_194 rfl rfl ?_
              refine V_iconst 1 dX11_law_197 (by decide) ?_
              refine V_iadd dX11_law_198 ?_
              refine V_putN fp_X11_209 dX11_law_199 rfl rfl rfl rfl (fun N199 e199 => ?_)
              replace h := h N199 e199
              refine V_aload_n dX11_law_202 rfl ?_
              refine V_getI fl_X11_209 dX11_law_203 rfl rfl ?_
              refine V_iconst 1 dX11_law_206 (by decide) ?_
              refine V_isub dX11_law_207 ?_
              exact V_reti dX11_law_208 rfl rfl h
            · replace h := h.2 q116
              refine V_bipush (-4) dX11_law_119 (by decide) ?_
              exact V_reti dX11_law_121 rfl rfl h
          · replace h := h.2 q96
            refine V_bipush (-100) dX11_law_99 (by decide) ?_
            refine V_aload_n dX11_law_101 rfl ?_
            refine V_getI fl_X11_189 dX11_law_102 rfl rfl ?_
            refine V_iload dX11_law_105 rfl ?_
            refine V_isub dX11_law_107 ?_
            refine V_isub dX11_law_108 ?_
            exact V_reti dX11_law_109 rfl rfl h
        · replace h := h.2 q54
          refine V_aload_n dX11_law_57 rfl ?_
          refine V_iload dX11_law_58 rfl ?_
          refine M_Vi mv_X11_fails lk_X11_153 dX11_law_60 rfl rfl (sX11_fails h) rfl rfl (Nat.le_of_ble_eq_true rfl) (by decide) (by decide) (fun v60 M60 h => ?_)
          exact V_reti dX11_law_63 rfl rfl h
      · replace h := h.2 q34
        refine V_bipush (-2) dX11_law_37 (by decide) ?_
        exact V_reti dX11_law_39 rfl rfl h
  · replace h := h.2 q9
    refine V_iconst (-1) dX11_law_12 (by decide) ?_
    exact V_reti dX11_law_13 rfl rfl h
def wX11_isLaw (a1 : Int32) (M : Mem) (Q : Int32 → Mem → Prop) : Prop :=
  ((a1 < 0 →
    Q 0 M) ∧ (¬ a1 < 0 →
    (((M 49 22) ≤ a1 →
      Q 0 M) ∧ (¬ (M 49 22) ≤ a1 →
      Q 1 M))))
set_option maxHeartbeats 1000000 in
set_option maxRecDepth 20000 in
theorem sX11_isLaw {E : En} {a1 : Int32} {M : Mem} {Q : Int32 → Mem → Prop} (h : wX11_isLaw a1 M Q) : CM E 1 mX11_isLaw [.ref (E.2.2 49), .int a1] M (Pi Q) := by
  unfold wX11_isLaw at h
  refine CM.of (by decide) rfl (Nat.le_of_ble_eq_true rfl) ?_
  refine V_iload_n dX11_isLaw_0 rfl ?_
  refine V_if_lt 16 dX11_isLaw_1 (by decide) (fun q1 => ?_) (fun q1 => ?_)
  · replace h := h.1 q1
    refine V_iconst 0 dX11_isLaw_16 (by decide) ?_
    exact V_reti dX11_isLaw_17 rfl rfl h
  · replace h := h.2 q1
    refine V_iload_n dX11_isLaw_4 rfl ?_
    refine V_aload_n dX11_isLaw_5 rfl ?_
    refine V_getI fl_X11_209 dX11_isLaw_6 rfl rfl ?_
    refine V_icmp_ge 16 dX11_isLaw_9 (by decide) (fun q9 => ?_) (fun q9 => ?_)
    · replace h := h.1 q9
      refine V_iconst 0 dX11_isLaw_16 (by decide) ?_
      exact V_reti dX11_isLaw_17 rfl rfl h
    · replace h := h.2 q9
      refine V_iconst 1 dX11_isLaw_12 (by decide) ?_
      refine V_goto 17 dX11_isLaw_13 (by decide) ?_
      exact V_reti dX11_isLaw_17 rfl rfl h
def wX11_force (a1 : Int32) (a2 : Int32) (M : Mem) (Q : Int32 → Mem → Prop) : Prop :=
  wX11_isLaw a1 M (fun v2 M2 => ((¬ v2 = 0 →
      wX11_within a2 0 ((1 <<< ((M2 49 11) &&& 31)) - 1) M2 (fun v20 M20 => ((¬ v20 = 0 →
          vp_in a1 8 ∧ (∀ N42, N42 = mset M20 213 (Int32.toNatClampNeg a1) a2 → Q (M20 213 (Int32.toNatClampNeg a1)) N42)) ∧ (v20 = 0 →
          Q (-2) M20)))) ∧ (v2 = 0 →
      Q (-1) M2)))
set_option maxHeartbeats 1000000 in
set_option maxRecDepth 20000 in
theorem sX11_force {E : En} {a1 : Int32} {a2 : Int32} {M : Mem} {Q : Int32 → Mem → Prop} (h : wX11_force a1 a2 M Q) : CM E 2 mX11_force [.ref (E.2.2 49), .int a1, .int a2] M (Pi Q) := by
  unfold wX11_force at h
  refine CM.of (by decide) rfl (Nat.le_of_ble_eq_true rfl) ?_
  refine V_aload_n dX11_force_0 rfl ?_
  refine V_iload_n dX11_force_1 rfl ?_
  refine M_Vi mv_X11_isLaw lk_X11_212 dX11_force_2 rfl rfl (sX11_isLaw h) rfl rfl (Nat.le_of_ble_eq_true rfl) (by decide) (by decide) (fun v2 M2 h => ?_)
  refine V_if_ne 10 dX11_force_5 (by decide) (fun q5 => ?_) (fun q5 => ?_)
  · replace h := h.1 q5
    refine V_iload_n dX11_force_10 rfl ?_
    refine V_iconst 0 dX11_force_11 (by decide) ?_
    refine V_iconst 1 dX11_force_12 (by decide) ?_
    refine V_aload_n dX11_force_13 rfl ?_
    refine V_getI fl_X11_164 dX11_force_14 rfl rfl ?_
    refine V_ishl dX11_force_17 ?_
    refine V_iconst 1 dX11_force_18 (by decide) ?_
    refine V_isub dX11_force_19 ?_
    refine M_Si ms_X11_within lk_X11_124 dX11_force_20 (sX11_within h) rfl rfl (Nat.le_of_ble_eq_true rfl) (by decide) (by decide) (fun v20 M20 h => ?_)
    refine V_if_ne 29 dX11_force_23 (by decide) (fun q23 => ?_) (fun q23 => ?_)
    · replace h := h.1 q23
      refine V_aload_n dX11_force_29 rfl ?_
      refine V_getR 213 fl_X11_64 dX11_force_30 rfl rfl rfl ?_
      refine V_iload_n dX11_force_33 rfl ?_
      obtain ⟨hi34, h⟩ := h
      refine V_ialdM dX11_force_34 rfl hi34 ?_
      refine V_istore_n dX11_force_35 (by decide) ?_
      refine V_aload_n dX11_force_36 rfl ?_
      refine V_getR 213 fl_X11_64 dX11_force_37 rfl rfl rfl ?_
      refine V_iload_n dX11_force_40 rfl ?_
      refine V_iload_n dX11_force_41 rfl ?_
      refine V_iastN dX11_force_42 rfl hi34 (fun N42 e42 => ?_)
      replace h := h N42 e42
      refine V_iload_n dX11_force_43 rfl ?_
      exact V_reti dX11_force_44 rfl rfl h
    · replace h := h.2 q23
      refine V_bipush (-2) dX11_force_26 (by decide) ?_
      exact V_reti dX11_force_28 rfl rfl h
  · replace h := h.2 q5
    refine V_iconst (-1) dX11_force_8 (by decide) ?_
    exact V_reti dX11_force_9 rfl rfl h
def wX11_isOf (a1 : Int32) (a2 : Int32) (M : Mem) (Q : Int32 → Mem → Prop) : Prop :=
  ((16 ≤ a2 →
    ((24 ≤ a2 →
      vp_in a1 16 ∧ wX11_has (M 196 (Int32.toNatClampNeg a1)) (a2 - 24) M (fun v51 M51 => isB v51 ∧ Q v51 M51)) ∧ (¬ 24 ≤ a2 →
      vp_in a1 16 ∧ wX11_has (M 195 (Int32.toNatClampNeg a1)) (a2 - 16) M (fun v35 M35 => isB v35 ∧ Q v35 M35)))) ∧ (¬ 16 ≤ a2 →
    ((¬ a1 = a2 →
      Q 0 M) ∧ (a1 = a2 →
      Q 1 M))))
set_option maxHeartbeats 1000000 in
set_option maxRecDepth 20000 in
theorem sX11_isOf {E : En} {a1 : Int32} {a2 : Int32} {M : Mem} {Q : Int32 → Mem → Prop} (h : wX11_isOf a1 a2 M Q) : CM E 2 mX11_isOf [.ref (E.2.2 49), .int a1, .int a2] M (Pi Q) := by
  unfold wX11_isOf at h
  refine CM.of (by decide) rfl (Nat.le_of_ble_eq_true rfl) ?_
  refine V_iload_n dX11_isOf_0 rfl ?_
  refine V_bipush 16 dX11_isOf_1 (by decide) ?_
  refine V_icmp_ge 19 dX11_isOf_3 (by decide) (fun q3 => ?_) (fun q3 => ?_)
  · replace h := h.1 q3
    refine V_iload_n dX11_isOf_19 rfl ?_
    refine V_bipush 24 dX11_isOf_20 (by decide) ?_
    refine V_icmp_ge 41 dX11_isOf_22 (by decide) (fun q22 => ?_) (fun q22 => ?_)
    · replace h := h.1 q22
      refine V_aload_n dX11_isOf_41 rfl ?_
      refine V_getR 196 fl_X11_22 dX11_isOf_42 rfl rfl rfl ?_
      refine V_iload_n dX11_isOf_45 rfl ?_
      obtain ⟨hi46, h⟩ := h
      refine V_ialdM dX11_isOf_46 rfl hi46 ?_
      refine V_iload_n dX11_isOf_47 rfl ?_
      refine V_bipush 24 dX11_isOf_48 (by decide) ?_
      refine V_isub dX11_isOf_50 ?_
      refine M_Si ms_X11_has lk_X11_132 dX11_isOf_51 (sX11_has h) rfl rfl (Nat.le_of_ble_eq_true rfl) (by decide) (by decide) (fun v51 M51 h => ?_)
      exact V_reti dX11_isOf_54 rfl (nb h.1) h.2
    · replace h := h.2 q22
      refine V_aload_n dX11_isOf_25 rfl ?_
      refine V_getR 195 fl_X11_19 dX11_isOf_26 rfl rfl rfl ?_
      refine V_iload_n dX11_isOf_29 rfl ?_
      obtain ⟨hi30, h⟩ := h
      refine V_ialdM dX11_isOf_30 rfl hi30 ?_
      refine V_iload_n dX11_isOf_31 rfl ?_
      refine V_bipush 16 dX11_isOf_32 (by decide) ?_
      refine V_isub dX11_isOf_34 ?_
      refine M_Si ms_X11_has lk_X11_132 dX11_isOf_35 (sX11_has h) rfl rfl (Nat.le_of_ble_eq_true rfl) (by decide) (by decide) (fun v35 M35 h => ?_)
      refine V_goto 54 dX11_isOf_38 (by decide) ?_
      exact V_reti dX11_isOf_54 rfl (nb h.1) h.2
  · replace h := h.2 q3
    refine V_iload_n dX11_isOf_6 rfl ?_
    refine V_iload_n dX11_isOf_7 rfl ?_
    refine V_icmp_ne 15 dX11_isOf_8 (by decide) (fun q8 => ?_) (fun q8 => ?_)
    · replace h := h.1 q8
      refine V_iconst 0 dX11_isOf_15 (by decide) ?_
      refine V_goto 54 dX11_isOf_16 (by decide) ?_
      exact V_reti dX11_isOf_54 rfl rfl h
    · replace h := h.2 q8
      refine V_iconst 1 dX11_isOf_11 (by decide) ?_
      refine V_goto 54 dX11_isOf_12 (by decide) ?_
      exact V_reti dX11_isOf_54 rfl rfl h
def wX11_holds (a1 : Int32) (a2 : Int32) (M : Mem) (Q : Int32 → Mem → Prop) : Prop :=
  ((¬ a2 = 40 →
    jn0 (fun (M20 : Mem) => ((¬ a2 = 41 →
        Q 0 M20) ∧ (a2 = 41 →
        ((¬ a1 = (-9) →
          Q 0 M20) ∧ (a1 = (-9) →
          Q 1 M20))))) (fun J20 => ((a2 = 41 →
        J20 M) ∧ (¬ a2 = 41 →
        ((¬ a1 = (-9) →
          wX11_isOf a1 a2 M (fun v41 M41 => isB v41 ∧ Q v41 M41)) ∧ (a1 = (-9) →
          J20 M)))))) ∧ (a2 = 40 →
    Q 1 M))
set_option maxHeartbeats 1000000 in
set_option maxRecDepth 20000 in
theorem sX11_holds {E : En} {a1 : Int32} {a2 : Int32} {M : Mem} {Q : Int32 → Mem → Prop} (h : wX11_holds a1 a2 M Q) : CM E 3 mX11_holds [.ref (E.2.2 49), .int a1, .int a2] M (Pi Q) := by
  unfold wX11_holds at h
  refine CM.of (by decide) rfl (Nat.le_of_ble_eq_true rfl) ?_
  refine V_iload_n dX11_holds_0 rfl ?_
  refine V_bipush 40 dX11_holds_1 (by decide) ?_
  refine V_icmp_ne 8 dX11_holds_3 (by decide) (fun q3 => ?_) (fun q3 => ?_)
  · replace h := h.1 q3
    refine V_iload_n dX11_holds_8 rfl ?_
    refine V_bipush 41 dX11_holds_9 (by decide) ?_
    refine jn0_use (P := fun (M20 : Mem) => ∀ j20_0 : Value, V (Km E 3 (Pi Q)) mX11_holds 20 [j20_0, .int a1, .int a2] [] (wsM E.1 E.2.2 M20) 0 0) (fun M20 h j20_0 => ?_) (fun J20 hJ20 h => ?_) h
    · refine V_iload_n dX11_holds_20 rfl ?_
      refine V_bipush 41 dX11_holds_21 (by decide) ?_
      refine V_icmp_ne 36 dX11_holds_23 (by decide) (fun q23 => ?_) (fun q23 => ?_)
      · replace h := h.1 q23
        refine V_iconst 0 dX11_holds_36 (by decide) ?_
        exact V_reti dX11_holds_37 rfl rfl h
      · replace h := h.2 q23
        refine V_iload_n dX11_holds_26 rfl ?_
        refine V_bipush (-9) dX11_holds_27 (by decide) ?_
        refine V_icmp_ne 36 dX11_holds_29 (by decide) (fun q29 => ?_) (fun q29 => ?_)
        · replace h := h.1 q29
          refine V_iconst 0 dX11_holds_36 (by decide) ?_
          exact V_reti dX11_holds_37 rfl rfl h
        · replace h := h.2 q29
          refine V_iconst 1 dX11_holds_32 (by decide) ?_
          refine V_goto 37 dX11_holds_33 (by decide) ?_
          exact V_reti dX11_holds_37 rfl rfl h
    · refine V_icmp_eq 20 dX11_holds_11 (by decide) (fun q11 => ?_) (fun q11 => ?_)
      · replace h := h.1 q11
        refine V_take 3 ?_
        exact hJ20 _ h _
      · replace h := h.2 q11
        refine V_iload_n dX11_holds_14 rfl ?_
        refine V_bipush (-9) dX11_holds_15 (by decide) ?_
        refine V_icmp_ne 38 dX11_holds_17 (by decide) (fun q17 => ?_) (fun q17 => ?_)
        · replace h := h.1 q17
          refine V_aload_n dX11_holds_38 rfl ?_
          refine V_iload_n dX11_holds_39 rfl ?_
          refine V_iload_n dX11_holds_40 rfl ?_
          refine M_Vi mv_X11_isOf lk_X11_215 dX11_holds_41 rfl rfl (sX11_isOf h) rfl rfl (Nat.le_of_ble_eq_true rfl) (by decide) (by decide) (fun v41 M41 h => ?_)
          exact V_reti dX11_holds_44 rfl (nb h.1) h.2
        · replace h := h.2 q17
          refine V_take 3 ?_
          exact hJ20 _ h _
  · replace h := h.2 q3
    refine V_iconst 1 dX11_holds_6 (by decide) ?_
    exact V_reti dX11_holds_7 rfl rfl h
def wX11_doLaw (a1 : Int32) (M : Mem) (Q : Int32 → Mem → Prop) : Prop :=
  (∃ n, lq1 (fun R7 (x7_3 : Int32) (M7 : Mem) => (((M 49 32) ≤ x7_3 →
      (∀ N34, N34 = mset M7 49 32 0 → (∃ n, lq2 (fun R40 (x40_3 : Int32) (x40_4 : Int32) (M40 : Mem) => (((M 49 32) ≤ x40_4 →
          isB x40_3 ∧ Q x40_3 M40) ∧ (¬ (M 49 32) ≤ x40_4 →
          vp_in x40_4 8 ∧ vp_in a1 8 ∧ wX11_isOf (M40 223 (Int32.toNatClampNeg x40_4)) (M40 214 (Int32.toNatClampNeg a1)) M40 (fun v60 M60 => jn1 (fun (y138_0 : Int32) (M138 : Mem) => jn0 (fun (M161 : Mem) => jn1 (fun (y190_0 : Int32) (M190 : Mem) => vp_in (M161 49 32) 8 ∧ (∀ N190, N190 = mset M190 221 (Int32.toNatClampNeg (M161 49 32)) y190_0 → vp_in (N190 49 32) 8 ∧ jn1 (fun (y216_0 : Int32) (M216 : Mem) => (∀ N225, N225 = mset M216 49 32 ((M216 49 32) + 1) → R40 (x40_3 ||| y216_0) (x40_4 + 1) N225)) (fun J216 => (((N190 221 (Int32.toNatClampNeg (N190 49 32))) = (N190 223 (Int32.toNatClampNeg x40_4)) →
                      J216 0 N190) ∧ (¬ (N190 221 (Int32.toNatClampNeg (N190 49 32))) = (N190 223 (Int32.toNatClampNeg x40_4)) →
                      J216 1 N190))))) (fun J190 => ((y138_0 = 0 →
                    J190 (M161 223 (Int32.toNatClampNeg x40_4)) M161) ∧ (¬ y138_0 = 0 →
                    J190 (M161 215 (Int32.toNatClampNeg a1)) M161)))) (fun J161 => ((y138_0 = 0 →
                  J161 M138) ∧ (¬ y138_0 = 0 →
                  ((¬ (M138 215 (Int32.toNatClampNeg a1)) = 42 →
                    J161 M138) ∧ ((M138 215 (Int32.toNatClampNeg a1)) = 42 →
                    R40 1 (x40_4 + 1) M138)))))) (fun J138 => ((v60 = 0 →
                J138 0 M60) ∧ (¬ v60 = 0 →
                jn1 (fun (y86_0 : Int32) (M86 : Mem) => wX11_holds y86_0 (M86 216 (Int32.toNatClampNeg a1)) M86 (fun v92 M92 => ((v92 = 0 →
                      J138 0 M92) ∧ (¬ v92 = 0 →
                      jn1 (fun (y121_0 : Int32) (M121 : Mem) => wX11_holds y121_0 (M121 217 (Int32.toNatClampNeg a1)) M121 (fun v127 M127 => ((v127 = 0 →
                            J138 0 M127) ∧ (¬ v127 = 0 →
                            J138 1 M127)))) (fun J121 => ((¬ x40_4 = ((M 49 32) - 1) →
                          vp_in (x40_4 + 1) 8 ∧ J121 (M92 223 (Int32.toNatClampNeg (x40_4 + 1))) M92) ∧ (x40_4 = ((M 49 32) - 1) →
                          J121 (-9) M92))))))) (fun J86 => ((¬ x40_4 = 0 →
                    vp_in (x40_4 - 1) 8 ∧ J86 (M60 223 (Int32.toNatClampNeg (x40_4 - 1))) M60) ∧ (x40_4 = 0 →
                    J86 (-9) M60)))))))))) n 0 0 N34))) ∧ (¬ (M 49 32) ≤ x7_3 →
      vp_in x7_3 8 ∧ (∀ N23, N23 = mset M7 223 (Int32.toNatClampNeg x7_3) (M7 221 (Int32.toNatClampNeg x7_3)) → R7 (x7_3 + 1) N23)))) n 0 M)
set_option maxHeartbeats 1000000 in
set_option maxRecDepth 20000 in
theorem sX11_doLaw {E : En} {a1 : Int32} {M : Mem} {Q : Int32 → Mem → Prop} (h : wX11_doLaw a1 M Q) : CM E 4 mX11_doLaw [.ref (E.2.2 49), .int a1] M (Pi Q) := by
  unfold wX11_doLaw at h
  refine CM.of (by decide) rfl (Nat.le_of_ble_eq_true rfl) ?_
  refine V_aload_n dX11_doLaw_0 rfl ?_
  refine V_getI fl_X11_218 dX11_doLaw_1 rfl rfl ?_
  refine V_istore_n dX11_doLaw_4 (by decide) ?_
  refine V_iconst 0 dX11_doLaw_5 (by decide) ?_
  refine V_istore_n dX11_doLaw_6 (by decide) ?_
  obtain ⟨n7, h⟩ := h
  refine V_take 4 ?_
  refine lq1_use (P := fun (x7_3 : Int32) (M7 : Mem) => V (Km E 4 (Pi Q)) mX11_doLaw 7 [.ref (E.2.2 49), .int a1, .int (M 49 32), .int x7_3] [] (wsM E.1 E.2.2 M7) 0 0) (fun R7 hR7 x7_3 M7 h => ?_) n7 _ _ h
  refine V_iload_n dX11_doLaw_7 rfl ?_
  refine V_iload_n dX11_doLaw_8 rfl ?_
  refine V_icmp_ge 30 dX11_doLaw_9 (by decide) (fun q9 => ?_) (fun q9 => ?_)
  · replace h := h.1 q9
    refine V_iconst 0 dX11_doLaw_30 (by decide) ?_
    refine V_istore_n dX11_doLaw_31 (by decide) ?_
    refine V_aload_n dX11_doLaw_32 rfl ?_
    refine V_iconst 0 dX11_doLaw_33 (by decide) ?_
    refine V_putN fp_X11_218 dX11_doLaw_34 rfl rfl rfl rfl (fun N34 e34 => ?_)
    replace h := h N34 e34
    refine V_iconst 0 dX11_doLaw_37 (by decide) ?_
    refine V_istore dX11_doLaw_38 (by decide) ?_
    obtain ⟨n40, h⟩ := h
    refine V_take 5 ?_
    refine lq2_use (P := fun (x40_3 : Int32) (x40_4 : Int32) (M40 : Mem) => V (Km E 4 (Pi Q)) mX11_doLaw 40 [.ref (E.2.2 49), .int a1, .int (M 49 32), .int x40_3, .int x40_4] [] (wsM E.1 E.2.2 M40) 0 0) (fun R40 hR40 x40_3 x40_4 M40 h => ?_) n40 _ _ _ h
    refine V_iload dX11_doLaw_40 rfl ?_
    refine V_iload_n dX11_doLaw_42 rfl ?_
    refine V_icmp_ge 234 dX11_doLaw_43 (by decide) (fun q43 => ?_) (fun q43 => ?_)
    · replace h := h.1 q43
      refine V_iload_n dX11_doLaw_234 rfl ?_
      exact V_reti dX11_doLaw_235 rfl (nb h.1) h.2
    · replace h := h.2 q43
      refine V_aload_n dX11_doLaw_46 rfl ?_
      refine V_aload_n dX11_doLaw_47 rfl ?_
      refine V_getR 223 fl_X11_85 dX11_doLaw_48 rfl rfl rfl ?_
      refine V_iload dX11_doLaw_51 rfl ?_
      obtain ⟨hi53, h⟩ := h
      refine V_ialdM dX11_doLaw_53 rfl hi53 ?_
      refine V_aload_n dX11_doLaw_54 rfl ?_
      refine V_getR 214 fl_X11_67 dX11_doLaw_55 rfl rfl rfl ?_
      refine V_iload_n dX11_doLaw_58 rfl ?_
      obtain ⟨hi59, h⟩ := h
      refine V_ialdM dX11_doLaw_59 rfl hi59 ?_
      refine M_Vi mv_X11_isOf lk_X11_215 dX11_doLaw_60 rfl rfl (sX11_isOf h) rfl rfl (Nat.le_of_ble_eq_true rfl) (by decide) (by decide) (fun v60 M60 h => ?_)
      refine jn1_use (P := fun (y138_0 : Int32) (M138 : Mem) => V (Km E 4 (Pi Q)) mX11_doLaw 138 [.ref (E.2.2 49), .int a1, .int (M 49 32), .int x40_3, .int x40_4] [.int y138_0] (wsM E.1 E.2.2 M138) 0 0) (fun y138_0 M138 h => ?_) (fun J138 hJ138 h => ?_) h
      · refine V_istore dX11_doLaw_138 (by decide) ?_
        refine V_iload dX11_doLaw_140 rfl ?_
        refine jn0_use (P := fun (M161 : Mem) => V (Km E 4 (Pi Q)) mX11_doLaw 161 [.ref (E.2.2 49), .int a1, .int (M 49 32), .int x40_3, .int x40_4, .int y138_0] [] (wsM E.1 E.2.2 M161) 0 0) (fun M161 h => ?_) (fun J161 hJ161 h => ?_) h
        · refine V_aload_n dX11_doLaw_161 rfl ?_
          refine V_getR 221 fl_X11_82 dX11_doLaw_162 rfl rfl rfl ?_
          refine V_aload_n dX11_doLaw_165 rfl ?_
          refine V_getI fl_X11_218 dX11_doLaw_166 rfl rfl ?_
          refine V_iload dX11_doLaw_169 rfl ?_
          refine jn1_use (P := fun (y190_0 : Int32) (M190 : Mem) => ∀ j190_5 : Value, V (Km E 4 (Pi Q)) mX11_doLaw 190 [.ref (E.2.2 49), .int a1, .int (M 49 32), .int x40_3, .int x40_4, j190_5] [.int y190_0, .int (M161 49 32), .ref (E.2.2 221)] (wsM E.1 E.2.2 M190) 0 0) (fun y190_0 M190 h j190_5 => ?_) (fun J190 hJ190 h => ?_) h
          · obtain ⟨hi190, h⟩ := h
            refine V_iastN dX11_doLaw_190 rfl hi190 (fun N190 e190 => ?_)
            replace h := h N190 e190
            refine V_iload_n dX11_doLaw_191 rfl ?_
            refine V_aload_n dX11_doLaw_192 rfl ?_
            refine V_getR 221 fl_X11_82 dX11_doLaw_193 rfl rfl rfl ?_
            refine V_aload_n dX11_doLaw_196 rfl ?_
            refine V_getI fl_X11_218 dX11_doLaw_197 rfl rfl ?_
            obtain ⟨hi200, h⟩ := h
            refine V_ialdM dX11_doLaw_200 rfl hi200 ?_
            refine V_aload_n dX11_doLaw_201 rfl ?_
            refine V_getR 223 fl_X11_85 dX11_doLaw_202 rfl rfl rfl ?_
            refine V_iload dX11_doLaw_205 rfl ?_
            refine V_ialdM dX11_doLaw_207 rfl hi53 ?_
            refine jn1_use (P := fun (y216_0 : Int32) (M216 : Mem) => ∀ j216_3 : Value, ∀ j216_5 : Value, V (Km E 4 (Pi Q)) mX11_doLaw 216 [.ref (E.2.2 49), .int a1, .int (M 49 32), j216_3, .int x40_4, j216_5] [.int y216_0, .int x40_3] (wsM E.1 E.2.2 M216) 0 0) (fun y216_0 M216 h j216_3 j216_5 => ?_) (fun J216 hJ216 h => ?_) h
            · refine V_ior dX11_doLaw_216 ?_
              refine V_istore_n dX11_doLaw_217 (by decide) ?_
              refine V_aload_n dX11_doLaw_218 rfl ?_
              refine V_dup dX11_doLaw_219 rfl ?_
              refine V_getI fl_X11_218 dX11_doLaw_220 rfl rfl ?_
              refine V_iconst 1 dX11_doLaw_223 (by decide) ?_
              refine V_iadd dX11_doLaw_224 ?_
              refine V_putN fp_X11_218 dX11_doLaw_225 rfl rfl rfl rfl (fun N225 e225 => ?_)
              replace h := h N225 e225
              refine V_iincC 1 dX11_doLaw_228 (by decide) rfl (by decide) ?_
              refine V_goto 40 dX11_doLaw_231 (by decide) ?_
              refine V_take 5 ?_
              exact hR40 _ _ _ h
            · refine V_icmp_eq 215 dX11_doLaw_208 (by decide) (fun q208 => ?_) (fun q208 => ?_)
              · replace h := h.1 q208
                refine V_iconst 0 dX11_doLaw_215 (by decide) ?_
                refine V_take 6 ?_
                exact hJ216 _ _ h _ _
              · replace h := h.2 q208
                refine V_iconst 1 dX11_doLaw_211 (by decide) ?_
                refine V_goto 216 dX11_doLaw_212 (by decide) ?_
                refine V_take 6 ?_
                exact hJ216 _ _ h _ _
          · refine V_if_eq 183 dX11_doLaw_171 (by decide) (fun q171 => ?_) (fun q171 => ?_)
            · replace h := h.1 q171
              refine V_aload_n dX11_doLaw_183 rfl ?_
              refine V_getR 223 fl_X11_85 dX11_doLaw_184 rfl rfl rfl ?_
              refine V_iload dX11_doLaw_187 rfl ?_
              refine V_ialdM dX11_doLaw_189 rfl hi53 ?_
              refine V_take 6 ?_
              exact hJ190 _ _ h _
            · replace h := h.2 q171
              refine V_aload_n dX11_doLaw_174 rfl ?_
              refine V_getR 215 fl_X11_70 dX11_doLaw_175 rfl rfl rfl ?_
              refine V_iload_n dX11_doLaw_178 rfl ?_
              refine V_ialdM dX11_doLaw_179 rfl hi59 ?_
              refine V_goto 190 dX11_doLaw_180 (by decide) ?_
              refine V_take 6 ?_
              exact hJ190 _ _ h _
        · refine V_if_eq 161 dX11_doLaw_142 (by decide) (fun q142 => ?_) (fun q142 => ?_)
          · replace h := h.1 q142
            refine V_take 6 ?_
            exact hJ161 _ h
          · replace h := h.2 q142
            refine V_aload_n dX11_doLaw_145 rfl ?_
            refine V_getR 215 fl_X11_70 dX11_doLaw_146 rfl rfl rfl ?_
            refine V_iload_n dX11_doLaw_149 rfl ?_
            refine V_ialdM dX11_doLaw_150 rfl hi59 ?_
            refine V_bipush 42 dX11_doLaw_151 (by decide) ?_
            refine V_icmp_ne 161 dX11_doLaw_153 (by decide) (fun q153 => ?_) (fun q153 => ?_)
            · replace h := h.1 q153
              refine V_take 6 ?_
              exact hJ161 _ h
            · replace h := h.2 q153
              refine V_iconst 1 dX11_doLaw_156 (by decide) ?_
              refine V_istore_n dX11_doLaw_157 (by decide) ?_
              refine V_goto 228 dX11_doLaw_158 (by decide) ?_
              refine V_iincC 1 dX11_doLaw_228 (by decide) rfl (by decide) ?_
              refine V_goto 40 dX11_doLaw_231 (by decide) ?_
              refine V_take 5 ?_
              exact hR40 _ _ _ h
      · refine V_if_eq 137 dX11_doLaw_63 (by decide) (fun q63 => ?_) (fun q63 => ?_)
        · replace h := h.1 q63
          refine V_iconst 0 dX11_doLaw_137 (by decide) ?_
          refine V_take 5 ?_
          exact hJ138 _ _ h
        · replace h := h.2 q63
          refine V_aload_n dX11_doLaw_66 rfl ?_
          refine V_iload dX11_doLaw_67 rfl ?_
          refine jn1_use (P := fun (y86_0 : Int32) (M86 : Mem) => V (Km E 4 (Pi Q)) mX11_doLaw 86 [.ref (E.2.2 49), .int a1, .int (M 49 32), .int x40_3, .int x40_4] [.int y86_0, .ref (E.2.2 49)] (wsM E.1 E.2.2 M86) 0 0) (fun y86_0 M86 h => ?_) (fun J86 hJ86 h => ?_) h
          · refine V_aload_n dX11_doLaw_86 rfl ?_
            refine V_getR 216 fl_X11_73 dX11_doLaw_87 rfl rfl rfl ?_
            refine V_iload_n dX11_doLaw_90 rfl ?_
            refine V_ialdM dX11_doLaw_91 rfl hi59 ?_
            refine M_Vi mv_X11_holds lk_X11_221 dX11_doLaw_92 rfl rfl (sX11_holds h) rfl rfl (Nat.le_of_ble_eq_true rfl) (by decide) (by decide) (fun v92 M92 h => ?_)
            refine V_if_eq 137 dX11_doLaw_95 (by decide) (fun q95 => ?_) (fun q95 => ?_)
            · replace h := h.1 q95
              refine V_iconst 0 dX11_doLaw_137 (by decide) ?_
              refine V_take 5 ?_
              exact hJ138 _ _ h
            · replace h := h.2 q95
              refine V_aload_n dX11_doLaw_98 rfl ?_
              refine V_iload dX11_doLaw_99 rfl ?_
              refine V_iload_n dX11_doLaw_101 rfl ?_
              refine V_iconst 1 dX11_doLaw_102 (by decide) ?_
              refine V_isub dX11_doLaw_103 ?_
              refine jn1_use (P := fun (y121_0 : Int32) (M121 : Mem) => V (Km E 4 (Pi Q)) mX11_doLaw 121 [.ref (E.2.2 49), .int a1, .int (M 49 32), .int x40_3, .int x40_4] [.int y121_0, .ref (E.2.2 49)] (wsM E.1 E.2.2 M121) 0 0) (fun y121_0 M121 h => ?_) (fun J121 hJ121 h => ?_) h
              · refine V_aload_n dX11_doLaw_121 rfl ?_
                refine V_getR 217 fl_X11_76 dX11_doLaw_122 rfl rfl rfl ?_
                refine V_iload_n dX11_doLaw_125 rfl ?_
                refine V_ialdM dX11_doLaw_126 rfl hi59 ?_
                refine M_Vi mv_X11_holds lk_X11_221 dX11_doLaw_127 rfl rfl (sX11_holds h) rfl rfl (Nat.le_of_ble_eq_true rfl) (by decide) (by decide) (fun v127 M127 h => ?_)
                refine V_if_eq 137 dX11_doLaw_130 (by decide) (fun q130 => ?_) (fun q130 => ?_)
                · replace h := h.1 q130
                  refine V_iconst 0 dX11_doLaw_137 (by decide) ?_
                  refine V_take 5 ?_
                  exact hJ138 _ _ h
                · replace h := h.2 q130
                  refine V_iconst 1 dX11_doLaw_133 (by decide) ?_
                  refine V_goto 138 dX11_doLaw_134 (by decide) ?_
                  refine V_take 5 ?_
                  exact hJ138 _ _ h
              · refine V_icmp_ne 112 dX11_doLaw_104 (by decide) (fun q104 => ?_) (fun q104 => ?_)
                · replace h := h.1 q104
                  refine V_aload_n dX11_doLaw_112 rfl ?_
                  refine V_getR 223 fl_X11_85 dX11_doLaw_113 rfl rfl rfl ?_
                  refine V_iload dX11_doLaw_116 rfl ?_
                  refine V_iconst 1 dX11_doLaw_118 (by decide) ?_
                  refine V_iadd dX11_doLaw_119 ?_
                  obtain ⟨hi120, h⟩ := h
                  refine V_ialdM dX11_doLaw_120 rfl hi120 ?_
                  refine V_take 5 ?_
                  exact hJ121 _ _ h
                · replace h := h.2 q104
                  refine V_bipush (-9) dX11_doLaw_107 (by decide) ?_
                  refine V_goto 121 dX11_doLaw_109 (by decide) ?_
                  refine V_take 5 ?_
                  exact hJ121 _ _ h
          · refine V_if_ne 77 dX11_doLaw_69 (by decide) (fun q69 => ?_) (fun q69 => ?_)
            · replace h := h.1 q69
              refine V_aload_n dX11_doLaw_77 rfl ?_
              refine V_getR 223 fl_X11_85 dX11_doLaw_78 rfl rfl rfl ?_
              refine V_iload dX11_doLaw_81 rfl ?_
              refine V_iconst 1 dX11_doLaw_83 (by decide) ?_
              refine V_isub dX11_doLaw_84 ?_
              obtain ⟨hi85, h⟩ := h
              refine V_ialdM dX11_doLaw_85 rfl hi85 ?_
              refine V_take 5 ?_
              exact hJ86 _ _ h
            · replace h := h.2 q69
              refine V_bipush (-9) dX11_doLaw_72 (by decide) ?_
              refine V_goto 86 dX11_doLaw_74 (by decide) ?_
              refine V_take 5 ?_
              exact hJ86 _ _ h
  · replace h := h.2 q9
    refine V_aload_n dX11_doLaw_12 rfl ?_
    refine V_getR 223 fl_X11_85 dX11_doLaw_13 rfl rfl rfl ?_
    refine V_iload_n dX11_doLaw_16 rfl ?_
    refine V_aload_n dX11_doLaw_17 rfl ?_
    refine V_getR 221 fl_X11_82 dX11_doLaw_18 rfl rfl rfl ?_
    refine V_iload_n dX11_doLaw_21 rfl ?_
    obtain ⟨hi22, h⟩ := h
    refine V_ialdM dX11_doLaw_22 rfl hi22 ?_
    refine V_iastN dX11_doLaw_23 rfl hi22 (fun N23 e23 => ?_)
    replace h := h N23 e23
    refine V_iincC 1 dX11_doLaw_24 (by decide) rfl (by decide) ?_
    refine V_goto 7 dX11_doLaw_27 (by decide) ?_
    refine V_take 4 ?_
    exact hR7 _ _ h
def wX11_takeRoot (a1 : Int32) (M : Mem) (Q : Mem → Prop) : Prop :=
  vp_in a1 6 ∧ (∀ N7, N7 = mset M 49 32 (M 210 (Int32.toNatClampNeg a1)) → (∃ n, lq1 (fun R12 (x12_2 : Int32) (M12 : Mem) => (((M12 49 32) ≤ x12_2 →
      Q M12) ∧ (¬ (M12 49 32) ≤ x12_2 →
      vp_in ((8 * a1) + x12_2) 48 ∧ vp_in x12_2 8 ∧ (∀ N36, N36 = mset M12 221 (Int32.toNatClampNeg x12_2) (M12 211 (Int32.toNatClampNeg ((8 * a1) + x12_2))) → R12 (x12_2 + 1) N36)))) n 0 N7))
set_option maxHeartbeats 1000000 in
set_option maxRecDepth 20000 in
theorem sX11_takeRoot {E : En} {a1 : Int32} {M : Mem} {Q : Mem → Prop} (h : wX11_takeRoot a1 M Q) : CM E 1 mX11_takeRoot [.ref (E.2.2 49), .int a1] M (Pv Q) := by
  unfold wX11_takeRoot at h
  refine CM.of (by decide) rfl (Nat.le_of_ble_eq_true rfl) ?_
  refine V_aload_n dX11_takeRoot_0 rfl ?_
  refine V_aload_n dX11_takeRoot_1 rfl ?_
  refine V_getR 210 fl_X11_58 dX11_takeRoot_2 rfl rfl rfl ?_
  refine V_iload_n dX11_takeRoot_5 rfl ?_
  obtain ⟨hi6, h⟩ := h
  refine V_ialdM dX11_takeRoot_6 rfl hi6 ?_
  refine V_putN fp_X11_218 dX11_takeRoot_7 rfl rfl rfl rfl (fun N7 e7 => ?_)
  replace h := h N7 e7
  refine V_iconst 0 dX11_takeRoot_10 (by decide) ?_
  refine V_istore_n dX11_takeRoot_11 (by decide) ?_
  obtain ⟨n12, h⟩ := h
  refine V_take 3 ?_
  refine lq1_use (P := fun (x12_2 : Int32) (M12 : Mem) => V (Km E 1 (Pv Q)) mX11_takeRoot 12 [.ref (E.2.2 49), .int a1, .int x12_2] [] (wsM E.1 E.2.2 M12) 0 0) (fun R12 hR12 x12_2 M12 h => ?_) n12 _ _ h
  refine V_iload_n dX11_takeRoot_12 rfl ?_
  refine V_aload_n dX11_takeRoot_13 rfl ?_
  refine V_getI fl_X11_218 dX11_takeRoot_14 rfl rfl ?_
  refine V_icmp_ge 43 dX11_takeRoot_17 (by decide) (fun q17 => ?_) (fun q17 => ?_)
  · replace h := h.1 q17
    exact V_retv dX11_takeRoot_43 rfl h
  · replace h := h.2 q17
    refine V_aload_n dX11_takeRoot_20 rfl ?_
    refine V_getR 221 fl_X11_82 dX11_takeRoot_21 rfl rfl rfl ?_
    refine V_iload_n dX11_takeRoot_24 rfl ?_
    refine V_aload_n dX11_takeRoot_25 rfl ?_
    refine V_getR 211 fl_X11_61 dX11_takeRoot_26 rfl rfl rfl ?_
    refine V_bipush 8 dX11_takeRoot_29 (by decide) ?_
    refine V_iload_n dX11_takeRoot_31 rfl ?_
    refine V_imul dX11_takeRoot_32 ?_
    refine V_iload_n dX11_takeRoot_33 rfl ?_
    refine V_iadd dX11_takeRoot_34 ?_
    obtain ⟨hi35, h⟩ := h
    refine V_ialdM dX11_takeRoot_35 rfl hi35 ?_
    obtain ⟨hi36, h⟩ := h
    refine V_iastN dX11_takeRoot_36 rfl hi36 (fun N36 e36 => ?_)
    replace h := h N36 e36
    refine V_iincC 1 dX11_takeRoot_37 (by decide) rfl (by decide) ?_
    refine V_goto 12 dX11_takeRoot_40 (by decide) ?_
    refine V_take 3 ?_
    exact hR12 _ _ h
def wX11_derive (a1 : Int32) (a2 : Int32) (M : Mem) (Q : Int32 → Mem → Prop) : Prop :=
  (∃ n, lq3 (fun R9 (x9_3 : Int32) (x9_4 : Int32) (x9_5 : Int32) (M9 : Mem) => (((M9 49 22) ≤ x9_5 →
      Q x9_3 M9) ∧ (¬ (M9 49 22) ≤ x9_5 →
      ((x9_4 ≤ 0 →
        Q x9_3 M9) ∧ (¬ x9_4 ≤ 0 →
        vp_in x9_5 8 ∧ wX11_has (M9 213 (Int32.toNatClampNeg x9_5)) a1 M9 (fun v31 M31 => ((v31 = 0 →
            R9 x9_3 x9_4 (x9_5 + 1) M31) ∧ (¬ v31 = 0 →
            wX11_doLaw x9_5 M31 (fun v43 M43 => ((v43 = 0 →
                R9 x9_3 (x9_4 + (-1)) (x9_5 + 1) M43) ∧ (¬ v43 = 0 →
                R9 x9_5 (x9_4 + (-1)) (x9_5 + 1) M43))))))))))) n (-9) a2 0 M)
set_option maxHeartbeats 1000000 in
set_option maxRecDepth 20000 in
theorem sX11_derive {E : En} {a1 : Int32} {a2 : Int32} {M : Mem} {Q : Int32 → Mem → Prop} (h : wX11_derive a1 a2 M Q) : CM E 5 mX11_derive [.ref (E.2.2 49), .int a1, .int a2] M (Pi Q) := by
  unfold wX11_derive at h
  refine CM.of (by decide) rfl (Nat.le_of_ble_eq_true rfl) ?_
  refine V_bipush (-9) dX11_derive_0 (by decide) ?_
  refine V_istore_n dX11_derive_2 (by decide) ?_
  refine V_iload_n dX11_derive_3 rfl ?_
  refine V_istore dX11_derive_4 (by decide) ?_
  refine V_iconst 0 dX11_derive_6 (by decide) ?_
  refine V_istore dX11_derive_7 (by decide) ?_
  obtain ⟨n9, h⟩ := h
  refine V_take 6 ?_
  refine lq3_use (P := fun (x9_3 : Int32) (x9_4 : Int32) (x9_5 : Int32) (M9 : Mem) => ∀ j9_2 : Value, V (Km E 5 (Pi Q)) mX11_derive 9 [.ref (E.2.2 49), .int a1, j9_2, .int x9_3, .int x9_4, .int x9_5] [] (wsM E.1 E.2.2 M9) 0 0) (fun R9 hR9 x9_3 x9_4 x9_5 M9 h j9_2 => ?_) n9 _ _ _ _ h _
  refine V_iload dX11_derive_9 rfl ?_
  refine V_aload_n dX11_derive_11 rfl ?_
  refine V_getI fl_X11_209 dX11_derive_12 rfl rfl ?_
  refine V_icmp_ge 62 dX11_derive_15 (by decide) (fun q15 => ?_) (fun q15 => ?_)
  · replace h := h.1 q15
    refine V_iload_n dX11_derive_62 rfl ?_
    exact V_reti dX11_derive_63 rfl rfl h
  · replace h := h.2 q15
    refine V_iload dX11_derive_18 rfl ?_
    refine V_if_le 62 dX11_derive_20 (by decide) (fun q20 => ?_) (fun q20 => ?_)
    · replace h := h.1 q20
      refine V_iload_n dX11_derive_62 rfl ?_
      exact V_reti dX11_derive_63 rfl rfl h
    · replace h := h.2 q20
      refine V_aload_n dX11_derive_23 rfl ?_
      refine V_getR 213 fl_X11_64 dX11_derive_24 rfl rfl rfl ?_
      refine V_iload dX11_derive_27 rfl ?_
      obtain ⟨hi29, h⟩ := h
      refine V_ialdM dX11_derive_29 rfl hi29 ?_
      refine V_iload_n dX11_derive_30 rfl ?_
      refine M_Si ms_X11_has lk_X11_132 dX11_derive_31 (sX11_has h) rfl rfl (Nat.le_of_ble_eq_true rfl) (by decide) (by decide) (fun v31 M31 h => ?_)
      refine V_if_eq 56 dX11_derive_34 (by decide) (fun q34 => ?_) (fun q34 => ?_)
      · replace h := h.1 q34
        refine V_iincC 1 dX11_derive_56 (by decide) rfl (by decide) ?_
        refine V_goto 9 dX11_derive_59 (by decide) ?_
        refine V_take 6 ?_
        exact hR9 _ _ _ _ h _
      · replace h := h.2 q34
        refine V_iincC (-1) dX11_derive_37 (by decide) rfl (by decide) ?_
        refine V_aload_n dX11_derive_40 rfl ?_
        refine V_iload dX11_derive_41 rfl ?_
        refine M_Vi mv_X11_doLaw lk_X11_224 dX11_derive_43 rfl rfl (sX11_doLaw h) rfl rfl (Nat.le_of_ble_eq_true rfl) (by decide) (by decide) (fun v43 M43 h => ?_)
        refine V_if_eq 54 dX11_derive_46 (by decide) (fun q46 => ?_) (fun q46 => ?_)
        · replace h := h.1 q46
          refine V_iload_n dX11_derive_54 rfl ?_
          refine V_istore_n dX11_derive_55 (by decide) ?_
          refine V_iincC 1 dX11_derive_56 (by decide) rfl (by decide) ?_
          refine V_goto 9 dX11_derive_59 (by decide) ?_
          refine V_take 6 ?_
          exact hR9 _ _ _ _ h _
        · replace h := h.2 q46
          refine V_iload dX11_derive_49 rfl ?_
          refine V_goto 55 dX11_derive_51 (by decide) ?_
          refine V_istore_n dX11_derive_55 (by decide) ?_
          refine V_iincC 1 dX11_derive_56 (by decide) rfl (by decide) ?_
          refine V_goto 9 dX11_derive_59 (by decide) ?_
          refine V_take 6 ?_
          exact hR9 _ _ _ _ h _
def wX11_derived (a1 : Int32) (a2 : Int32) (a3 : Int32) (a4 : Int32) (M : Mem) (Q : Int32 → Mem → Prop) : Prop :=
  wX11_isPlace a1 M (fun v2 M2 => ((v2 = 0 →
      Q (-1) M2) ∧ (¬ v2 = 0 →
      wX11_isMeaning a2 M2 (fun v9 M9 => ((v9 = 0 →
          Q (-1) M9) ∧ (¬ v9 = 0 →
          wX11_within a4 (-1) 7 M9 (fun v20 M20 => ((¬ v20 = 0 →
              wX11_within a3 0 8 M20 (fun v32 M32 => ((¬ v32 = 0 →
                  vp_in a2 6 ∧ ((¬ (M32 210 (Int32.toNatClampNeg a2)) = (-9) →
                    wX11_takeRoot a2 M32 (fun M57 => wX11_derive a1 a3 M57 (fun v63 M63 => ((¬ a4 = (-1) →
                          (((M63 49 32) ≤ a4 →
                            Q (-9) M63) ∧ (¬ (M63 49 32) ≤ a4 →
                            vp_in a4 8 ∧ Q (M63 221 (Int32.toNatClampNeg a4)) M63))) ∧ (a4 = (-1) →
                          Q (M63 49 32) M63))))) ∧ ((M32 210 (Int32.toNatClampNeg a2)) = (-9) →
                    Q (-3) M32))) ∧ (v32 = 0 →
                  Q (-2) M32)))) ∧ (v20 = 0 →
              Q (-1) M20)))))))))
set_option maxHeartbeats 1000000 in
set_option maxRecDepth 20000 in
theorem sX11_derived {E : En} {a1 : Int32} {a2 : Int32} {a3 : Int32} {a4 : Int32} {M : Mem} {Q : Int32 → Mem → Prop} (h : wX11_derived a1 a2 a3 a4 M Q) : CM E 6 mX11_derived [.ref (E.2.2 49), .int a1, .int a2, .int a3, .int a4] M (Pi Q) := by
  unfold wX11_derived at h
  refine CM.of (by decide) rfl (Nat.le_of_ble_eq_true rfl) ?_
  refine V_aload_n dX11_derived_0 rfl ?_
  refine V_iload_n dX11_derived_1 rfl ?_
  refine M_Vi mv_X11_isPlace lk_X11_167 dX11_derived_2 rfl rfl (sX11_isPlace h) rfl rfl (Nat.le_of_ble_eq_true rfl) (by decide) (by decide) (fun v2 M2 h => ?_)
  refine V_if_eq 26 dX11_derived_5 (by decide) (fun q5 => ?_) (fun q5 => ?_)
  · replace h := h.1 q5
    refine V_iconst (-1) dX11_derived_26 (by decide) ?_
    exact V_reti dX11_derived_27 rfl rfl h
  · replace h := h.2 q5
    refine V_iload_n dX11_derived_8 rfl ?_
    refine M_Si ms_X11_isMeaning lk_X11_173 dX11_derived_9 (sX11_isMeaning h) rfl rfl (Nat.le_of_ble_eq_true rfl) (by decide) (by decide) (fun v9 M9 h => ?_)
    refine V_if_eq 26 dX11_derived_12 (by decide) (fun q12 => ?_) (fun q12 => ?_)
    · replace h := h.1 q12
      refine V_iconst (-1) dX11_derived_26 (by decide) ?_
      exact V_reti dX11_derived_27 rfl rfl h
    · replace h := h.2 q12
      refine V_iload dX11_derived_15 rfl ?_
      refine V_iconst (-1) dX11_derived_17 (by decide) ?_
      refine V_bipush 7 dX11_derived_18 (by decide) ?_
      refine M_Si ms_X11_within lk_X11_124 dX11_derived_20 (sX11_within h) rfl rfl (Nat.le_of_ble_eq_true rfl) (by decide) (by decide) (fun v20 M20 h => ?_)
      refine V_if_ne 28 dX11_derived_23 (by decide) (fun q23 => ?_) (fun q23 => ?_)
      · replace h := h.1 q23
        refine V_iload_n dX11_derived_28 rfl ?_
        refine V_iconst 0 dX11_derived_29 (by decide) ?_
        refine V_bipush 8 dX11_derived_30 (by decide) ?_
        refine M_Si ms_X11_within lk_X11_124 dX11_derived_32 (sX11_within h) rfl rfl (Nat.le_of_ble_eq_true rfl) (by decide) (by decide) (fun v32 M32 h => ?_)
        refine V_if_ne 41 dX11_derived_35 (by decide) (fun q35 => ?_) (fun q35 => ?_)
        · replace h := h.1 q35
          refine V_aload_n dX11_derived_41 rfl ?_
          refine V_getR 210 fl_X11_58 dX11_derived_42 rfl rfl rfl ?_
          refine V_iload_n dX11_derived_45 rfl ?_
          obtain ⟨hi46, h⟩ := h
          refine V_ialdM dX11_derived_46 rfl hi46 ?_
          refine V_bipush (-9) dX11_derived_47 (by decide) ?_
          refine V_icmp_ne 55 dX11_derived_49 (by decide) (fun q49 => ?_) (fun q49 => ?_)
          · replace h := h.1 q49
            refine V_aload_n dX11_derived_55 rfl ?_
            refine V_iload_n dX11_derived_56 rfl ?_
            refine M_Vv mv_X11_takeRoot lk_X11_227 dX11_derived_57 rfl rfl (sX11_takeRoot h) rfl rfl (Nat.le_of_ble_eq_true rfl) (by decide) (by decide) (fun M57 h => ?_)
            refine V_aload_n dX11_derived_60 rfl ?_
            refine V_iload_n dX11_derived_61 rfl ?_
            refine V_iload_n dX11_derived_62 rfl ?_
            refine M_Vi mv_X11_derive lk_X11_231 dX11_derived_63 rfl rfl (sX11_derive h) rfl rfl (Nat.le_of_ble_eq_true rfl) (by decide) (by decide) (fun v63 M63 h => ?_)
            refine V_pop dX11_derived_66 rfl ?_
            refine V_iload dX11_derived_67 rfl ?_
            refine V_iconst (-1) dX11_derived_69 (by decide) ?_
            refine V_icmp_ne 80 dX11_derived_70 (by decide) (fun q70 => ?_) (fun q70 => ?_)
            · replace h := h.1 q70
              refine V_iload dX11_derived_80 rfl ?_
              refine V_aload_n dX11_derived_82 rfl ?_
              refine V_getI fl_X11_218 dX11_derived_83 rfl rfl ?_
              refine V_icmp_ge 99 dX11_derived_86 (by decide) (fun q86 => ?_) (fun q86 => ?_)
              · replace h := h.1 q86
                refine V_bipush (-9) dX11_derived_99 (by decide) ?_
                exact V_reti dX11_derived_101 rfl rfl h
              · replace h := h.2 q86
                refine V_aload_n dX11_derived_89 rfl ?_
                refine V_getR 221 fl_X11_82 dX11_derived_90 rfl rfl rfl ?_
                refine V_iload dX11_derived_93 rfl ?_
                obtain ⟨hi95, h⟩ := h
                refine V_ialdM dX11_derived_95 rfl hi95 ?_
                refine V_goto 101 dX11_derived_96 (by decide) ?_
                exact V_reti dX11_derived_101 rfl rfl h
            · replace h := h.2 q70
              refine V_aload_n dX11_derived_73 rfl ?_
              refine V_getI fl_X11_218 dX11_derived_74 rfl rfl ?_
              refine V_goto 101 dX11_derived_77 (by decide) ?_
              exact V_reti dX11_derived_101 rfl rfl h
          · replace h := h.2 q49
            refine V_bipush (-3) dX11_derived_52 (by decide) ?_
            exact V_reti dX11_derived_54 rfl rfl h
        · replace h := h.2 q35
          refine V_bipush (-2) dX11_derived_38 (by decide) ?_
          exact V_reti dX11_derived_40 rfl rfl h
      · replace h := h.2 q23
        refine V_iconst (-1) dX11_derived_26 (by decide) ?_
        exact V_reti dX11_derived_27 rfl rfl h
def wX11_latest (a1 : Int32) (a2 : Int32) (M : Mem) (Q : Int32 → Mem → Prop) : Prop :=
  wX11_isPlace a1 M (fun v2 M2 => ((v2 = 0 →
      Q (-1) M2) ∧ (¬ v2 = 0 →
      wX11_isMeaning a2 M2 (fun v9 M9 => ((¬ v9 = 0 →
          vp_in a2 6 ∧ ((¬ (M9 210 (Int32.toNatClampNeg a2)) = (-9) →
            wX11_takeRoot a2 M9 (fun M33 => wX11_derive a1 8 M33 (fun v40 M40 => Q v40 M40))) ∧ ((M9 210 (Int32.toNatClampNeg a2)) = (-9) →
            Q (-3) M9))) ∧ (v9 = 0 →
          Q (-1) M9))))))
set_option maxHeartbeats 1000000 in
set_option maxRecDepth 20000 in
theorem sX11_latest {E : En} {a1 : Int32} {a2 : Int32} {M : Mem} {Q : Int32 → Mem → Prop} (h : wX11_latest a1 a2 M Q) : CM E 6 mX11_latest [.ref (E.2.2 49), .int a1, .int a2] M (Pi Q) := by
  unfold wX11_latest at h
  refine CM.of (by decide) rfl (Nat.le_of_ble_eq_true rfl) ?_
  refine V_aload_n dX11_latest_0 rfl ?_
  refine V_iload_n dX11_latest_1 rfl ?_
  refine M_Vi mv_X11_isPlace lk_X11_167 dX11_latest_2 rfl rfl (sX11_isPlace h) rfl rfl (Nat.le_of_ble_eq_true rfl) (by decide) (by decide) (fun v2 M2 h => ?_)
  refine V_if_eq 15 dX11_latest_5 (by decide) (fun q5 => ?_) (fun q5 => ?_)
  · replace h := h.1 q5
    refine V_iconst (-1) dX11_latest_15 (by decide) ?_
    exact V_reti dX11_latest_16 rfl rfl h
  · replace h := h.2 q5
    refine V_iload_n dX11_latest_8 rfl ?_
    refine M_Si ms_X11_isMeaning lk_X11_173 dX11_latest_9 (sX11_isMeaning h) rfl rfl (Nat.le_of_ble_eq_true rfl) (by decide) (by decide) (fun v9 M9 h => ?_)
    refine V_if_ne 17 dX11_latest_12 (by decide) (fun q12 => ?_) (fun q12 => ?_)
    · replace h := h.1 q12
      refine V_aload_n dX11_latest_17 rfl ?_
      refine V_getR 210 fl_X11_58 dX11_latest_18 rfl rfl rfl ?_
      refine V_iload_n dX11_latest_21 rfl ?_
      obtain ⟨hi22, h⟩ := h
      refine V_ialdM dX11_latest_22 rfl hi22 ?_
      refine V_bipush (-9) dX11_latest_23 (by decide) ?_
      refine V_icmp_ne 31 dX11_latest_25 (by decide) (fun q25 => ?_) (fun q25 => ?_)
      · replace h := h.1 q25
        refine V_aload_n dX11_latest_31 rfl ?_
        refine V_iload_n dX11_latest_32 rfl ?_
        refine M_Vv mv_X11_takeRoot lk_X11_227 dX11_latest_33 rfl rfl (sX11_takeRoot h) rfl rfl (Nat.le_of_ble_eq_true rfl) (by decide) (by decide) (fun M33 h => ?_)
        refine V_aload_n dX11_latest_36 rfl ?_
        refine V_iload_n dX11_latest_37 rfl ?_
        refine V_bipush 8 dX11_latest_38 (by decide) ?_
        refine M_Vi mv_X11_derive lk_X11_231 dX11_latest_40 rfl rfl (sX11_derive h) rfl rfl (Nat.le_of_ble_eq_true rfl) (by decide) (by decide) (fun v40 M40 h => ?_)
        exact V_reti dX11_latest_43 rfl rfl h
      · replace h := h.2 q25
        refine V_bipush (-3) dX11_latest_28 (by decide) ?_
        exact V_reti dX11_latest_30 rfl rfl h
    · replace h := h.2 q12
      refine V_iconst (-1) dX11_latest_15 (by decide) ?_
      exact V_reti dX11_latest_16 rfl rfl h
def wX11_gap (a1 : Int32) (M : Mem) (Q : Int32 → Mem → Prop) : Prop :=
  wX11_within a1 1 20 M (fun v4 M4 => ((¬ v4 = 0 →
      (∀ N20, N20 = mset M4 49 34 a1 → Q (M4 49 34) N20)) ∧ (v4 = 0 →
      Q (-2) M4)))
set_option maxHeartbeats 1000000 in
set_option maxRecDepth 20000 in
theorem sX11_gap {E : En} {a1 : Int32} {M : Mem} {Q : Int32 → Mem → Prop} (h : wX11_gap a1 M Q) : CM E 2 mX11_gap [.ref (E.2.2 49), .int a1] M (Pi Q) := by
  unfold wX11_gap at h
  refine CM.of (by decide) rfl (Nat.le_of_ble_eq_true rfl) ?_
  refine V_iload_n dX11_gap_0 rfl ?_
  refine V_iconst 1 dX11_gap_1 (by decide) ?_
  refine V_bipush 20 dX11_gap_2 (by decide) ?_
  refine M_Si ms_X11_within lk_X11_124 dX11_gap_4 (sX11_within h) rfl rfl (Nat.le_of_ble_eq_true rfl) (by decide) (by decide) (fun v4 M4 h => ?_)
  refine V_if_ne 13 dX11_gap_7 (by decide) (fun q7 => ?_) (fun q7 => ?_)
  · replace h := h.1 q7
    refine V_aload_n dX11_gap_13 rfl ?_
    refine V_getI fl_X11_88 dX11_gap_14 rfl rfl ?_
    refine V_istore_n dX11_gap_17 (by decide) ?_
    refine V_aload_n dX11_gap_18 rfl ?_
    refine V_iload_n dX11_gap_19 rfl ?_
    refine V_putN fp_X11_88 dX11_gap_20 rfl rfl rfl rfl (fun N20 e20 => ?_)
    replace h := h N20 e20
    refine V_iload_n dX11_gap_23 rfl ?_
    exact V_reti dX11_gap_24 rfl rfl h
  · replace h := h.2 q7
    refine V_bipush (-2) dX11_gap_10 (by decide) ?_
    exact V_reti dX11_gap_12 rfl rfl h
def wX11_layCosts (a1 : Int32) (a2 : Int32) (M : Mem) (Q : Int32 → Mem → Prop) : Prop :=
  (∃ n, lq1 (fun R2 (x2_3 : Int32) (M2 : Mem) => ((x2_3 < 0 →
      vp_in 0 81 ∧ Q (M2 225 (Int32.toNatClampNeg 0)) M2) ∧ (¬ x2_3 < 0 →
      (∃ n, lq1 (fun R9 (x9_4 : Int32) (M9 : Mem) => ((x9_4 < 0 →
          R2 (x2_3 + (-1)) M9) ∧ (¬ x9_4 < 0 →
          jn0 (fun (M25 : Mem) => vp_in ((9 * x2_3) + x9_4) 81 ∧ (∀ N49, N49 = mset M25 225 (Int32.toNatClampNeg ((9 * x2_3) + x9_4)) ((M25 49 34) * (((a1 - x2_3) + a2) - x9_4)) → R9 (x9_4 + (-1)) N49)) (fun J25 => ((x2_3 = a1 →
              J25 M9) ∧ (¬ x2_3 = a1 →
              ((¬ x9_4 = a2 →
                vp_in x2_3 8 ∧ vp_in x9_4 8 ∧ wX11_differOf (M9 226 (Int32.toNatClampNeg x2_3)) (M9 227 (Int32.toNatClampNeg x9_4)) M9 (fun v67 M67 => vp_in (((9 * (x2_3 + 1)) + x9_4) + 1) 81 ∧ (∀ t87 : Int32, t87 = (v67 + (M67 225 (Int32.toNatClampNeg (((9 * (x2_3 + 1)) + x9_4) + 1)))) → vp_in ((9 * (x2_3 + 1)) + x9_4) 81 ∧ (∀ t108 : Int32, t108 = ((M67 225 (Int32.toNatClampNeg ((9 * (x2_3 + 1)) + x9_4))) + (M67 49 34)) → vp_in (((9 * x2_3) + x9_4) + 1) 81 ∧ (∀ t129 : Int32, t129 = ((M67 225 (Int32.toNatClampNeg (((9 * x2_3) + x9_4) + 1))) + (M67 49 34)) → jn1 (fun (y145_0 : Int32) (M145 : Mem) => ((t129 ≤ y145_0 →
                      vp_in ((9 * x2_3) + x9_4) 81 ∧ (∀ N172, N172 = mset M145 225 (Int32.toNatClampNeg ((9 * x2_3) + x9_4)) t129 → R9 (x9_4 + (-1)) N172)) ∧ (¬ t129 ≤ y145_0 →
                      vp_in ((9 * x2_3) + x9_4) 81 ∧ (∀ N172, N172 = mset M145 225 (Int32.toNatClampNeg ((9 * x2_3) + x9_4)) y145_0 → R9 (x9_4 + (-1)) N172)))) (fun J145 => ((t108 ≤ t87 →
                      J145 t108 M67) ∧ (¬ t108 ≤ t87 →
                      J145 t87 M67)))))))) ∧ (x9_4 = a2 →
                J25 M9)))))))) n a2 M2)))) n a1 M)
set_option maxHeartbeats 1000000 in
set_option maxRecDepth 20000 in
theorem sX11_layCosts {E : En} {a1 : Int32} {a2 : Int32} {M : Mem} {Q : Int32 → Mem → Prop} (h : wX11_layCosts a1 a2 M Q) : CM E 3 mX11_layCosts [.ref (E.2.2 49), .int a1, .int a2] M (Pi Q) := by
  unfold wX11_layCosts at h
  refine CM.of (by decide) rfl (Nat.le_of_ble_eq_true rfl) ?_
  refine V_iload_n dX11_layCosts_0 rfl ?_
  refine V_istore_n dX11_layCosts_1 (by decide) ?_
  obtain ⟨n2, h⟩ := h
  refine V_take 4 ?_
  refine lq1_use (P := fun (x2_3 : Int32) (M2 : Mem) => V (Km E 3 (Pi Q)) mX11_layCosts 2 [.ref (E.2.2 49), .int a1, .int a2, .int x2_3] [] (wsM E.1 E.2.2 M2) 0 0) (fun R2 hR2 x2_3 M2 h => ?_) n2 _ _ h
  refine V_iload_n dX11_layCosts_2 rfl ?_
  refine V_if_lt 185 dX11_layCosts_3 (by decide) (fun q3 => ?_) (fun q3 => ?_)
  · replace h := h.1 q3
    refine V_aload_n dX11_layCosts_185 rfl ?_
    refine V_getR 225 fl_X11_92 dX11_layCosts_186 rfl rfl rfl ?_
    refine V_iconst 0 dX11_layCosts_189 (by decide) ?_
    obtain ⟨hi190, h⟩ := h
    refine V_ialdM dX11_layCosts_190 rfl hi190 ?_
    exact V_reti dX11_layCosts_191 rfl rfl h
  · replace h := h.2 q3
    refine V_iload_n dX11_layCosts_6 rfl ?_
    refine V_istore dX11_layCosts_7 (by decide) ?_
    obtain ⟨n9, h⟩ := h
    refine V_take 5 ?_
    refine lq1_use (P := fun (x9_4 : Int32) (M9 : Mem) => V (Km E 3 (Pi Q)) mX11_layCosts 9 [.ref (E.2.2 49), .int a1, .int a2, .int x2_3, .int x9_4] [] (wsM E.1 E.2.2 M9) 0 0) (fun R9 hR9 x9_4 M9 h => ?_) n9 _ _ h
    refine V_iload dX11_layCosts_9 rfl ?_
    refine V_if_lt 179 dX11_layCosts_11 (by decide) (fun q11 => ?_) (fun q11 => ?_)
    · replace h := h.1 q11
      refine V_iincC (-1) dX11_layCosts_179 (by decide) rfl (by decide) ?_
      refine V_goto 2 dX11_layCosts_182 (by decide) ?_
      refine V_take 4 ?_
      exact hR2 _ _ h
    · replace h := h.2 q11
      refine V_iload_n dX11_layCosts_14 rfl ?_
      refine V_iload_n dX11_layCosts_15 rfl ?_
      refine jn0_use (P := fun (M25 : Mem) => V (Km E 3 (Pi Q)) mX11_layCosts 25 [.ref (E.2.2 49), .int a1, .int a2, .int x2_3, .int x9_4] [] (wsM E.1 E.2.2 M25) 0 0) (fun M25 h => ?_) (fun J25 hJ25 h => ?_) h
      · refine V_aload_n dX11_layCosts_25 rfl ?_
        refine V_getR 225 fl_X11_92 dX11_layCosts_26 rfl rfl rfl ?_
        refine V_bipush 9 dX11_layCosts_29 (by decide) ?_
        refine V_iload_n dX11_layCosts_31 rfl ?_
        refine V_imul dX11_layCosts_32 ?_
        refine V_iload dX11_layCosts_33 rfl ?_
        refine V_iadd dX11_layCosts_35 ?_
        refine V_aload_n dX11_layCosts_36 rfl ?_
        refine V_getI fl_X11_88 dX11_layCosts_37 rfl rfl ?_
        refine V_iload_n dX11_layCosts_40 rfl ?_
        refine V_iload_n dX11_layCosts_41 rfl ?_
        refine V_isub dX11_layCosts_42 ?_
        refine V_iload_n dX11_layCosts_43 rfl ?_
        refine V_iadd dX11_layCosts_44 ?_
        refine V_iload dX11_layCosts_45 rfl ?_
        refine V_isub dX11_layCosts_47 ?_
        refine V_imul dX11_layCosts_48 ?_
        obtain ⟨hi49, h⟩ := h
        refine V_iastN dX11_layCosts_49 rfl hi49 (fun N49 e49 => ?_)
        replace h := h N49 e49
        refine V_goto 173 dX11_layCosts_50 (by decide) ?_
        refine V_iincC (-1) dX11_layCosts_173 (by decide) rfl (by decide) ?_
        refine V_goto 9 dX11_layCosts_176 (by decide) ?_
        refine V_take 5 ?_
        exact hR9 _ _ h
      · refine V_icmp_eq 25 dX11_layCosts_16 (by decide) (fun q16 => ?_) (fun q16 => ?_)
        · replace h := h.1 q16
          refine V_take 5 ?_
          exact hJ25 _ h
        · replace h := h.2 q16
          refine V_iload dX11_layCosts_19 rfl ?_
          refine V_iload_n dX11_layCosts_21 rfl ?_
          refine V_icmp_ne 53 dX11_layCosts_22 (by decide) (fun q22 => ?_) (fun q22 => ?_)
          · replace h := h.1 q22
            refine V_aload_n dX11_layCosts_53 rfl ?_
            refine V_aload_n dX11_layCosts_54 rfl ?_
            refine V_getR 226 fl_X11_95 dX11_layCosts_55 rfl rfl rfl ?_
            refine V_iload_n dX11_layCosts_58 rfl ?_
            obtain ⟨hi59, h⟩ := h
            refine V_ialdM dX11_layCosts_59 rfl hi59 ?_
            refine V_aload_n dX11_layCosts_60 rfl ?_
            refine V_getR 227 fl_X11_98 dX11_layCosts_61 rfl rfl rfl ?_
            refine V_iload dX11_layCosts_64 rfl ?_
            obtain ⟨hi66, h⟩ := h
            refine V_ialdM dX11_layCosts_66 rfl hi66 ?_
            refine M_Vi mv_X11_differOf lk_X11_136 dX11_layCosts_67 rfl rfl (sX11_differOf h) rfl rfl (Nat.le_of_ble_eq_true rfl) (by decide) (by decide) (fun v67 M67 h => ?_)
            refine V_aload_n dX11_layCosts_70 rfl ?_
            refine V_getR 225 fl_X11_92 dX11_layCosts_71 rfl rfl rfl ?_
            refine V_bipush 9 dX11_layCosts_74 (by decide) ?_
            refine V_iload_n dX11_layCosts_76 rfl ?_
            refine V_iconst 1 dX11_layCosts_77 (by decide) ?_
            refine V_iadd dX11_layCosts_78 ?_
            refine V_imul dX11_layCosts_79 ?_
            refine V_iload dX11_layCosts_80 rfl ?_
            refine V_iadd dX11_layCosts_82 ?_
            refine V_iconst 1 dX11_layCosts_83 (by decide) ?_
            refine V_iadd dX11_layCosts_84 ?_
            obtain ⟨hi85, h⟩ := h
            refine V_ialdM dX11_layCosts_85 rfl hi85 ?_
            refine V_iadd dX11_layCosts_86 ?_
            refine V_name (fun t87 e87 => ?_)
            replace h := h t87 e87
            refine V_istore dX11_layCosts_87 (by decide) ?_
            refine V_aload_n dX11_layCosts_89 rfl ?_
            refine V_getR 225 fl_X11_92 dX11_layCosts_90 rfl rfl rfl ?_
            refine V_bipush 9 dX11_layCosts_93 (by decide) ?_
            refine V_iload_n dX11_layCosts_95 rfl ?_
            refine V_iconst 1 dX11_layCosts_96 (by decide) ?_
            refine V_iadd dX11_layCosts_97 ?_
            refine V_imul dX11_layCosts_98 ?_
            refine V_iload dX11_layCosts_99 rfl ?_
            refine V_iadd dX11_layCosts_101 ?_
            obtain ⟨hi102, h⟩ := h
            refine V_ialdM dX11_layCosts_102 rfl hi102 ?_
            refine V_aload_n dX11_layCosts_103 rfl ?_
            refine V_getI fl_X11_88 dX11_layCosts_104 rfl rfl ?_
            refine V_iadd dX11_layCosts_107 ?_
            refine V_name (fun t108 e108 => ?_)
            replace h := h t108 e108
            refine V_istore dX11_layCosts_108 (by decide) ?_
            refine V_aload_n dX11_layCosts_110 rfl ?_
            refine V_getR 225 fl_X11_92 dX11_layCosts_111 rfl rfl rfl ?_
            refine V_bipush 9 dX11_layCosts_114 (by decide) ?_
            refine V_iload_n dX11_layCosts_116 rfl ?_
            refine V_imul dX11_layCosts_117 ?_
            refine V_iload dX11_layCosts_118 rfl ?_
            refine V_iadd dX11_layCosts_120 ?_
            refine V_iconst 1 dX11_layCosts_121 (by decide) ?_
            refine V_iadd dX11_layCosts_122 ?_
            obtain ⟨hi123, h⟩ := h
            refine V_ialdM dX11_layCosts_123 rfl hi123 ?_
            refine V_aload_n dX11_layCosts_124 rfl ?_
            refine V_getI fl_X11_88 dX11_layCosts_125 rfl rfl ?_
            refine V_iadd dX11_layCosts_128 ?_
            refine V_name (fun t129 e129 => ?_)
            replace h := h t129 e129
            refine V_istore dX11_layCosts_129 (by decide) ?_
            refine V_iload dX11_layCosts_131 rfl ?_
            refine V_iload dX11_layCosts_133 rfl ?_
            refine jn1_use (P := fun (y145_0 : Int32) (M145 : Mem) => ∀ j145_5 : Value, ∀ j145_6 : Value, V (Km E 3 (Pi Q)) mX11_layCosts 145 [.ref (E.2.2 49), .int a1, .int a2, .int x2_3, .int x9_4, j145_5, j145_6, .int t129] [.int y145_0] (wsM E.1 E.2.2 M145) 0 0) (fun y145_0 M145 h j145_5 j145_6 => ?_) (fun J145 hJ145 h => ?_) h
            · refine V_istore dX11_layCosts_145 (by decide) ?_
              refine V_aload_n dX11_layCosts_147 rfl ?_
              refine V_getR 225 fl_X11_92 dX11_layCosts_148 rfl rfl rfl ?_
              refine V_bipush 9 dX11_layCosts_151 (by decide) ?_
              refine V_iload_n dX11_layCosts_153 rfl ?_
              refine V_imul dX11_layCosts_154 ?_
              refine V_iload dX11_layCosts_155 rfl ?_
              refine V_iadd dX11_layCosts_157 ?_
              refine V_iload dX11_layCosts_158 rfl ?_
              refine V_iload dX11_layCosts_160 rfl ?_
              refine V_icmp_ge 170 dX11_layCosts_162 (by decide) (fun q162 => ?_) (fun q162 => ?_)
              · replace h := h.1 q162
                refine V_iload dX11_layCosts_170 rfl ?_
                obtain ⟨hi172, h⟩ := h
                refine V_iastN dX11_layCosts_172 rfl hi172 (fun N172 e172 => ?_)
                replace h := h N172 e172
                refine V_iincC (-1) dX11_layCosts_173 (by decide) rfl (by decide) ?_
                refine V_goto 9 dX11_layCosts_176 (by decide) ?_
                refine V_take 5 ?_
                exact hR9 _ _ h
              · replace h := h.2 q162
                refine V_iload dX11_layCosts_165 rfl ?_
                refine V_goto 172 dX11_layCosts_167 (by decide) ?_
                obtain ⟨hi172, h⟩ := h
                refine V_iastN dX11_layCosts_172 rfl hi172 (fun N172 e172 => ?_)
                replace h := h N172 e172
                refine V_iincC (-1) dX11_layCosts_173 (by decide) rfl (by decide) ?_
                refine V_goto 9 dX11_layCosts_176 (by decide) ?_
                refine V_take 5 ?_
                exact hR9 _ _ h
            · refine V_icmp_ge 143 dX11_layCosts_135 (by decide) (fun q135 => ?_) (fun q135 => ?_)
              · replace h := h.1 q135
                refine V_iload dX11_layCosts_143 rfl ?_
                refine V_take 8 ?_
                exact hJ145 _ _ h _ _
              · replace h := h.2 q135
                refine V_iload dX11_layCosts_138 rfl ?_
                refine V_goto 145 dX11_layCosts_140 (by decide) ?_
                refine V_take 8 ?_
                exact hJ145 _ _ h _ _
          · replace h := h.2 q22
            refine V_take 5 ?_
            exact hJ25 _ h
def wX11_takeForms (a1 : Int32) (a2 : Int32) (M : Mem) (Q : Mem → Prop) : Prop :=
  (∃ n, lq1 (fun R2 (x2_3 : Int32) (M2 : Mem) => vp_in a1 40 ∧ (((M2 207 (Int32.toNatClampNeg a1)) ≤ x2_3 →
      (∃ n, lq1 (fun R37 (x37_3 : Int32) (M37 : Mem) => vp_in a2 40 ∧ (((M37 207 (Int32.toNatClampNeg a2)) ≤ x37_3 →
          Q M37) ∧ (¬ (M37 207 (Int32.toNatClampNeg a2)) ≤ x37_3 →
          vp_in ((8 * a2) + x37_3) 320 ∧ vp_in x37_3 8 ∧ (∀ N63, N63 = mset M37 227 (Int32.toNatClampNeg x37_3) (M37 208 (Int32.toNatClampNeg ((8 * a2) + x37_3))) → R37 (x37_3 + 1) N63)))) n 0 M2)) ∧ (¬ (M2 207 (Int32.toNatClampNeg a1)) ≤ x2_3 →
      vp_in ((8 * a1) + x2_3) 320 ∧ vp_in x2_3 8 ∧ (∀ N28, N28 = mset M2 226 (Int32.toNatClampNeg x2_3) (M2 208 (Int32.toNatClampNeg ((8 * a1) + x2_3))) → R2 (x2_3 + 1) N28)))) n 0 M)
set_option maxHeartbeats 1000000 in
set_option maxRecDepth 20000 in
theorem sX11_takeForms {E : En} {a1 : Int32} {a2 : Int32} {M : Mem} {Q : Mem → Prop} (h : wX11_takeForms a1 a2 M Q) : CM E 1 mX11_takeForms [.ref (E.2.2 49), .int a1, .int a2] M (Pv Q) := by
  unfold wX11_takeForms at h
  refine CM.of (by decide) rfl (Nat.le_of_ble_eq_true rfl) ?_
  refine V_iconst 0 dX11_takeForms_0 (by decide) ?_
  refine V_istore_n dX11_takeForms_1 (by decide) ?_
  obtain ⟨n2, h⟩ := h
  refine V_take 4 ?_
  refine lq1_use (P := fun (x2_3 : Int32) (M2 : Mem) => V (Km E 1 (Pv Q)) mX11_takeForms 2 [.ref (E.2.2 49), .int a1, .int a2, .int x2_3] [] (wsM E.1 E.2.2 M2) 0 0) (fun R2 hR2 x2_3 M2 h => ?_) n2 _ _ h
  refine V_iload_n dX11_takeForms_2 rfl ?_
  refine V_aload_n dX11_takeForms_3 rfl ?_
  refine V_getR 207 fl_X11_49 dX11_takeForms_4 rfl rfl rfl ?_
  refine V_iload_n dX11_takeForms_7 rfl ?_
  obtain ⟨hi8, h⟩ := h
  refine V_ialdM dX11_takeForms_8 rfl hi8 ?_
  refine V_icmp_ge 35 dX11_takeForms_9 (by decide) (fun q9 => ?_) (fun q9 => ?_)
  · replace h := h.1 q9
    refine V_iconst 0 dX11_takeForms_35 (by decide) ?_
    refine V_istore_n dX11_takeForms_36 (by decide) ?_
    obtain ⟨n37, h⟩ := h
    refine V_take 4 ?_
    refine lq1_use (P := fun (x37_3 : Int32) (M37 : Mem) => ∀ j37_1 : Value, V (Km E 1 (Pv Q)) mX11_takeForms 37 [.ref (E.2.2 49), j37_1, .int a2, .int x37_3] [] (wsM E.1 E.2.2 M37) 0 0) (fun R37 hR37 x37_3 M37 h j37_1 => ?_) n37 _ _ h _
    refine V_iload_n dX11_takeForms_37 rfl ?_
    refine V_aload_n dX11_takeForms_38 rfl ?_
    refine V_getR 207 fl_X11_49 dX11_takeForms_39 rfl rfl rfl ?_
    refine V_iload_n dX11_takeForms_42 rfl ?_
    obtain ⟨hi43, h⟩ := h
    refine V_ialdM dX11_takeForms_43 rfl hi43 ?_
    refine V_icmp_ge 70 dX11_takeForms_44 (by decide) (fun q44 => ?_) (fun q44 => ?_)
    · replace h := h.1 q44
      exact V_retv dX11_takeForms_70 rfl h
    · replace h := h.2 q44
      refine V_aload_n dX11_takeForms_47 rfl ?_
      refine V_getR 227 fl_X11_98 dX11_takeForms_48 rfl rfl rfl ?_
      refine V_iload_n dX11_takeForms_51 rfl ?_
      refine V_aload_n dX11_takeForms_52 rfl ?_
      refine V_getR 208 fl_X11_52 dX11_takeForms_53 rfl rfl rfl ?_
      refine V_bipush 8 dX11_takeForms_56 (by decide) ?_
      refine V_iload_n dX11_takeForms_58 rfl ?_
      refine V_imul dX11_takeForms_59 ?_
      refine V_iload_n dX11_takeForms_60 rfl ?_
      refine V_iadd dX11_takeForms_61 ?_
      obtain ⟨hi62, h⟩ := h
      refine V_ialdM dX11_takeForms_62 rfl hi62 ?_
      obtain ⟨hi63, h⟩ := h
      refine V_iastN dX11_takeForms_63 rfl hi63 (fun N63 e63 => ?_)
      replace h := h N63 e63
      refine V_iincC 1 dX11_takeForms_64 (by decide) rfl (by decide) ?_
      refine V_goto 37 dX11_takeForms_67 (by decide) ?_
      refine V_take 4 ?_
      exact hR37 _ _ h _
  · replace h := h.2 q9
    refine V_aload_n dX11_takeForms_12 rfl ?_
    refine V_getR 226 fl_X11_95 dX11_takeForms_13 rfl rfl rfl ?_
    refine V_iload_n dX11_takeForms_16 rfl ?_
    refine V_aload_n dX11_takeForms_17 rfl ?_
    refine V_getR 208 fl_X11_52 dX11_takeForms_18 rfl rfl rfl ?_
    refine V_bipush 8 dX11_takeForms_21 (by decide) ?_
    refine V_iload_n dX11_takeForms_23 rfl ?_
    refine V_imul dX11_takeForms_24 ?_
    refine V_iload_n dX11_takeForms_25 rfl ?_
    refine V_iadd dX11_takeForms_26 ?_
    obtain ⟨hi27, h⟩ := h
    refine V_ialdM dX11_takeForms_27 rfl hi27 ?_
    obtain ⟨hi28, h⟩ := h
    refine V_iastN dX11_takeForms_28 rfl hi28 (fun N28 e28 => ?_)
    replace h := h N28 e28
    refine V_iincC 1 dX11_takeForms_29 (by decide) rfl (by decide) ?_
    refine V_goto 2 dX11_takeForms_32 (by decide) ?_
    refine V_take 4 ?_
    exact hR2 _ _ h
def wX11_costOf (a1 : Int32) (a2 : Int32) (M : Mem) (Q : Int32 → Mem → Prop) : Prop :=
  wX11_takeForms a1 a2 M (fun M3 => vp_in a1 40 ∧ vp_in a2 40 ∧ wX11_layCosts (M3 207 (Int32.toNatClampNeg a1)) (M3 207 (Int32.toNatClampNeg a2)) M3 (fun v19 M19 => Q v19 M19))
set_option maxHeartbeats 1000000 in
set_option maxRecDepth 20000 in
theorem sX11_costOf {E : En} {a1 : Int32} {a2 : Int32} {M : Mem} {Q : Int32 → Mem → Prop} (h : wX11_costOf a1 a2 M Q) : CM E 4 mX11_costOf [.ref (E.2.2 49), .int a1, .int a2] M (Pi Q) := by
  unfold wX11_costOf at h
  refine CM.of (by decide) rfl (Nat.le_of_ble_eq_true rfl) ?_
  refine V_aload_n dX11_costOf_0 rfl ?_
  refine V_iload_n dX11_costOf_1 rfl ?_
  refine V_iload_n dX11_costOf_2 rfl ?_
  refine M_Vv mv_X11_takeForms lk_X11_234 dX11_costOf_3 rfl rfl (sX11_takeForms h) rfl rfl (Nat.le_of_ble_eq_true rfl) (by decide) (by decide) (fun M3 h => ?_)
  refine V_aload_n dX11_costOf_6 rfl ?_
  refine V_aload_n dX11_costOf_7 rfl ?_
  refine V_getR 207 fl_X11_49 dX11_costOf_8 rfl rfl rfl ?_
  refine V_iload_n dX11_costOf_11 rfl ?_
  obtain ⟨hi12, h⟩ := h
  refine V_ialdM dX11_costOf_12 rfl hi12 ?_
  refine V_aload_n dX11_costOf_13 rfl ?_
  refine V_getR 207 fl_X11_49 dX11_costOf_14 rfl rfl rfl ?_
  refine V_iload_n dX11_costOf_17 rfl ?_
  obtain ⟨hi18, h⟩ := h
  refine V_ialdM dX11_costOf_18 rfl hi18 ?_
  refine M_Vi mv_X11_layCosts lk_X11_238 dX11_costOf_19 rfl rfl (sX11_layCosts h) rfl rfl (Nat.le_of_ble_eq_true rfl) (by decide) (by decide) (fun v19 M19 h => ?_)
  exact V_reti dX11_costOf_22 rfl rfl h
def wX11_cost (a1 : Int32) (a2 : Int32) (M : Mem) (Q : Int32 → Mem → Prop) : Prop :=
  wX11_isForm a1 M (fun v2 M2 => ((v2 = 0 →
      Q (-1) M2) ∧ (¬ v2 = 0 →
      wX11_isForm a2 M2 (fun v10 M10 => ((v10 = 0 →
          Q (-1) M10) ∧ (¬ v10 = 0 →
          wX11_costOf a1 a2 M10 (fun v19 M19 => Q v19 M19)))))))
set_option maxHeartbeats 1000000 in
set_option maxRecDepth 20000 in
theorem sX11_cost {E : En} {a1 : Int32} {a2 : Int32} {M : Mem} {Q : Int32 → Mem → Prop} (h : wX11_cost a1 a2 M Q) : CM E 5 mX11_cost [.ref (E.2.2 49), .int a1, .int a2] M (Pi Q) := by
  unfold wX11_cost at h
  refine CM.of (by decide) rfl (Nat.le_of_ble_eq_true rfl) ?_
  refine V_aload_n dX11_cost_0 rfl ?_
  refine V_iload_n dX11_cost_1 rfl ?_
  refine M_Vi mv_X11_isForm lk_X11_183 dX11_cost_2 rfl rfl (sX11_isForm h) rfl rfl (Nat.le_of_ble_eq_true rfl) (by decide) (by decide) (fun v2 M2 h => ?_)
  refine V_if_eq 25 dX11_cost_5 (by decide) (fun q5 => ?_) (fun q5 => ?_)
  · replace h := h.1 q5
    refine V_iconst (-1) dX11_cost_25 (by decide) ?_
    exact V_reti dX11_cost_26 rfl rfl h
  · replace h := h.2 q5
    refine V_aload_n dX11_cost_8 rfl ?_
    refine V_iload_n dX11_cost_9 rfl ?_
    refine M_Vi mv_X11_isForm lk_X11_183 dX11_cost_10 rfl rfl (sX11_isForm h) rfl rfl (Nat.le_of_ble_eq_true rfl) (by decide) (by decide) (fun v10 M10 h => ?_)
    refine V_if_eq 25 dX11_cost_13 (by decide) (fun q13 => ?_) (fun q13 => ?_)
    · replace h := h.1 q13
      refine V_iconst (-1) dX11_cost_25 (by decide) ?_
      exact V_reti dX11_cost_26 rfl rfl h
    · replace h := h.2 q13
      refine V_aload_n dX11_cost_16 rfl ?_
      refine V_iload_n dX11_cost_17 rfl ?_
      refine V_iload_n dX11_cost_18 rfl ?_
      refine M_Vi mv_X11_costOf lk_X11_241 dX11_cost_19 rfl rfl (sX11_costOf h) rfl rfl (Nat.le_of_ble_eq_true rfl) (by decide) (by decide) (fun v19 M19 h => ?_)
      refine V_goto 26 dX11_cost_22 (by decide) ?_
      exact V_reti dX11_cost_26 rfl rfl h
def wX11_align (a1 : Int32) (a2 : Int32) (a3 : Int32) (M : Mem) (Q : Int32 → Mem → Prop) : Prop :=
  wX11_isForm a1 M (fun v2 M2 => ((v2 = 0 →
      Q (-1) M2) ∧ (¬ v2 = 0 →
      wX11_isForm a2 M2 (fun v10 M10 => ((v10 = 0 →
          Q (-1) M10) ∧ (¬ v10 = 0 →
          wX11_within a3 (-1) 15 M10 (fun v20 M20 => ((¬ v20 = 0 →
              wX11_costOf a1 a2 M20 (fun v31 M31 => vp_in a1 40 ∧ vp_in a2 40 ∧ (∃ n, lq3 (fun R60 (x60_6 : Int32) (x60_7 : Int32) (x60_8 : Int32) (M60 : Mem) => jn0 (fun (M74 : Mem) => vp_in ((9 * x60_6) + x60_7) 81 ∧ jn3 (fun (x243_6 : Int32) (x243_7 : Int32) (x243_10 : Int32) (M243 : Mem) => ((¬ x60_8 = a3 →
                        R60 x243_6 x243_7 (x60_8 + 1) M243) ∧ (x60_8 = a3 →
                        Q x243_10 M243))) (fun J243 => jn0 (fun (M177 : Mem) => jn0 (fun (M229 : Mem) => vp_in x60_7 8 ∧ J243 x60_6 (x60_7 + 1) ((M229 227 (Int32.toNatClampNeg x60_7)) + 1) M229) (fun J229 => (((M31 207 (Int32.toNatClampNeg a1)) ≤ x60_6 →
                            J229 M177) ∧ (¬ (M31 207 (Int32.toNatClampNeg a1)) ≤ x60_6 →
                            vp_in ((9 * (x60_6 + 1)) + x60_7) 81 ∧ ((¬ ((M177 225 (Int32.toNatClampNeg ((9 * (x60_6 + 1)) + x60_7))) + (M177 49 34)) = (M74 225 (Int32.toNatClampNeg ((9 * x60_6) + x60_7))) →
                              J229 M177) ∧ (((M177 225 (Int32.toNatClampNeg ((9 * (x60_6 + 1)) + x60_7))) + (M177 49 34)) = (M74 225 (Int32.toNatClampNeg ((9 * x60_6) + x60_7))) →
                              vp_in x60_6 8 ∧ J243 (x60_6 + 1) x60_7 (100 * ((M177 226 (Int32.toNatClampNeg x60_6)) + 1)) M177)))))) (fun J177 => (((M31 207 (Int32.toNatClampNeg a1)) ≤ x60_6 →
                          J177 M74) ∧ (¬ (M31 207 (Int32.toNatClampNeg a1)) ≤ x60_6 →
                          (((M31 207 (Int32.toNatClampNeg a2)) ≤ x60_7 →
                            J177 M74) ∧ (¬ (M31 207 (Int32.toNatClampNeg a2)) ≤ x60_7 →
                            vp_in x60_6 8 ∧ vp_in x60_7 8 ∧ wX11_differOf (M74 226 (Int32.toNatClampNeg x60_6)) (M74 227 (Int32.toNatClampNeg x60_7)) M74 (fun v118 M118 => vp_in (((9 * (x60_6 + 1)) + x60_7) + 1) 81 ∧ ((¬ (v118 + (M118 225 (Int32.toNatClampNeg (((9 * (x60_6 + 1)) + x60_7) + 1)))) = (M74 225 (Int32.toNatClampNeg ((9 * x60_6) + x60_7))) →
                                J177 M118) ∧ ((v118 + (M118 225 (Int32.toNatClampNeg (((9 * (x60_6 + 1)) + x60_7) + 1)))) = (M74 225 (Int32.toNatClampNeg ((9 * x60_6) + x60_7))) →
                                (∀ t166 : Int32, t166 = (((100 * ((M118 226 (Int32.toNatClampNeg x60_6)) + 1)) + (M118 227 (Int32.toNatClampNeg x60_7))) + 1) → J243 (x60_6 + 1) (x60_7 + 1) t166 M118))))))))))) (fun J74 => ((x60_6 < (M31 207 (Int32.toNatClampNeg a1)) →
                      J74 M60) ∧ (¬ x60_6 < (M31 207 (Int32.toNatClampNeg a1)) →
                      (((M31 207 (Int32.toNatClampNeg a2)) ≤ x60_7 →
                        ((¬ a3 = (-1) →
                          Q (-9) M60) ∧ (a3 = (-1) →
                          Q x60_8 M60))) ∧ (¬ (M31 207 (Int32.toNatClampNeg a2)) ≤ x60_7 →
                        J74 M60)))))) n 0 0 0 M31))) ∧ (v20 = 0 →
              Q (-1) M20)))))))))
set_option maxHeartbeats 1000000 in
set_option maxRecDepth 20000 in
theorem sX11_align {E : En} {a1 : Int32} {a2 : Int32} {a3 : Int32} {M : Mem} {Q : Int32 → Mem → Prop} (h : wX11_align a1 a2 a3 M Q) : CM E 5 mX11_align [.ref (E.2.2 49), .int a1, .int a2, .int a3] M (Pi Q) := by
  unfold wX11_align at h
  refine CM.of (by decide) rfl (Nat.le_of_ble_eq_true rfl) ?_
  refine V_aload_n dX11_align_0 rfl ?_
  refine V_iload_n dX11_align_1 rfl ?_
  refine M_Vi mv_X11_isForm lk_X11_183 dX11_align_2 rfl rfl (sX11_isForm h) rfl rfl (Nat.le_of_ble_eq_true rfl) (by decide) (by decide) (fun v2 M2 h => ?_)
  refine V_if_eq 26 dX11_align_5 (by decide) (fun q5 => ?_) (fun q5 => ?_)
  · replace h := h.1 q5
    refine V_iconst (-1) dX11_align_26 (by decide) ?_
    exact V_reti dX11_align_27 rfl rfl h
  · replace h := h.2 q5
    refine V_aload_n dX11_align_8 rfl ?_
    refine V_iload_n dX11_align_9 rfl ?_
    refine M_Vi mv_X11_isForm lk_X11_183 dX11_align_10 rfl rfl (sX11_isForm h) rfl rfl (Nat.le_of_ble_eq_true rfl) (by decide) (by decide) (fun v10 M10 h => ?_)
    refine V_if_eq 26 dX11_align_13 (by decide) (fun q13 => ?_) (fun q13 => ?_)
    · replace h := h.1 q13
      refine V_iconst (-1) dX11_align_26 (by decide) ?_
      exact V_reti dX11_align_27 rfl rfl h
    · replace h := h.2 q13
      refine V_iload_n dX11_align_16 rfl ?_
      refine V_iconst (-1) dX11_align_17 (by decide) ?_
      refine V_bipush 15 dX11_align_18 (by decide) ?_
      refine M_Si ms_X11_within lk_X11_124 dX11_align_20 (sX11_within h) rfl rfl (Nat.le_of_ble_eq_true rfl) (by decide) (by decide) (fun v20 M20 h => ?_)
      refine V_if_ne 28 dX11_align_23 (by decide) (fun q23 => ?_) (fun q23 => ?_)
      · replace h := h.1 q23
        refine V_aload_n dX11_align_28 rfl ?_
        refine V_iload_n dX11_align_29 rfl ?_
        refine V_iload_n dX11_align_30 rfl ?_
        refine M_Vi mv_X11_costOf lk_X11_241 dX11_align_31 rfl rfl (sX11_costOf h) rfl rfl (Nat.le_of_ble_eq_true rfl) (by decide) (by decide) (fun v31 M31 h => ?_)
        refine V_pop dX11_align_34 rfl ?_
        refine V_aload_n dX11_align_35 rfl ?_
        refine V_getR 207 fl_X11_49 dX11_align_36 rfl rfl rfl ?_
        refine V_iload_n dX11_align_39 rfl ?_
        obtain ⟨hi40, h⟩ := h
        refine V_ialdM dX11_align_40 rfl hi40 ?_
        refine V_istore dX11_align_41 (by decide) ?_
        refine V_aload_n dX11_align_43 rfl ?_
        refine V_getR 207 fl_X11_49 dX11_align_44 rfl rfl rfl ?_
        refine V_iload_n dX11_align_47 rfl ?_
        obtain ⟨hi48, h⟩ := h
        refine V_ialdM dX11_align_48 rfl hi48 ?_
        refine V_istore dX11_align_49 (by decide) ?_
        refine V_iconst 0 dX11_align_51 (by decide) ?_
        refine V_istore dX11_align_52 (by decide) ?_
        refine V_iconst 0 dX11_align_54 (by decide) ?_
        refine V_istore dX11_align_55 (by decide) ?_
        refine V_iconst 0 dX11_align_57 (by decide) ?_
        refine V_istore dX11_align_58 (by decide) ?_
        obtain ⟨n60, h⟩ := h
        refine V_take 9 ?_
        refine lq3_use (P := fun (x60_6 : Int32) (x60_7 : Int32) (x60_8 : Int32) (M60 : Mem) => ∀ j60_1 : Value, ∀ j60_2 : Value, V (Km E 5 (Pi Q)) mX11_align 60 [.ref (E.2.2 49), j60_1, j60_2, .int a3, .int (M31 207 (Int32.toNatClampNeg a1)), .int (M31 207 (Int32.toNatClampNeg a2)), .int x60_6, .int x60_7, .int x60_8] [] (wsM E.1 E.2.2 M60) 0 0) (fun R60 hR60 x60_6 x60_7 x60_8 M60 h j60_1 j60_2 => ?_) n60 _ _ _ _ h _ _
        refine V_iload dX11_align_60 rfl ?_
        refine V_iload dX11_align_62 rfl ?_
        refine jn0_use (P := fun (M74 : Mem) => ∀ j74_1 : Value, ∀ j74_2 : Value, V (Km E 5 (Pi Q)) mX11_align 74 [.ref (E.2.2 49), j74_1, j74_2, .int a3, .int (M31 207 (Int32.toNatClampNeg a1)), .int (M31 207 (Int32.toNatClampNeg a2)), .int x60_6, .int x60_7, .int x60_8] [] (wsM E.1 E.2.2 M74) 0 0) (fun M74 h j74_1 j74_2 => ?_) (fun J74 hJ74 h => ?_) h
        · refine V_aload_n dX11_align_74 rfl ?_
          refine V_getR 225 fl_X11_92 dX11_align_75 rfl rfl rfl ?_
          refine V_bipush 9 dX11_align_78 (by decide) ?_
          refine V_iload dX11_align_80 rfl ?_
          refine V_imul dX11_align_82 ?_
          refine V_iload dX11_align_83 rfl ?_
          refine V_iadd dX11_align_85 ?_
          obtain ⟨hi86, h⟩ := h
          refine V_ialdM dX11_align_86 rfl hi86 ?_
          refine V_istore dX11_align_87 (by decide) ?_
          refine V_iload dX11_align_89 rfl ?_
          refine V_iload dX11_align_91 rfl ?_
          refine jn3_use (P := fun (x243_6 : Int32) (x243_7 : Int32) (x243_10 : Int32) (M243 : Mem) => ∀ j243_1 : Value, ∀ j243_2 : Value, ∀ j243_9 : Value, V (Km E 5 (Pi Q)) mX11_align 243 [.ref (E.2.2 49), j243_1, j243_2, .int a3, .int (M31 207 (Int32.toNatClampNeg a1)), .int (M31 207 (Int32.toNatClampNeg a2)), .int x243_6, .int x243_7, .int x60_8, j243_9, .int x243_10] [] (wsM E.1 E.2.2 M243) 0 0) (fun x243_6 x243_7 x243_10 M243 h j243_1 j243_2 j243_9 => ?_) (fun J243 hJ243 h => ?_) h
          · refine V_iload dX11_align_243 rfl ?_
            refine V_iload_n dX11_align_245 rfl ?_
            refine V_icmp_ne 252 dX11_align_246 (by decide) (fun q246 => ?_) (fun q246 => ?_)
            · replace h := h.1 q246
              refine V_iincC 1 dX11_align_252 (by decide) rfl (by decide) ?_
              refine V_goto 60 dX11_align_255 (by decide) ?_
              refine V_take 9 ?_
              exact hR60 _ _ _ _ h _ _
            · replace h := h.2 q246
              refine V_iload dX11_align_249 rfl ?_
              exact V_reti dX11_align_251 rfl rfl h
          · refine jn0_use (P := fun (M177 : Mem) => ∀ j177_1 : Value, ∀ j177_2 : Value, V (Km E 5 (Pi Q)) mX11_align 177 [.ref (E.2.2 49), j177_1, j177_2, .int a3, .int (M31 207 (Int32.toNatClampNeg a1)), .int (M31 207 (Int32.toNatClampNeg a2)), .int x60_6, .int x60_7, .int x60_8, .int (M74 225 (Int32.toNatClampNeg ((9 * x60_6) + x60_7)))] [] (wsM E.1 E.2.2 M177) 0 0) (fun M177 h j177_1 j177_2 => ?_) (fun J177 hJ177 h => ?_) h
            · refine V_iload dX11_align_177 rfl ?_
              refine V_iload dX11_align_179 rfl ?_
              refine jn0_use (P := fun (M229 : Mem) => ∀ j229_1 : Value, ∀ j229_2 : Value, ∀ j229_9 : Value, V (Km E 5 (Pi Q)) mX11_align 229 [.ref (E.2.2 49), j229_1, j229_2, .int a3, .int (M31 207 (Int32.toNatClampNeg a1)), .int (M31 207 (Int32.toNatClampNeg a2)), .int x60_6, .int x60_7, .int x60_8, j229_9] [] (wsM E.1 E.2.2 M229) 0 0) (fun M229 h j229_1 j229_2 j229_9 => ?_) (fun J229 hJ229 h => ?_) h
              · refine V_aload_n dX11_align_229 rfl ?_
                refine V_getR 227 fl_X11_98 dX11_align_230 rfl rfl rfl ?_
                refine V_iload dX11_align_233 rfl ?_
                obtain ⟨hi235, h⟩ := h
                refine V_ialdM dX11_align_235 rfl hi235 ?_
                refine V_iconst 1 dX11_align_236 (by decide) ?_
                refine V_iadd dX11_align_237 ?_
                refine V_istore dX11_align_238 (by decide) ?_
                refine V_iincC 1 dX11_align_240 (by decide) rfl (by decide) ?_
                refine V_take 11 ?_
                exact hJ243 _ _ _ _ h _ _ _
              · refine V_icmp_ge 229 dX11_align_181 (by decide) (fun q181 => ?_) (fun q181 => ?_)
                · replace h := h.1 q181
                  refine V_take 10 ?_
                  exact hJ229 _ h _ _ _
                · replace h := h.2 q181
                  refine V_aload_n dX11_align_184 rfl ?_
                  refine V_getR 225 fl_X11_92 dX11_align_185 rfl rfl rfl ?_
                  refine V_bipush 9 dX11_align_188 (by decide) ?_
                  refine V_iload dX11_align_190 rfl ?_
                  refine V_iconst 1 dX11_align_192 (by decide) ?_
                  refine V_iadd dX11_align_193 ?_
                  refine V_imul dX11_align_194 ?_
                  refine V_iload dX11_align_195 rfl ?_
                  refine V_iadd dX11_align_197 ?_
                  obtain ⟨hi198, h⟩ := h
                  refine V_ialdM dX11_align_198 rfl hi198 ?_
                  refine V_aload_n dX11_align_199 rfl ?_
                  refine V_getI fl_X11_88 dX11_align_200 rfl rfl ?_
                  refine V_iadd dX11_align_203 ?_
                  refine V_iload dX11_align_204 rfl ?_
                  refine V_icmp_ne 229 dX11_align_206 (by decide) (fun q206 => ?_) (fun q206 => ?_)
                  · replace h := h.1 q206
                    refine V_take 10 ?_
                    exact hJ229 _ h _ _ _
                  · replace h := h.2 q206
                    refine V_bipush 100 dX11_align_209 (by decide) ?_
                    refine V_aload_n dX11_align_211 rfl ?_
                    refine V_getR 226 fl_X11_95 dX11_align_212 rfl rfl rfl ?_
                    refine V_iload dX11_align_215 rfl ?_
                    obtain ⟨hi217, h⟩ := h
                    refine V_ialdM dX11_align_217 rfl hi217 ?_
                    refine V_iconst 1 dX11_align_218 (by decide) ?_
                    refine V_iadd dX11_align_219 ?_
                    refine V_imul dX11_align_220 ?_
                    refine V_istore dX11_align_221 (by decide) ?_
                    refine V_iincC 1 dX11_align_223 (by decide) rfl (by decide) ?_
                    refine V_goto 243 dX11_align_226 (by decide) ?_
                    refine V_take 11 ?_
                    exact hJ243 _ _ _ _ h _ _ _
            · refine V_icmp_ge 177 dX11_align_93 (by decide) (fun q93 => ?_) (fun q93 => ?_)
              · replace h := h.1 q93
                refine V_take 10 ?_
                exact hJ177 _ h _ _
              · replace h := h.2 q93
                refine V_iload dX11_align_96 rfl ?_
                refine V_iload dX11_align_98 rfl ?_
                refine V_icmp_ge 177 dX11_align_100 (by decide) (fun q100 => ?_) (fun q100 => ?_)
                · replace h := h.1 q100
                  refine V_take 10 ?_
                  exact hJ177 _ h _ _
                · replace h := h.2 q100
                  refine V_aload_n dX11_align_103 rfl ?_
                  refine V_aload_n dX11_align_104 rfl ?_
                  refine V_getR 226 fl_X11_95 dX11_align_105 rfl rfl rfl ?_
                  refine V_iload dX11_align_108 rfl ?_
                  obtain ⟨hi110, h⟩ := h
                  refine V_ialdM dX11_align_110 rfl hi110 ?_
                  refine V_aload_n dX11_align_111 rfl ?_
                  refine V_getR 227 fl_X11_98 dX11_align_112 rfl rfl rfl ?_
                  refine V_iload dX11_align_115 rfl ?_
                  obtain ⟨hi117, h⟩ := h
                  refine V_ialdM dX11_align_117 rfl hi117 ?_
                  refine M_Vi mv_X11_differOf lk_X11_136 dX11_align_118 rfl rfl (sX11_differOf h) rfl rfl (Nat.le_of_ble_eq_true rfl) (by decide) (by decide) (fun v118 M118 h => ?_)
                  refine V_aload_n dX11_align_121 rfl ?_
                  refine V_getR 225 fl_X11_92 dX11_align_122 rfl rfl rfl ?_
                  refine V_bipush 9 dX11_align_125 (by decide) ?_
                  refine V_iload dX11_align_127 rfl ?_
                  refine V_iconst 1 dX11_align_129 (by decide) ?_
                  refine V_iadd dX11_align_130 ?_
                  refine V_imul dX11_align_131 ?_
                  refine V_iload dX11_align_132 rfl ?_
                  refine V_iadd dX11_align_134 ?_
                  refine V_iconst 1 dX11_align_135 (by decide) ?_
                  refine V_iadd dX11_align_136 ?_
                  obtain ⟨hi137, h⟩ := h
                  refine V_ialdM dX11_align_137 rfl hi137 ?_
                  refine V_iadd dX11_align_138 ?_
                  refine V_iload dX11_align_139 rfl ?_
                  refine V_icmp_ne 177 dX11_align_141 (by decide) (fun q141 => ?_) (fun q141 => ?_)
                  · replace h := h.1 q141
                    refine V_take 10 ?_
                    exact hJ177 _ h _ _
                  · replace h := h.2 q141
                    refine V_bipush 100 dX11_align_144 (by decide) ?_
                    refine V_aload_n dX11_align_146 rfl ?_
                    refine V_getR 226 fl_X11_95 dX11_align_147 rfl rfl rfl ?_
                    refine V_iload dX11_align_150 rfl ?_
                    refine V_ialdM dX11_align_152 rfl hi110 ?_
                    refine V_iconst 1 dX11_align_153 (by decide) ?_
                    refine V_iadd dX11_align_154 ?_
                    refine V_imul dX11_align_155 ?_
                    refine V_aload_n dX11_align_156 rfl ?_
                    refine V_getR 227 fl_X11_98 dX11_align_157 rfl rfl rfl ?_
                    refine V_iload dX11_align_160 rfl ?_
                    refine V_ialdM dX11_align_162 rfl hi117 ?_
                    refine V_iadd dX11_align_163 ?_
                    refine V_iconst 1 dX11_align_164 (by decide) ?_
                    refine V_iadd dX11_align_165 ?_
                    refine V_name (fun t166 e166 => ?_)
                    replace h := h t166 e166
                    refine V_istore dX11_align_166 (by decide) ?_
                    refine V_iincC 1 dX11_align_168 (by decide) rfl (by decide) ?_
                    refine V_iincC 1 dX11_align_171 (by decide) rfl (by decide) ?_
                    refine V_goto 243 dX11_align_174 (by decide) ?_
                    refine V_take 11 ?_
                    exact hJ243 _ _ _ _ h _ _ _
        · refine V_icmp_lt 74 dX11_align_64 (by decide) (fun q64 => ?_) (fun q64 => ?_)
          · replace h := h.1 q64
            refine V_take 9 ?_
            exact hJ74 _ h _ _
          · replace h := h.2 q64
            refine V_iload dX11_align_67 rfl ?_
            refine V_iload dX11_align_69 rfl ?_
            refine V_icmp_ge 258 dX11_align_71 (by decide) (fun q71 => ?_) (fun q71 => ?_)
            · replace h := h.1 q71
              refine V_iload_n dX11_align_258 rfl ?_
              refine V_iconst (-1) dX11_align_259 (by decide) ?_
              refine V_icmp_ne 268 dX11_align_260 (by decide) (fun q260 => ?_) (fun q260 => ?_)
              · replace h := h.1 q260
                refine V_bipush (-9) dX11_align_268 (by decide) ?_
                exact V_reti dX11_align_270 rfl rfl h
              · replace h := h.2 q260
                refine V_iload dX11_align_263 rfl ?_
                refine V_goto 270 dX11_align_265 (by decide) ?_
                exact V_reti dX11_align_270 rfl rfl h
            · replace h := h.2 q71
              refine V_take 9 ?_
              exact hJ74 _ h _ _
      · replace h := h.2 q23
        refine V_iconst (-1) dX11_align_26 (by decide) ?_
        exact V_reti dX11_align_27 rfl rfl h
def wX11_laySet (a1 : Int32) (M : Mem) (Q : Int32 → Mem → Prop) : Prop :=
  (∀ N2, N2 = mset M 49 41 0 → ((a1 < 1 →
    Q 0 N2) ∧ (¬ a1 < 1 →
    ((a1 ≤ 65535 →
      (∃ n, lq1 (fun R20 (x20_2 : Int32) (M20 : Mem) => ((16 ≤ x20_2 →
          Q 1 M20) ∧ (¬ 16 ≤ x20_2 →
          wX11_has a1 x20_2 M20 (fun v28 M28 => ((v28 = 0 →
              R20 (x20_2 + 1) M28) ∧ (¬ v28 = 0 →
              ((¬ (M28 49 41) = 5 →
                vp_in (M28 49 41) 5 ∧ (∀ N53, N53 = mset M28 230 (Int32.toNatClampNeg (M28 49 41)) x20_2 → (∀ N61, N61 = mset N53 49 41 ((N53 49 41) + 1) → R20 (x20_2 + 1) N61))) ∧ ((M28 49 41) = 5 →
                Q 0 M28)))))))) n 0 N2)) ∧ (¬ a1 ≤ 65535 →
      Q 0 N2)))))
set_option maxHeartbeats 1000000 in
set_option maxRecDepth 20000 in
theorem sX11_laySet {E : En} {a1 : Int32} {M : Mem} {Q : Int32 → Mem → Prop} (h : wX11_laySet a1 M Q) : CM E 2 mX11_laySet [.ref (E.2.2 49), .int a1] M (Pi Q) := by
  unfold wX11_laySet at h
  refine CM.of (by decide) rfl (Nat.le_of_ble_eq_true rfl) ?_
  refine V_aload_n dX11_laySet_0 rfl ?_
  refine V_iconst 0 dX11_laySet_1 (by decide) ?_
  refine V_putN fp_X11_244 dX11_laySet_2 rfl rfl rfl rfl (fun N2 e2 => ?_)
  replace h := h N2 e2
  refine V_iload_n dX11_laySet_5 rfl ?_
  refine V_iconst 1 dX11_laySet_6 (by decide) ?_
  refine V_icmp_lt 16 dX11_laySet_7 (by decide) (fun q7 => ?_) (fun q7 => ?_)
  · replace h := h.1 q7
    refine V_iconst 0 dX11_laySet_16 (by decide) ?_
    exact V_reti dX11_laySet_17 rfl rfl h
  · replace h := h.2 q7
    refine V_iload_n dX11_laySet_10 rfl ?_
    refine V_ldc 65535 dX11_laySet_11 k_X11_247 ?_
    refine V_icmp_le 18 dX11_laySet_13 (by decide) (fun q13 => ?_) (fun q13 => ?_)
    · replace h := h.1 q13
      refine V_iconst 0 dX11_laySet_18 (by decide) ?_
      refine V_istore_n dX11_laySet_19 (by decide) ?_
      obtain ⟨n20, h⟩ := h
      refine V_take 3 ?_
      refine lq1_use (P := fun (x20_2 : Int32) (M20 : Mem) => V (Km E 2 (Pi Q)) mX11_laySet 20 [.ref (E.2.2 49), .int a1, .int x20_2] [] (wsM E.1 E.2.2 M20) 0 0) (fun R20 hR20 x20_2 M20 h => ?_) n20 _ _ h
      refine V_iload_n dX11_laySet_20 rfl ?_
      refine V_bipush 16 dX11_laySet_21 (by decide) ?_
      refine V_icmp_ge 70 dX11_laySet_23 (by decide) (fun q23 => ?_) (fun q23 => ?_)
      · replace h := h.1 q23
        refine V_iconst 1 dX11_laySet_70 (by decide) ?_
        exact V_reti dX11_laySet_71 rfl rfl h
      · replace h := h.2 q23
        refine V_iload_n dX11_laySet_26 rfl ?_
        refine V_iload_n dX11_laySet_27 rfl ?_
        refine M_Si ms_X11_has lk_X11_132 dX11_laySet_28 (sX11_has h) rfl rfl (Nat.le_of_ble_eq_true rfl) (by decide) (by decide) (fun v28 M28 h => ?_)
        refine V_if_eq 64 dX11_laySet_31 (by decide) (fun q31 => ?_) (fun q31 => ?_)
        · replace h := h.1 q31
          refine V_iincC 1 dX11_laySet_64 (by decide) rfl (by decide) ?_
          refine V_goto 20 dX11_laySet_67 (by decide) ?_
          refine V_take 3 ?_
          exact hR20 _ _ h
        · replace h := h.2 q31
          refine V_aload_n dX11_laySet_34 rfl ?_
          refine V_getI fl_X11_244 dX11_laySet_35 rfl rfl ?_
          refine V_iconst 5 dX11_laySet_38 (by decide) ?_
          refine V_icmp_ne 44 dX11_laySet_39 (by decide) (fun q39 => ?_) (fun q39 => ?_)
          · replace h := h.1 q39
            refine V_aload_n dX11_laySet_44 rfl ?_
            refine V_getR 230 fl_X11_104 dX11_laySet_45 rfl rfl rfl ?_
            refine V_aload_n dX11_laySet_48 rfl ?_
            refine V_getI fl_X11_244 dX11_laySet_49 rfl rfl ?_
            refine V_iload_n dX11_laySet_52 rfl ?_
            obtain ⟨hi53, h⟩ := h
            refine V_iastN dX11_laySet_53 rfl hi53 (fun N53 e53 => ?_)
            replace h := h N53 e53
            refine V_aload_n dX11_laySet_54 rfl ?_
            refine V_dup dX11_laySet_55 rfl ?_
            refine V_getI fl_X11_244 dX11_laySet_56 rfl rfl ?_
            refine V_iconst 1 dX11_laySet_59 (by decide) ?_
            refine V_iadd dX11_laySet_60 ?_
            refine V_putN fp_X11_244 dX11_laySet_61 rfl rfl rfl rfl (fun N61 e61 => ?_)
            replace h := h N61 e61
            refine V_iincC 1 dX11_laySet_64 (by decide) rfl (by decide) ?_
            refine V_goto 20 dX11_laySet_67 (by decide) ?_
            refine V_take 3 ?_
            exact hR20 _ _ h
          · replace h := h.2 q39
            refine V_iconst 0 dX11_laySet_42 (by decide) ?_
            exact V_reti dX11_laySet_43 rfl rfl h
    · replace h := h.2 q13
      refine V_iconst 0 dX11_laySet_16 (by decide) ?_
      exact V_reti dX11_laySet_17 rfl rfl h
def wX11_manyCandidates  (M : Mem) (Q : Int32 → Mem → Prop) : Prop :=
  Q (((1 + (M 49 41)) + ((M 49 41) * (M 49 41))) + (((M 49 41) * (M 49 41)) * (M 49 41))) M
set_option maxHeartbeats 1000000 in
set_option maxRecDepth 20000 in
theorem sX11_manyCandidates {E : En}  {M : Mem} {Q : Int32 → Mem → Prop} (h : wX11_manyCandidates  M Q) : CM E 1 mX11_manyCandidates [.ref (E.2.2 49)] M (Pi Q) := by
  unfold wX11_manyCandidates at h
  refine CM.of (by decide) rfl (Nat.le_of_ble_eq_true rfl) ?_
  refine V_iconst 1 dX11_manyCandidates_0 (by decide) ?_
  refine V_aload_n dX11_manyCandidates_1 rfl ?_
  refine V_getI fl_X11_244 dX11_manyCandidates_2 rfl rfl ?_
  refine V_iadd dX11_manyCandidates_5 ?_
  refine V_aload_n dX11_manyCandidates_6 rfl ?_
  refine V_getI fl_X11_244 dX11_manyCandidates_7 rfl rfl ?_
  refine V_aload_n dX11_manyCandidates_10 rfl ?_
  refine V_getI fl_X11_244 dX11_manyCandidates_11 rfl rfl ?_
  refine V_imul dX11_manyCandidates_14 ?_
  refine V_iadd dX11_manyCandidates_15 ?_
  refine V_aload_n dX11_manyCandidates_16 rfl ?_
  refine V_getI fl_X11_244 dX11_manyCandidates_17 rfl rfl ?_
  refine V_aload_n dX11_manyCandidates_20 rfl ?_
  refine V_getI fl_X11_244 dX11_manyCandidates_21 rfl rfl ?_
  refine V_imul dX11_manyCandidates_24 ?_
  refine V_aload_n dX11_manyCandidates_25 rfl ?_
  refine V_getI fl_X11_244 dX11_manyCandidates_26 rfl rfl ?_
  refine V_imul dX11_manyCandidates_29 ?_
  refine V_iadd dX11_manyCandidates_30 ?_
  exact V_reti dX11_manyCandidates_31 rfl rfl h
def wX11_layCandidate (a1 : Int32) (M : Mem) (Q : Mem → Prop) : Prop :=
  (∀ N6, N6 = mset M 49 39 0 → (∃ n, lq2 (fun R9 (x9_2 : Int32) (x9_3 : Int32) (M9 : Mem) => ((x9_2 < x9_3 →
      (∃ n, lq2 (fun R46 (x46_2 : Int32) (x46_4 : Int32) (M46 : Mem) => ((x46_4 < 0 →
          Q M46) ∧ (¬ x46_4 < 0 →
          ¬ (M46 49 41) = 0 ∧ vp_in (x46_2 - x46_2 / (M46 49 41) * (M46 49 41)) 5 ∧ vp_in x46_4 3 ∧ (∀ N68, N68 = mset M46 228 (Int32.toNatClampNeg x46_4) (M46 230 (Int32.toNatClampNeg (x46_2 - x46_2 / (M46 49 41) * (M46 49 41)))) → ¬ (N68 49 41) = 0 ∧ R46 (x46_2 / (N68 49 41)) (x46_4 + (-1)) N68)))) n x9_2 ((M9 49 39) - 1) M9)) ∧ (¬ x9_2 < x9_3 →
      (∀ N32, N32 = mset M9 49 39 ((M9 49 39) + 1) → R9 (x9_2 - x9_3) (x9_3 * (M9 49 41)) N32)))) n a1 1 N6))
set_option maxHeartbeats 1000000 in
set_option maxRecDepth 20000 in
theorem sX11_layCandidate {E : En} {a1 : Int32} {M : Mem} {Q : Mem → Prop} (h : wX11_layCandidate a1 M Q) : CM E 1 mX11_layCandidate [.ref (E.2.2 49), .int a1] M (Pv Q) := by
  unfold wX11_layCandidate at h
  refine CM.of (by decide) rfl (Nat.le_of_ble_eq_true rfl) ?_
  refine V_iload_n dX11_layCandidate_0 rfl ?_
  refine V_istore_n dX11_layCandidate_1 (by decide) ?_
  refine V_iconst 1 dX11_layCandidate_2 (by decide) ?_
  refine V_istore_n dX11_layCandidate_3 (by decide) ?_
  refine V_aload_n dX11_layCandidate_4 rfl ?_
  refine V_iconst 0 dX11_layCandidate_5 (by decide) ?_
  refine V_putN fp_X11_248 dX11_layCandidate_6 rfl rfl rfl rfl (fun N6 e6 => ?_)
  replace h := h N6 e6
  obtain ⟨n9, h⟩ := h
  refine V_take 4 ?_
  refine lq2_use (P := fun (x9_2 : Int32) (x9_3 : Int32) (M9 : Mem) => ∀ j9_1 : Value, V (Km E 1 (Pv Q)) mX11_layCandidate 9 [.ref (E.2.2 49), j9_1, .int x9_2, .int x9_3] [] (wsM E.1 E.2.2 M9) 0 0) (fun R9 hR9 x9_2 x9_3 M9 h j9_1 => ?_) n9 _ _ _ h _
  refine V_iload_n dX11_layCandidate_9 rfl ?_
  refine V_iload_n dX11_layCandidate_10 rfl ?_
  refine V_icmp_lt 38 dX11_layCandidate_11 (by decide) (fun q11 => ?_) (fun q11 => ?_)
  · replace h := h.1 q11
    refine V_aload_n dX11_layCandidate_38 rfl ?_
    refine V_getI fl_X11_248 dX11_layCandidate_39 rfl rfl ?_
    refine V_iconst 1 dX11_layCandidate_42 (by decide) ?_
    refine V_isub dX11_layCandidate_43 ?_
    refine V_istore dX11_layCandidate_44 (by decide) ?_
    obtain ⟨n46, h⟩ := h
    refine V_take 5 ?_
    refine lq2_use (P := fun (x46_2 : Int32) (x46_4 : Int32) (M46 : Mem) => ∀ j46_1 : Value, ∀ j46_3 : Value, V (Km E 1 (Pv Q)) mX11_layCandidate 46 [.ref (E.2.2 49), j46_1, .int x46_2, j46_3, .int x46_4] [] (wsM E.1 E.2.2 M46) 0 0) (fun R46 hR46 x46_2 x46_4 M46 h j46_1 j46_3 => ?_) n46 _ _ _ h _ _
    refine V_iload dX11_layCandidate_46 rfl ?_
    refine V_if_lt 82 dX11_layCandidate_48 (by decide) (fun q48 => ?_) (fun q48 => ?_)
    · replace h := h.1 q48
      exact V_retv dX11_layCandidate_82 rfl h
    · replace h := h.2 q48
      refine V_aload_n dX11_layCandidate_51 rfl ?_
      refine V_getR 228 fl_X11_101 dX11_layCandidate_52 rfl rfl rfl ?_
      refine V_iload dX11_layCandidate_55 rfl ?_
      refine V_aload_n dX11_layCandidate_57 rfl ?_
      refine V_getR 230 fl_X11_104 dX11_layCandidate_58 rfl rfl rfl ?_
      refine V_iload_n dX11_layCandidate_61 rfl ?_
      refine V_aload_n dX11_layCandidate_62 rfl ?_
      refine V_getI fl_X11_244 dX11_layCandidate_63 rfl rfl ?_
      obtain ⟨hz66, h⟩ := h
      refine V_irem dX11_layCandidate_66 hz66 ?_
      obtain ⟨hi67, h⟩ := h
      refine V_ialdM dX11_layCandidate_67 rfl hi67 ?_
      obtain ⟨hi68, h⟩ := h
      refine V_iastN dX11_layCandidate_68 rfl hi68 (fun N68 e68 => ?_)
      replace h := h N68 e68
      refine V_iload_n dX11_layCandidate_69 rfl ?_
      refine V_aload_n dX11_layCandidate_70 rfl ?_
      refine V_getI fl_X11_244 dX11_layCandidate_71 rfl rfl ?_
      obtain ⟨hz74, h⟩ := h
      refine V_idiv dX11_layCandidate_74 hz74 ?_
      refine V_istore_n dX11_layCandidate_75 (by decide) ?_
      refine V_iincC (-1) dX11_layCandidate_76 (by decide) rfl (by decide) ?_
      refine V_goto 46 dX11_layCandidate_79 (by decide) ?_
      refine V_take 5 ?_
      exact hR46 _ _ _ h _ _
  · replace h := h.2 q11
    refine V_iload_n dX11_layCandidate_14 rfl ?_
    refine V_iload_n dX11_layCandidate_15 rfl ?_
    refine V_isub dX11_layCandidate_16 ?_
    refine V_istore_n dX11_layCandidate_17 (by decide) ?_
    refine V_iload_n dX11_layCandidate_18 rfl ?_
    refine V_aload_n dX11_layCandidate_19 rfl ?_
    refine V_getI fl_X11_244 dX11_layCandidate_20 rfl rfl ?_
    refine V_imul dX11_layCandidate_23 ?_
    refine V_istore_n dX11_layCandidate_24 (by decide) ?_
    refine V_aload_n dX11_layCandidate_25 rfl ?_
    refine V_dup dX11_layCandidate_26 rfl ?_
    refine V_getI fl_X11_248 dX11_layCandidate_27 rfl rfl ?_
    refine V_iconst 1 dX11_layCandidate_30 (by decide) ?_
    refine V_iadd dX11_layCandidate_31 ?_
    refine V_putN fp_X11_248 dX11_layCandidate_32 rfl rfl rfl rfl (fun N32 e32 => ?_)
    replace h := h N32 e32
    refine V_goto 9 dX11_layCandidate_35 (by decide) ?_
    refine V_take 4 ?_
    exact hR9 _ _ _ h _
def wX11_deriveCandidate (a1 : Int32) (M : Mem) (Q : Mem → Prop) : Prop :=
  (∀ N5, N5 = mset M 49 32 (M 49 39) → (∃ n, lq1 (fun R10 (x10_2 : Int32) (M10 : Mem) => (((M10 49 32) ≤ x10_2 →
      wX11_derive a1 8 M10 (fun v40 M40 => Q M40)) ∧ (¬ (M10 49 32) ≤ x10_2 →
      vp_in x10_2 3 ∧ vp_in x10_2 8 ∧ (∀ N29, N29 = mset M10 221 (Int32.toNatClampNeg x10_2) (M10 228 (Int32.toNatClampNeg x10_2)) → R10 (x10_2 + 1) N29)))) n 0 N5))
set_option maxHeartbeats 1000000 in
set_option maxRecDepth 20000 in
theorem sX11_deriveCandidate {E : En} {a1 : Int32} {M : Mem} {Q : Mem → Prop} (h : wX11_deriveCandidate a1 M Q) : CM E 6 mX11_deriveCandidate [.ref (E.2.2 49), .int a1] M (Pv Q) := by
  unfold wX11_deriveCandidate at h
  refine CM.of (by decide) rfl (Nat.le_of_ble_eq_true rfl) ?_
  refine V_aload_n dX11_deriveCandidate_0 rfl ?_
  refine V_aload_n dX11_deriveCandidate_1 rfl ?_
  refine V_getI fl_X11_248 dX11_deriveCandidate_2 rfl rfl ?_
  refine V_putN fp_X11_218 dX11_deriveCandidate_5 rfl rfl rfl rfl (fun N5 e5 => ?_)
  replace h := h N5 e5
  refine V_iconst 0 dX11_deriveCandidate_8 (by decide) ?_
  refine V_istore_n dX11_deriveCandidate_9 (by decide) ?_
  obtain ⟨n10, h⟩ := h
  refine V_take 3 ?_
  refine lq1_use (P := fun (x10_2 : Int32) (M10 : Mem) => V (Km E 6 (Pv Q)) mX11_deriveCandidate 10 [.ref (E.2.2 49), .int a1, .int x10_2] [] (wsM E.1 E.2.2 M10) 0 0) (fun R10 hR10 x10_2 M10 h => ?_) n10 _ _ h
  refine V_iload_n dX11_deriveCandidate_10 rfl ?_
  refine V_aload_n dX11_deriveCandidate_11 rfl ?_
  refine V_getI fl_X11_218 dX11_deriveCandidate_12 rfl rfl ?_
  refine V_icmp_ge 36 dX11_deriveCandidate_15 (by decide) (fun q15 => ?_) (fun q15 => ?_)
  · replace h := h.1 q15
    refine V_aload_n dX11_deriveCandidate_36 rfl ?_
    refine V_iload_n dX11_deriveCandidate_37 rfl ?_
    refine V_bipush 8 dX11_deriveCandidate_38 (by decide) ?_
    refine M_Vi mv_X11_derive lk_X11_231 dX11_deriveCandidate_40 rfl rfl (sX11_derive h) rfl rfl (Nat.le_of_ble_eq_true rfl) (by decide) (by decide) (fun v40 M40 h => ?_)
    refine V_pop dX11_deriveCandidate_43 rfl ?_
    exact V_retv dX11_deriveCandidate_44 rfl h
  · replace h := h.2 q15
    refine V_aload_n dX11_deriveCandidate_18 rfl ?_
    refine V_getR 221 fl_X11_82 dX11_deriveCandidate_19 rfl rfl rfl ?_
    refine V_iload_n dX11_deriveCandidate_22 rfl ?_
    refine V_aload_n dX11_deriveCandidate_23 rfl ?_
    refine V_getR 228 fl_X11_101 dX11_deriveCandidate_24 rfl rfl rfl ?_
    refine V_iload_n dX11_deriveCandidate_27 rfl ?_
    obtain ⟨hi28, h⟩ := h
    refine V_ialdM dX11_deriveCandidate_28 rfl hi28 ?_
    obtain ⟨hi29, h⟩ := h
    refine V_iastN dX11_deriveCandidate_29 rfl hi29 (fun N29 e29 => ?_)
    replace h := h N29 e29
    refine V_iincC 1 dX11_deriveCandidate_30 (by decide) rfl (by decide) ?_
    refine V_goto 10 dX11_deriveCandidate_33 (by decide) ?_
    refine V_take 3 ?_
    exact hR10 _ _ h
def wX11_costFrom (a1 : Int32) (M : Mem) (Q : Int32 → Mem → Prop) : Prop :=
  (∃ n, lq1 (fun R2 (x2_2 : Int32) (M2 : Mem) => (((M2 49 32) ≤ x2_2 →
      (∃ n, lq1 (fun R30 (x30_2 : Int32) (M30 : Mem) => vp_in a1 40 ∧ (((M30 207 (Int32.toNatClampNeg a1)) ≤ x30_2 →
          wX11_layCosts (M30 49 32) (M30 207 (Int32.toNatClampNeg a1)) M30 (fun v74 M74 => Q v74 M74)) ∧ (¬ (M30 207 (Int32.toNatClampNeg a1)) ≤ x30_2 →
          vp_in ((8 * a1) + x30_2) 320 ∧ vp_in x30_2 8 ∧ (∀ N56, N56 = mset M30 227 (Int32.toNatClampNeg x30_2) (M30 208 (Int32.toNatClampNeg ((8 * a1) + x30_2))) → R30 (x30_2 + 1) N56)))) n 0 M2)) ∧ (¬ (M2 49 32) ≤ x2_2 →
      vp_in x2_2 8 ∧ (∀ N21, N21 = mset M2 226 (Int32.toNatClampNeg x2_2) (M2 221 (Int32.toNatClampNeg x2_2)) → R2 (x2_2 + 1) N21)))) n 0 M)
set_option maxHeartbeats 1000000 in
set_option maxRecDepth 20000 in
theorem sX11_costFrom {E : En} {a1 : Int32} {M : Mem} {Q : Int32 → Mem → Prop} (h : wX11_costFrom a1 M Q) : CM E 4 mX11_costFrom [.ref (E.2.2 49), .int a1] M (Pi Q) := by
  unfold wX11_costFrom at h
  refine CM.of (by decide) rfl (Nat.le_of_ble_eq_true rfl) ?_
  refine V_iconst 0 dX11_costFrom_0 (by decide) ?_
  refine V_istore_n dX11_costFrom_1 (by decide) ?_
  obtain ⟨n2, h⟩ := h
  refine V_take 3 ?_
  refine lq1_use (P := fun (x2_2 : Int32) (M2 : Mem) => V (Km E 4 (Pi Q)) mX11_costFrom 2 [.ref (E.2.2 49), .int a1, .int x2_2] [] (wsM E.1 E.2.2 M2) 0 0) (fun R2 hR2 x2_2 M2 h => ?_) n2 _ _ h
  refine V_iload_n dX11_costFrom_2 rfl ?_
  refine V_aload_n dX11_costFrom_3 rfl ?_
  refine V_getI fl_X11_218 dX11_costFrom_4 rfl rfl ?_
  refine V_icmp_ge 28 dX11_costFrom_7 (by decide) (fun q7 => ?_) (fun q7 => ?_)
  · replace h := h.1 q7
    refine V_iconst 0 dX11_costFrom_28 (by decide) ?_
    refine V_istore_n dX11_costFrom_29 (by decide) ?_
    obtain ⟨n30, h⟩ := h
    refine V_take 3 ?_
    refine lq1_use (P := fun (x30_2 : Int32) (M30 : Mem) => V (Km E 4 (Pi Q)) mX11_costFrom 30 [.ref (E.2.2 49), .int a1, .int x30_2] [] (wsM E.1 E.2.2 M30) 0 0) (fun R30 hR30 x30_2 M30 h => ?_) n30 _ _ h
    refine V_iload_n dX11_costFrom_30 rfl ?_
    refine V_aload_n dX11_costFrom_31 rfl ?_
    refine V_getR 207 fl_X11_49 dX11_costFrom_32 rfl rfl rfl ?_
    refine V_iload_n dX11_costFrom_35 rfl ?_
    obtain ⟨hi36, h⟩ := h
    refine V_ialdM dX11_costFrom_36 rfl hi36 ?_
    refine V_icmp_ge 63 dX11_costFrom_37 (by decide) (fun q37 => ?_) (fun q37 => ?_)
    · replace h := h.1 q37
      refine V_aload_n dX11_costFrom_63 rfl ?_
      refine V_aload_n dX11_costFrom_64 rfl ?_
      refine V_getI fl_X11_218 dX11_costFrom_65 rfl rfl ?_
      refine V_aload_n dX11_costFrom_68 rfl ?_
      refine V_getR 207 fl_X11_49 dX11_costFrom_69 rfl rfl rfl ?_
      refine V_iload_n dX11_costFrom_72 rfl ?_
      refine V_ialdM dX11_costFrom_73 rfl hi36 ?_
      refine M_Vi mv_X11_layCosts lk_X11_238 dX11_costFrom_74 rfl rfl (sX11_layCosts h) rfl rfl (Nat.le_of_ble_eq_true rfl) (by decide) (by decide) (fun v74 M74 h => ?_)
      exact V_reti dX11_costFrom_77 rfl rfl h
    · replace h := h.2 q37
      refine V_aload_n dX11_costFrom_40 rfl ?_
      refine V_getR 227 fl_X11_98 dX11_costFrom_41 rfl rfl rfl ?_
      refine V_iload_n dX11_costFrom_44 rfl ?_
      refine V_aload_n dX11_costFrom_45 rfl ?_
      refine V_getR 208 fl_X11_52 dX11_costFrom_46 rfl rfl rfl ?_
      refine V_bipush 8 dX11_costFrom_49 (by decide) ?_
      refine V_iload_n dX11_costFrom_51 rfl ?_
      refine V_imul dX11_costFrom_52 ?_
      refine V_iload_n dX11_costFrom_53 rfl ?_
      refine V_iadd dX11_costFrom_54 ?_
      obtain ⟨hi55, h⟩ := h
      refine V_ialdM dX11_costFrom_55 rfl hi55 ?_
      obtain ⟨hi56, h⟩ := h
      refine V_iastN dX11_costFrom_56 rfl hi56 (fun N56 e56 => ?_)
      replace h := h N56 e56
      refine V_iincC 1 dX11_costFrom_57 (by decide) rfl (by decide) ?_
      refine V_goto 30 dX11_costFrom_60 (by decide) ?_
      refine V_take 3 ?_
      exact hR30 _ _ h
  · replace h := h.2 q7
    refine V_aload_n dX11_costFrom_10 rfl ?_
    refine V_getR 226 fl_X11_95 dX11_costFrom_11 rfl rfl rfl ?_
    refine V_iload_n dX11_costFrom_14 rfl ?_
    refine V_aload_n dX11_costFrom_15 rfl ?_
    refine V_getR 221 fl_X11_82 dX11_costFrom_16 rfl rfl rfl ?_
    refine V_iload_n dX11_costFrom_19 rfl ?_
    obtain ⟨hi20, h⟩ := h
    refine V_ialdM dX11_costFrom_20 rfl hi20 ?_
    refine V_iastN dX11_costFrom_21 rfl hi20 (fun N21 e21 => ?_)
    replace h := h N21 e21
    refine V_iincC 1 dX11_costFrom_22 (by decide) rfl (by decide) ?_
    refine V_goto 2 dX11_costFrom_25 (by decide) ?_
    refine V_take 3 ?_
    exact hR2 _ _ h
def wX11_costsOf (a1 : Int32) (M : Mem) (Q : Int32 → Mem → Prop) : Prop :=
  (∃ n, lq2 (fun R4 (x4_2 : Int32) (x4_3 : Int32) (M4 : Mem) => (((M4 49 11) ≤ x4_3 →
      Q x4_2 M4) ∧ (¬ (M4 49 11) ≤ x4_3 →
      wX11_saidAt x4_3 a1 M4 (fun v15 M15 => ((v15 = (-9) →
          R4 x4_2 (x4_3 + 1) M15) ∧ (¬ v15 = (-9) →
          wX11_deriveCandidate x4_3 M15 (fun M29 => wX11_costFrom v15 M29 (fun v36 M36 => R4 (x4_2 + v36) (x4_3 + 1) M36)))))))) n 0 0 M)
set_option maxHeartbeats 1000000 in
set_option maxRecDepth 20000 in
theorem sX11_costsOf {E : En} {a1 : Int32} {M : Mem} {Q : Int32 → Mem → Prop} (h : wX11_costsOf a1 M Q) : CM E 7 mX11_costsOf [.ref (E.2.2 49), .int a1] M (Pi Q) := by
  unfold wX11_costsOf at h
  refine CM.of (by decide) rfl (Nat.le_of_ble_eq_true rfl) ?_
  refine V_iconst 0 dX11_costsOf_0 (by decide) ?_
  refine V_istore_n dX11_costsOf_1 (by decide) ?_
  refine V_iconst 0 dX11_costsOf_2 (by decide) ?_
  refine V_istore_n dX11_costsOf_3 (by decide) ?_
  obtain ⟨n4, h⟩ := h
  refine V_take 4 ?_
  refine lq2_use (P := fun (x4_2 : Int32) (x4_3 : Int32) (M4 : Mem) => V (Km E 7 (Pi Q)) mX11_costsOf 4 [.ref (E.2.2 49), .int a1, .int x4_2, .int x4_3] [] (wsM E.1 E.2.2 M4) 0 0) (fun R4 hR4 x4_2 x4_3 M4 h => ?_) n4 _ _ _ h
  refine V_iload_n dX11_costsOf_4 rfl ?_
  refine V_aload_n dX11_costsOf_5 rfl ?_
  refine V_getI fl_X11_164 dX11_costsOf_6 rfl rfl ?_
  refine V_icmp_ge 47 dX11_costsOf_9 (by decide) (fun q9 => ?_) (fun q9 => ?_)
  · replace h := h.1 q9
    refine V_iload_n dX11_costsOf_47 rfl ?_
    exact V_reti dX11_costsOf_48 rfl rfl h
  · replace h := h.2 q9
    refine V_aload_n dX11_costsOf_12 rfl ?_
    refine V_iload_n dX11_costsOf_13 rfl ?_
    refine V_iload_n dX11_costsOf_14 rfl ?_
    refine M_Vi mv_X11_saidAt lk_X11_186 dX11_costsOf_15 rfl rfl (sX11_saidAt h) rfl rfl (Nat.le_of_ble_eq_true rfl) (by decide) (by decide) (fun v15 M15 h => ?_)
    refine V_istore dX11_costsOf_18 (by decide) ?_
    refine V_iload dX11_costsOf_20 rfl ?_
    refine V_bipush (-9) dX11_costsOf_22 (by decide) ?_
    refine V_icmp_eq 41 dX11_costsOf_24 (by decide) (fun q24 => ?_) (fun q24 => ?_)
    · replace h := h.1 q24
      refine V_iincC 1 dX11_costsOf_41 (by decide) rfl (by decide) ?_
      refine V_goto 4 dX11_costsOf_44 (by decide) ?_
      refine V_take 4 ?_
      exact hR4 _ _ _ h
    · replace h := h.2 q24
      refine V_aload_n dX11_costsOf_27 rfl ?_
      refine V_iload_n dX11_costsOf_28 rfl ?_
      refine M_Vv mv_X11_deriveCandidate lk_X11_251 dX11_costsOf_29 rfl rfl (sX11_deriveCandidate h) rfl rfl (Nat.le_of_ble_eq_true rfl) (by decide) (by decide) (fun M29 h => ?_)
      refine V_iload_n dX11_costsOf_32 rfl ?_
      refine V_aload_n dX11_costsOf_33 rfl ?_
      refine V_iload dX11_costsOf_34 rfl ?_
      refine M_Vi mv_X11_costFrom lk_X11_254 dX11_costsOf_36 rfl rfl (sX11_costFrom h) rfl rfl (Nat.le_of_ble_eq_true rfl) (by decide) (by decide) (fun v36 M36 h => ?_)
      refine V_iadd dX11_costsOf_39 ?_
      refine V_istore_n dX11_costsOf_40 (by decide) ?_
      refine V_iincC 1 dX11_costsOf_41 (by decide) rfl (by decide) ?_
      refine V_goto 4 dX11_costsOf_44 (by decide) ?_
      refine V_take 4 ?_
      exact hR4 _ _ _ h
def wX11_isSaid (a1 : Int32) (M : Mem) (Q : Int32 → Mem → Prop) : Prop :=
  (∃ n, lq1 (fun R2 (x2_2 : Int32) (M2 : Mem) => (((M2 49 11) ≤ x2_2 →
      Q 0 M2) ∧ (¬ (M2 49 11) ≤ x2_2 →
      wX11_saidAt x2_2 a1 M2 (fun v13 M13 => ((v13 = (-9) →
          R2 (x2_2 + 1) M13) ∧ (¬ v13 = (-9) →
          Q 1 M13)))))) n 0 M)
set_option maxHeartbeats 1000000 in
set_option maxRecDepth 20000 in
theorem sX11_isSaid {E : En} {a1 : Int32} {M : Mem} {Q : Int32 → Mem → Prop} (h : wX11_isSaid a1 M Q) : CM E 2 mX11_isSaid [.ref (E.2.2 49), .int a1] M (Pi Q) := by
  unfold wX11_isSaid at h
  refine CM.of (by decide) rfl (Nat.le_of_ble_eq_true rfl) ?_
  refine V_iconst 0 dX11_isSaid_0 (by decide) ?_
  refine V_istore_n dX11_isSaid_1 (by decide) ?_
  obtain ⟨n2, h⟩ := h
  refine V_take 3 ?_
  refine lq1_use (P := fun (x2_2 : Int32) (M2 : Mem) => V (Km E 2 (Pi Q)) mX11_isSaid 2 [.ref (E.2.2 49), .int a1, .int x2_2] [] (wsM E.1 E.2.2 M2) 0 0) (fun R2 hR2 x2_2 M2 h => ?_) n2 _ _ h
  refine V_iload_n dX11_isSaid_2 rfl ?_
  refine V_aload_n dX11_isSaid_3 rfl ?_
  refine V_getI fl_X11_164 dX11_isSaid_4 rfl rfl ?_
  refine V_icmp_ge 29 dX11_isSaid_7 (by decide) (fun q7 => ?_) (fun q7 => ?_)
  · replace h := h.1 q7
    refine V_iconst 0 dX11_isSaid_29 (by decide) ?_
    exact V_reti dX11_isSaid_30 rfl rfl h
  · replace h := h.2 q7
    refine V_aload_n dX11_isSaid_10 rfl ?_
    refine V_iload_n dX11_isSaid_11 rfl ?_
    refine V_iload_n dX11_isSaid_12 rfl ?_
    refine M_Vi mv_X11_saidAt lk_X11_186 dX11_isSaid_13 rfl rfl (sX11_saidAt h) rfl rfl (Nat.le_of_ble_eq_true rfl) (by decide) (by decide) (fun v13 M13 h => ?_)
    refine V_bipush (-9) dX11_isSaid_16 (by decide) ?_
    refine V_icmp_eq 23 dX11_isSaid_18 (by decide) (fun q18 => ?_) (fun q18 => ?_)
    · replace h := h.1 q18
      refine V_iincC 1 dX11_isSaid_23 (by decide) rfl (by decide) ?_
      refine V_goto 2 dX11_isSaid_26 (by decide) ?_
      refine V_take 3 ?_
      exact hR2 _ _ h
    · replace h := h.2 q18
      refine V_iconst 1 dX11_isSaid_21 (by decide) ?_
      exact V_reti dX11_isSaid_22 rfl rfl h
def wX11_sought (a1 : Int32) (a2 : Int32) (a3 : Int32) (M : Mem) (Q : Int32 → Mem → Prop) : Prop :=
  wX11_isMeaning a1 M (fun v1 M1 => ((v1 = 0 →
      Q (-1) M1) ∧ (¬ v1 = 0 →
      wX11_within a3 (-2) 2 M1 (fun v11 M11 => ((¬ v11 = 0 →
          wX11_laySet a2 M11 (fun v21 M21 => ((¬ v21 = 0 →
              wX11_isSaid a1 M21 (fun v32 M32 => ((¬ v32 = 0 →
                  (∃ n, lq3 (fun R50 (x50_4 : Int32) (x50_5 : Int32) (x50_6 : Int32) (M50 : Mem) => wX11_manyCandidates  M50 (fun v53 M53 => ((v53 ≤ x50_6 →
                        wX11_layCandidate x50_4 M53 (fun M101 => ((¬ a3 = (-2) →
                            ((¬ a3 = (-1) →
                              (((M101 49 39) ≤ a3 →
                                Q (-9) M101) ∧ (¬ (M101 49 39) ≤ a3 →
                                vp_in a3 3 ∧ Q (M101 228 (Int32.toNatClampNeg a3)) M101))) ∧ (a3 = (-1) →
                              Q (M101 49 39) M101))) ∧ (a3 = (-2) →
                            Q x50_5 M101)))) ∧ (¬ v53 ≤ x50_6 →
                        wX11_layCandidate x50_6 M53 (fun M62 => wX11_costsOf a1 M62 (fun v67 M67 => jn0 (fun (M84 : Mem) => R50 x50_6 v67 (x50_6 + 1) M84) (fun J84 => ((x50_6 = 0 →
                                J84 M67) ∧ (¬ x50_6 = 0 →
                                ((x50_5 ≤ v67 →
                                  R50 x50_4 x50_5 (x50_6 + 1) M67) ∧ (¬ x50_5 ≤ v67 →
                                  J84 M67))))))))))) n 0 0 0 M32)) ∧ (v32 = 0 →
                  Q (-3) M32)))) ∧ (v21 = 0 →
              Q (-2) M21)))) ∧ (v11 = 0 →
          Q (-1) M11))))))
set_option maxHeartbeats 1000000 in
set_option maxRecDepth 20000 in
theorem sX11_sought {E : En} {a1 : Int32} {a2 : Int32} {a3 : Int32} {M : Mem} {Q : Int32 → Mem → Prop} (h : wX11_sought a1 a2 a3 M Q) : CM E 8 mX11_sought [.ref (E.2.2 49), .int a1, .int a2, .int a3] M (Pi Q) := by
  unfold wX11_sought at h
  refine CM.of (by decide) rfl (Nat.le_of_ble_eq_true rfl) ?_
  refine V_iload_n dX11_sought_0 rfl ?_
  refine M_Si ms_X11_isMeaning lk_X11_173 dX11_sought_1 (sX11_isMeaning h) rfl rfl (Nat.le_of_ble_eq_true rfl) (by decide) (by decide) (fun v1 M1 h => ?_)
  refine V_if_eq 17 dX11_sought_4 (by decide) (fun q4 => ?_) (fun q4 => ?_)
  · replace h := h.1 q4
    refine V_iconst (-1) dX11_sought_17 (by decide) ?_
    exact V_reti dX11_sought_18 rfl rfl h
  · replace h := h.2 q4
    refine V_iload_n dX11_sought_7 rfl ?_
    refine V_bipush (-2) dX11_sought_8 (by decide) ?_
    refine V_iconst 2 dX11_sought_10 (by decide) ?_
    refine M_Si ms_X11_within lk_X11_124 dX11_sought_11 (sX11_within h) rfl rfl (Nat.le_of_ble_eq_true rfl) (by decide) (by decide) (fun v11 M11 h => ?_)
    refine V_if_ne 19 dX11_sought_14 (by decide) (fun q14 => ?_) (fun q14 => ?_)
    · replace h := h.1 q14
      refine V_aload_n dX11_sought_19 rfl ?_
      refine V_iload_n dX11_sought_20 rfl ?_
      refine M_Vi mv_X11_laySet lk_X11_257 dX11_sought_21 rfl rfl (sX11_laySet h) rfl rfl (Nat.le_of_ble_eq_true rfl) (by decide) (by decide) (fun v21 M21 h => ?_)
      refine V_if_ne 30 dX11_sought_24 (by decide) (fun q24 => ?_) (fun q24 => ?_)
      · replace h := h.1 q24
        refine V_aload_n dX11_sought_30 rfl ?_
        refine V_iload_n dX11_sought_31 rfl ?_
        refine M_Vi mv_X11_isSaid lk_X11_260 dX11_sought_32 rfl rfl (sX11_isSaid h) rfl rfl (Nat.le_of_ble_eq_true rfl) (by decide) (by decide) (fun v32 M32 h => ?_)
        refine V_if_ne 41 dX11_sought_35 (by decide) (fun q35 => ?_) (fun q35 => ?_)
        · replace h := h.1 q35
          refine V_iconst 0 dX11_sought_41 (by decide) ?_
          refine V_istore dX11_sought_42 (by decide) ?_
          refine V_iconst 0 dX11_sought_44 (by decide) ?_
          refine V_istore dX11_sought_45 (by decide) ?_
          refine V_iconst 0 dX11_sought_47 (by decide) ?_
          refine V_istore dX11_sought_48 (by decide) ?_
          obtain ⟨n50, h⟩ := h
          refine V_take 7 ?_
          refine lq3_use (P := fun (x50_4 : Int32) (x50_5 : Int32) (x50_6 : Int32) (M50 : Mem) => ∀ j50_2 : Value, V (Km E 8 (Pi Q)) mX11_sought 50 [.ref (E.2.2 49), .int a1, j50_2, .int a3, .int x50_4, .int x50_5, .int x50_6] [] (wsM E.1 E.2.2 M50) 0 0) (fun R50 hR50 x50_4 x50_5 x50_6 M50 h j50_2 => ?_) n50 _ _ _ _ h _
          refine V_iload dX11_sought_50 rfl ?_
          refine V_aload_n dX11_sought_52 rfl ?_
          refine M_Vi mv_X11_manyCandidates lk_X11_263 dX11_sought_53 rfl rfl (sX11_manyCandidates h) rfl rfl (Nat.le_of_ble_eq_true rfl) (by decide) (by decide) (fun v53 M53 h => ?_)
          refine V_icmp_ge 98 dX11_sought_56 (by decide) (fun q56 => ?_) (fun q56 => ?_)
          · replace h := h.1 q56
            refine V_aload_n dX11_sought_98 rfl ?_
            refine V_iload dX11_sought_99 rfl ?_
            refine M_Vv mv_X11_layCandidate lk_X11_266 dX11_sought_101 rfl rfl (sX11_layCandidate h) rfl rfl (Nat.le_of_ble_eq_true rfl) (by decide) (by decide) (fun M101 h => ?_)
            refine V_iload_n dX11_sought_104 rfl ?_
            refine V_bipush (-2) dX11_sought_105 (by decide) ?_
            refine V_icmp_ne 115 dX11_sought_107 (by decide) (fun q107 => ?_) (fun q107 => ?_)
            · replace h := h.1 q107
              refine V_iload_n dX11_sought_115 rfl ?_
              refine V_iconst (-1) dX11_sought_116 (by decide) ?_
              refine V_icmp_ne 127 dX11_sought_117 (by decide) (fun q117 => ?_) (fun q117 => ?_)
              · replace h := h.1 q117
                refine V_iload_n dX11_sought_127 rfl ?_
                refine V_aload_n dX11_sought_128 rfl ?_
                refine V_getI fl_X11_248 dX11_sought_129 rfl rfl ?_
                refine V_icmp_ge 144 dX11_sought_132 (by decide) (fun q132 => ?_) (fun q132 => ?_)
                · replace h := h.1 q132
                  refine V_bipush (-9) dX11_sought_144 (by decide) ?_
                  exact V_reti dX11_sought_146 rfl rfl h
                · replace h := h.2 q132
                  refine V_aload_n dX11_sought_135 rfl ?_
                  refine V_getR 228 fl_X11_101 dX11_sought_136 rfl rfl rfl ?_
                  refine V_iload_n dX11_sought_139 rfl ?_
                  obtain ⟨hi140, h⟩ := h
                  refine V_ialdM dX11_sought_140 rfl hi140 ?_
                  refine V_goto 146 dX11_sought_141 (by decide) ?_
                  exact V_reti dX11_sought_146 rfl rfl h
              · replace h := h.2 q117
                refine V_aload_n dX11_sought_120 rfl ?_
                refine V_getI fl_X11_248 dX11_sought_121 rfl rfl ?_
                refine V_goto 146 dX11_sought_124 (by decide) ?_
                exact V_reti dX11_sought_146 rfl rfl h
            · replace h := h.2 q107
              refine V_iload dX11_sought_110 rfl ?_
              refine V_goto 146 dX11_sought_112 (by decide) ?_
              exact V_reti dX11_sought_146 rfl rfl h
          · replace h := h.2 q56
            refine V_aload_n dX11_sought_59 rfl ?_
            refine V_iload dX11_sought_60 rfl ?_
            refine M_Vv mv_X11_layCandidate lk_X11_266 dX11_sought_62 rfl rfl (sX11_layCandidate h) rfl rfl (Nat.le_of_ble_eq_true rfl) (by decide) (by decide) (fun M62 h => ?_)
            refine V_aload_n dX11_sought_65 rfl ?_
            refine V_iload_n dX11_sought_66 rfl ?_
            refine M_Vi mv_X11_costsOf lk_X11_269 dX11_sought_67 rfl rfl (sX11_costsOf h) rfl rfl (Nat.le_of_ble_eq_true rfl) (by decide) (by decide) (fun v67 M67 h => ?_)
            refine V_istore dX11_sought_70 (by decide) ?_
            refine V_iload dX11_sought_72 rfl ?_
            refine jn0_use (P := fun (M84 : Mem) => ∀ j84_2 : Value, ∀ j84_4 : Value, ∀ j84_5 : Value, V (Km E 8 (Pi Q)) mX11_sought 84 [.ref (E.2.2 49), .int a1, j84_2, .int a3, j84_4, j84_5, .int x50_6, .int v67] [] (wsM E.1 E.2.2 M84) 0 0) (fun M84 h j84_2 j84_4 j84_5 => ?_) (fun J84 hJ84 h => ?_) h
            · refine V_iload dX11_sought_84 rfl ?_
              refine V_istore dX11_sought_86 (by decide) ?_
              refine V_iload dX11_sought_88 rfl ?_
              refine V_istore dX11_sought_90 (by decide) ?_
              refine V_iincC 1 dX11_sought_92 (by decide) rfl (by decide) ?_
              refine V_goto 50 dX11_sought_95 (by decide) ?_
              refine V_take 7 ?_
              exact hR50 _ _ _ _ h _
            · refine V_if_eq 84 dX11_sought_74 (by decide) (fun q74 => ?_) (fun q74 => ?_)
              · replace h := h.1 q74
                refine V_take 8 ?_
                exact hJ84 _ h _ _ _
              · replace h := h.2 q74
                refine V_iload dX11_sought_77 rfl ?_
                refine V_iload dX11_sought_79 rfl ?_
                refine V_icmp_ge 92 dX11_sought_81 (by decide) (fun q81 => ?_) (fun q81 => ?_)
                · replace h := h.1 q81
                  refine V_iincC 1 dX11_sought_92 (by decide) rfl (by decide) ?_
                  refine V_goto 50 dX11_sought_95 (by decide) ?_
                  refine V_take 7 ?_
                  exact hR50 _ _ _ _ h _
                · replace h := h.2 q81
                  refine V_take 8 ?_
                  exact hJ84 _ h _ _ _
        · replace h := h.2 q35
          refine V_bipush (-3) dX11_sought_38 (by decide) ?_
          exact V_reti dX11_sought_40 rfl rfl h
      · replace h := h.2 q24
        refine V_bipush (-2) dX11_sought_27 (by decide) ?_
        exact V_reti dX11_sought_29 rfl rfl h
    · replace h := h.2 q14
      refine V_iconst (-1) dX11_sought_17 (by decide) ?_
      exact V_reti dX11_sought_18 rfl rfl h
def wX11_isForms (a1 : Int32) (M : Mem) (Q : Int32 → Mem → Prop) : Prop :=
  vp_in a1 40 ∧ (((M 49 32) = (M 207 (Int32.toNatClampNeg a1)) →
    (∃ n, lq1 (fun R17 (x17_2 : Int32) (M17 : Mem) => (((M17 49 32) ≤ x17_2 →
        Q 1 M17) ∧ (¬ (M17 49 32) ≤ x17_2 →
        vp_in x17_2 8 ∧ vp_in ((8 * a1) + x17_2) 320 ∧ (((M17 221 (Int32.toNatClampNeg x17_2)) = (M17 208 (Int32.toNatClampNeg ((8 * a1) + x17_2))) →
          R17 (x17_2 + 1) M17) ∧ (¬ (M17 221 (Int32.toNatClampNeg x17_2)) = (M17 208 (Int32.toNatClampNeg ((8 * a1) + x17_2))) →
          Q 0 M17))))) n 0 M)) ∧ (¬ (M 49 32) = (M 207 (Int32.toNatClampNeg a1)) →
    Q 0 M))
set_option maxHeartbeats 1000000 in
set_option maxRecDepth 20000 in
theorem sX11_isForms {E : En} {a1 : Int32} {M : Mem} {Q : Int32 → Mem → Prop} (h : wX11_isForms a1 M Q) : CM E 1 mX11_isForms [.ref (E.2.2 49), .int a1] M (Pi Q) := by
  unfold wX11_isForms at h
  refine CM.of (by decide) rfl (Nat.le_of_ble_eq_true rfl) ?_
  refine V_aload_n dX11_isForms_0 rfl ?_
  refine V_getI fl_X11_218 dX11_isForms_1 rfl rfl ?_
  refine V_aload_n dX11_isForms_4 rfl ?_
  refine V_getR 207 fl_X11_49 dX11_isForms_5 rfl rfl rfl ?_
  refine V_iload_n dX11_isForms_8 rfl ?_
  obtain ⟨hi9, h⟩ := h
  refine V_ialdM dX11_isForms_9 rfl hi9 ?_
  refine V_icmp_eq 15 dX11_isForms_10 (by decide) (fun q10 => ?_) (fun q10 => ?_)
  · replace h := h.1 q10
    refine V_iconst 0 dX11_isForms_15 (by decide) ?_
    refine V_istore_n dX11_isForms_16 (by decide) ?_
    obtain ⟨n17, h⟩ := h
    refine V_take 3 ?_
    refine lq1_use (P := fun (x17_2 : Int32) (M17 : Mem) => V (Km E 1 (Pi Q)) mX11_isForms 17 [.ref (E.2.2 49), .int a1, .int x17_2] [] (wsM E.1 E.2.2 M17) 0 0) (fun R17 hR17 x17_2 M17 h => ?_) n17 _ _ h
    refine V_iload_n dX11_isForms_17 rfl ?_
    refine V_aload_n dX11_isForms_18 rfl ?_
    refine V_getI fl_X11_218 dX11_isForms_19 rfl rfl ?_
    refine V_icmp_ge 53 dX11_isForms_22 (by decide) (fun q22 => ?_) (fun q22 => ?_)
    · replace h := h.1 q22
      refine V_iconst 1 dX11_isForms_53 (by decide) ?_
      exact V_reti dX11_isForms_54 rfl rfl h
    · replace h := h.2 q22
      refine V_aload_n dX11_isForms_25 rfl ?_
      refine V_getR 221 fl_X11_82 dX11_isForms_26 rfl rfl rfl ?_
      refine V_iload_n dX11_isForms_29 rfl ?_
      obtain ⟨hi30, h⟩ := h
      refine V_ialdM dX11_isForms_30 rfl hi30 ?_
      refine V_aload_n dX11_isForms_31 rfl ?_
      refine V_getR 208 fl_X11_52 dX11_isForms_32 rfl rfl rfl ?_
      refine V_bipush 8 dX11_isForms_35 (by decide) ?_
      refine V_iload_n dX11_isForms_37 rfl ?_
      refine V_imul dX11_isForms_38 ?_
      refine V_iload_n dX11_isForms_39 rfl ?_
      refine V_iadd dX11_isForms_40 ?_
      obtain ⟨hi41, h⟩ := h
      refine V_ialdM dX11_isForms_41 rfl hi41 ?_
      refine V_icmp_eq 47 dX11_isForms_42 (by decide) (fun q42 => ?_) (fun q42 => ?_)
      · replace h := h.1 q42
        refine V_iincC 1 dX11_isForms_47 (by decide) rfl (by decide) ?_
        refine V_goto 17 dX11_isForms_50 (by decide) ?_
        refine V_take 3 ?_
        exact hR17 _ _ h
      · replace h := h.2 q42
        refine V_iconst 0 dX11_isForms_45 (by decide) ?_
        exact V_reti dX11_isForms_46 rfl rfl h
  · replace h := h.2 q10
    refine V_iconst 0 dX11_isForms_13 (by decide) ?_
    exact V_reti dX11_isForms_14 rfl rfl h
def wX11_regular (a1 : Int32) (M : Mem) (Q : Int32 → Mem → Prop) : Prop :=
  wX11_isForm a1 M (fun v2 M2 => ((¬ v2 = 0 →
      vp_in a1 40 ∧ vp_in (M2 206 (Int32.toNatClampNeg a1)) 6 ∧ ((¬ (M2 210 (Int32.toNatClampNeg (M2 206 (Int32.toNatClampNeg a1)))) = (-9) →
        wX11_takeRoot (M2 206 (Int32.toNatClampNeg a1)) M2 (fun M36 => wX11_derive (M36 205 (Int32.toNatClampNeg a1)) 8 M36 (fun v48 M48 => wX11_isForms a1 M48 (fun v54 M54 => ((v54 = 0 →
                Q 0 M54) ∧ (¬ v54 = 0 →
                Q 1 M54)))))) ∧ ((M2 210 (Int32.toNatClampNeg (M2 206 (Int32.toNatClampNeg a1)))) = (-9) →
        Q (-3) M2))) ∧ (v2 = 0 →
      Q (-1) M2)))
set_option maxHeartbeats 1000000 in
set_option maxRecDepth 20000 in
theorem sX11_regular {E : En} {a1 : Int32} {M : Mem} {Q : Int32 → Mem → Prop} (h : wX11_regular a1 M Q) : CM E 6 mX11_regular [.ref (E.2.2 49), .int a1] M (Pi Q) := by
  unfold wX11_regular at h
  refine CM.of (by decide) rfl (Nat.le_of_ble_eq_true rfl) ?_
  refine V_aload_n dX11_regular_0 rfl ?_
  refine V_iload_n dX11_regular_1 rfl ?_
  refine M_Vi mv_X11_isForm lk_X11_183 dX11_regular_2 rfl rfl (sX11_isForm h) rfl rfl (Nat.le_of_ble_eq_true rfl) (by decide) (by decide) (fun v2 M2 h => ?_)
  refine V_if_ne 10 dX11_regular_5 (by decide) (fun q5 => ?_) (fun q5 => ?_)
  · replace h := h.1 q5
    refine V_aload_n dX11_regular_10 rfl ?_
    refine V_getR 210 fl_X11_58 dX11_regular_11 rfl rfl rfl ?_
    refine V_aload_n dX11_regular_14 rfl ?_
    refine V_getR 206 fl_X11_46 dX11_regular_15 rfl rfl rfl ?_
    refine V_iload_n dX11_regular_18 rfl ?_
    obtain ⟨hi19, h⟩ := h
    refine V_ialdM dX11_regular_19 rfl hi19 ?_
    obtain ⟨hi20, h⟩ := h
    refine V_ialdM dX11_regular_20 rfl hi20 ?_
    refine V_bipush (-9) dX11_regular_21 (by decide) ?_
    refine V_icmp_ne 29 dX11_regular_23 (by decide) (fun q23 => ?_) (fun q23 => ?_)
    · replace h := h.1 q23
      refine V_aload_n dX11_regular_29 rfl ?_
      refine V_aload_n dX11_regular_30 rfl ?_
      refine V_getR 206 fl_X11_46 dX11_regular_31 rfl rfl rfl ?_
      refine V_iload_n dX11_regular_34 rfl ?_
      refine V_ialdM dX11_regular_35 rfl hi19 ?_
      refine M_Vv mv_X11_takeRoot lk_X11_227 dX11_regular_36 rfl rfl (sX11_takeRoot h) rfl rfl (Nat.le_of_ble_eq_true rfl) (by decide) (by decide) (fun M36 h => ?_)
      refine V_aload_n dX11_regular_39 rfl ?_
      refine V_aload_n dX11_regular_40 rfl ?_
      refine V_getR 205 fl_X11_43 dX11_regular_41 rfl rfl rfl ?_
      refine V_iload_n dX11_regular_44 rfl ?_
      refine V_ialdM dX11_regular_45 rfl hi19 ?_
      refine V_bipush 8 dX11_regular_46 (by decide) ?_
      refine M_Vi mv_X11_derive lk_X11_231 dX11_regular_48 rfl rfl (sX11_derive h) rfl rfl (Nat.le_of_ble_eq_true rfl) (by decide) (by decide) (fun v48 M48 h => ?_)
      refine V_pop dX11_regular_51 rfl ?_
      refine V_aload_n dX11_regular_52 rfl ?_
      refine V_iload_n dX11_regular_53 rfl ?_
      refine M_Vi mv_X11_isForms lk_X11_272 dX11_regular_54 rfl rfl (sX11_isForms h) rfl rfl (Nat.le_of_ble_eq_true rfl) (by decide) (by decide) (fun v54 M54 h => ?_)
      refine V_if_eq 64 dX11_regular_57 (by decide) (fun q57 => ?_) (fun q57 => ?_)
      · replace h := h.1 q57
        refine V_iconst 0 dX11_regular_64 (by decide) ?_
        exact V_reti dX11_regular_65 rfl rfl h
      · replace h := h.2 q57
        refine V_iconst 1 dX11_regular_60 (by decide) ?_
        refine V_goto 65 dX11_regular_61 (by decide) ?_
        exact V_reti dX11_regular_65 rfl rfl h
    · replace h := h.2 q23
      refine V_bipush (-3) dX11_regular_26 (by decide) ?_
      exact V_reti dX11_regular_28 rfl rfl h
  · replace h := h.2 q5
    refine V_iconst (-1) dX11_regular_8 (by decide) ?_
    exact V_reti dX11_regular_9 rfl rfl h
def wX11_ways (a1 : Int32) (a2 : Int32) (M : Mem) (Q : Int32 → Mem → Prop) : Prop :=
  wX11_isForm a1 M (fun v2 M2 => ((¬ v2 = 0 →
      wX11_laySet a2 M2 (fun v12 M12 => ((¬ v12 = 0 →
          (∃ n, lq2 (fun R26 (x26_3 : Int32) (x26_4 : Int32) (M26 : Mem) => wX11_manyCandidates  M26 (fun v29 M29 => ((v29 ≤ x26_4 →
                Q x26_3 M29) ∧ (¬ v29 ≤ x26_4 →
                wX11_layCandidate x26_4 M29 (fun M38 => vp_in a1 40 ∧ wX11_deriveCandidate (M38 205 (Int32.toNatClampNeg a1)) M38 (fun M48 => wX11_isForms a1 M48 (fun v54 M54 => ((v54 = 0 →
                        R26 (x26_3 + 0) (x26_4 + 1) M54) ∧ (¬ v54 = 0 →
                        R26 (x26_3 + 1) (x26_4 + 1) M54))))))))) n 0 0 M12)) ∧ (v12 = 0 →
          Q (-2) M12)))) ∧ (v2 = 0 →
      Q (-1) M2)))
set_option maxHeartbeats 1000000 in
set_option maxRecDepth 20000 in
theorem sX11_ways {E : En} {a1 : Int32} {a2 : Int32} {M : Mem} {Q : Int32 → Mem → Prop} (h : wX11_ways a1 a2 M Q) : CM E 7 mX11_ways [.ref (E.2.2 49), .int a1, .int a2] M (Pi Q) := by
  unfold wX11_ways at h
  refine CM.of (by decide) rfl (Nat.le_of_ble_eq_true rfl) ?_
  refine V_aload_n dX11_ways_0 rfl ?_
  refine V_iload_n dX11_ways_1 rfl ?_
  refine M_Vi mv_X11_isForm lk_X11_183 dX11_ways_2 rfl rfl (sX11_isForm h) rfl rfl (Nat.le_of_ble_eq_true rfl) (by decide) (by decide) (fun v2 M2 h => ?_)
  refine V_if_ne 10 dX11_ways_5 (by decide) (fun q5 => ?_) (fun q5 => ?_)
  · replace h := h.1 q5
    refine V_aload_n dX11_ways_10 rfl ?_
    refine V_iload_n dX11_ways_11 rfl ?_
    refine M_Vi mv_X11_laySet lk_X11_257 dX11_ways_12 rfl rfl (sX11_laySet h) rfl rfl (Nat.le_of_ble_eq_true rfl) (by decide) (by decide) (fun v12 M12 h => ?_)
    refine V_if_ne 21 dX11_ways_15 (by decide) (fun q15 => ?_) (fun q15 => ?_)
    · replace h := h.1 q15
      refine V_iconst 0 dX11_ways_21 (by decide) ?_
      refine V_istore_n dX11_ways_22 (by decide) ?_
      refine V_iconst 0 dX11_ways_23 (by decide) ?_
      refine V_istore dX11_ways_24 (by decide) ?_
      obtain ⟨n26, h⟩ := h
      refine V_take 5 ?_
      refine lq2_use (P := fun (x26_3 : Int32) (x26_4 : Int32) (M26 : Mem) => ∀ j26_2 : Value, V (Km E 7 (Pi Q)) mX11_ways 26 [.ref (E.2.2 49), .int a1, j26_2, .int x26_3, .int x26_4] [] (wsM E.1 E.2.2 M26) 0 0) (fun R26 hR26 x26_3 x26_4 M26 h j26_2 => ?_) n26 _ _ _ h _
      refine V_iload dX11_ways_26 rfl ?_
      refine V_aload_n dX11_ways_28 rfl ?_
      refine M_Vi mv_X11_manyCandidates lk_X11_263 dX11_ways_29 rfl rfl (sX11_manyCandidates h) rfl rfl (Nat.le_of_ble_eq_true rfl) (by decide) (by decide) (fun v29 M29 h => ?_)
      refine V_icmp_ge 73 dX11_ways_32 (by decide) (fun q32 => ?_) (fun q32 => ?_)
      · replace h := h.1 q32
        refine V_iload_n dX11_ways_73 rfl ?_
        exact V_reti dX11_ways_74 rfl rfl h
      · replace h := h.2 q32
        refine V_aload_n dX11_ways_35 rfl ?_
        refine V_iload dX11_ways_36 rfl ?_
        refine M_Vv mv_X11_layCandidate lk_X11_266 dX11_ways_38 rfl rfl (sX11_layCandidate h) rfl rfl (Nat.le_of_ble_eq_true rfl) (by decide) (by decide) (fun M38 h => ?_)
        refine V_aload_n dX11_ways_41 rfl ?_
        refine V_aload_n dX11_ways_42 rfl ?_
        refine V_getR 205 fl_X11_43 dX11_ways_43 rfl rfl rfl ?_
        refine V_iload_n dX11_ways_46 rfl ?_
        obtain ⟨hi47, h⟩ := h
        refine V_ialdM dX11_ways_47 rfl hi47 ?_
        refine M_Vv mv_X11_deriveCandidate lk_X11_251 dX11_ways_48 rfl rfl (sX11_deriveCandidate h) rfl rfl (Nat.le_of_ble_eq_true rfl) (by decide) (by decide) (fun M48 h => ?_)
        refine V_iload_n dX11_ways_51 rfl ?_
        refine V_aload_n dX11_ways_52 rfl ?_
        refine V_iload_n dX11_ways_53 rfl ?_
        refine M_Vi mv_X11_isForms lk_X11_272 dX11_ways_54 rfl rfl (sX11_isForms h) rfl rfl (Nat.le_of_ble_eq_true rfl) (by decide) (by decide) (fun v54 M54 h => ?_)
        refine V_if_eq 64 dX11_ways_57 (by decide) (fun q57 => ?_) (fun q57 => ?_)
        · replace h := h.1 q57
          refine V_iconst 0 dX11_ways_64 (by decide) ?_
          refine V_iadd dX11_ways_65 ?_
          refine V_istore_n dX11_ways_66 (by decide) ?_
          refine V_iincC 1 dX11_ways_67 (by decide) rfl (by decide) ?_
          refine V_goto 26 dX11_ways_70 (by decide) ?_
          refine V_take 5 ?_
          exact hR26 _ _ _ h _
        · replace h := h.2 q57
          refine V_iconst 1 dX11_ways_60 (by decide) ?_
          refine V_goto 65 dX11_ways_61 (by decide) ?_
          refine V_iadd dX11_ways_65 ?_
          refine V_istore_n dX11_ways_66 (by decide) ?_
          refine V_iincC 1 dX11_ways_67 (by decide) rfl (by decide) ?_
          refine V_goto 26 dX11_ways_70 (by decide) ?_
          refine V_take 5 ?_
          exact hR26 _ _ _ h _
    · replace h := h.2 q15
      refine V_bipush (-2) dX11_ways_18 (by decide) ?_
      exact V_reti dX11_ways_20 rfl rfl h
  · replace h := h.2 q5
    refine V_iconst (-1) dX11_ways_8 (by decide) ?_
    exact V_reti dX11_ways_9 rfl rfl h
def wX11_regulars (a1 : Int32) (a2 : Int32) (M : Mem) (Q : Int32 → Mem → Prop) : Prop :=
  (∃ n, lq2 (fun R5 (x5_3 : Int32) (x5_4 : Int32) (M5 : Mem) => ((6 ≤ x5_4 →
      Q x5_3 M5) ∧ (¬ 6 ≤ x5_4 →
      wX11_saidAt a1 x5_4 M5 (fun v16 M16 => ((v16 = (-9) →
          R5 x5_3 (x5_4 + 1) M16) ∧ (¬ v16 = (-9) →
          vp_in x5_4 6 ∧ ((¬ (M16 210 (Int32.toNatClampNeg x5_4)) = (-9) →
            wX11_takeRoot x5_4 M16 (fun M46 => (∃ n, lq1 (fun R52 (x52_6 : Int32) (M52 : Mem) => ((a2 ≤ x52_6 →
                  wX11_isForms v16 M52 (fun v80 M80 => ((v80 = 0 →
                      R5 (x5_3 + 0) (x5_4 + 1) M80) ∧ (¬ v80 = 0 →
                      R5 (x5_3 + 1) (x5_4 + 1) M80)))) ∧ (¬ a2 ≤ x52_6 →
                  vp_in x52_6 6 ∧ wX11_doLaw (M52 232 (Int32.toNatClampNeg x52_6)) M52 (fun v66 M66 => R52 (x52_6 + 1) M66)))) n 0 M46))) ∧ ((M16 210 (Int32.toNatClampNeg x5_4)) = (-9) →
            R5 x5_3 (x5_4 + 1) M16)))))))) n 0 0 M)
set_option maxHeartbeats 1000000 in
set_option maxRecDepth 20000 in
theorem sX11_regulars {E : En} {a1 : Int32} {a2 : Int32} {M : Mem} {Q : Int32 → Mem → Prop} (h : wX11_regulars a1 a2 M Q) : CM E 5 mX11_regulars [.ref (E.2.2 49), .int a1, .int a2] M (Pi Q) := by
  unfold wX11_regulars at h
  refine CM.of (by decide) rfl (Nat.le_of_ble_eq_true rfl) ?_
  refine V_iconst 0 dX11_regulars_0 (by decide) ?_
  refine V_istore_n dX11_regulars_1 (by decide) ?_
  refine V_iconst 0 dX11_regulars_2 (by decide) ?_
  refine V_istore dX11_regulars_3 (by decide) ?_
  obtain ⟨n5, h⟩ := h
  refine V_take 5 ?_
  refine lq2_use (P := fun (x5_3 : Int32) (x5_4 : Int32) (M5 : Mem) => V (Km E 5 (Pi Q)) mX11_regulars 5 [.ref (E.2.2 49), .int a1, .int a2, .int x5_3, .int x5_4] [] (wsM E.1 E.2.2 M5) 0 0) (fun R5 hR5 x5_3 x5_4 M5 h => ?_) n5 _ _ _ h
  refine V_iload dX11_regulars_5 rfl ?_
  refine V_bipush 6 dX11_regulars_7 (by decide) ?_
  refine V_icmp_ge 99 dX11_regulars_9 (by decide) (fun q9 => ?_) (fun q9 => ?_)
  · replace h := h.1 q9
    refine V_iload_n dX11_regulars_99 rfl ?_
    exact V_reti dX11_regulars_100 rfl rfl h
  · replace h := h.2 q9
    refine V_aload_n dX11_regulars_12 rfl ?_
    refine V_iload_n dX11_regulars_13 rfl ?_
    refine V_iload dX11_regulars_14 rfl ?_
    refine M_Vi mv_X11_saidAt lk_X11_186 dX11_regulars_16 rfl rfl (sX11_saidAt h) rfl rfl (Nat.le_of_ble_eq_true rfl) (by decide) (by decide) (fun v16 M16 h => ?_)
    refine V_istore dX11_regulars_19 (by decide) ?_
    refine V_iload dX11_regulars_21 rfl ?_
    refine V_bipush (-9) dX11_regulars_23 (by decide) ?_
    refine V_icmp_eq 93 dX11_regulars_25 (by decide) (fun q25 => ?_) (fun q25 => ?_)
    · replace h := h.1 q25
      refine V_iincC 1 dX11_regulars_93 (by decide) rfl (by decide) ?_
      refine V_goto 5 dX11_regulars_96 (by decide) ?_
      refine V_take 5 ?_
      exact hR5 _ _ _ h
    · replace h := h.2 q25
      refine V_aload_n dX11_regulars_28 rfl ?_
      refine V_getR 210 fl_X11_58 dX11_regulars_29 rfl rfl rfl ?_
      refine V_iload dX11_regulars_32 rfl ?_
      obtain ⟨hi34, h⟩ := h
      refine V_ialdM dX11_regulars_34 rfl hi34 ?_
      refine V_bipush (-9) dX11_regulars_35 (by decide) ?_
      refine V_icmp_ne 43 dX11_regulars_37 (by decide) (fun q37 => ?_) (fun q37 => ?_)
      · replace h := h.1 q37
        refine V_aload_n dX11_regulars_43 rfl ?_
        refine V_iload dX11_regulars_44 rfl ?_
        refine M_Vv mv_X11_takeRoot lk_X11_227 dX11_regulars_46 rfl rfl (sX11_takeRoot h) rfl rfl (Nat.le_of_ble_eq_true rfl) (by decide) (by decide) (fun M46 h => ?_)
        refine V_iconst 0 dX11_regulars_49 (by decide) ?_
        refine V_istore dX11_regulars_50 (by decide) ?_
        obtain ⟨n52, h⟩ := h
        refine V_take 7 ?_
        refine lq1_use (P := fun (x52_6 : Int32) (M52 : Mem) => V (Km E 5 (Pi Q)) mX11_regulars 52 [.ref (E.2.2 49), .int a1, .int a2, .int x5_3, .int x5_4, .int v16, .int x52_6] [] (wsM E.1 E.2.2 M52) 0 0) (fun R52 hR52 x52_6 M52 h => ?_) n52 _ _ h
        refine V_iload dX11_regulars_52 rfl ?_
        refine V_iload_n dX11_regulars_54 rfl ?_
        refine V_icmp_ge 76 dX11_regulars_55 (by decide) (fun q55 => ?_) (fun q55 => ?_)
        · replace h := h.1 q55
          refine V_iload_n dX11_regulars_76 rfl ?_
          refine V_aload_n dX11_regulars_77 rfl ?_
          refine V_iload dX11_regulars_78 rfl ?_
          refine M_Vi mv_X11_isForms lk_X11_272 dX11_regulars_80 rfl rfl (sX11_isForms h) rfl rfl (Nat.le_of_ble_eq_true rfl) (by decide) (by decide) (fun v80 M80 h => ?_)
          refine V_if_eq 90 dX11_regulars_83 (by decide) (fun q83 => ?_) (fun q83 => ?_)
          · replace h := h.1 q83
            refine V_iconst 0 dX11_regulars_90 (by decide) ?_
            refine V_iadd dX11_regulars_91 ?_
            refine V_istore_n dX11_regulars_92 (by decide) ?_
            refine V_iincC 1 dX11_regulars_93 (by decide) rfl (by decide) ?_
            refine V_goto 5 dX11_regulars_96 (by decide) ?_
            refine V_take 5 ?_
            exact hR5 _ _ _ h
          · replace h := h.2 q83
            refine V_iconst 1 dX11_regulars_86 (by decide) ?_
            refine V_goto 91 dX11_regulars_87 (by decide) ?_
            refine V_iadd dX11_regulars_91 ?_
            refine V_istore_n dX11_regulars_92 (by decide) ?_
            refine V_iincC 1 dX11_regulars_93 (by decide) rfl (by decide) ?_
            refine V_goto 5 dX11_regulars_96 (by decide) ?_
            refine V_take 5 ?_
            exact hR5 _ _ _ h
        · replace h := h.2 q55
          refine V_aload_n dX11_regulars_58 rfl ?_
          refine V_aload_n dX11_regulars_59 rfl ?_
          refine V_getR 232 fl_X11_107 dX11_regulars_60 rfl rfl rfl ?_
          refine V_iload dX11_regulars_63 rfl ?_
          obtain ⟨hi65, h⟩ := h
          refine V_ialdM dX11_regulars_65 rfl hi65 ?_
          refine M_Vi mv_X11_doLaw lk_X11_224 dX11_regulars_66 rfl rfl (sX11_doLaw h) rfl rfl (Nat.le_of_ble_eq_true rfl) (by decide) (by decide) (fun v66 M66 h => ?_)
          refine V_pop dX11_regulars_69 rfl ?_
          refine V_iincC 1 dX11_regulars_70 (by decide) rfl (by decide) ?_
          refine V_goto 52 dX11_regulars_73 (by decide) ?_
          refine V_take 7 ?_
          exact hR52 _ _ h
      · replace h := h.2 q37
        refine V_goto 93 dX11_regulars_40 (by decide) ?_
        refine V_iincC 1 dX11_regulars_93 (by decide) rfl (by decide) ?_
        refine V_goto 5 dX11_regulars_96 (by decide) ?_
        refine V_take 5 ?_
        exact hR5 _ _ _ h
def wX11_nextTurn (a1 : Int32) (M : Mem) (Q : Int32 → Mem → Prop) : Prop :=
  (∃ n, lq1 (fun R4 (x4_2 : Int32) (M4 : Mem) => jn0 (fun (M31 : Mem) => ((0 ≤ x4_2 →
        (∃ n, lq1 (fun R41 (x41_3 : Int32) (M41 : Mem) => vp_in x41_3 6 ∧ vp_in x4_2 6 ∧ (((M41 232 (Int32.toNatClampNeg x4_2)) ≤ (M41 232 (Int32.toNatClampNeg x41_3)) →
            (∀ N81, N81 = mset M41 232 (Int32.toNatClampNeg x4_2) (M41 232 (Int32.toNatClampNeg x41_3)) → (∀ N89, N89 = mset N81 232 (Int32.toNatClampNeg x41_3) (M41 232 (Int32.toNatClampNeg x4_2)) → (∃ n, lq2 (fun R100 (x100_5 : Int32) (x100_6 : Int32) (M100 : Mem) => ((x100_6 ≤ x100_5 →
                Q 1 M100) ∧ (¬ x100_6 ≤ x100_5 →
                vp_in x100_5 6 ∧ vp_in x100_6 6 ∧ (∀ N129, N129 = mset M100 232 (Int32.toNatClampNeg x100_5) (M100 232 (Int32.toNatClampNeg x100_6)) → (∀ N138, N138 = mset N129 232 (Int32.toNatClampNeg x100_6) (M100 232 (Int32.toNatClampNeg x100_5)) → R100 (x100_5 + 1) (x100_6 + (-1)) N138))))) n (x4_2 + 1) (a1 - 1) N89)))) ∧ (¬ (M41 232 (Int32.toNatClampNeg x4_2)) ≤ (M41 232 (Int32.toNatClampNeg x41_3)) →
            R41 (x41_3 + (-1)) M41))) n (a1 - 1) M31)) ∧ (¬ 0 ≤ x4_2 →
        Q 0 M31))) (fun J31 => ((x4_2 < 0 →
        J31 M4) ∧ (¬ x4_2 < 0 →
        vp_in x4_2 6 ∧ vp_in (x4_2 + 1) 6 ∧ (((M4 232 (Int32.toNatClampNeg x4_2)) ≤ (M4 232 (Int32.toNatClampNeg (x4_2 + 1))) →
          J31 M4) ∧ (¬ (M4 232 (Int32.toNatClampNeg x4_2)) ≤ (M4 232 (Int32.toNatClampNeg (x4_2 + 1))) →
          R4 (x4_2 + (-1)) M4)))))) n (a1 - 2) M)
set_option maxHeartbeats 1000000 in
set_option maxRecDepth 20000 in
theorem sX11_nextTurn {E : En} {a1 : Int32} {M : Mem} {Q : Int32 → Mem → Prop} (h : wX11_nextTurn a1 M Q) : CM E 1 mX11_nextTurn [.ref (E.2.2 49), .int a1] M (Pi Q) := by
  unfold wX11_nextTurn at h
  refine CM.of (by decide) rfl (Nat.le_of_ble_eq_true rfl) ?_
  refine V_iload_n dX11_nextTurn_0 rfl ?_
  refine V_iconst 2 dX11_nextTurn_1 (by decide) ?_
  refine V_isub dX11_nextTurn_2 ?_
  refine V_istore_n dX11_nextTurn_3 (by decide) ?_
  obtain ⟨n4, h⟩ := h
  refine V_take 3 ?_
  refine lq1_use (P := fun (x4_2 : Int32) (M4 : Mem) => V (Km E 1 (Pi Q)) mX11_nextTurn 4 [.ref (E.2.2 49), .int a1, .int x4_2] [] (wsM E.1 E.2.2 M4) 0 0) (fun R4 hR4 x4_2 M4 h => ?_) n4 _ _ h
  refine V_iload_n dX11_nextTurn_4 rfl ?_
  refine jn0_use (P := fun (M31 : Mem) => V (Km E 1 (Pi Q)) mX11_nextTurn 31 [.ref (E.2.2 49), .int a1, .int x4_2] [] (wsM E.1 E.2.2 M31) 0 0) (fun M31 h => ?_) (fun J31 hJ31 h => ?_) h
  · refine V_iload_n dX11_nextTurn_31 rfl ?_
    refine V_if_ge 37 dX11_nextTurn_32 (by decide) (fun q32 => ?_) (fun q32 => ?_)
    · replace h := h.1 q32
      refine V_iload_n dX11_nextTurn_37 rfl ?_
      refine V_iconst 1 dX11_nextTurn_38 (by decide) ?_
      refine V_isub dX11_nextTurn_39 ?_
      refine V_istore_n dX11_nextTurn_40 (by decide) ?_
      obtain ⟨n41, h⟩ := h
      refine V_take 4 ?_
      refine lq1_use (P := fun (x41_3 : Int32) (M41 : Mem) => V (Km E 1 (Pi Q)) mX11_nextTurn 41 [.ref (E.2.2 49), .int a1, .int x4_2, .int x41_3] [] (wsM E.1 E.2.2 M41) 0 0) (fun R41 hR41 x41_3 M41 h => ?_) n41 _ _ h
      refine V_aload_n dX11_nextTurn_41 rfl ?_
      refine V_getR 232 fl_X11_107 dX11_nextTurn_42 rfl rfl rfl ?_
      refine V_iload_n dX11_nextTurn_45 rfl ?_
      obtain ⟨hi46, h⟩ := h
      refine V_ialdM dX11_nextTurn_46 rfl hi46 ?_
      refine V_aload_n dX11_nextTurn_47 rfl ?_
      refine V_getR 232 fl_X11_107 dX11_nextTurn_48 rfl rfl rfl ?_
      refine V_iload_n dX11_nextTurn_51 rfl ?_
      obtain ⟨hi52, h⟩ := h
      refine V_ialdM dX11_nextTurn_52 rfl hi52 ?_
      refine V_icmp_ge 62 dX11_nextTurn_53 (by decide) (fun q53 => ?_) (fun q53 => ?_)
      · replace h := h.1 q53
        refine V_aload_n dX11_nextTurn_62 rfl ?_
        refine V_getR 232 fl_X11_107 dX11_nextTurn_63 rfl rfl rfl ?_
        refine V_iload_n dX11_nextTurn_66 rfl ?_
        refine V_ialdM dX11_nextTurn_67 rfl hi52 ?_
        refine V_istore dX11_nextTurn_68 (by decide) ?_
        refine V_aload_n dX11_nextTurn_70 rfl ?_
        refine V_getR 232 fl_X11_107 dX11_nextTurn_71 rfl rfl rfl ?_
        refine V_iload_n dX11_nextTurn_74 rfl ?_
        refine V_aload_n dX11_nextTurn_75 rfl ?_
        refine V_getR 232 fl_X11_107 dX11_nextTurn_76 rfl rfl rfl ?_
        refine V_iload_n dX11_nextTurn_79 rfl ?_
        refine V_ialdM dX11_nextTurn_80 rfl hi46 ?_
        refine V_iastN dX11_nextTurn_81 rfl hi52 (fun N81 e81 => ?_)
        replace h := h N81 e81
        refine V_aload_n dX11_nextTurn_82 rfl ?_
        refine V_getR 232 fl_X11_107 dX11_nextTurn_83 rfl rfl rfl ?_
        refine V_iload_n dX11_nextTurn_86 rfl ?_
        refine V_iload dX11_nextTurn_87 rfl ?_
        refine V_iastN dX11_nextTurn_89 rfl hi46 (fun N89 e89 => ?_)
        replace h := h N89 e89
        refine V_iload_n dX11_nextTurn_90 rfl ?_
        refine V_iconst 1 dX11_nextTurn_91 (by decide) ?_
        refine V_iadd dX11_nextTurn_92 ?_
        refine V_istore dX11_nextTurn_93 (by decide) ?_
        refine V_iload_n dX11_nextTurn_95 rfl ?_
        refine V_iconst 1 dX11_nextTurn_96 (by decide) ?_
        refine V_isub dX11_nextTurn_97 ?_
        refine V_istore dX11_nextTurn_98 (by decide) ?_
        obtain ⟨n100, h⟩ := h
        refine V_take 7 ?_
        refine lq2_use (P := fun (x100_5 : Int32) (x100_6 : Int32) (M100 : Mem) => ∀ j100_1 : Value, ∀ j100_2 : Value, ∀ j100_3 : Value, ∀ j100_4 : Value, V (Km E 1 (Pi Q)) mX11_nextTurn 100 [.ref (E.2.2 49), j100_1, j100_2, j100_3, j100_4, .int x100_5, .int x100_6] [] (wsM E.1 E.2.2 M100) 0 0) (fun R100 hR100 x100_5 x100_6 M100 h j100_1 j100_2 j100_3 j100_4 => ?_) n100 _ _ _ h _ _ _ _
        refine V_iload dX11_nextTurn_100 rfl ?_
        refine V_iload dX11_nextTurn_102 rfl ?_
        refine V_icmp_ge 148 dX11_nextTurn_104 (by decide) (fun q104 => ?_) (fun q104 => ?_)
        · replace h := h.1 q104
          refine V_iconst 1 dX11_nextTurn_148 (by decide) ?_
          exact V_reti dX11_nextTurn_149 rfl rfl h
        · replace h := h.2 q104
          refine V_aload_n dX11_nextTurn_107 rfl ?_
          refine V_getR 232 fl_X11_107 dX11_nextTurn_108 rfl rfl rfl ?_
          refine V_iload dX11_nextTurn_111 rfl ?_
          obtain ⟨hi113, h⟩ := h
          refine V_ialdM dX11_nextTurn_113 rfl hi113 ?_
          refine V_istore dX11_nextTurn_114 (by decide) ?_
          refine V_aload_n dX11_nextTurn_116 rfl ?_
          refine V_getR 232 fl_X11_107 dX11_nextTurn_117 rfl rfl rfl ?_
          refine V_iload dX11_nextTurn_120 rfl ?_
          refine V_aload_n dX11_nextTurn_122 rfl ?_
          refine V_getR 232 fl_X11_107 dX11_nextTurn_123 rfl rfl rfl ?_
          refine V_iload dX11_nextTurn_126 rfl ?_
          obtain ⟨hi128, h⟩ := h
          refine V_ialdM dX11_nextTurn_128 rfl hi128 ?_
          refine V_iastN dX11_nextTurn_129 rfl hi113 (fun N129 e129 => ?_)
          replace h := h N129 e129
          refine V_aload_n dX11_nextTurn_130 rfl ?_
          refine V_getR 232 fl_X11_107 dX11_nextTurn_131 rfl rfl rfl ?_
          refine V_iload dX11_nextTurn_134 rfl ?_
          refine V_iload dX11_nextTurn_136 rfl ?_
          refine V_iastN dX11_nextTurn_138 rfl hi128 (fun N138 e138 => ?_)
          replace h := h N138 e138
          refine V_iincC 1 dX11_nextTurn_139 (by decide) rfl (by decide) ?_
          refine V_iincC (-1) dX11_nextTurn_142 (by decide) rfl (by decide) ?_
          refine V_goto 100 dX11_nextTurn_145 (by decide) ?_
          refine V_take 7 ?_
          exact hR100 _ _ _ h _ _ _ _
      · replace h := h.2 q53
        refine V_iincC (-1) dX11_nextTurn_56 (by decide) rfl (by decide) ?_
        refine V_goto 41 dX11_nextTurn_59 (by decide) ?_
        refine V_take 4 ?_
        exact hR41 _ _ h
    · replace h := h.2 q32
      refine V_iconst 0 dX11_nextTurn_35 (by decide) ?_
      exact V_reti dX11_nextTurn_36 rfl rfl h
  · refine V_if_lt 31 dX11_nextTurn_5 (by decide) (fun q5 => ?_) (fun q5 => ?_)
    · replace h := h.1 q5
      refine V_take 3 ?_
      exact hJ31 _ h
    · replace h := h.2 q5
      refine V_aload_n dX11_nextTurn_8 rfl ?_
      refine V_getR 232 fl_X11_107 dX11_nextTurn_9 rfl rfl rfl ?_
      refine V_iload_n dX11_nextTurn_12 rfl ?_
      obtain ⟨hi13, h⟩ := h
      refine V_ialdM dX11_nextTurn_13 rfl hi13 ?_
      refine V_aload_n dX11_nextTurn_14 rfl ?_
      refine V_getR 232 fl_X11_107 dX11_nextTurn_15 rfl rfl rfl ?_
      refine V_iload_n dX11_nextTurn_18 rfl ?_
      refine V_iconst 1 dX11_nextTurn_19 (by decide) ?_
      refine V_iadd dX11_nextTurn_20 ?_
      obtain ⟨hi21, h⟩ := h
      refine V_ialdM dX11_nextTurn_21 rfl hi21 ?_
      refine V_icmp_le 31 dX11_nextTurn_22 (by decide) (fun q22 => ?_) (fun q22 => ?_)
      · replace h := h.1 q22
        refine V_take 3 ?_
        exact hJ31 _ h
      · replace h := h.2 q22
        refine V_iincC (-1) dX11_nextTurn_25 (by decide) rfl (by decide) ?_
        refine V_goto 4 dX11_nextTurn_28 (by decide) ?_
        refine V_take 3 ?_
        exact hR4 _ _ h
def wX11_order (a1 : Int32) (a2 : Int32) (M : Mem) (Q : Int32 → Mem → Prop) : Prop :=
  wX11_isPlace a1 M (fun v2 M2 => ((v2 = 0 →
      Q (-1) M2) ∧ (¬ v2 = 0 →
      wX11_within a2 (-1) 7 M2 (fun v12 M12 => ((¬ v12 = 0 →
          (∃ n, lq2 (fun R25 (x25_3 : Int32) (x25_4 : Int32) (M25 : Mem) => (((M25 49 22) ≤ x25_4 →
              (∃ n, lq2 (fun R80 (x80_4 : Int32) (x80_5 : Int32) (M80 : Mem) => ((x80_5 = 0 →
                  ((¬ a2 = (-1) →
                    ((x25_3 ≤ a2 →
                      Q (-9) M80) ∧ (¬ x25_3 ≤ a2 →
                      vp_in a2 6 ∧ Q (M80 233 (Int32.toNatClampNeg a2)) M80))) ∧ (a2 = (-1) →
                    Q x80_4 M80))) ∧ (¬ x80_5 = 0 →
                  wX11_regulars a1 x25_3 M80 (fun v88 M88 => jn1 (fun (x133_4 : Int32) (M133 : Mem) => wX11_nextTurn x25_3 M133 (fun v135 M135 => R80 x133_4 v135 M135)) (fun J133 => ((v88 ≤ x80_4 →
                        J133 x80_4 M88) ∧ (¬ v88 ≤ x80_4 →
                        (∃ n, lq1 (fun R107 (x107_7 : Int32) (M107 : Mem) => ((x25_3 ≤ x107_7 →
                            J133 v88 M107) ∧ (¬ x25_3 ≤ x107_7 →
                            vp_in x107_7 6 ∧ (∀ N126, N126 = mset M107 233 (Int32.toNatClampNeg x107_7) (M107 232 (Int32.toNatClampNeg x107_7)) → R107 (x107_7 + 1) N126)))) n 0 M88)))))))) n (-1) 1 M25)) ∧ (¬ (M25 49 22) ≤ x25_4 →
              vp_in x25_4 8 ∧ wX11_has (M25 213 (Int32.toNatClampNeg x25_4)) a1 M25 (fun v42 M42 => ((v42 = 0 →
                  R25 x25_3 (x25_4 + 1) M42) ∧ (¬ v42 = 0 →
                  ((¬ x25_3 = 6 →
                    vp_in x25_3 6 ∧ (∀ N64, N64 = mset M42 232 (Int32.toNatClampNeg x25_3) x25_4 → R25 (x25_3 + 1) (x25_4 + 1) N64)) ∧ (x25_3 = 6 →
                    Q (-3) M42)))))))) n 0 0 M12)) ∧ (v12 = 0 →
          Q (-1) M12))))))
set_option maxHeartbeats 1000000 in
set_option maxRecDepth 20000 in
theorem sX11_order {E : En} {a1 : Int32} {a2 : Int32} {M : Mem} {Q : Int32 → Mem → Prop} (h : wX11_order a1 a2 M Q) : CM E 6 mX11_order [.ref (E.2.2 49), .int a1, .int a2] M (Pi Q) := by
  unfold wX11_order at h
  refine CM.of (by decide) rfl (Nat.le_of_ble_eq_true rfl) ?_
  refine V_aload_n dX11_order_0 rfl ?_
  refine V_iload_n dX11_order_1 rfl ?_
  refine M_Vi mv_X11_isPlace lk_X11_167 dX11_order_2 rfl rfl (sX11_isPlace h) rfl rfl (Nat.le_of_ble_eq_true rfl) (by decide) (by decide) (fun v2 M2 h => ?_)
  refine V_if_eq 18 dX11_order_5 (by decide) (fun q5 => ?_) (fun q5 => ?_)
  · replace h := h.1 q5
    refine V_iconst (-1) dX11_order_18 (by decide) ?_
    exact V_reti dX11_order_19 rfl rfl h
  · replace h := h.2 q5
    refine V_iload_n dX11_order_8 rfl ?_
    refine V_iconst (-1) dX11_order_9 (by decide) ?_
    refine V_bipush 7 dX11_order_10 (by decide) ?_
    refine M_Si ms_X11_within lk_X11_124 dX11_order_12 (sX11_within h) rfl rfl (Nat.le_of_ble_eq_true rfl) (by decide) (by decide) (fun v12 M12 h => ?_)
    refine V_if_ne 20 dX11_order_15 (by decide) (fun q15 => ?_) (fun q15 => ?_)
    · replace h := h.1 q15
      refine V_iconst 0 dX11_order_20 (by decide) ?_
      refine V_istore_n dX11_order_21 (by decide) ?_
      refine V_iconst 0 dX11_order_22 (by decide) ?_
      refine V_istore dX11_order_23 (by decide) ?_
      obtain ⟨n25, h⟩ := h
      refine V_take 5 ?_
      refine lq2_use (P := fun (x25_3 : Int32) (x25_4 : Int32) (M25 : Mem) => V (Km E 6 (Pi Q)) mX11_order 25 [.ref (E.2.2 49), .int a1, .int a2, .int x25_3, .int x25_4] [] (wsM E.1 E.2.2 M25) 0 0) (fun R25 hR25 x25_3 x25_4 M25 h => ?_) n25 _ _ _ h
      refine V_iload dX11_order_25 rfl ?_
      refine V_aload_n dX11_order_27 rfl ?_
      refine V_getI fl_X11_209 dX11_order_28 rfl rfl ?_
      refine V_icmp_ge 74 dX11_order_31 (by decide) (fun q31 => ?_) (fun q31 => ?_)
      · replace h := h.1 q31
        refine V_iconst (-1) dX11_order_74 (by decide) ?_
        refine V_istore dX11_order_75 (by decide) ?_
        refine V_iconst 1 dX11_order_77 (by decide) ?_
        refine V_istore dX11_order_78 (by decide) ?_
        obtain ⟨n80, h⟩ := h
        refine V_take 6 ?_
        refine lq2_use (P := fun (x80_4 : Int32) (x80_5 : Int32) (M80 : Mem) => V (Km E 6 (Pi Q)) mX11_order 80 [.ref (E.2.2 49), .int a1, .int a2, .int x25_3, .int x80_4, .int x80_5] [] (wsM E.1 E.2.2 M80) 0 0) (fun R80 hR80 x80_4 x80_5 M80 h => ?_) n80 _ _ _ h
        refine V_iload dX11_order_80 rfl ?_
        refine V_if_eq 143 dX11_order_82 (by decide) (fun q82 => ?_) (fun q82 => ?_)
        · replace h := h.1 q82
          refine V_iload_n dX11_order_143 rfl ?_
          refine V_iconst (-1) dX11_order_144 (by decide) ?_
          refine V_icmp_ne 153 dX11_order_145 (by decide) (fun q145 => ?_) (fun q145 => ?_)
          · replace h := h.1 q145
            refine V_iload_n dX11_order_153 rfl ?_
            refine V_iload_n dX11_order_154 rfl ?_
            refine V_icmp_ge 167 dX11_order_155 (by decide) (fun q155 => ?_) (fun q155 => ?_)
            · replace h := h.1 q155
              refine V_bipush (-9) dX11_order_167 (by decide) ?_
              exact V_reti dX11_order_169 rfl rfl h
            · replace h := h.2 q155
              refine V_aload_n dX11_order_158 rfl ?_
              refine V_getR 233 fl_X11_110 dX11_order_159 rfl rfl rfl ?_
              refine V_iload_n dX11_order_162 rfl ?_
              obtain ⟨hi163, h⟩ := h
              refine V_ialdM dX11_order_163 rfl hi163 ?_
              refine V_goto 169 dX11_order_164 (by decide) ?_
              exact V_reti dX11_order_169 rfl rfl h
          · replace h := h.2 q145
            refine V_iload dX11_order_148 rfl ?_
            refine V_goto 169 dX11_order_150 (by decide) ?_
            exact V_reti dX11_order_169 rfl rfl h
        · replace h := h.2 q82
          refine V_aload_n dX11_order_85 rfl ?_
          refine V_iload_n dX11_order_86 rfl ?_
          refine V_iload_n dX11_order_87 rfl ?_
          refine M_Vi mv_X11_regulars lk_X11_275 dX11_order_88 rfl rfl (sX11_regulars h) rfl rfl (Nat.le_of_ble_eq_true rfl) (by decide) (by decide) (fun v88 M88 h => ?_)
          refine V_istore dX11_order_91 (by decide) ?_
          refine V_iload dX11_order_93 rfl ?_
          refine V_iload dX11_order_95 rfl ?_
          refine jn1_use (P := fun (x133_4 : Int32) (M133 : Mem) => ∀ j133_5 : Value, ∀ j133_6 : Value, V (Km E 6 (Pi Q)) mX11_order 133 [.ref (E.2.2 49), .int a1, .int a2, .int x25_3, .int x133_4, j133_5, j133_6] [] (wsM E.1 E.2.2 M133) 0 0) (fun x133_4 M133 h j133_5 j133_6 => ?_) (fun J133 hJ133 h => ?_) h
          · refine V_aload_n dX11_order_133 rfl ?_
            refine V_iload_n dX11_order_134 rfl ?_
            refine M_Vi mv_X11_nextTurn lk_X11_278 dX11_order_135 rfl rfl (sX11_nextTurn h) rfl rfl (Nat.le_of_ble_eq_true rfl) (by decide) (by decide) (fun v135 M135 h => ?_)
            refine V_istore dX11_order_138 (by decide) ?_
            refine V_goto 80 dX11_order_140 (by decide) ?_
            refine V_take 6 ?_
            exact hR80 _ _ _ h
          · refine V_icmp_le 133 dX11_order_97 (by decide) (fun q97 => ?_) (fun q97 => ?_)
            · replace h := h.1 q97
              refine V_take 7 ?_
              exact hJ133 _ _ h _ _
            · replace h := h.2 q97
              refine V_iload dX11_order_100 rfl ?_
              refine V_istore dX11_order_102 (by decide) ?_
              refine V_iconst 0 dX11_order_104 (by decide) ?_
              refine V_istore dX11_order_105 (by decide) ?_
              obtain ⟨n107, h⟩ := h
              refine V_take 8 ?_
              refine lq1_use (P := fun (x107_7 : Int32) (M107 : Mem) => ∀ j107_5 : Value, ∀ j107_6 : Value, V (Km E 6 (Pi Q)) mX11_order 107 [.ref (E.2.2 49), .int a1, .int a2, .int x25_3, .int v88, j107_5, j107_6, .int x107_7] [] (wsM E.1 E.2.2 M107) 0 0) (fun R107 hR107 x107_7 M107 h j107_5 j107_6 => ?_) n107 _ _ h _ _
              refine V_iload dX11_order_107 rfl ?_
              refine V_iload_n dX11_order_109 rfl ?_
              refine V_icmp_ge 133 dX11_order_110 (by decide) (fun q110 => ?_) (fun q110 => ?_)
              · replace h := h.1 q110
                refine V_take 7 ?_
                exact hJ133 _ _ h _ _
              · replace h := h.2 q110
                refine V_aload_n dX11_order_113 rfl ?_
                refine V_getR 233 fl_X11_110 dX11_order_114 rfl rfl rfl ?_
                refine V_iload dX11_order_117 rfl ?_
                refine V_aload_n dX11_order_119 rfl ?_
                refine V_getR 232 fl_X11_107 dX11_order_120 rfl rfl rfl ?_
                refine V_iload dX11_order_123 rfl ?_
                obtain ⟨hi125, h⟩ := h
                refine V_ialdM dX11_order_125 rfl hi125 ?_
                refine V_iastN dX11_order_126 rfl hi125 (fun N126 e126 => ?_)
                replace h := h N126 e126
                refine V_iincC 1 dX11_order_127 (by decide) rfl (by decide) ?_
                refine V_goto 107 dX11_order_130 (by decide) ?_
                refine V_take 8 ?_
                exact hR107 _ _ h _ _
      · replace h := h.2 q31
        refine V_aload_n dX11_order_34 rfl ?_
        refine V_getR 213 fl_X11_64 dX11_order_35 rfl rfl rfl ?_
        refine V_iload dX11_order_38 rfl ?_
        obtain ⟨hi40, h⟩ := h
        refine V_ialdM dX11_order_40 rfl hi40 ?_
        refine V_iload_n dX11_order_41 rfl ?_
        refine M_Si ms_X11_has lk_X11_132 dX11_order_42 (sX11_has h) rfl rfl (Nat.le_of_ble_eq_true rfl) (by decide) (by decide) (fun v42 M42 h => ?_)
        refine V_if_eq 68 dX11_order_45 (by decide) (fun q45 => ?_) (fun q45 => ?_)
        · replace h := h.1 q45
          refine V_iincC 1 dX11_order_68 (by decide) rfl (by decide) ?_
          refine V_goto 25 dX11_order_71 (by decide) ?_
          refine V_take 5 ?_
          exact hR25 _ _ _ h
        · replace h := h.2 q45
          refine V_iload_n dX11_order_48 rfl ?_
          refine V_bipush 6 dX11_order_49 (by decide) ?_
          refine V_icmp_ne 57 dX11_order_51 (by decide) (fun q51 => ?_) (fun q51 => ?_)
          · replace h := h.1 q51
            refine V_aload_n dX11_order_57 rfl ?_
            refine V_getR 232 fl_X11_107 dX11_order_58 rfl rfl rfl ?_
            refine V_iload_n dX11_order_61 rfl ?_
            refine V_iload dX11_order_62 rfl ?_
            obtain ⟨hi64, h⟩ := h
            refine V_iastN dX11_order_64 rfl hi64 (fun N64 e64 => ?_)
            replace h := h N64 e64
            refine V_iincC 1 dX11_order_65 (by decide) rfl (by decide) ?_
            refine V_iincC 1 dX11_order_68 (by decide) rfl (by decide) ?_
            refine V_goto 25 dX11_order_71 (by decide) ?_
            refine V_take 5 ?_
            exact hR25 _ _ _ h
          · replace h := h.2 q51
            refine V_bipush (-3) dX11_order_54 (by decide) ?_
            exact V_reti dX11_order_56 rfl rfl h
    · replace h := h.2 q15
      refine V_iconst (-1) dX11_order_18 (by decide) ?_
      exact V_reti dX11_order_19 rfl rfl h
def wX11_limit (a1 : Int32) (M : Mem) (Q : Int32 → Mem → Prop) : Prop :=
  wX11_within a1 0 99 M (fun v4 M4 => ((¬ v4 = 0 →
      (∀ N20, N20 = mset M4 49 44 a1 → Q (M4 49 44) N20)) ∧ (v4 = 0 →
      Q (-2) M4)))
set_option maxHeartbeats 1000000 in
set_option maxRecDepth 20000 in
theorem sX11_limit {E : En} {a1 : Int32} {M : Mem} {Q : Int32 → Mem → Prop} (h : wX11_limit a1 M Q) : CM E 2 mX11_limit [.ref (E.2.2 49), .int a1] M (Pi Q) := by
  unfold wX11_limit at h
  refine CM.of (by decide) rfl (Nat.le_of_ble_eq_true rfl) ?_
  refine V_iload_n dX11_limit_0 rfl ?_
  refine V_iconst 0 dX11_limit_1 (by decide) ?_
  refine V_bipush 99 dX11_limit_2 (by decide) ?_
  refine M_Si ms_X11_within lk_X11_124 dX11_limit_4 (sX11_within h) rfl rfl (Nat.le_of_ble_eq_true rfl) (by decide) (by decide) (fun v4 M4 h => ?_)
  refine V_if_ne 13 dX11_limit_7 (by decide) (fun q7 => ?_) (fun q7 => ?_)
  · replace h := h.1 q7
    refine V_aload_n dX11_limit_13 rfl ?_
    refine V_getI fl_X11_113 dX11_limit_14 rfl rfl ?_
    refine V_istore_n dX11_limit_17 (by decide) ?_
    refine V_aload_n dX11_limit_18 rfl ?_
    refine V_iload_n dX11_limit_19 rfl ?_
    refine V_putN fp_X11_113 dX11_limit_20 rfl rfl rfl rfl (fun N20 e20 => ?_)
    replace h := h N20 e20
    refine V_iload_n dX11_limit_23 rfl ?_
    exact V_reti dX11_limit_24 rfl rfl h
  · replace h := h.2 q7
    refine V_bipush (-2) dX11_limit_10 (by decide) ?_
    exact V_reti dX11_limit_12 rfl rfl h
def wX11_areSaid (a1 : Int32) (a2 : Int32) (a3 : Int32) (M : Mem) (Q : Int32 → Mem → Prop) : Prop :=
  wX11_saidAt a2 a1 M (fun v3 M3 => ((v3 = (-9) →
      Q 0 M3) ∧ (¬ v3 = (-9) →
      wX11_saidAt a3 a1 M3 (fun v14 M14 => ((v14 = (-9) →
          Q 0 M14) ∧ (¬ v14 = (-9) →
          Q 1 M14))))))
set_option maxHeartbeats 1000000 in
set_option maxRecDepth 20000 in
theorem sX11_areSaid {E : En} {a1 : Int32} {a2 : Int32} {a3 : Int32} {M : Mem} {Q : Int32 → Mem → Prop} (h : wX11_areSaid a1 a2 a3 M Q) : CM E 2 mX11_areSaid [.ref (E.2.2 49), .int a1, .int a2, .int a3] M (Pi Q) := by
  unfold wX11_areSaid at h
  refine CM.of (by decide) rfl (Nat.le_of_ble_eq_true rfl) ?_
  refine V_aload_n dX11_areSaid_0 rfl ?_
  refine V_iload_n dX11_areSaid_1 rfl ?_
  refine V_iload_n dX11_areSaid_2 rfl ?_
  refine M_Vi mv_X11_saidAt lk_X11_186 dX11_areSaid_3 rfl rfl (sX11_saidAt h) rfl rfl (Nat.le_of_ble_eq_true rfl) (by decide) (by decide) (fun v3 M3 h => ?_)
  refine V_bipush (-9) dX11_areSaid_6 (by decide) ?_
  refine V_icmp_eq 26 dX11_areSaid_8 (by decide) (fun q8 => ?_) (fun q8 => ?_)
  · replace h := h.1 q8
    refine V_iconst 0 dX11_areSaid_26 (by decide) ?_
    exact V_reti dX11_areSaid_27 rfl rfl h
  · replace h := h.2 q8
    refine V_aload_n dX11_areSaid_11 rfl ?_
    refine V_iload_n dX11_areSaid_12 rfl ?_
    refine V_iload_n dX11_areSaid_13 rfl ?_
    refine M_Vi mv_X11_saidAt lk_X11_186 dX11_areSaid_14 rfl rfl (sX11_saidAt h) rfl rfl (Nat.le_of_ble_eq_true rfl) (by decide) (by decide) (fun v14 M14 h => ?_)
    refine V_bipush (-9) dX11_areSaid_17 (by decide) ?_
    refine V_icmp_eq 26 dX11_areSaid_19 (by decide) (fun q19 => ?_) (fun q19 => ?_)
    · replace h := h.1 q19
      refine V_iconst 0 dX11_areSaid_26 (by decide) ?_
      exact V_reti dX11_areSaid_27 rfl rfl h
    · replace h := h.2 q19
      refine V_iconst 1 dX11_areSaid_22 (by decide) ?_
      refine V_goto 27 dX11_areSaid_23 (by decide) ?_
      exact V_reti dX11_areSaid_27 rfl rfl h
def wX11_areLike (a1 : Int32) (a2 : Int32) (a3 : Int32) (M : Mem) (Q : Int32 → Mem → Prop) : Prop :=
  wX11_areSaid a1 a2 a3 M (fun v4 M4 => ((v4 = 0 →
      Q 0 M4) ∧ (¬ v4 = 0 →
      wX11_saidAt a2 a1 M4 (fun v14 M14 => wX11_saidAt a3 a1 M14 (fun v20 M20 => wX11_costOf v14 v20 M20 (fun v23 M23 => (((M23 49 44) < v23 →
              Q 0 M23) ∧ (¬ (M23 49 44) < v23 →
              Q 1 M23))))))))
set_option maxHeartbeats 1000000 in
set_option maxRecDepth 20000 in
theorem sX11_areLike {E : En} {a1 : Int32} {a2 : Int32} {a3 : Int32} {M : Mem} {Q : Int32 → Mem → Prop} (h : wX11_areLike a1 a2 a3 M Q) : CM E 5 mX11_areLike [.ref (E.2.2 49), .int a1, .int a2, .int a3] M (Pi Q) := by
  unfold wX11_areLike at h
  refine CM.of (by decide) rfl (Nat.le_of_ble_eq_true rfl) ?_
  refine V_aload_n dX11_areLike_0 rfl ?_
  refine V_iload_n dX11_areLike_1 rfl ?_
  refine V_iload_n dX11_areLike_2 rfl ?_
  refine V_iload_n dX11_areLike_3 rfl ?_
  refine M_Vi mv_X11_areSaid lk_X11_281 dX11_areLike_4 rfl rfl (sX11_areSaid h) rfl rfl (Nat.le_of_ble_eq_true rfl) (by decide) (by decide) (fun v4 M4 h => ?_)
  refine V_if_eq 37 dX11_areLike_7 (by decide) (fun q7 => ?_) (fun q7 => ?_)
  · replace h := h.1 q7
    refine V_iconst 0 dX11_areLike_37 (by decide) ?_
    exact V_reti dX11_areLike_38 rfl rfl h
  · replace h := h.2 q7
    refine V_aload_n dX11_areLike_10 rfl ?_
    refine V_aload_n dX11_areLike_11 rfl ?_
    refine V_iload_n dX11_areLike_12 rfl ?_
    refine V_iload_n dX11_areLike_13 rfl ?_
    refine M_Vi mv_X11_saidAt lk_X11_186 dX11_areLike_14 rfl rfl (sX11_saidAt h) rfl rfl (Nat.le_of_ble_eq_true rfl) (by decide) (by decide) (fun v14 M14 h => ?_)
    refine V_aload_n dX11_areLike_17 rfl ?_
    refine V_iload_n dX11_areLike_18 rfl ?_
    refine V_iload_n dX11_areLike_19 rfl ?_
    refine M_Vi mv_X11_saidAt lk_X11_186 dX11_areLike_20 rfl rfl (sX11_saidAt h) rfl rfl (Nat.le_of_ble_eq_true rfl) (by decide) (by decide) (fun v20 M20 h => ?_)
    refine M_Vi mv_X11_costOf lk_X11_241 dX11_areLike_23 rfl rfl (sX11_costOf h) rfl rfl (Nat.le_of_ble_eq_true rfl) (by decide) (by decide) (fun v23 M23 h => ?_)
    refine V_aload_n dX11_areLike_26 rfl ?_
    refine V_getI fl_X11_113 dX11_areLike_27 rfl rfl ?_
    refine V_icmp_gt 37 dX11_areLike_30 (by decide) (fun q30 => ?_) (fun q30 => ?_)
    · replace h := h.1 q30
      refine V_iconst 0 dX11_areLike_37 (by decide) ?_
      exact V_reti dX11_areLike_38 rfl rfl h
    · replace h := h.2 q30
      refine V_iconst 1 dX11_areLike_33 (by decide) ?_
      refine V_goto 38 dX11_areLike_34 (by decide) ?_
      exact V_reti dX11_areLike_38 rfl rfl h
def wX11_join (a1 : Int32) (a2 : Int32) (M : Mem) (Q : Mem → Prop) : Prop :=
  vp_in a1 8 ∧ vp_in a2 8 ∧ jn1 (fun (y27_0 : Int32) (M27 : Mem) => (∃ n, lq1 (fun R32 (x32_6 : Int32) (M32 : Mem) => (((M32 49 11) ≤ x32_6 →
        Q M32) ∧ (¬ (M32 49 11) ≤ x32_6 →
        vp_in x32_6 8 ∧ jn0 (fun (M70 : Mem) => (∀ N82, N82 = mset M70 235 (Int32.toNatClampNeg x32_6) y27_0 → R32 (x32_6 + 1) N82)) (fun J70 => (((M32 235 (Int32.toNatClampNeg x32_6)) = (M 235 (Int32.toNatClampNeg a1)) →
            J70 M32) ∧ (¬ (M32 235 (Int32.toNatClampNeg x32_6)) = (M 235 (Int32.toNatClampNeg a1)) →
            ((¬ (M32 235 (Int32.toNatClampNeg x32_6)) = (M 235 (Int32.toNatClampNeg a2)) →
              (∀ N82, N82 = mset M32 235 (Int32.toNatClampNeg x32_6) (M32 235 (Int32.toNatClampNeg x32_6)) → R32 (x32_6 + 1) N82)) ∧ ((M32 235 (Int32.toNatClampNeg x32_6)) = (M 235 (Int32.toNatClampNeg a2)) →
              J70 M32)))))))) n 0 M27)) (fun J27 => (((M 235 (Int32.toNatClampNeg a2)) ≤ (M 235 (Int32.toNatClampNeg a1)) →
      J27 (M 235 (Int32.toNatClampNeg a2)) M) ∧ (¬ (M 235 (Int32.toNatClampNeg a2)) ≤ (M 235 (Int32.toNatClampNeg a1)) →
      J27 (M 235 (Int32.toNatClampNeg a1)) M)))
set_option maxHeartbeats 1000000 in
set_option maxRecDepth 20000 in
theorem sX11_join {E : En} {a1 : Int32} {a2 : Int32} {M : Mem} {Q : Mem → Prop} (h : wX11_join a1 a2 M Q) : CM E 1 mX11_join [.ref (E.2.2 49), .int a1, .int a2] M (Pv Q) := by
  unfold wX11_join at h
  refine CM.of (by decide) rfl (Nat.le_of_ble_eq_true rfl) ?_
  refine V_aload_n dX11_join_0 rfl ?_
  refine V_getR 235 fl_X11_116 dX11_join_1 rfl rfl rfl ?_
  refine V_iload_n dX11_join_4 rfl ?_
  obtain ⟨hi5, h⟩ := h
  refine V_ialdM dX11_join_5 rfl hi5 ?_
  refine V_istore_n dX11_join_6 (by decide) ?_
  refine V_aload_n dX11_join_7 rfl ?_
  refine V_getR 235 fl_X11_116 dX11_join_8 rfl rfl rfl ?_
  refine V_iload_n dX11_join_11 rfl ?_
  obtain ⟨hi12, h⟩ := h
  refine V_ialdM dX11_join_12 rfl hi12 ?_
  refine V_istore dX11_join_13 (by decide) ?_
  refine V_iload_n dX11_join_15 rfl ?_
  refine V_iload dX11_join_16 rfl ?_
  refine jn1_use (P := fun (y27_0 : Int32) (M27 : Mem) => ∀ j27_1 : Value, ∀ j27_2 : Value, V (Km E 1 (Pv Q)) mX11_join 27 [.ref (E.2.2 49), j27_1, j27_2, .int (M 235 (Int32.toNatClampNeg a1)), .int (M 235 (Int32.toNatClampNeg a2))] [.int y27_0] (wsM E.1 E.2.2 M27) 0 0) (fun y27_0 M27 h j27_1 j27_2 => ?_) (fun J27 hJ27 h => ?_) h
  · refine V_istore dX11_join_27 (by decide) ?_
    refine V_iconst 0 dX11_join_29 (by decide) ?_
    refine V_istore dX11_join_30 (by decide) ?_
    obtain ⟨n32, h⟩ := h
    refine V_take 7 ?_
    refine lq1_use (P := fun (x32_6 : Int32) (M32 : Mem) => ∀ j32_1 : Value, ∀ j32_2 : Value, V (Km E 1 (Pv Q)) mX11_join 32 [.ref (E.2.2 49), j32_1, j32_2, .int (M 235 (Int32.toNatClampNeg a1)), .int (M 235 (Int32.toNatClampNeg a2)), .int y27_0, .int x32_6] [] (wsM E.1 E.2.2 M32) 0 0) (fun R32 hR32 x32_6 M32 h j32_1 j32_2 => ?_) n32 _ _ h _ _
    refine V_iload dX11_join_32 rfl ?_
    refine V_aload_n dX11_join_34 rfl ?_
    refine V_getI fl_X11_164 dX11_join_35 rfl rfl ?_
    refine V_icmp_ge 89 dX11_join_38 (by decide) (fun q38 => ?_) (fun q38 => ?_)
    · replace h := h.1 q38
      exact V_retv dX11_join_89 rfl h
    · replace h := h.2 q38
      refine V_aload_n dX11_join_41 rfl ?_
      refine V_getR 235 fl_X11_116 dX11_join_42 rfl rfl rfl ?_
      refine V_iload dX11_join_45 rfl ?_
      refine V_aload_n dX11_join_47 rfl ?_
      refine V_getR 235 fl_X11_116 dX11_join_48 rfl rfl rfl ?_
      refine V_iload dX11_join_51 rfl ?_
      obtain ⟨hi53, h⟩ := h
      refine V_ialdM dX11_join_53 rfl hi53 ?_
      refine V_iload_n dX11_join_54 rfl ?_
      refine jn0_use (P := fun (M70 : Mem) => ∀ j70_1 : Value, ∀ j70_2 : Value, V (Km E 1 (Pv Q)) mX11_join 70 [.ref (E.2.2 49), j70_1, j70_2, .int (M 235 (Int32.toNatClampNeg a1)), .int (M 235 (Int32.toNatClampNeg a2)), .int y27_0, .int x32_6] [.int x32_6, .ref (E.2.2 235)] (wsM E.1 E.2.2 M70) 0 0) (fun M70 h j70_1 j70_2 => ?_) (fun J70 hJ70 h => ?_) h
      · refine V_iload dX11_join_70 rfl ?_
        refine V_goto 82 dX11_join_72 (by decide) ?_
        refine V_iastN dX11_join_82 rfl hi53 (fun N82 e82 => ?_)
        replace h := h N82 e82
        refine V_iincC 1 dX11_join_83 (by decide) rfl (by decide) ?_
        refine V_goto 32 dX11_join_86 (by decide) ?_
        refine V_take 7 ?_
        exact hR32 _ _ h _ _
      · refine V_icmp_eq 70 dX11_join_55 (by decide) (fun q55 => ?_) (fun q55 => ?_)
        · replace h := h.1 q55
          refine V_take 7 ?_
          exact hJ70 _ h _ _
        · replace h := h.2 q55
          refine V_aload_n dX11_join_58 rfl ?_
          refine V_getR 235 fl_X11_116 dX11_join_59 rfl rfl rfl ?_
          refine V_iload dX11_join_62 rfl ?_
          refine V_ialdM dX11_join_64 rfl hi53 ?_
          refine V_iload dX11_join_65 rfl ?_
          refine V_icmp_ne 75 dX11_join_67 (by decide) (fun q67 => ?_) (fun q67 => ?_)
          · replace h := h.1 q67
            refine V_aload_n dX11_join_75 rfl ?_
            refine V_getR 235 fl_X11_116 dX11_join_76 rfl rfl rfl ?_
            refine V_iload dX11_join_79 rfl ?_
            refine V_ialdM dX11_join_81 rfl hi53 ?_
            refine V_iastN dX11_join_82 rfl hi53 (fun N82 e82 => ?_)
            replace h := h N82 e82
            refine V_iincC 1 dX11_join_83 (by decide) rfl (by decide) ?_
            refine V_goto 32 dX11_join_86 (by decide) ?_
            refine V_take 7 ?_
            exact hR32 _ _ h _ _
          · replace h := h.2 q67
            refine V_take 7 ?_
            exact hJ70 _ h _ _
  · refine V_icmp_ge 25 dX11_join_18 (by decide) (fun q18 => ?_) (fun q18 => ?_)
    · replace h := h.1 q18
      refine V_iload dX11_join_25 rfl ?_
      refine V_take 5 ?_
      exact hJ27 _ _ h _ _
    · replace h := h.2 q18
      refine V_iload_n dX11_join_21 rfl ?_
      refine V_goto 27 dX11_join_22 (by decide) ?_
      refine V_take 5 ?_
      exact hJ27 _ _ h _ _
def wX11_joinedOf (a1 : Int32) (M : Mem) (Q : Int32 → Mem → Prop) : Prop :=
  ((a1 < 0 →
    (∃ n, lq2 (fun R15 (x15_2 : Int32) (x15_3 : Int32) (M15 : Mem) => (((M15 49 11) ≤ x15_3 →
        Q x15_2 M15) ∧ (¬ (M15 49 11) ≤ x15_3 →
        vp_in x15_3 8 ∧ ((¬ (M15 235 (Int32.toNatClampNeg x15_3)) = x15_3 →
          R15 (x15_2 + 0) (x15_3 + 1) M15) ∧ ((M15 235 (Int32.toNatClampNeg x15_3)) = x15_3 →
          R15 (x15_2 + 1) (x15_3 + 1) M15))))) n 0 0 M)) ∧ (¬ a1 < 0 →
    vp_in a1 8 ∧ Q (M 235 (Int32.toNatClampNeg a1)) M))
set_option maxHeartbeats 1000000 in
set_option maxRecDepth 20000 in
theorem sX11_joinedOf {E : En} {a1 : Int32} {M : Mem} {Q : Int32 → Mem → Prop} (h : wX11_joinedOf a1 M Q) : CM E 1 mX11_joinedOf [.ref (E.2.2 49), .int a1] M (Pi Q) := by
  unfold wX11_joinedOf at h
  refine CM.of (by decide) rfl (Nat.le_of_ble_eq_true rfl) ?_
  refine V_iload_n dX11_joinedOf_0 rfl ?_
  refine V_if_lt 11 dX11_joinedOf_1 (by decide) (fun q1 => ?_) (fun q1 => ?_)
  · replace h := h.1 q1
    refine V_iconst 0 dX11_joinedOf_11 (by decide) ?_
    refine V_istore_n dX11_joinedOf_12 (by decide) ?_
    refine V_iconst 0 dX11_joinedOf_13 (by decide) ?_
    refine V_istore_n dX11_joinedOf_14 (by decide) ?_
    obtain ⟨n15, h⟩ := h
    refine V_take 4 ?_
    refine lq2_use (P := fun (x15_2 : Int32) (x15_3 : Int32) (M15 : Mem) => ∀ j15_1 : Value, V (Km E 1 (Pi Q)) mX11_joinedOf 15 [.ref (E.2.2 49), j15_1, .int x15_2, .int x15_3] [] (wsM E.1 E.2.2 M15) 0 0) (fun R15 hR15 x15_2 x15_3 M15 h j15_1 => ?_) n15 _ _ _ h _
    refine V_iload_n dX11_joinedOf_15 rfl ?_
    refine V_aload_n dX11_joinedOf_16 rfl ?_
    refine V_getI fl_X11_164 dX11_joinedOf_17 rfl rfl ?_
    refine V_icmp_ge 47 dX11_joinedOf_20 (by decide) (fun q20 => ?_) (fun q20 => ?_)
    · replace h := h.1 q20
      refine V_iload_n dX11_joinedOf_47 rfl ?_
      exact V_reti dX11_joinedOf_48 rfl rfl h
    · replace h := h.2 q20
      refine V_iload_n dX11_joinedOf_23 rfl ?_
      refine V_aload_n dX11_joinedOf_24 rfl ?_
      refine V_getR 235 fl_X11_116 dX11_joinedOf_25 rfl rfl rfl ?_
      refine V_iload_n dX11_joinedOf_28 rfl ?_
      obtain ⟨hi29, h⟩ := h
      refine V_ialdM dX11_joinedOf_29 rfl hi29 ?_
      refine V_iload_n dX11_joinedOf_30 rfl ?_
      refine V_icmp_ne 38 dX11_joinedOf_31 (by decide) (fun q31 => ?_) (fun q31 => ?_)
      · replace h := h.1 q31
        refine V_iconst 0 dX11_joinedOf_38 (by decide) ?_
        refine V_iadd dX11_joinedOf_39 ?_
        refine V_istore_n dX11_joinedOf_40 (by decide) ?_
        refine V_iincC 1 dX11_joinedOf_41 (by decide) rfl (by decide) ?_
        refine V_goto 15 dX11_joinedOf_44 (by decide) ?_
        refine V_take 4 ?_
        exact hR15 _ _ _ h _
      · replace h := h.2 q31
        refine V_iconst 1 dX11_joinedOf_34 (by decide) ?_
        refine V_goto 39 dX11_joinedOf_35 (by decide) ?_
        refine V_iadd dX11_joinedOf_39 ?_
        refine V_istore_n dX11_joinedOf_40 (by decide) ?_
        refine V_iincC 1 dX11_joinedOf_41 (by decide) rfl (by decide) ?_
        refine V_goto 15 dX11_joinedOf_44 (by decide) ?_
        refine V_take 4 ?_
        exact hR15 _ _ _ h _
  · replace h := h.2 q1
    refine V_aload_n dX11_joinedOf_4 rfl ?_
    refine V_getR 235 fl_X11_116 dX11_joinedOf_5 rfl rfl rfl ?_
    refine V_iload_n dX11_joinedOf_8 rfl ?_
    obtain ⟨hi9, h⟩ := h
    refine V_ialdM dX11_joinedOf_9 rfl hi9 ?_
    exact V_reti dX11_joinedOf_10 rfl rfl h
def wX11_group (a1 : Int32) (a2 : Int32) (M : Mem) (Q : Int32 → Mem → Prop) : Prop :=
  wX11_isMeaning a1 M (fun v1 M1 => ((v1 = 0 →
      Q (-1) M1) ∧ (¬ v1 = 0 →
      jn0 (fun (M22 : Mem) => (∃ n, lq1 (fun R24 (x24_3 : Int32) (M24 : Mem) => (((M24 49 11) ≤ x24_3 →
            (∃ n, lq1 (fun R63 (x63_3 : Int32) (M63 : Mem) => (((M63 49 11) ≤ x63_3 →
                wX11_joinedOf a2 M63 (fun v117 M117 => Q v117 M117)) ∧ (¬ (M63 49 11) ≤ x63_3 →
                (∃ n, lq1 (fun R76 (x76_4 : Int32) (M76 : Mem) => (((M76 49 11) ≤ x76_4 →
                    R63 (x63_3 + 1) M76) ∧ (¬ (M76 49 11) ≤ x76_4 →
                    wX11_areLike a1 x63_3 x76_4 M76 (fun v90 M90 => ((v90 = 0 →
                        R76 (x76_4 + 1) M90) ∧ (¬ v90 = 0 →
                        wX11_join x63_3 x76_4 M90 (fun M100 => R76 (x76_4 + 1) M100))))))) n (x63_3 + 1) M63)))) n 0 M24)) ∧ (¬ (M24 49 11) ≤ x24_3 →
            wX11_saidAt x24_3 a1 M24 (fun v40 M40 => ((¬ v40 = (-9) →
                vp_in x24_3 8 ∧ (∀ N54, N54 = mset M40 235 (Int32.toNatClampNeg x24_3) x24_3 → R24 (x24_3 + 1) N54)) ∧ (v40 = (-9) →
                vp_in x24_3 8 ∧ (∀ N54, N54 = mset M40 235 (Int32.toNatClampNeg x24_3) (-9) → R24 (x24_3 + 1) N54))))))) n 0 M22)) (fun J22 => ((a2 = (-1) →
          J22 M1) ∧ (¬ a2 = (-1) →
          wX11_isPlace a2 M1 (fun v14 M14 => ((¬ v14 = 0 →
              J22 M14) ∧ (v14 = 0 →
              Q (-1) M14)))))))))
set_option maxHeartbeats 1000000 in
set_option maxRecDepth 20000 in
theorem sX11_group {E : En} {a1 : Int32} {a2 : Int32} {M : Mem} {Q : Int32 → Mem → Prop} (h : wX11_group a1 a2 M Q) : CM E 6 mX11_group [.ref (E.2.2 49), .int a1, .int a2] M (Pi Q) := by
  unfold wX11_group at h
  refine CM.of (by decide) rfl (Nat.le_of_ble_eq_true rfl) ?_
  refine V_iload_n dX11_group_0 rfl ?_
  refine M_Si ms_X11_isMeaning lk_X11_173 dX11_group_1 (sX11_isMeaning h) rfl rfl (Nat.le_of_ble_eq_true rfl) (by decide) (by decide) (fun v1 M1 h => ?_)
  refine V_if_eq 20 dX11_group_4 (by decide) (fun q4 => ?_) (fun q4 => ?_)
  · replace h := h.1 q4
    refine V_iconst (-1) dX11_group_20 (by decide) ?_
    exact V_reti dX11_group_21 rfl rfl h
  · replace h := h.2 q4
    refine V_iload_n dX11_group_7 rfl ?_
    refine V_iconst (-1) dX11_group_8 (by decide) ?_
    refine jn0_use (P := fun (M22 : Mem) => V (Km E 6 (Pi Q)) mX11_group 22 [.ref (E.2.2 49), .int a1, .int a2] [] (wsM E.1 E.2.2 M22) 0 0) (fun M22 h => ?_) (fun J22 hJ22 h => ?_) h
    · refine V_iconst 0 dX11_group_22 (by decide) ?_
      refine V_istore_n dX11_group_23 (by decide) ?_
      obtain ⟨n24, h⟩ := h
      refine V_take 4 ?_
      refine lq1_use (P := fun (x24_3 : Int32) (M24 : Mem) => V (Km E 6 (Pi Q)) mX11_group 24 [.ref (E.2.2 49), .int a1, .int a2, .int x24_3] [] (wsM E.1 E.2.2 M24) 0 0) (fun R24 hR24 x24_3 M24 h => ?_) n24 _ _ h
      refine V_iload_n dX11_group_24 rfl ?_
      refine V_aload_n dX11_group_25 rfl ?_
      refine V_getI fl_X11_164 dX11_group_26 rfl rfl ?_
      refine V_icmp_ge 61 dX11_group_29 (by decide) (fun q29 => ?_) (fun q29 => ?_)
      · replace h := h.1 q29
        refine V_iconst 0 dX11_group_61 (by decide) ?_
        refine V_istore_n dX11_group_62 (by decide) ?_
        obtain ⟨n63, h⟩ := h
        refine V_take 4 ?_
        refine lq1_use (P := fun (x63_3 : Int32) (M63 : Mem) => V (Km E 6 (Pi Q)) mX11_group 63 [.ref (E.2.2 49), .int a1, .int a2, .int x63_3] [] (wsM E.1 E.2.2 M63) 0 0) (fun R63 hR63 x63_3 M63 h => ?_) n63 _ _ h
        refine V_iload_n dX11_group_63 rfl ?_
        refine V_aload_n dX11_group_64 rfl ?_
        refine V_getI fl_X11_164 dX11_group_65 rfl rfl ?_
        refine V_icmp_ge 115 dX11_group_68 (by decide) (fun q68 => ?_) (fun q68 => ?_)
        · replace h := h.1 q68
          refine V_aload_n dX11_group_115 rfl ?_
          refine V_iload_n dX11_group_116 rfl ?_
          refine M_Vi mv_X11_joinedOf lk_X11_290 dX11_group_117 rfl rfl (sX11_joinedOf h) rfl rfl (Nat.le_of_ble_eq_true rfl) (by decide) (by decide) (fun v117 M117 h => ?_)
          exact V_reti dX11_group_120 rfl rfl h
        · replace h := h.2 q68
          refine V_iload_n dX11_group_71 rfl ?_
          refine V_iconst 1 dX11_group_72 (by decide) ?_
          refine V_iadd dX11_group_73 ?_
          refine V_istore dX11_group_74 (by decide) ?_
          obtain ⟨n76, h⟩ := h
          refine V_take 5 ?_
          refine lq1_use (P := fun (x76_4 : Int32) (M76 : Mem) => V (Km E 6 (Pi Q)) mX11_group 76 [.ref (E.2.2 49), .int a1, .int a2, .int x63_3, .int x76_4] [] (wsM E.1 E.2.2 M76) 0 0) (fun R76 hR76 x76_4 M76 h => ?_) n76 _ _ h
          refine V_iload dX11_group_76 rfl ?_
          refine V_aload_n dX11_group_78 rfl ?_
          refine V_getI fl_X11_164 dX11_group_79 rfl rfl ?_
          refine V_icmp_ge 109 dX11_group_82 (by decide) (fun q82 => ?_) (fun q82 => ?_)
          · replace h := h.1 q82
            refine V_iincC 1 dX11_group_109 (by decide) rfl (by decide) ?_
            refine V_goto 63 dX11_group_112 (by decide) ?_
            refine V_take 4 ?_
            exact hR63 _ _ h
          · replace h := h.2 q82
            refine V_aload_n dX11_group_85 rfl ?_
            refine V_iload_n dX11_group_86 rfl ?_
            refine V_iload_n dX11_group_87 rfl ?_
            refine V_iload dX11_group_88 rfl ?_
            refine M_Vi mv_X11_areLike lk_X11_284 dX11_group_90 rfl rfl (sX11_areLike h) rfl rfl (Nat.le_of_ble_eq_true rfl) (by decide) (by decide) (fun v90 M90 h => ?_)
            refine V_if_eq 103 dX11_group_93 (by decide) (fun q93 => ?_) (fun q93 => ?_)
            · replace h := h.1 q93
              refine V_iincC 1 dX11_group_103 (by decide) rfl (by decide) ?_
              refine V_goto 76 dX11_group_106 (by decide) ?_
              refine V_take 5 ?_
              exact hR76 _ _ h
            · replace h := h.2 q93
              refine V_aload_n dX11_group_96 rfl ?_
              refine V_iload_n dX11_group_97 rfl ?_
              refine V_iload dX11_group_98 rfl ?_
              refine M_Vv mv_X11_join lk_X11_287 dX11_group_100 rfl rfl (sX11_join h) rfl rfl (Nat.le_of_ble_eq_true rfl) (by decide) (by decide) (fun M100 h => ?_)
              refine V_iincC 1 dX11_group_103 (by decide) rfl (by decide) ?_
              refine V_goto 76 dX11_group_106 (by decide) ?_
              refine V_take 5 ?_
              exact hR76 _ _ h
      · replace h := h.2 q29
        refine V_aload_n dX11_group_32 rfl ?_
        refine V_getR 235 fl_X11_116 dX11_group_33 rfl rfl rfl ?_
        refine V_iload_n dX11_group_36 rfl ?_
        refine V_aload_n dX11_group_37 rfl ?_
        refine V_iload_n dX11_group_38 rfl ?_
        refine V_iload_n dX11_group_39 rfl ?_
        refine M_Vi mv_X11_saidAt lk_X11_186 dX11_group_40 rfl rfl (sX11_saidAt h) rfl rfl (Nat.le_of_ble_eq_true rfl) (by decide) (by decide) (fun v40 M40 h => ?_)
        refine V_bipush (-9) dX11_group_43 (by decide) ?_
        refine V_icmp_ne 53 dX11_group_45 (by decide) (fun q45 => ?_) (fun q45 => ?_)
        · replace h := h.1 q45
          refine V_iload_n dX11_group_53 rfl ?_
          obtain ⟨hi54, h⟩ := h
          refine V_iastN dX11_group_54 rfl hi54 (fun N54 e54 => ?_)
          replace h := h N54 e54
          refine V_iincC 1 dX11_group_55 (by decide) rfl (by decide) ?_
          refine V_goto 24 dX11_group_58 (by decide) ?_
          refine V_take 4 ?_
          exact hR24 _ _ h
        · replace h := h.2 q45
          refine V_bipush (-9) dX11_group_48 (by decide) ?_
          refine V_goto 54 dX11_group_50 (by decide) ?_
          obtain ⟨hi54, h⟩ := h
          refine V_iastN dX11_group_54 rfl hi54 (fun N54 e54 => ?_)
          replace h := h N54 e54
          refine V_iincC 1 dX11_group_55 (by decide) rfl (by decide) ?_
          refine V_goto 24 dX11_group_58 (by decide) ?_
          refine V_take 4 ?_
          exact hR24 _ _ h
    · refine V_icmp_eq 22 dX11_group_9 (by decide) (fun q9 => ?_) (fun q9 => ?_)
      · replace h := h.1 q9
        refine V_take 3 ?_
        exact hJ22 _ h
      · replace h := h.2 q9
        refine V_aload_n dX11_group_12 rfl ?_
        refine V_iload_n dX11_group_13 rfl ?_
        refine M_Vi mv_X11_isPlace lk_X11_167 dX11_group_14 rfl rfl (sX11_isPlace h) rfl rfl (Nat.le_of_ble_eq_true rfl) (by decide) (by decide) (fun v14 M14 h => ?_)
        refine V_if_ne 22 dX11_group_17 (by decide) (fun q17 => ?_) (fun q17 => ?_)
        · replace h := h.1 q17
          refine V_take 3 ?_
          exact hJ22 _ h
        · replace h := h.2 q17
          refine V_iconst (-1) dX11_group_20 (by decide) ?_
          exact V_reti dX11_group_21 rfl rfl h
def wX11_border (a1 : Int32) (a2 : Int32) (M : Mem) (Q : Int32 → Mem → Prop) : Prop :=
  wX11_isMeaning a1 M (fun v1 M1 => ((v1 = 0 →
      Q (-1) M1) ∧ (¬ v1 = 0 →
      wX11_within a2 (-1) 27 M1 (fun v11 M11 => ((¬ v11 = 0 →
          (∃ n, lq2 (fun R24 (x24_3 : Int32) (x24_4 : Int32) (M24 : Mem) => (((M24 49 11) ≤ x24_4 →
              ((¬ a2 = (-1) →
                Q (-9) M24) ∧ (a2 = (-1) →
                Q x24_3 M24))) ∧ (¬ (M24 49 11) ≤ x24_4 →
              (∃ n, lq2 (fun R39 (x39_3 : Int32) (x39_5 : Int32) (M39 : Mem) => (((M39 49 11) ≤ x39_5 →
                  R24 x39_3 (x24_4 + 1) M39) ∧ (¬ (M39 49 11) ≤ x39_5 →
                  vp_in x24_4 8 ∧ wX11_has (M39 202 (Int32.toNatClampNeg x24_4)) x39_5 M39 (fun v57 M57 => ((v57 = 0 →
                      R39 x39_3 (x39_5 + 1) M57) ∧ (¬ v57 = 0 →
                      wX11_areSaid a1 x24_4 x39_5 M57 (fun v69 M69 => ((v69 = 0 →
                          R39 x39_3 (x39_5 + 1) M69) ∧ (¬ v69 = 0 →
                          wX11_areLike a1 x24_4 x39_5 M69 (fun v81 M81 => ((¬ v81 = 0 →
                              R39 x39_3 (x39_5 + 1) M81) ∧ (v81 = 0 →
                              ((¬ x39_3 = a2 →
                                R39 (x39_3 + 1) (x39_5 + 1) M81) ∧ (x39_3 = a2 →
                                Q ((10 * x24_4) + x39_5) M81)))))))))))))) n x24_3 (x24_4 + 1) M24)))) n 0 0 M11)) ∧ (v11 = 0 →
          Q (-1) M11))))))
set_option maxHeartbeats 1000000 in
set_option maxRecDepth 20000 in
theorem sX11_border {E : En} {a1 : Int32} {a2 : Int32} {M : Mem} {Q : Int32 → Mem → Prop} (h : wX11_border a1 a2 M Q) : CM E 6 mX11_border [.ref (E.2.2 49), .int a1, .int a2] M (Pi Q) := by
  unfold wX11_border at h
  refine CM.of (by decide) rfl (Nat.le_of_ble_eq_true rfl) ?_
  refine V_iload_n dX11_border_0 rfl ?_
  refine M_Si ms_X11_isMeaning lk_X11_173 dX11_border_1 (sX11_isMeaning h) rfl rfl (Nat.le_of_ble_eq_true rfl) (by decide) (by decide) (fun v1 M1 h => ?_)
  refine V_if_eq 17 dX11_border_4 (by decide) (fun q4 => ?_) (fun q4 => ?_)
  · replace h := h.1 q4
    refine V_iconst (-1) dX11_border_17 (by decide) ?_
    exact V_reti dX11_border_18 rfl rfl h
  · replace h := h.2 q4
    refine V_iload_n dX11_border_7 rfl ?_
    refine V_iconst (-1) dX11_border_8 (by decide) ?_
    refine V_bipush 27 dX11_border_9 (by decide) ?_
    refine M_Si ms_X11_within lk_X11_124 dX11_border_11 (sX11_within h) rfl rfl (Nat.le_of_ble_eq_true rfl) (by decide) (by decide) (fun v11 M11 h => ?_)
    refine V_if_ne 19 dX11_border_14 (by decide) (fun q14 => ?_) (fun q14 => ?_)
    · replace h := h.1 q14
      refine V_iconst 0 dX11_border_19 (by decide) ?_
      refine V_istore_n dX11_border_20 (by decide) ?_
      refine V_iconst 0 dX11_border_21 (by decide) ?_
      refine V_istore dX11_border_22 (by decide) ?_
      obtain ⟨n24, h⟩ := h
      refine V_take 5 ?_
      refine lq2_use (P := fun (x24_3 : Int32) (x24_4 : Int32) (M24 : Mem) => V (Km E 6 (Pi Q)) mX11_border 24 [.ref (E.2.2 49), .int a1, .int a2, .int x24_3, .int x24_4] [] (wsM E.1 E.2.2 M24) 0 0) (fun R24 hR24 x24_3 x24_4 M24 h => ?_) n24 _ _ _ h
      refine V_iload dX11_border_24 rfl ?_
      refine V_aload_n dX11_border_26 rfl ?_
      refine V_getI fl_X11_164 dX11_border_27 rfl rfl ?_
      refine V_icmp_ge 116 dX11_border_30 (by decide) (fun q30 => ?_) (fun q30 => ?_)
      · replace h := h.1 q30
        refine V_iload_n dX11_border_116 rfl ?_
        refine V_iconst (-1) dX11_border_117 (by decide) ?_
        refine V_icmp_ne 125 dX11_border_118 (by decide) (fun q118 => ?_) (fun q118 => ?_)
        · replace h := h.1 q118
          refine V_bipush (-9) dX11_border_125 (by decide) ?_
          exact V_reti dX11_border_127 rfl rfl h
        · replace h := h.2 q118
          refine V_iload_n dX11_border_121 rfl ?_
          refine V_goto 127 dX11_border_122 (by decide) ?_
          exact V_reti dX11_border_127 rfl rfl h
      · replace h := h.2 q30
        refine V_iload dX11_border_33 rfl ?_
        refine V_iconst 1 dX11_border_35 (by decide) ?_
        refine V_iadd dX11_border_36 ?_
        refine V_istore dX11_border_37 (by decide) ?_
        obtain ⟨n39, h⟩ := h
        refine V_take 6 ?_
        refine lq2_use (P := fun (x39_3 : Int32) (x39_5 : Int32) (M39 : Mem) => V (Km E 6 (Pi Q)) mX11_border 39 [.ref (E.2.2 49), .int a1, .int a2, .int x39_3, .int x24_4, .int x39_5] [] (wsM E.1 E.2.2 M39) 0 0) (fun R39 hR39 x39_3 x39_5 M39 h => ?_) n39 _ _ _ h
        refine V_iload dX11_border_39 rfl ?_
        refine V_aload_n dX11_border_41 rfl ?_
        refine V_getI fl_X11_164 dX11_border_42 rfl rfl ?_
        refine V_icmp_ge 110 dX11_border_45 (by decide) (fun q45 => ?_) (fun q45 => ?_)
        · replace h := h.1 q45
          refine V_iincC 1 dX11_border_110 (by decide) rfl (by decide) ?_
          refine V_goto 24 dX11_border_113 (by decide) ?_
          refine V_take 5 ?_
          exact hR24 _ _ _ h
        · replace h := h.2 q45
          refine V_aload_n dX11_border_48 rfl ?_
          refine V_getR 202 fl_X11_37 dX11_border_49 rfl rfl rfl ?_
          refine V_iload dX11_border_52 rfl ?_
          obtain ⟨hi54, h⟩ := h
          refine V_ialdM dX11_border_54 rfl hi54 ?_
          refine V_iload dX11_border_55 rfl ?_
          refine M_Si ms_X11_has lk_X11_132 dX11_border_57 (sX11_has h) rfl rfl (Nat.le_of_ble_eq_true rfl) (by decide) (by decide) (fun v57 M57 h => ?_)
          refine V_if_eq 104 dX11_border_60 (by decide) (fun q60 => ?_) (fun q60 => ?_)
          · replace h := h.1 q60
            refine V_iincC 1 dX11_border_104 (by decide) rfl (by decide) ?_
            refine V_goto 39 dX11_border_107 (by decide) ?_
            refine V_take 6 ?_
            exact hR39 _ _ _ h
          · replace h := h.2 q60
            refine V_aload_n dX11_border_63 rfl ?_
            refine V_iload_n dX11_border_64 rfl ?_
            refine V_iload dX11_border_65 rfl ?_
            refine V_iload dX11_border_67 rfl ?_
            refine M_Vi mv_X11_areSaid lk_X11_281 dX11_border_69 rfl rfl (sX11_areSaid h) rfl rfl (Nat.le_of_ble_eq_true rfl) (by decide) (by decide) (fun v69 M69 h => ?_)
            refine V_if_eq 104 dX11_border_72 (by decide) (fun q72 => ?_) (fun q72 => ?_)
            · replace h := h.1 q72
              refine V_iincC 1 dX11_border_104 (by decide) rfl (by decide) ?_
              refine V_goto 39 dX11_border_107 (by decide) ?_
              refine V_take 6 ?_
              exact hR39 _ _ _ h
            · replace h := h.2 q72
              refine V_aload_n dX11_border_75 rfl ?_
              refine V_iload_n dX11_border_76 rfl ?_
              refine V_iload dX11_border_77 rfl ?_
              refine V_iload dX11_border_79 rfl ?_
              refine M_Vi mv_X11_areLike lk_X11_284 dX11_border_81 rfl rfl (sX11_areLike h) rfl rfl (Nat.le_of_ble_eq_true rfl) (by decide) (by decide) (fun v81 M81 h => ?_)
              refine V_if_ne 104 dX11_border_84 (by decide) (fun q84 => ?_) (fun q84 => ?_)
              · replace h := h.1 q84
                refine V_iincC 1 dX11_border_104 (by decide) rfl (by decide) ?_
                refine V_goto 39 dX11_border_107 (by decide) ?_
                refine V_take 6 ?_
                exact hR39 _ _ _ h
              · replace h := h.2 q84
                refine V_iload_n dX11_border_87 rfl ?_
                refine V_iload_n dX11_border_88 rfl ?_
                refine V_icmp_ne 101 dX11_border_89 (by decide) (fun q89 => ?_) (fun q89 => ?_)
                · replace h := h.1 q89
                  refine V_iincC 1 dX11_border_101 (by decide) rfl (by decide) ?_
                  refine V_iincC 1 dX11_border_104 (by decide) rfl (by decide) ?_
                  refine V_goto 39 dX11_border_107 (by decide) ?_
                  refine V_take 6 ?_
                  exact hR39 _ _ _ h
                · replace h := h.2 q89
                  refine V_bipush 10 dX11_border_92 (by decide) ?_
                  refine V_iload dX11_border_94 rfl ?_
                  refine V_imul dX11_border_96 ?_
                  refine V_iload dX11_border_97 rfl ?_
                  refine V_iadd dX11_border_99 ?_
                  exact V_reti dX11_border_100 rfl rfl h
    · replace h := h.2 q14
      refine V_iconst (-1) dX11_border_17 (by decide) ?_
      exact V_reti dX11_border_18 rfl rfl h
def wX11_bundle (a1 : Int32) (a2 : Int32) (M : Mem) (Q : Int32 → Mem → Prop) : Prop :=
  wX11_isPlace a1 M (fun v2 M2 => ((v2 = 0 →
      Q (-1) M2) ∧ (¬ v2 = 0 →
      wX11_isPlace a2 M2 (fun v10 M10 => ((¬ v10 = 0 →
          ((¬ a1 = a2 →
            (∃ n, lq2 (fun R31 (x31_3 : Int32) (x31_4 : Int32) (M31 : Mem) => ((6 ≤ x31_4 →
                Q x31_3 M31) ∧ (¬ 6 ≤ x31_4 →
                wX11_areSaid x31_4 a1 a2 M31 (fun v44 M44 => jn0 (fun (M65 : Mem) => R31 (x31_3 + 0) (x31_4 + 1) M65) (fun J65 => ((v44 = 0 →
                      J65 M44) ∧ (¬ v44 = 0 →
                      wX11_areLike x31_4 a1 a2 M44 (fun v55 M55 => ((¬ v55 = 0 →
                          J65 M55) ∧ (v55 = 0 →
                          R31 (x31_3 + 1) (x31_4 + 1) M55)))))))))) n 0 0 M10)) ∧ (a1 = a2 →
            Q (-2) M10))) ∧ (v10 = 0 →
          Q (-1) M10))))))
set_option maxHeartbeats 1000000 in
set_option maxRecDepth 20000 in
theorem sX11_bundle {E : En} {a1 : Int32} {a2 : Int32} {M : Mem} {Q : Int32 → Mem → Prop} (h : wX11_bundle a1 a2 M Q) : CM E 6 mX11_bundle [.ref (E.2.2 49), .int a1, .int a2] M (Pi Q) := by
  unfold wX11_bundle at h
  refine CM.of (by decide) rfl (Nat.le_of_ble_eq_true rfl) ?_
  refine V_aload_n dX11_bundle_0 rfl ?_
  refine V_iload_n dX11_bundle_1 rfl ?_
  refine M_Vi mv_X11_isPlace lk_X11_167 dX11_bundle_2 rfl rfl (sX11_isPlace h) rfl rfl (Nat.le_of_ble_eq_true rfl) (by decide) (by decide) (fun v2 M2 h => ?_)
  refine V_if_eq 16 dX11_bundle_5 (by decide) (fun q5 => ?_) (fun q5 => ?_)
  · replace h := h.1 q5
    refine V_iconst (-1) dX11_bundle_16 (by decide) ?_
    exact V_reti dX11_bundle_17 rfl rfl h
  · replace h := h.2 q5
    refine V_aload_n dX11_bundle_8 rfl ?_
    refine V_iload_n dX11_bundle_9 rfl ?_
    refine M_Vi mv_X11_isPlace lk_X11_167 dX11_bundle_10 rfl rfl (sX11_isPlace h) rfl rfl (Nat.le_of_ble_eq_true rfl) (by decide) (by decide) (fun v10 M10 h => ?_)
    refine V_if_ne 18 dX11_bundle_13 (by decide) (fun q13 => ?_) (fun q13 => ?_)
    · replace h := h.1 q13
      refine V_iload_n dX11_bundle_18 rfl ?_
      refine V_iload_n dX11_bundle_19 rfl ?_
      refine V_icmp_ne 26 dX11_bundle_20 (by decide) (fun q20 => ?_) (fun q20 => ?_)
      · replace h := h.1 q20
        refine V_iconst 0 dX11_bundle_26 (by decide) ?_
        refine V_istore_n dX11_bundle_27 (by decide) ?_
        refine V_iconst 0 dX11_bundle_28 (by decide) ?_
        refine V_istore dX11_bundle_29 (by decide) ?_
        obtain ⟨n31, h⟩ := h
        refine V_take 5 ?_
        refine lq2_use (P := fun (x31_3 : Int32) (x31_4 : Int32) (M31 : Mem) => V (Km E 6 (Pi Q)) mX11_bundle 31 [.ref (E.2.2 49), .int a1, .int a2, .int x31_3, .int x31_4] [] (wsM E.1 E.2.2 M31) 0 0) (fun R31 hR31 x31_3 x31_4 M31 h => ?_) n31 _ _ _ h
        refine V_iload dX11_bundle_31 rfl ?_
        refine V_bipush 6 dX11_bundle_33 (by decide) ?_
        refine V_icmp_ge 74 dX11_bundle_35 (by decide) (fun q35 => ?_) (fun q35 => ?_)
        · replace h := h.1 q35
          refine V_iload_n dX11_bundle_74 rfl ?_
          exact V_reti dX11_bundle_75 rfl rfl h
        · replace h := h.2 q35
          refine V_iload_n dX11_bundle_38 rfl ?_
          refine V_aload_n dX11_bundle_39 rfl ?_
          refine V_iload dX11_bundle_40 rfl ?_
          refine V_iload_n dX11_bundle_42 rfl ?_
          refine V_iload_n dX11_bundle_43 rfl ?_
          refine M_Vi mv_X11_areSaid lk_X11_281 dX11_bundle_44 rfl rfl (sX11_areSaid h) rfl rfl (Nat.le_of_ble_eq_true rfl) (by decide) (by decide) (fun v44 M44 h => ?_)
          refine jn0_use (P := fun (M65 : Mem) => ∀ j65_3 : Value, V (Km E 6 (Pi Q)) mX11_bundle 65 [.ref (E.2.2 49), .int a1, .int a2, j65_3, .int x31_4] [.int x31_3] (wsM E.1 E.2.2 M65) 0 0) (fun M65 h j65_3 => ?_) (fun J65 hJ65 h => ?_) h
          · refine V_iconst 0 dX11_bundle_65 (by decide) ?_
            refine V_iadd dX11_bundle_66 ?_
            refine V_istore_n dX11_bundle_67 (by decide) ?_
            refine V_iincC 1 dX11_bundle_68 (by decide) rfl (by decide) ?_
            refine V_goto 31 dX11_bundle_71 (by decide) ?_
            refine V_take 5 ?_
            exact hR31 _ _ _ h
          · refine V_if_eq 65 dX11_bundle_47 (by decide) (fun q47 => ?_) (fun q47 => ?_)
            · replace h := h.1 q47
              refine V_take 5 ?_
              exact hJ65 _ h _
            · replace h := h.2 q47
              refine V_aload_n dX11_bundle_50 rfl ?_
              refine V_iload dX11_bundle_51 rfl ?_
              refine V_iload_n dX11_bundle_53 rfl ?_
              refine V_iload_n dX11_bundle_54 rfl ?_
              refine M_Vi mv_X11_areLike lk_X11_284 dX11_bundle_55 rfl rfl (sX11_areLike h) rfl rfl (Nat.le_of_ble_eq_true rfl) (by decide) (by decide) (fun v55 M55 h => ?_)
              refine V_if_ne 65 dX11_bundle_58 (by decide) (fun q58 => ?_) (fun q58 => ?_)
              · replace h := h.1 q58
                refine V_take 5 ?_
                exact hJ65 _ h _
              · replace h := h.2 q58
                refine V_iconst 1 dX11_bundle_61 (by decide) ?_
                refine V_goto 66 dX11_bundle_62 (by decide) ?_
                refine V_iadd dX11_bundle_66 ?_
                refine V_istore_n dX11_bundle_67 (by decide) ?_
                refine V_iincC 1 dX11_bundle_68 (by decide) rfl (by decide) ?_
                refine V_goto 31 dX11_bundle_71 (by decide) ?_
                refine V_take 5 ?_
                exact hR31 _ _ _ h
      · replace h := h.2 q20
        refine V_bipush (-2) dX11_bundle_23 (by decide) ?_
        exact V_reti dX11_bundle_25 rfl rfl h
    · replace h := h.2 q13
      refine V_iconst (-1) dX11_bundle_16 (by decide) ?_
      exact V_reti dX11_bundle_17 rfl rfl h
def wX11_area (a1 : Int32) (a2 : Int32) (M : Mem) (Q : Int32 → Mem → Prop) : Prop :=
  wX11_isLaw a1 M (fun v2 M2 => ((v2 = 0 →
      Q (-1) M2) ∧ (¬ v2 = 0 →
      jn0 (fun (M23 : Mem) => (∃ n, lq1 (fun R25 (x25_3 : Int32) (M25 : Mem) => (((M25 49 11) ≤ x25_3 →
            (∃ n, lq1 (fun R66 (x66_3 : Int32) (M66 : Mem) => (((M66 49 11) ≤ x66_3 →
                wX11_joinedOf a2 M66 (fun v146 M146 => Q v146 M146)) ∧ (¬ (M66 49 11) ≤ x66_3 →
                (∃ n, lq1 (fun R79 (x79_4 : Int32) (M79 : Mem) => (((M79 49 11) ≤ x79_4 →
                    R66 (x66_3 + 1) M79) ∧ (¬ (M79 49 11) ≤ x79_4 →
                    vp_in x66_3 8 ∧ wX11_has (M79 202 (Int32.toNatClampNeg x66_3)) x79_4 M79 (fun v96 M96 => ((v96 = 0 →
                        R79 (x79_4 + 1) M96) ∧ (¬ v96 = 0 →
                        (((M96 235 (Int32.toNatClampNeg x66_3)) = (-9) →
                          R79 (x79_4 + 1) M96) ∧ (¬ (M96 235 (Int32.toNatClampNeg x66_3)) = (-9) →
                          vp_in x79_4 8 ∧ (((M96 235 (Int32.toNatClampNeg x79_4)) = (-9) →
                            R79 (x79_4 + 1) M96) ∧ (¬ (M96 235 (Int32.toNatClampNeg x79_4)) = (-9) →
                            wX11_join x66_3 x79_4 M96 (fun M129 => R79 (x79_4 + 1) M129))))))))))) n (x66_3 + 1) M66)))) n 0 M25)) ∧ (¬ (M25 49 11) ≤ x25_3 →
            vp_in a1 8 ∧ wX11_has (M25 213 (Int32.toNatClampNeg a1)) x25_3 M25 (fun v45 M45 => ((v45 = 0 →
                vp_in x25_3 8 ∧ (∀ N57, N57 = mset M45 235 (Int32.toNatClampNeg x25_3) (-9) → R25 (x25_3 + 1) N57)) ∧ (¬ v45 = 0 →
                vp_in x25_3 8 ∧ (∀ N57, N57 = mset M45 235 (Int32.toNatClampNeg x25_3) x25_3 → R25 (x25_3 + 1) N57))))))) n 0 M23)) (fun J23 => ((a2 = (-1) →
          J23 M2) ∧ (¬ a2 = (-1) →
          wX11_isPlace a2 M2 (fun v15 M15 => ((¬ v15 = 0 →
              J23 M15) ∧ (v15 = 0 →
              Q (-1) M15)))))))))
set_option maxHeartbeats 1000000 in
set_option maxRecDepth 20000 in
theorem sX11_area {E : En} {a1 : Int32} {a2 : Int32} {M : Mem} {Q : Int32 → Mem → Prop} (h : wX11_area a1 a2 M Q) : CM E 2 mX11_area [.ref (E.2.2 49), .int a1, .int a2] M (Pi Q) := by
  unfold wX11_area at h
  refine CM.of (by decide) rfl (Nat.le_of_ble_eq_true rfl) ?_
  refine V_aload_n dX11_area_0 rfl ?_
  refine V_iload_n dX11_area_1 rfl ?_
  refine M_Vi mv_X11_isLaw lk_X11_212 dX11_area_2 rfl rfl (sX11_isLaw h) rfl rfl (Nat.le_of_ble_eq_true rfl) (by decide) (by decide) (fun v2 M2 h => ?_)
  refine V_if_eq 21 dX11_area_5 (by decide) (fun q5 => ?_) (fun q5 => ?_)
  · replace h := h.1 q5
    refine V_iconst (-1) dX11_area_21 (by decide) ?_
    exact V_reti dX11_area_22 rfl rfl h
  · replace h := h.2 q5
    refine V_iload_n dX11_area_8 rfl ?_
    refine V_iconst (-1) dX11_area_9 (by decide) ?_
    refine jn0_use (P := fun (M23 : Mem) => V (Km E 2 (Pi Q)) mX11_area 23 [.ref (E.2.2 49), .int a1, .int a2] [] (wsM E.1 E.2.2 M23) 0 0) (fun M23 h => ?_) (fun J23 hJ23 h => ?_) h
    · refine V_iconst 0 dX11_area_23 (by decide) ?_
      refine V_istore_n dX11_area_24 (by decide) ?_
      obtain ⟨n25, h⟩ := h
      refine V_take 4 ?_
      refine lq1_use (P := fun (x25_3 : Int32) (M25 : Mem) => V (Km E 2 (Pi Q)) mX11_area 25 [.ref (E.2.2 49), .int a1, .int a2, .int x25_3] [] (wsM E.1 E.2.2 M25) 0 0) (fun R25 hR25 x25_3 M25 h => ?_) n25 _ _ h
      refine V_iload_n dX11_area_25 rfl ?_
      refine V_aload_n dX11_area_26 rfl ?_
      refine V_getI fl_X11_164 dX11_area_27 rfl rfl ?_
      refine V_icmp_ge 64 dX11_area_30 (by decide) (fun q30 => ?_) (fun q30 => ?_)
      · replace h := h.1 q30
        refine V_iconst 0 dX11_area_64 (by decide) ?_
        refine V_istore_n dX11_area_65 (by decide) ?_
        obtain ⟨n66, h⟩ := h
        refine V_take 4 ?_
        refine lq1_use (P := fun (x66_3 : Int32) (M66 : Mem) => ∀ j66_1 : Value, V (Km E 2 (Pi Q)) mX11_area 66 [.ref (E.2.2 49), j66_1, .int a2, .int x66_3] [] (wsM E.1 E.2.2 M66) 0 0) (fun R66 hR66 x66_3 M66 h j66_1 => ?_) n66 _ _ h _
        refine V_iload_n dX11_area_66 rfl ?_
        refine V_aload_n dX11_area_67 rfl ?_
        refine V_getI fl_X11_164 dX11_area_68 rfl rfl ?_
        refine V_icmp_ge 144 dX11_area_71 (by decide) (fun q71 => ?_) (fun q71 => ?_)
        · replace h := h.1 q71
          refine V_aload_n dX11_area_144 rfl ?_
          refine V_iload_n dX11_area_145 rfl ?_
          refine M_Vi mv_X11_joinedOf lk_X11_290 dX11_area_146 rfl rfl (sX11_joinedOf h) rfl rfl (Nat.le_of_ble_eq_true rfl) (by decide) (by decide) (fun v146 M146 h => ?_)
          exact V_reti dX11_area_149 rfl rfl h
        · replace h := h.2 q71
          refine V_iload_n dX11_area_74 rfl ?_
          refine V_iconst 1 dX11_area_75 (by decide) ?_
          refine V_iadd dX11_area_76 ?_
          refine V_istore dX11_area_77 (by decide) ?_
          obtain ⟨n79, h⟩ := h
          refine V_take 5 ?_
          refine lq1_use (P := fun (x79_4 : Int32) (M79 : Mem) => ∀ j79_1 : Value, V (Km E 2 (Pi Q)) mX11_area 79 [.ref (E.2.2 49), j79_1, .int a2, .int x66_3, .int x79_4] [] (wsM E.1 E.2.2 M79) 0 0) (fun R79 hR79 x79_4 M79 h j79_1 => ?_) n79 _ _ h _
          refine V_iload dX11_area_79 rfl ?_
          refine V_aload_n dX11_area_81 rfl ?_
          refine V_getI fl_X11_164 dX11_area_82 rfl rfl ?_
          refine V_icmp_ge 138 dX11_area_85 (by decide) (fun q85 => ?_) (fun q85 => ?_)
          · replace h := h.1 q85
            refine V_iincC 1 dX11_area_138 (by decide) rfl (by decide) ?_
            refine V_goto 66 dX11_area_141 (by decide) ?_
            refine V_take 4 ?_
            exact hR66 _ _ h _
          · replace h := h.2 q85
            refine V_aload_n dX11_area_88 rfl ?_
            refine V_getR 202 fl_X11_37 dX11_area_89 rfl rfl rfl ?_
            refine V_iload_n dX11_area_92 rfl ?_
            obtain ⟨hi93, h⟩ := h
            refine V_ialdM dX11_area_93 rfl hi93 ?_
            refine V_iload dX11_area_94 rfl ?_
            refine M_Si ms_X11_has lk_X11_132 dX11_area_96 (sX11_has h) rfl rfl (Nat.le_of_ble_eq_true rfl) (by decide) (by decide) (fun v96 M96 h => ?_)
            refine V_if_eq 132 dX11_area_99 (by decide) (fun q99 => ?_) (fun q99 => ?_)
            · replace h := h.1 q99
              refine V_iincC 1 dX11_area_132 (by decide) rfl (by decide) ?_
              refine V_goto 79 dX11_area_135 (by decide) ?_
              refine V_take 5 ?_
              exact hR79 _ _ h _
            · replace h := h.2 q99
              refine V_aload_n dX11_area_102 rfl ?_
              refine V_getR 235 fl_X11_116 dX11_area_103 rfl rfl rfl ?_
              refine V_iload_n dX11_area_106 rfl ?_
              refine V_ialdM dX11_area_107 rfl hi93 ?_
              refine V_bipush (-9) dX11_area_108 (by decide) ?_
              refine V_icmp_eq 132 dX11_area_110 (by decide) (fun q110 => ?_) (fun q110 => ?_)
              · replace h := h.1 q110
                refine V_iincC 1 dX11_area_132 (by decide) rfl (by decide) ?_
                refine V_goto 79 dX11_area_135 (by decide) ?_
                refine V_take 5 ?_
                exact hR79 _ _ h _
              · replace h := h.2 q110
                refine V_aload_n dX11_area_113 rfl ?_
                refine V_getR 235 fl_X11_116 dX11_area_114 rfl rfl rfl ?_
                refine V_iload dX11_area_117 rfl ?_
                obtain ⟨hi119, h⟩ := h
                refine V_ialdM dX11_area_119 rfl hi119 ?_
                refine V_bipush (-9) dX11_area_120 (by decide) ?_
                refine V_icmp_eq 132 dX11_area_122 (by decide) (fun q122 => ?_) (fun q122 => ?_)
                · replace h := h.1 q122
                  refine V_iincC 1 dX11_area_132 (by decide) rfl (by decide) ?_
                  refine V_goto 79 dX11_area_135 (by decide) ?_
                  refine V_take 5 ?_
                  exact hR79 _ _ h _
                · replace h := h.2 q122
                  refine V_aload_n dX11_area_125 rfl ?_
                  refine V_iload_n dX11_area_126 rfl ?_
                  refine V_iload dX11_area_127 rfl ?_
                  refine M_Vv mv_X11_join lk_X11_287 dX11_area_129 rfl rfl (sX11_join h) rfl rfl (Nat.le_of_ble_eq_true rfl) (by decide) (by decide) (fun M129 h => ?_)
                  refine V_iincC 1 dX11_area_132 (by decide) rfl (by decide) ?_
                  refine V_goto 79 dX11_area_135 (by decide) ?_
                  refine V_take 5 ?_
                  exact hR79 _ _ h _
      · replace h := h.2 q30
        refine V_aload_n dX11_area_33 rfl ?_
        refine V_getR 235 fl_X11_116 dX11_area_34 rfl rfl rfl ?_
        refine V_iload_n dX11_area_37 rfl ?_
        refine V_aload_n dX11_area_38 rfl ?_
        refine V_getR 213 fl_X11_64 dX11_area_39 rfl rfl rfl ?_
        refine V_iload_n dX11_area_42 rfl ?_
        obtain ⟨hi43, h⟩ := h
        refine V_ialdM dX11_area_43 rfl hi43 ?_
        refine V_iload_n dX11_area_44 rfl ?_
        refine M_Si ms_X11_has lk_X11_132 dX11_area_45 (sX11_has h) rfl rfl (Nat.le_of_ble_eq_true rfl) (by decide) (by decide) (fun v45 M45 h => ?_)
        refine V_if_eq 55 dX11_area_48 (by decide) (fun q48 => ?_) (fun q48 => ?_)
        · replace h := h.1 q48
          refine V_bipush (-9) dX11_area_55 (by decide) ?_
          obtain ⟨hi57, h⟩ := h
          refine V_iastN dX11_area_57 rfl hi57 (fun N57 e57 => ?_)
          replace h := h N57 e57
          refine V_iincC 1 dX11_area_58 (by decide) rfl (by decide) ?_
          refine V_goto 25 dX11_area_61 (by decide) ?_
          refine V_take 4 ?_
          exact hR25 _ _ h
        · replace h := h.2 q48
          refine V_iload_n dX11_area_51 rfl ?_
          refine V_goto 57 dX11_area_52 (by decide) ?_
          obtain ⟨hi57, h⟩ := h
          refine V_iastN dX11_area_57 rfl hi57 (fun N57 e57 => ?_)
          replace h := h N57 e57
          refine V_iincC 1 dX11_area_58 (by decide) rfl (by decide) ?_
          refine V_goto 25 dX11_area_61 (by decide) ?_
          refine V_take 4 ?_
          exact hR25 _ _ h
    · refine V_icmp_eq 23 dX11_area_10 (by decide) (fun q10 => ?_) (fun q10 => ?_)
      · replace h := h.1 q10
        refine V_take 3 ?_
        exact hJ23 _ h
      · replace h := h.2 q10
        refine V_aload_n dX11_area_13 rfl ?_
        refine V_iload_n dX11_area_14 rfl ?_
        refine M_Vi mv_X11_isPlace lk_X11_167 dX11_area_15 rfl rfl (sX11_isPlace h) rfl rfl (Nat.le_of_ble_eq_true rfl) (by decide) (by decide) (fun v15 M15 h => ?_)
        refine V_if_ne 23 dX11_area_18 (by decide) (fun q18 => ?_) (fun q18 => ?_)
        · replace h := h.1 q18
          refine V_take 3 ?_
          exact hJ23 _ h
        · replace h := h.2 q18
          refine V_iconst (-1) dX11_area_21 (by decide) ?_
          exact V_reti dX11_area_22 rfl rfl h
def wX11_sheet (a1 : Int32) (a2 : Int32) (a3 : Int32) (M : Mem) (Q : Int32 → Mem → Prop) : Prop :=
  (∀ N2, N2 = mset M 49 0 0 → wX11_isSheet a1 N2 (fun v6 M6 => ((¬ v6 = 0 →
      wX11_isLane a2 M6 (fun v15 M15 => ((v15 = 0 →
          Q (-2) M15) ∧ (¬ v15 = 0 →
          ((a3 ≤ 60 →
            ((0 ≤ a3 →
              vp_in a1 4 ∧ (∀ N46, N46 = mset M15 192 (Int32.toNatClampNeg a1) a2 → (∀ N53, N53 = mset N46 193 (Int32.toNatClampNeg a1) a3 → (∃ n, lq1 (fun R57 (x57_4 : Int32) (M57 : Mem) => ((60 ≤ x57_4 →
                  Q 1 M57) ∧ (¬ 60 ≤ x57_4 →
                  vp_in ((60 * a1) + x57_4) 240 ∧ (∀ N76, N76 = mset M57 194 (Int32.toNatClampNeg ((60 * a1) + x57_4)) 0 → R57 (x57_4 + 1) N76)))) n 0 N53)))) ∧ (¬ 0 ≤ a3 →
              wX11_fails 4 M15 (fun v36 M36 => Q v36 M36)))) ∧ (¬ a3 ≤ 60 →
            Q (-2) M15)))))) ∧ (v6 = 0 →
      Q (-1) M6))))
set_option maxHeartbeats 1000000 in
set_option maxRecDepth 20000 in
theorem sX11_sheet {E : En} {a1 : Int32} {a2 : Int32} {a3 : Int32} {M : Mem} {Q : Int32 → Mem → Prop} (h : wX11_sheet a1 a2 a3 M Q) : CM E 3 mX11_sheet [.ref (E.2.2 49), .int a1, .int a2, .int a3] M (Pi Q) := by
  unfold wX11_sheet at h
  refine CM.of (by decide) rfl (Nat.le_of_ble_eq_true rfl) ?_
  refine V_aload_n dX11_sheet_0 rfl ?_
  refine V_iconst 0 dX11_sheet_1 (by decide) ?_
  refine V_putN fp_X11_119 dX11_sheet_2 rfl rfl rfl rfl (fun N2 e2 => ?_)
  replace h := h N2 e2
  refine V_iload_n dX11_sheet_5 rfl ?_
  refine M_Si ms_X11_isSheet lk_X11_143 dX11_sheet_6 (sX11_isSheet h) rfl rfl (Nat.le_of_ble_eq_true rfl) (by decide) (by decide) (fun v6 M6 h => ?_)
  refine V_if_ne 14 dX11_sheet_9 (by decide) (fun q9 => ?_) (fun q9 => ?_)
  · replace h := h.1 q9
    refine V_iload_n dX11_sheet_14 rfl ?_
    refine M_Si ms_X11_isLane lk_X11_146 dX11_sheet_15 (sX11_isLane h) rfl rfl (Nat.le_of_ble_eq_true rfl) (by decide) (by decide) (fun v15 M15 h => ?_)
    refine V_if_eq 27 dX11_sheet_18 (by decide) (fun q18 => ?_) (fun q18 => ?_)
    · replace h := h.1 q18
      refine V_bipush (-2) dX11_sheet_27 (by decide) ?_
      exact V_reti dX11_sheet_29 rfl rfl h
    · replace h := h.2 q18
      refine V_iload_n dX11_sheet_21 rfl ?_
      refine V_bipush 60 dX11_sheet_22 (by decide) ?_
      refine V_icmp_le 30 dX11_sheet_24 (by decide) (fun q24 => ?_) (fun q24 => ?_)
      · replace h := h.1 q24
        refine V_iload_n dX11_sheet_30 rfl ?_
        refine V_if_ge 40 dX11_sheet_31 (by decide) (fun q31 => ?_) (fun q31 => ?_)
        · replace h := h.1 q31
          refine V_aload_n dX11_sheet_40 rfl ?_
          refine V_getR 192 fl_X11_9 dX11_sheet_41 rfl rfl rfl ?_
          refine V_iload_n dX11_sheet_44 rfl ?_
          refine V_iload_n dX11_sheet_45 rfl ?_
          obtain ⟨hi46, h⟩ := h
          refine V_iastN dX11_sheet_46 rfl hi46 (fun N46 e46 => ?_)
          replace h := h N46 e46
          refine V_aload_n dX11_sheet_47 rfl ?_
          refine V_getR 193 fl_X11_13 dX11_sheet_48 rfl rfl rfl ?_
          refine V_iload_n dX11_sheet_51 rfl ?_
          refine V_iload_n dX11_sheet_52 rfl ?_
          refine V_iastN dX11_sheet_53 rfl hi46 (fun N53 e53 => ?_)
          replace h := h N53 e53
          refine V_iconst 0 dX11_sheet_54 (by decide) ?_
          refine V_istore dX11_sheet_55 (by decide) ?_
          obtain ⟨n57, h⟩ := h
          refine V_take 5 ?_
          refine lq1_use (P := fun (x57_4 : Int32) (M57 : Mem) => ∀ j57_2 : Value, ∀ j57_3 : Value, V (Km E 3 (Pi Q)) mX11_sheet 57 [.ref (E.2.2 49), .int a1, j57_2, j57_3, .int x57_4] [] (wsM E.1 E.2.2 M57) 0 0) (fun R57 hR57 x57_4 M57 h j57_2 j57_3 => ?_) n57 _ _ h _ _
          refine V_iload dX11_sheet_57 rfl ?_
          refine V_bipush 60 dX11_sheet_59 (by decide) ?_
          refine V_icmp_ge 83 dX11_sheet_61 (by decide) (fun q61 => ?_) (fun q61 => ?_)
          · replace h := h.1 q61
            refine V_iconst 1 dX11_sheet_83 (by decide) ?_
            exact V_reti dX11_sheet_84 rfl rfl h
          · replace h := h.2 q61
            refine V_aload_n dX11_sheet_64 rfl ?_
            refine V_getR 194 fl_X11_16 dX11_sheet_65 rfl rfl rfl ?_
            refine V_bipush 60 dX11_sheet_68 (by decide) ?_
            refine V_iload_n dX11_sheet_70 rfl ?_
            refine V_imul dX11_sheet_71 ?_
            refine V_iload dX11_sheet_72 rfl ?_
            refine V_iadd dX11_sheet_74 ?_
            refine V_iconst 0 dX11_sheet_75 (by decide) ?_
            obtain ⟨hi76, h⟩ := h
            refine V_iastN dX11_sheet_76 rfl hi76 (fun N76 e76 => ?_)
            replace h := h N76 e76
            refine V_iincC 1 dX11_sheet_77 (by decide) rfl (by decide) ?_
            refine V_goto 57 dX11_sheet_80 (by decide) ?_
            refine V_take 5 ?_
            exact hR57 _ _ h _ _
        · replace h := h.2 q31
          refine V_aload_n dX11_sheet_34 rfl ?_
          refine V_iconst 4 dX11_sheet_35 (by decide) ?_
          refine M_Vi mv_X11_fails lk_X11_153 dX11_sheet_36 rfl rfl (sX11_fails h) rfl rfl (Nat.le_of_ble_eq_true rfl) (by decide) (by decide) (fun v36 M36 h => ?_)
          exact V_reti dX11_sheet_39 rfl rfl h
      · replace h := h.2 q24
        refine V_bipush (-2) dX11_sheet_27 (by decide) ?_
        exact V_reti dX11_sheet_29 rfl rfl h
  · replace h := h.2 q9
    refine V_iconst (-1) dX11_sheet_12 (by decide) ?_
    exact V_reti dX11_sheet_13 rfl rfl h
def wX11_lose (a1 : Int32) (M : Mem) (Q : Int32 → Mem → Prop) : Prop :=
  wX11_isSheet a1 M (fun v1 M1 => ((¬ v1 = 0 →
      vp_in a1 4 ∧ jn1 (fun (y25_0 : Int32) (M25 : Mem) => (∀ N33, N33 = mset M25 192 (Int32.toNatClampNeg a1) (-9) → Q y25_0 N33)) (fun J25 => ((¬ (M1 192 (Int32.toNatClampNeg a1)) = (-9) →
          J25 1 M1) ∧ ((M1 192 (Int32.toNatClampNeg a1)) = (-9) →
          J25 0 M1)))) ∧ (v1 = 0 →
      Q (-1) M1)))
set_option maxHeartbeats 1000000 in
set_option maxRecDepth 20000 in
theorem sX11_lose {E : En} {a1 : Int32} {M : Mem} {Q : Int32 → Mem → Prop} (h : wX11_lose a1 M Q) : CM E 3 mX11_lose [.ref (E.2.2 49), .int a1] M (Pi Q) := by
  unfold wX11_lose at h
  refine CM.of (by decide) rfl (Nat.le_of_ble_eq_true rfl) ?_
  refine V_iload_n dX11_lose_0 rfl ?_
  refine M_Si ms_X11_isSheet lk_X11_143 dX11_lose_1 (sX11_isSheet h) rfl rfl (Nat.le_of_ble_eq_true rfl) (by decide) (by decide) (fun v1 M1 h => ?_)
  refine V_if_ne 9 dX11_lose_4 (by decide) (fun q4 => ?_) (fun q4 => ?_)
  · replace h := h.1 q4
    refine V_aload_n dX11_lose_9 rfl ?_
    refine V_getR 192 fl_X11_9 dX11_lose_10 rfl rfl rfl ?_
    refine V_iload_n dX11_lose_13 rfl ?_
    obtain ⟨hi14, h⟩ := h
    refine V_ialdM dX11_lose_14 rfl hi14 ?_
    refine V_bipush (-9) dX11_lose_15 (by decide) ?_
    refine jn1_use (P := fun (y25_0 : Int32) (M25 : Mem) => V (Km E 3 (Pi Q)) mX11_lose 25 [.ref (E.2.2 49), .int a1] [.int y25_0] (wsM E.1 E.2.2 M25) 0 0) (fun y25_0 M25 h => ?_) (fun J25 hJ25 h => ?_) h
    · refine V_istore_n dX11_lose_25 (by decide) ?_
      refine V_aload_n dX11_lose_26 rfl ?_
      refine V_getR 192 fl_X11_9 dX11_lose_27 rfl rfl rfl ?_
      refine V_iload_n dX11_lose_30 rfl ?_
      refine V_bipush (-9) dX11_lose_31 (by decide) ?_
      refine V_iastN dX11_lose_33 rfl hi14 (fun N33 e33 => ?_)
      replace h := h N33 e33
      refine V_iload_n dX11_lose_34 rfl ?_
      exact V_reti dX11_lose_35 rfl rfl h
    · refine V_icmp_ne 24 dX11_lose_17 (by decide) (fun q17 => ?_) (fun q17 => ?_)
      · replace h := h.1 q17
        refine V_iconst 1 dX11_lose_24 (by decide) ?_
        refine V_take 2 ?_
        exact hJ25 _ _ h
      · replace h := h.2 q17
        refine V_iconst 0 dX11_lose_20 (by decide) ?_
        refine V_goto 25 dX11_lose_21 (by decide) ?_
        refine V_take 2 ?_
        exact hJ25 _ _ h
  · replace h := h.2 q4
    refine V_iconst (-1) dX11_lose_7 (by decide) ?_
    exact V_reti dX11_lose_8 rfl rfl h
def wX11_put (a1 : Int32) (a2 : Int32) (a3 : Int32) (M : Mem) (Q : Int32 → Mem → Prop) : Prop :=
  (∀ N2, N2 = mset M 49 0 0 → wX11_isSheet a1 N2 (fun v6 M6 => ((¬ v6 = 0 →
      vp_in a1 4 ∧ ((¬ (M6 192 (Int32.toNatClampNeg a1)) = (-9) →
        wX11_within a2 0 ((M6 193 (Int32.toNatClampNeg a1)) - 1) M6 (fun v41 M41 => ((¬ v41 = 0 →
            ((¬ (M41 192 (Int32.toNatClampNeg a1)) = 0 →
              ((¬ (M41 192 (Int32.toNatClampNeg a1)) = 1 →
                vp_in ((60 * a1) + a2) 240 ∧ (∀ N93, N93 = mset M41 194 (Int32.toNatClampNeg ((60 * a1) + a2)) a3 → Q 1 N93)) ∧ ((M41 192 (Int32.toNatClampNeg a1)) = 1 →
                vp_in ((60 * a1) + a2) 240 ∧ (∀ N93, N93 = mset M41 194 (Int32.toNatClampNeg ((60 * a1) + a2)) (Int32.toInt16 a3).toInt32 → Q 1 N93)))) ∧ ((M41 192 (Int32.toNatClampNeg a1)) = 0 →
              vp_in ((60 * a1) + a2) 240 ∧ (∀ N93, N93 = mset M41 194 (Int32.toNatClampNeg ((60 * a1) + a2)) (Int32.toInt8 a3).toInt32 → Q 1 N93)))) ∧ (v41 = 0 →
            wX11_fails 3 M41 (fun v49 M49 => Q v49 M49))))) ∧ ((M6 192 (Int32.toNatClampNeg a1)) = (-9) →
        wX11_fails 1 M6 (fun v27 M27 => Q v27 M27)))) ∧ (v6 = 0 →
      Q (-1) M6))))
set_option maxHeartbeats 1000000 in
set_option maxRecDepth 20000 in
theorem sX11_put {E : En} {a1 : Int32} {a2 : Int32} {a3 : Int32} {M : Mem} {Q : Int32 → Mem → Prop} (h : wX11_put a1 a2 a3 M Q) : CM E 3 mX11_put [.ref (E.2.2 49), .int a1, .int a2, .int a3] M (Pi Q) := by
  unfold wX11_put at h
  refine CM.of (by decide) rfl (Nat.le_of_ble_eq_true rfl) ?_
  refine V_aload_n dX11_put_0 rfl ?_
  refine V_iconst 0 dX11_put_1 (by decide) ?_
  refine V_putN fp_X11_119 dX11_put_2 rfl rfl rfl rfl (fun N2 e2 => ?_)
  replace h := h N2 e2
  refine V_iload_n dX11_put_5 rfl ?_
  refine M_Si ms_X11_isSheet lk_X11_143 dX11_put_6 (sX11_isSheet h) rfl rfl (Nat.le_of_ble_eq_true rfl) (by decide) (by decide) (fun v6 M6 h => ?_)
  refine V_if_ne 14 dX11_put_9 (by decide) (fun q9 => ?_) (fun q9 => ?_)
  · replace h := h.1 q9
    refine V_aload_n dX11_put_14 rfl ?_
    refine V_getR 192 fl_X11_9 dX11_put_15 rfl rfl rfl ?_
    refine V_iload_n dX11_put_18 rfl ?_
    obtain ⟨hi19, h⟩ := h
    refine V_ialdM dX11_put_19 rfl hi19 ?_
    refine V_bipush (-9) dX11_put_20 (by decide) ?_
    refine V_icmp_ne 31 dX11_put_22 (by decide) (fun q22 => ?_) (fun q22 => ?_)
    · replace h := h.1 q22
      refine V_iload_n dX11_put_31 rfl ?_
      refine V_iconst 0 dX11_put_32 (by decide) ?_
      refine V_aload_n dX11_put_33 rfl ?_
      refine V_getR 193 fl_X11_13 dX11_put_34 rfl rfl rfl ?_
      refine V_iload_n dX11_put_37 rfl ?_
      refine V_ialdM dX11_put_38 rfl hi19 ?_
      refine V_iconst 1 dX11_put_39 (by decide) ?_
      refine V_isub dX11_put_40 ?_
      refine M_Si ms_X11_within lk_X11_124 dX11_put_41 (sX11_within h) rfl rfl (Nat.le_of_ble_eq_true rfl) (by decide) (by decide) (fun v41 M41 h => ?_)
      refine V_if_ne 53 dX11_put_44 (by decide) (fun q44 => ?_) (fun q44 => ?_)
      · replace h := h.1 q44
        refine V_aload_n dX11_put_53 rfl ?_
        refine V_getR 194 fl_X11_16 dX11_put_54 rfl rfl rfl ?_
        refine V_bipush 60 dX11_put_57 (by decide) ?_
        refine V_iload_n dX11_put_59 rfl ?_
        refine V_imul dX11_put_60 ?_
        refine V_iload_n dX11_put_61 rfl ?_
        refine V_iadd dX11_put_62 ?_
        refine V_aload_n dX11_put_63 rfl ?_
        refine V_getR 192 fl_X11_9 dX11_put_64 rfl rfl rfl ?_
        refine V_iload_n dX11_put_67 rfl ?_
        refine V_ialdM dX11_put_68 rfl hi19 ?_
        refine V_if_ne 77 dX11_put_69 (by decide) (fun q69 => ?_) (fun q69 => ?_)
        · replace h := h.1 q69
          refine V_aload_n dX11_put_77 rfl ?_
          refine V_getR 192 fl_X11_9 dX11_put_78 rfl rfl rfl ?_
          refine V_iload_n dX11_put_81 rfl ?_
          refine V_ialdM dX11_put_82 rfl hi19 ?_
          refine V_iconst 1 dX11_put_83 (by decide) ?_
          refine V_icmp_ne 92 dX11_put_84 (by decide) (fun q84 => ?_) (fun q84 => ?_)
          · replace h := h.1 q84
            refine V_iload_n dX11_put_92 rfl ?_
            obtain ⟨hi93, h⟩ := h
            refine V_iastN dX11_put_93 rfl hi93 (fun N93 e93 => ?_)
            replace h := h N93 e93
            refine V_iconst 1 dX11_put_94 (by decide) ?_
            exact V_reti dX11_put_95 rfl rfl h
          · replace h := h.2 q84
            refine V_iload_n dX11_put_87 rfl ?_
            refine V_i2s dX11_put_88 ?_
            refine V_goto 93 dX11_put_89 (by decide) ?_
            obtain ⟨hi93, h⟩ := h
            refine V_iastN dX11_put_93 rfl hi93 (fun N93 e93 => ?_)
            replace h := h N93 e93
            refine V_iconst 1 dX11_put_94 (by decide) ?_
            exact V_reti dX11_put_95 rfl rfl h
        · replace h := h.2 q69
          refine V_iload_n dX11_put_72 rfl ?_
          refine V_i2b dX11_put_73 ?_
          refine V_goto 93 dX11_put_74 (by decide) ?_
          obtain ⟨hi93, h⟩ := h
          refine V_iastN dX11_put_93 rfl hi93 (fun N93 e93 => ?_)
          replace h := h N93 e93
          refine V_iconst 1 dX11_put_94 (by decide) ?_
          exact V_reti dX11_put_95 rfl rfl h
      · replace h := h.2 q44
        refine V_aload_n dX11_put_47 rfl ?_
        refine V_iconst 3 dX11_put_48 (by decide) ?_
        refine M_Vi mv_X11_fails lk_X11_153 dX11_put_49 rfl rfl (sX11_fails h) rfl rfl (Nat.le_of_ble_eq_true rfl) (by decide) (by decide) (fun v49 M49 h => ?_)
        exact V_reti dX11_put_52 rfl rfl h
    · replace h := h.2 q22
      refine V_aload_n dX11_put_25 rfl ?_
      refine V_iconst 1 dX11_put_26 (by decide) ?_
      refine M_Vi mv_X11_fails lk_X11_153 dX11_put_27 rfl rfl (sX11_fails h) rfl rfl (Nat.le_of_ble_eq_true rfl) (by decide) (by decide) (fun v27 M27 h => ?_)
      exact V_reti dX11_put_30 rfl rfl h
  · replace h := h.2 q9
    refine V_iconst (-1) dX11_put_12 (by decide) ?_
    exact V_reti dX11_put_13 rfl rfl h
def wX11_cell (a1 : Int32) (a2 : Int32) (a3 : Int32) (M : Mem) (Q : Int64 → Mem → Prop) : Prop :=
  (∀ N2, N2 = mset M 49 0 0 → wX11_isSheet a1 N2 (fun v6 M6 => ((v6 = 0 →
      Q (-9223372036854775808) M6) ∧ (¬ v6 = 0 →
      wX11_isLane a3 M6 (fun v13 M13 => ((¬ v13 = 0 →
          vp_in a1 4 ∧ jn0 (fun (M50 : Mem) => ((¬ (M50 192 (Int32.toNatClampNeg a1)) = (-9) →
              wX11_within a2 0 ((M50 193 (Int32.toNatClampNeg a1)) - 1) M50 (fun v77 M77 => ((¬ v77 = 0 →
                  vp_in ((60 * a1) + a2) 240 ∧ Q (Int32.toInt64 (M77 194 (Int32.toNatClampNeg ((60 * a1) + a2)))) M77) ∧ (v77 = 0 →
                  wX11_lost 3 M77 (fun v85 M85 => Q v85 M85))))) ∧ ((M50 192 (Int32.toNatClampNeg a1)) = (-9) →
              wX11_lost 1 M50 (fun v63 M63 => Q v63 M63)))) (fun J50 => (((M13 192 (Int32.toNatClampNeg a1)) = (-9) →
              J50 M13) ∧ (¬ (M13 192 (Int32.toNatClampNeg a1)) = (-9) →
              (((M13 192 (Int32.toNatClampNeg a1)) = a3 →
                J50 M13) ∧ (¬ (M13 192 (Int32.toNatClampNeg a1)) = a3 →
                wX11_lost 2 M13 (fun v46 M46 => Q v46 M46))))))) ∧ (v13 = 0 →
          Q (-9223372036854775808) M13)))))))
set_option maxHeartbeats 1000000 in
set_option maxRecDepth 20000 in
theorem sX11_cell {E : En} {a1 : Int32} {a2 : Int32} {a3 : Int32} {M : Mem} {Q : Int64 → Mem → Prop} (h : wX11_cell a1 a2 a3 M Q) : CM E 3 mX11_cell [.ref (E.2.2 49), .int a1, .int a2, .int a3] M (Pl Q) := by
  unfold wX11_cell at h
  refine CM.of (by decide) rfl (Nat.le_of_ble_eq_true rfl) ?_
  refine V_aload_n dX11_cell_0 rfl ?_
  refine V_iconst 0 dX11_cell_1 (by decide) ?_
  refine V_putN fp_X11_119 dX11_cell_2 rfl rfl rfl rfl (fun N2 e2 => ?_)
  replace h := h N2 e2
  refine V_iload_n dX11_cell_5 rfl ?_
  refine M_Si ms_X11_isSheet lk_X11_143 dX11_cell_6 (sX11_isSheet h) rfl rfl (Nat.le_of_ble_eq_true rfl) (by decide) (by decide) (fun v6 M6 h => ?_)
  refine V_if_eq 19 dX11_cell_9 (by decide) (fun q9 => ?_) (fun q9 => ?_)
  · replace h := h.1 q9
    refine V_ldc2 (-9223372036854775808) dX11_cell_19 k_X11_122 ?_
    exact V_retl dX11_cell_22 rfl h
  · replace h := h.2 q9
    refine V_iload_n dX11_cell_12 rfl ?_
    refine M_Si ms_X11_isLane lk_X11_146 dX11_cell_13 (sX11_isLane h) rfl rfl (Nat.le_of_ble_eq_true rfl) (by decide) (by decide) (fun v13 M13 h => ?_)
    refine V_if_ne 23 dX11_cell_16 (by decide) (fun q16 => ?_) (fun q16 => ?_)
    · replace h := h.1 q16
      refine V_aload_n dX11_cell_23 rfl ?_
      refine V_getR 192 fl_X11_9 dX11_cell_24 rfl rfl rfl ?_
      refine V_iload_n dX11_cell_27 rfl ?_
      obtain ⟨hi28, h⟩ := h
      refine V_ialdM dX11_cell_28 rfl hi28 ?_
      refine V_bipush (-9) dX11_cell_29 (by decide) ?_
      refine jn0_use (P := fun (M50 : Mem) => ∀ j50_3 : Value, V (Km E 3 (Pl Q)) mX11_cell 50 [.ref (E.2.2 49), .int a1, .int a2, j50_3] [] (wsM E.1 E.2.2 M50) 0 0) (fun M50 h j50_3 => ?_) (fun J50 hJ50 h => ?_) h
      · refine V_aload_n dX11_cell_50 rfl ?_
        refine V_getR 192 fl_X11_9 dX11_cell_51 rfl rfl rfl ?_
        refine V_iload_n dX11_cell_54 rfl ?_
        refine V_ialdM dX11_cell_55 rfl hi28 ?_
        refine V_bipush (-9) dX11_cell_56 (by decide) ?_
        refine V_icmp_ne 67 dX11_cell_58 (by decide) (fun q58 => ?_) (fun q58 => ?_)
        · replace h := h.1 q58
          refine V_iload_n dX11_cell_67 rfl ?_
          refine V_iconst 0 dX11_cell_68 (by decide) ?_
          refine V_aload_n dX11_cell_69 rfl ?_
          refine V_getR 193 fl_X11_13 dX11_cell_70 rfl rfl rfl ?_
          refine V_iload_n dX11_cell_73 rfl ?_
          refine V_ialdM dX11_cell_74 rfl hi28 ?_
          refine V_iconst 1 dX11_cell_75 (by decide) ?_
          refine V_isub dX11_cell_76 ?_
          refine M_Si ms_X11_within lk_X11_124 dX11_cell_77 (sX11_within h) rfl rfl (Nat.le_of_ble_eq_true rfl) (by decide) (by decide) (fun v77 M77 h => ?_)
          refine V_if_ne 89 dX11_cell_80 (by decide) (fun q80 => ?_) (fun q80 => ?_)
          · replace h := h.1 q80
            refine V_aload_n dX11_cell_89 rfl ?_
            refine V_getR 194 fl_X11_16 dX11_cell_90 rfl rfl rfl ?_
            refine V_bipush 60 dX11_cell_93 (by decide) ?_
            refine V_iload_n dX11_cell_95 rfl ?_
            refine V_imul dX11_cell_96 ?_
            refine V_iload_n dX11_cell_97 rfl ?_
            refine V_iadd dX11_cell_98 ?_
            obtain ⟨hi99, h⟩ := h
            refine V_ialdM dX11_cell_99 rfl hi99 ?_
            refine V_i2l dX11_cell_100 ?_
            exact V_retl dX11_cell_101 rfl h
          · replace h := h.2 q80
            refine V_aload_n dX11_cell_83 rfl ?_
            refine V_iconst 3 dX11_cell_84 (by decide) ?_
            refine M_Vl mv_X11_lost lk_X11_293 dX11_cell_85 rfl rfl (sX11_lost h) rfl rfl (Nat.le_of_ble_eq_true rfl) (by decide) (by decide) (fun v85 M85 h => ?_)
            exact V_retl dX11_cell_88 rfl h
        · replace h := h.2 q58
          refine V_aload_n dX11_cell_61 rfl ?_
          refine V_iconst 1 dX11_cell_62 (by decide) ?_
          refine M_Vl mv_X11_lost lk_X11_293 dX11_cell_63 rfl rfl (sX11_lost h) rfl rfl (Nat.le_of_ble_eq_true rfl) (by decide) (by decide) (fun v63 M63 h => ?_)
          exact V_retl dX11_cell_66 rfl h
      · refine V_icmp_eq 50 dX11_cell_31 (by decide) (fun q31 => ?_) (fun q31 => ?_)
        · replace h := h.1 q31
          refine V_take 4 ?_
          exact hJ50 _ h _
        · replace h := h.2 q31
          refine V_aload_n dX11_cell_34 rfl ?_
          refine V_getR 192 fl_X11_9 dX11_cell_35 rfl rfl rfl ?_
          refine V_iload_n dX11_cell_38 rfl ?_
          refine V_ialdM dX11_cell_39 rfl hi28 ?_
          refine V_iload_n dX11_cell_40 rfl ?_
          refine V_icmp_eq 50 dX11_cell_41 (by decide) (fun q41 => ?_) (fun q41 => ?_)
          · replace h := h.1 q41
            refine V_take 4 ?_
            exact hJ50 _ h _
          · replace h := h.2 q41
            refine V_aload_n dX11_cell_44 rfl ?_
            refine V_iconst 2 dX11_cell_45 (by decide) ?_
            refine M_Vl mv_X11_lost lk_X11_293 dX11_cell_46 rfl rfl (sX11_lost h) rfl rfl (Nat.le_of_ble_eq_true rfl) (by decide) (by decide) (fun v46 M46 h => ?_)
            exact V_retl dX11_cell_49 rfl h
    · replace h := h.2 q16
      refine V_ldc2 (-9223372036854775808) dX11_cell_19 k_X11_122 ?_
      exact V_retl dX11_cell_22 rfl h
def wX11_begins (a1 : Int32) (M : Mem) (Q : Mem → Prop) : Prop :=
  (∀ N10, N10 = mset M 49 1 ((31 * (M 49 1)) + a1) → Q N10)
set_option maxHeartbeats 1000000 in
set_option maxRecDepth 20000 in
theorem sX11_begins {E : En} {a1 : Int32} {M : Mem} {Q : Mem → Prop} (h : wX11_begins a1 M Q) : CM E 1 mX11_begins [.ref (E.2.2 49), .int a1] M (Pv Q) := by
  unfold wX11_begins at h
  refine CM.of (by decide) rfl (Nat.le_of_ble_eq_true rfl) ?_
  refine V_aload_n dX11_begins_0 rfl ?_
  refine V_bipush 31 dX11_begins_1 (by decide) ?_
  refine V_aload_n dX11_begins_3 rfl ?_
  refine V_getI fl_X11_297 dX11_begins_4 rfl rfl ?_
  refine V_imul dX11_begins_7 ?_
  refine V_iload_n dX11_begins_8 rfl ?_
  refine V_iadd dX11_begins_9 ?_
  refine V_putN fp_X11_297 dX11_begins_10 rfl rfl rfl rfl (fun N10 e10 => ?_)
  replace h := h N10 e10
  exact V_retv dX11_begins_13 rfl h
def wX11_tell (a1 : Int32) (M : Mem) (Q : Int32 → Mem → Prop) : Prop :=
  wX11_isForm a1 M (fun v2 M2 => ((¬ v2 = 0 →
      vp_in a1 40 ∧ (((M2 204 (Int32.toNatClampNeg a1)) = 1 →
        wX11_begins 2 M2 (fun M46 => wX11_begins 1 M46 (fun M51 => Q ((M51 207 (Int32.toNatClampNeg a1)) + 10) M51))) ∧ ((M2 204 (Int32.toNatClampNeg a1)) = 2 →
        wX11_begins 3 M2 (fun M66 => wX11_begins 2 M66 (fun M71 => wX11_begins 1 M71 (fun M76 => wX11_begins 1 M76 (fun M81 => Q ((2 * (M81 207 (Int32.toNatClampNeg a1))) + 10) M81))))) ∧ (¬ (M2 204 (Int32.toNatClampNeg a1)) = 1 → ¬ (M2 204 (Int32.toNatClampNeg a1)) = 2 → wX11_begins 1 M2 (fun M98 => Q (M98 207 (Int32.toNatClampNeg a1)) M98)))) ∧ (v2 = 0 →
      Q (-1) M2)))
set_option maxHeartbeats 1000000 in
set_option maxRecDepth 20000 in
theorem sX11_tell {E : En} {a1 : Int32} {M : Mem} {Q : Int32 → Mem → Prop} (h : wX11_tell a1 M Q) : CM E 2 mX11_tell [.ref (E.2.2 49), .int a1] M (Pi Q) := by
  unfold wX11_tell at h
  refine CM.of (by decide) rfl (Nat.le_of_ble_eq_true rfl) ?_
  refine V_aload_n dX11_tell_0 rfl ?_
  refine V_iload_n dX11_tell_1 rfl ?_
  refine M_Vi mv_X11_isForm lk_X11_183 dX11_tell_2 rfl rfl (sX11_isForm h) rfl rfl (Nat.le_of_ble_eq_true rfl) (by decide) (by decide) (fun v2 M2 h => ?_)
  refine V_if_ne 10 dX11_tell_5 (by decide) (fun q5 => ?_) (fun q5 => ?_)
  · replace h := h.1 q5
    refine V_aload_n dX11_tell_10 rfl ?_
    refine V_getR 204 fl_X11_40 dX11_tell_11 rfl rfl rfl ?_
    refine V_iload_n dX11_tell_14 rfl ?_
    obtain ⟨hi15, h⟩ := h
    refine V_ialdM dX11_tell_15 rfl hi15 ?_
    rcases Classical.em ((M2 204 (Int32.toNatClampNeg a1)) = 1) with q | q16_0
    · replace h := h.1 q
      refine V_lookup (off := 28) 44 dX11_tell_16 (by decide) (by rw [q] <;> rfl) (by decide) ?_
      refine V_aload_n dX11_tell_44 rfl ?_
      refine V_iconst 2 dX11_tell_45 (by decide) ?_
      refine M_Vv mv_X11_begins lk_X11_300 dX11_tell_46 rfl rfl (sX11_begins h) rfl rfl (Nat.le_of_ble_eq_true rfl) (by decide) (by decide) (fun M46 h => ?_)
      refine V_aload_n dX11_tell_49 rfl ?_
      refine V_iconst 1 dX11_tell_50 (by decide) ?_
      refine M_Vv mv_X11_begins lk_X11_300 dX11_tell_51 rfl rfl (sX11_begins h) rfl rfl (Nat.le_of_ble_eq_true rfl) (by decide) (by decide) (fun M51 h => ?_)
      refine V_aload_n dX11_tell_54 rfl ?_
      refine V_getR 207 fl_X11_49 dX11_tell_55 rfl rfl rfl ?_
      refine V_iload_n dX11_tell_58 rfl ?_
      refine V_ialdM dX11_tell_59 rfl hi15 ?_
      refine V_bipush 10 dX11_tell_60 (by decide) ?_
      refine V_iadd dX11_tell_62 ?_
      exact V_reti dX11_tell_63 rfl rfl h
    rcases Classical.em ((M2 204 (Int32.toNatClampNeg a1)) = 2) with q | q16_1
    · replace h := h.2.1 q
      refine V_lookup (off := 48) 64 dX11_tell_16 (by decide) (by rw [q] <;> rfl) (by decide) ?_
      refine V_aload_n dX11_tell_64 rfl ?_
      refine V_iconst 3 dX11_tell_65 (by decide) ?_
      refine M_Vv mv_X11_begins lk_X11_300 dX11_tell_66 rfl rfl (sX11_begins h) rfl rfl (Nat.le_of_ble_eq_true rfl) (by decide) (by decide) (fun M66 h => ?_)
      refine V_aload_n dX11_tell_69 rfl ?_
      refine V_iconst 2 dX11_tell_70 (by decide) ?_
      refine M_Vv mv_X11_begins lk_X11_300 dX11_tell_71 rfl rfl (sX11_begins h) rfl rfl (Nat.le_of_ble_eq_true rfl) (by decide) (by decide) (fun M71 h => ?_)
      refine V_aload_n dX11_tell_74 rfl ?_
      refine V_iconst 1 dX11_tell_75 (by decide) ?_
      refine M_Vv mv_X11_begins lk_X11_300 dX11_tell_76 rfl rfl (sX11_begins h) rfl rfl (Nat.le_of_ble_eq_true rfl) (by decide) (by decide) (fun M76 h => ?_)
      refine V_aload_n dX11_tell_79 rfl ?_
      refine V_iconst 1 dX11_tell_80 (by decide) ?_
      refine M_Vv mv_X11_begins lk_X11_300 dX11_tell_81 rfl rfl (sX11_begins h) rfl rfl (Nat.le_of_ble_eq_true rfl) (by decide) (by decide) (fun M81 h => ?_)
      refine V_iconst 2 dX11_tell_84 (by decide) ?_
      refine V_aload_n dX11_tell_85 rfl ?_
      refine V_getR 207 fl_X11_49 dX11_tell_86 rfl rfl rfl ?_
      refine V_iload_n dX11_tell_89 rfl ?_
      refine V_ialdM dX11_tell_90 rfl hi15 ?_
      refine V_imul dX11_tell_91 ?_
      refine V_bipush 10 dX11_tell_92 (by decide) ?_
      refine V_iadd dX11_tell_94 ?_
      exact V_reti dX11_tell_95 rfl rfl h
    replace h := h.2.2 q16_0 q16_1
    refine V_lookup (off := 80) 96 dX11_tell_16 (by decide) (by show Op.lookupswitch.offset [_, _] _ _ = _; rw [lv_osw q16_0 (show (1 : Int32).toInt = 1 by decide), lv_osw q16_1 (show (2 : Int32).toInt = 2 by decide)] <;> rfl) (by decide) ?_
    refine V_aload_n dX11_tell_96 rfl ?_
    refine V_iconst 1 dX11_tell_97 (by decide) ?_
    refine M_Vv mv_X11_begins lk_X11_300 dX11_tell_98 rfl rfl (sX11_begins h) rfl rfl (Nat.le_of_ble_eq_true rfl) (by decide) (by decide) (fun M98 h => ?_)
    refine V_aload_n dX11_tell_101 rfl ?_
    refine V_getR 207 fl_X11_49 dX11_tell_102 rfl rfl rfl ?_
    refine V_iload_n dX11_tell_105 rfl ?_
    refine V_ialdM dX11_tell_106 rfl hi15 ?_
    exact V_reti dX11_tell_107 rfl rfl h
  · replace h := h.2 q5
    refine V_iconst (-1) dX11_tell_8 (by decide) ?_
    exact V_reti dX11_tell_9 rfl rfl h
def wX11_name (a1 : Int32) (M : Mem) (Q : Int32 → Mem → Prop) : Prop :=
  wX11_isForm a1 M (fun v2 M2 => ((¬ v2 = 0 →
      vp_in a1 40 ∧ jn1 (fun (y26_0 : Int32) (M26 : Mem) => wX11_begins y26_0 M26 (fun M26 => ((¬ (M26 204 (Int32.toNatClampNeg a1)) = 2 →
            Q a1 M26) ∧ ((M26 204 (Int32.toNatClampNeg a1)) = 2 →
            Q 70 M26)))) (fun J26 => ((¬ (M2 204 (Int32.toNatClampNeg a1)) = 2 →
          J26 4 M2) ∧ ((M2 204 (Int32.toNatClampNeg a1)) = 2 →
          J26 5 M2)))) ∧ (v2 = 0 →
      Q (-1) M2)))
set_option maxHeartbeats 1000000 in
set_option maxRecDepth 20000 in
theorem sX11_name {E : En} {a1 : Int32} {M : Mem} {Q : Int32 → Mem → Prop} (h : wX11_name a1 M Q) : CM E 2 mX11_name [.ref (E.2.2 49), .int a1] M (Pi Q) := by
  unfold wX11_name at h
  refine CM.of (by decide) rfl (Nat.le_of_ble_eq_true rfl) ?_
  refine V_aload_n dX11_name_0 rfl ?_
  refine V_iload_n dX11_name_1 rfl ?_
  refine M_Vi mv_X11_isForm lk_X11_183 dX11_name_2 rfl rfl (sX11_isForm h) rfl rfl (Nat.le_of_ble_eq_true rfl) (by decide) (by decide) (fun v2 M2 h => ?_)
  refine V_if_ne 10 dX11_name_5 (by decide) (fun q5 => ?_) (fun q5 => ?_)
  · replace h := h.1 q5
    refine V_aload_n dX11_name_10 rfl ?_
    refine V_aload_n dX11_name_11 rfl ?_
    refine V_getR 204 fl_X11_40 dX11_name_12 rfl rfl rfl ?_
    refine V_iload_n dX11_name_15 rfl ?_
    obtain ⟨hi16, h⟩ := h
    refine V_ialdM dX11_name_16 rfl hi16 ?_
    refine V_iconst 2 dX11_name_17 (by decide) ?_
    refine jn1_use (P := fun (y26_0 : Int32) (M26 : Mem) => V (Km E 2 (Pi Q)) mX11_name 26 [.ref (E.2.2 49), .int a1] [.int y26_0, .ref (E.2.2 49)] (wsM E.1 E.2.2 M26) 0 0) (fun y26_0 M26 h => ?_) (fun J26 hJ26 h => ?_) h
    · refine M_Vv mv_X11_begins lk_X11_300 dX11_name_26 rfl rfl (sX11_begins h) rfl rfl (Nat.le_of_ble_eq_true rfl) (by decide) (by decide) (fun M26 h => ?_)
      refine V_aload_n dX11_name_29 rfl ?_
      refine V_getR 204 fl_X11_40 dX11_name_30 rfl rfl rfl ?_
      refine V_iload_n dX11_name_33 rfl ?_
      refine V_ialdM dX11_name_34 rfl hi16 ?_
      refine V_iconst 2 dX11_name_35 (by decide) ?_
      refine V_icmp_ne 44 dX11_name_36 (by decide) (fun q36 => ?_) (fun q36 => ?_)
      · replace h := h.1 q36
        refine V_iload_n dX11_name_44 rfl ?_
        exact V_reti dX11_name_45 rfl rfl h
      · replace h := h.2 q36
        refine V_bipush 70 dX11_name_39 (by decide) ?_
        refine V_goto 45 dX11_name_41 (by decide) ?_
        exact V_reti dX11_name_45 rfl rfl h
    · refine V_icmp_ne 25 dX11_name_18 (by decide) (fun q18 => ?_) (fun q18 => ?_)
      · replace h := h.1 q18
        refine V_iconst 4 dX11_name_25 (by decide) ?_
        refine V_take 2 ?_
        exact hJ26 _ _ h
      · replace h := h.2 q18
        refine V_iconst 5 dX11_name_21 (by decide) ?_
        refine V_goto 26 dX11_name_22 (by decide) ?_
        refine V_take 2 ?_
        exact hJ26 _ _ h
  · replace h := h.2 q5
    refine V_iconst (-1) dX11_name_8 (by decide) ?_
    exact V_reti dX11_name_9 rfl rfl h
def wX11_as (a1 : Int32) (a2 : Int32) (M : Mem) (Q : Int32 → Mem → Prop) : Prop :=
  (∀ N2, N2 = mset M 49 0 0 → wX11_isForm a1 N2 (fun v7 M7 => ((¬ v7 = 0 →
      wX11_within a2 0 2 M7 (fun v18 M18 => ((¬ v18 = 0 →
          vp_in a1 40 ∧ (((M18 204 (Int32.toNatClampNeg a1)) < a2 →
            wX11_fails 2 M18 (fun v43 M43 => Q v43 M43)) ∧ (¬ (M18 204 (Int32.toNatClampNeg a1)) < a2 →
            Q 1 M18))) ∧ (v18 = 0 →
          Q (-2) M18)))) ∧ (v7 = 0 →
      Q (-1) M7))))
set_option maxHeartbeats 1000000 in
set_option maxRecDepth 20000 in
theorem sX11_as {E : En} {a1 : Int32} {a2 : Int32} {M : Mem} {Q : Int32 → Mem → Prop} (h : wX11_as a1 a2 M Q) : CM E 2 mX11_as [.ref (E.2.2 49), .int a1, .int a2] M (Pi Q) := by
  unfold wX11_as at h
  refine CM.of (by decide) rfl (Nat.le_of_ble_eq_true rfl) ?_
  refine V_aload_n dX11_as_0 rfl ?_
  refine V_iconst 0 dX11_as_1 (by decide) ?_
  refine V_putN fp_X11_119 dX11_as_2 rfl rfl rfl rfl (fun N2 e2 => ?_)
  replace h := h N2 e2
  refine V_aload_n dX11_as_5 rfl ?_
  refine V_iload_n dX11_as_6 rfl ?_
  refine M_Vi mv_X11_isForm lk_X11_183 dX11_as_7 rfl rfl (sX11_isForm h) rfl rfl (Nat.le_of_ble_eq_true rfl) (by decide) (by decide) (fun v7 M7 h => ?_)
  refine V_if_ne 15 dX11_as_10 (by decide) (fun q10 => ?_) (fun q10 => ?_)
  · replace h := h.1 q10
    refine V_iload_n dX11_as_15 rfl ?_
    refine V_iconst 0 dX11_as_16 (by decide) ?_
    refine V_iconst 2 dX11_as_17 (by decide) ?_
    refine M_Si ms_X11_within lk_X11_124 dX11_as_18 (sX11_within h) rfl rfl (Nat.le_of_ble_eq_true rfl) (by decide) (by decide) (fun v18 M18 h => ?_)
    refine V_if_ne 27 dX11_as_21 (by decide) (fun q21 => ?_) (fun q21 => ?_)
    · replace h := h.1 q21
      refine V_aload_n dX11_as_27 rfl ?_
      refine V_getR 204 fl_X11_40 dX11_as_28 rfl rfl rfl ?_
      refine V_iload_n dX11_as_31 rfl ?_
      obtain ⟨hi32, h⟩ := h
      refine V_ialdM dX11_as_32 rfl hi32 ?_
      refine V_iload_n dX11_as_33 rfl ?_
      refine V_icmp_lt 41 dX11_as_34 (by decide) (fun q34 => ?_) (fun q34 => ?_)
      · replace h := h.1 q34
        refine V_aload_n dX11_as_41 rfl ?_
        refine V_iconst 2 dX11_as_42 (by decide) ?_
        refine M_Vi mv_X11_fails lk_X11_153 dX11_as_43 rfl rfl (sX11_fails h) rfl rfl (Nat.le_of_ble_eq_true rfl) (by decide) (by decide) (fun v43 M43 h => ?_)
        exact V_reti dX11_as_46 rfl rfl h
      · replace h := h.2 q34
        refine V_iconst 1 dX11_as_37 (by decide) ?_
        refine V_goto 46 dX11_as_38 (by decide) ?_
        exact V_reti dX11_as_46 rfl rfl h
    · replace h := h.2 q21
      refine V_bipush (-2) dX11_as_24 (by decide) ?_
      exact V_reti dX11_as_26 rfl rfl h
  · replace h := h.2 q10
    refine V_iconst (-1) dX11_as_13 (by decide) ?_
    exact V_reti dX11_as_14 rfl rfl h
def wX11_trace  (M : Mem) (Q : Int32 → Mem → Prop) : Prop :=
  Q (M 49 1) M
set_option maxHeartbeats 1000000 in
set_option maxRecDepth 20000 in
theorem sX11_trace {E : En}  {M : Mem} {Q : Int32 → Mem → Prop} (h : wX11_trace  M Q) : CM E 1 mX11_trace [.ref (E.2.2 49)] M (Pi Q) := by
  unfold wX11_trace at h
  refine CM.of (by decide) rfl (Nat.le_of_ble_eq_true rfl) ?_
  refine V_aload_n dX11_trace_0 rfl ?_
  refine V_getI fl_X11_297 dX11_trace_1 rfl rfl ?_
  exact V_reti dX11_trace_4 rfl rfl h
def wX11_fault  (M : Mem) (Q : Int32 → Mem → Prop) : Prop :=
  Q (M 49 0) M
set_option maxHeartbeats 1000000 in
set_option maxRecDepth 20000 in
theorem sX11_fault {E : En}  {M : Mem} {Q : Int32 → Mem → Prop} (h : wX11_fault  M Q) : CM E 1 mX11_fault [.ref (E.2.2 49)] M (Pi Q) := by
  unfold wX11_fault at h
  refine CM.of (by decide) rfl (Nat.le_of_ble_eq_true rfl) ?_
  refine V_aload_n dX11_fault_0 rfl ?_
  refine V_getI fl_X11_119 dX11_fault_1 rfl rfl ?_
  exact V_reti dX11_fault_4 rfl rfl h
def wX11_many (a1 : Int32) (M : Mem) (Q : Int32 → Mem → Prop) : Prop :=
  (∃ n, lq2 (fun R4 (x4_2 : Int32) (x4_3 : Int32) (M4 : Mem) => ((6 ≤ x4_3 →
      ((a1 = 0 →
        Q (M4 49 11) M4) ∧ (a1 = 1 →
        Q (M4 49 13) M4) ∧ (a1 = 2 →
        Q (M4 49 22) M4) ∧ (a1 = 3 →
        Q x4_2 M4) ∧ (¬ a1 = 0 → ¬ a1 = 1 → ¬ a1 = 2 → ¬ a1 = 3 → Q (-2) M4))) ∧ (¬ 6 ≤ x4_3 →
      vp_in x4_3 6 ∧ ((¬ (M4 210 (Int32.toNatClampNeg x4_3)) = (-9) →
        R4 (x4_2 + 1) (x4_3 + 1) M4) ∧ ((M4 210 (Int32.toNatClampNeg x4_3)) = (-9) →
        R4 (x4_2 + 0) (x4_3 + 1) M4))))) n 0 0 M)
set_option maxHeartbeats 1000000 in
set_option maxRecDepth 20000 in
theorem sX11_many {E : En} {a1 : Int32} {M : Mem} {Q : Int32 → Mem → Prop} (h : wX11_many a1 M Q) : CM E 1 mX11_many [.ref (E.2.2 49), .int a1] M (Pi Q) := by
  unfold wX11_many at h
  refine CM.of (by decide) rfl (Nat.le_of_ble_eq_true rfl) ?_
  refine V_iconst 0 dX11_many_0 (by decide) ?_
  refine V_istore_n dX11_many_1 (by decide) ?_
  refine V_iconst 0 dX11_many_2 (by decide) ?_
  refine V_istore_n dX11_many_3 (by decide) ?_
  obtain ⟨n4, h⟩ := h
  refine V_take 4 ?_
  refine lq2_use (P := fun (x4_2 : Int32) (x4_3 : Int32) (M4 : Mem) => V (Km E 1 (Pi Q)) mX11_many 4 [.ref (E.2.2 49), .int a1, .int x4_2, .int x4_3] [] (wsM E.1 E.2.2 M4) 0 0) (fun R4 hR4 x4_2 x4_3 M4 h => ?_) n4 _ _ _ h
  refine V_iload_n dX11_many_4 rfl ?_
  refine V_bipush 6 dX11_many_5 (by decide) ?_
  refine V_icmp_ge 35 dX11_many_7 (by decide) (fun q7 => ?_) (fun q7 => ?_)
  · replace h := h.1 q7
    refine V_iload_n dX11_many_35 rfl ?_
    rcases Classical.em (a1 = 0) with q | q36_0
    · replace h := h.1 q
      refine V_tableIn (off := 32) 68 dX11_many_36 (by rw [q]; decide) (by rw [q]; decide) (by rw [q] <;> rfl) (by decide) ?_
      refine V_aload_n dX11_many_68 rfl ?_
      refine V_getI fl_X11_164 dX11_many_69 rfl rfl ?_
      exact V_reti dX11_many_72 rfl rfl h
    rcases Classical.em (a1 = 1) with q | q36_1
    · replace h := h.2.1 q
      refine V_tableIn (off := 37) 73 dX11_many_36 (by rw [q]; decide) (by rw [q]; decide) (by rw [q] <;> rfl) (by decide) ?_
      refine V_aload_n dX11_many_73 rfl ?_
      refine V_getI fl_X11_170 dX11_many_74 rfl rfl ?_
      exact V_reti dX11_many_77 rfl rfl h
    rcases Classical.em (a1 = 2) with q | q36_2
    · replace h := h.2.2.1 q
      refine V_tableIn (off := 42) 78 dX11_many_36 (by rw [q]; decide) (by rw [q]; decide) (by rw [q] <;> rfl) (by decide) ?_
      refine V_aload_n dX11_many_78 rfl ?_
      refine V_getI fl_X11_209 dX11_many_79 rfl rfl ?_
      exact V_reti dX11_many_82 rfl rfl h
    rcases Classical.em (a1 = 3) with q | q36_3
    · replace h := h.2.2.2.1 q
      refine V_tableIn (off := 47) 83 dX11_many_36 (by rw [q]; decide) (by rw [q]; decide) (by rw [q] <;> rfl) (by decide) ?_
      refine V_iload_n dX11_many_83 rfl ?_
      exact V_reti dX11_many_84 rfl rfl h
    replace h := h.2.2.2.2 q36_0 q36_1 q36_2 q36_3
    refine V_tableOut 85 dX11_many_36 (by have z0 := lv_neT q36_0 (show (0 : Int32).toInt = 0 by decide); have z1 := lv_neT q36_1 (show (1 : Int32).toInt = 1 by decide); have z2 := lv_neT q36_2 (show (2 : Int32).toInt = 2 by decide); have z3 := lv_neT q36_3 (show (3 : Int32).toInt = 3 by decide); omega) (by decide) ?_
    refine V_bipush (-2) dX11_many_85 (by decide) ?_
    exact V_reti dX11_many_87 rfl rfl h
  · replace h := h.2 q7
    refine V_iload_n dX11_many_10 rfl ?_
    refine V_aload_n dX11_many_11 rfl ?_
    refine V_getR 210 fl_X11_58 dX11_many_12 rfl rfl rfl ?_
    refine V_iload_n dX11_many_15 rfl ?_
    obtain ⟨hi16, h⟩ := h
    refine V_ialdM dX11_many_16 rfl hi16 ?_
    refine V_bipush (-9) dX11_many_17 (by decide) ?_
    refine V_icmp_ne 26 dX11_many_19 (by decide) (fun q19 => ?_) (fun q19 => ?_)
    · replace h := h.1 q19
      refine V_iconst 1 dX11_many_26 (by decide) ?_
      refine V_iadd dX11_many_27 ?_
      refine V_istore_n dX11_many_28 (by decide) ?_
      refine V_iincC 1 dX11_many_29 (by decide) rfl (by decide) ?_
      refine V_goto 4 dX11_many_32 (by decide) ?_
      refine V_take 4 ?_
      exact hR4 _ _ _ h
    · replace h := h.2 q19
      refine V_iconst 0 dX11_many_22 (by decide) ?_
      refine V_goto 27 dX11_many_23 (by decide) ?_
      refine V_iadd dX11_many_27 ?_
      refine V_istore_n dX11_many_28 (by decide) ?_
      refine V_iincC 1 dX11_many_29 (by decide) rfl (by decide) ?_
      refine V_goto 4 dX11_many_32 (by decide) ?_
      refine V_take 4 ?_
      exact hR4 _ _ _ h
