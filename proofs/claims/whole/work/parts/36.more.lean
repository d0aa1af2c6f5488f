theorem m_lost {a : Int32} {M : Mem} {Q : Int64 → Mem → Prop} : wX11_lost a M Q = Q (-9223372036854775808) (mset M 49 0 a) := by simp only [wX11_lost, forall_eq]
theorem st_cell {M : Mem} (hI : Inv M) (a1 a2 a3 : Int32) : wX10_cell a1 a2 a3 M (fun r M1 => wX11_cell a1 a2 a3 M1 (fun r' M2 => r = r' ∧ Inv M2)) := by
  simp only [wX10_cell, wX11_cell, forall_eq]
  by_cases h1 : vp_in a1 4
  · by_cases h3 : vp_in a3 3
    · obtain ⟨s, hs, e1, es⟩ := vp_nI h1 (by decide)
      obtain ⟨h8, h8c⟩ := hI.2.2.2.2.2.2.2.2 s hs
      have fin : ∀ v w : Int32, Inv (mset (mset (mset (mset M 0 19 0) 0 19 v) 49 0 0) 49 0 v) := fun v _ => hI.f4 v 0
      have fin0 : Inv (mset (mset (mset M 0 19 0) 0 19 0) 49 0 0) := hI.ft (fun i k g1 g2 g3 g4 => by rw [mset_ne g3, mset_ne g1, mset_ne g1]) (by simp [mset]) (by simp [mset, hI.1.2.2.2.2.2.1])
      have fin3 : Inv (mset (mset (mset (mset (mset M 0 19 0) 0 19 0) 0 19 3) 49 0 0) 49 0 3) := hI.ft (fun i k g1 g2 g3 g4 => by rw [mset_ne g3, mset_ne g3, mset_ne g1, mset_ne g1, mset_ne g1]) (by simp [mset]) (by simp [mset, hI.1.2.2.2.2.2.1])
      have rx : ∀ (Mx : Mem) v k, mset Mx 0 k v (41 + s) = Mx (41 + s) := fun Mx v k => mset_row (by omega)
      simp only [bI_t h1, bI_t h3, e_b16, e_b6, e_b4, e_b3, e_w2, e_isMeaning, e_isIn, e_m15, e_m5, e_m3, e_m2, e_m63, m_isMeaning, m_isSound, m_isSheet, m_isLane, m_isCollector, e_has, i10, i01, bI_0, bI_1, isB_bI, Classical.not_not, not_false_eq_true, not_true_eq_false, true_implies, false_implies, and_true, true_and, and_self, forall_eq, ne_eq, jn0, jn1, jn2, jn3, h1, es, wX8_faultOfRow, m_lost, rx]
      refine ⟨⟨by omega, by omega⟩, ?_⟩
      rcases h8 with ⟨g1, g2⟩ | ⟨g1, g2, g3, n, hn, gn, gm⟩
      · simp only [g1, i10, i01, bI_0, bI_1, isB_bI, Classical.not_not, not_false_eq_true, not_true_eq_false, true_implies, false_implies, and_true, true_and, and_self, forall_eq, ne_eq, mset_eq, i10]
        simp [mset_row, g2]
        exact fin 1 0
      · simp only [g1, i10, i01, bI_0, bI_1, isB_bI, Classical.not_not, not_false_eq_true, not_true_eq_false, true_implies, false_implies, and_true, true_and, and_self, forall_eq, ne_eq, i10]
        have n92 : ¬ M 192 s = -9 := by rw [g2]; rcases g3 with q | q | q <;> rw [q] <;> decide
        by_cases hl : M (41 + s) 2 = a3
        · simp only [hl, i10, i01, bI_0, bI_1, isB_bI, Classical.not_not, not_false_eq_true, not_true_eq_false, true_implies, false_implies, and_true, true_and, and_self, forall_eq, ne_eq, mset_eq]
          have g2' : M 192 s = a3 := g2.trans hl
          have n93 : ¬ a3 = -9 := by rw [← g2']; exact n92
          rw [vp_below (n := n) gn (by omega)]
          by_cases h2 : vp_in a2 n
          · obtain ⟨i, hi, e2, ei⟩ := vp_nI h2 (by omega)
            have ix : 60 * a1 + a2 = nI (60 * s + i) := by rw [e1, e2, show (60 : Int32) = nI 60 by decide, pk_mul, nI_add]
            have hix : vp_in (60 * a1 + a2) 240 := by rw [ix]; exact vp_in_nI (by omega) (by decide)
            have iN : Int32.toNatClampNeg (60 * a1 + a2) = 60 * s + i := by rw [ix, nI_clamp (by omega)]
            have rr3 : mset (mset (mset M 0 19 0) 0 19 0) 49 0 0 193 s - 1 = nI n - 1 := by rw [mset_row (by decide), mset_row (by decide), mset_row (by decide), gm]
            have rr : mset (mset (mset M 0 19 0) 0 19 0) 49 0 0 192 s = a3 := by rw [mset_row (by decide), mset_row (by decide), mset_row (by decide), g2']
            simp only [bI_t h2, i10, i01, bI_0, bI_1, isB_bI, Classical.not_not, not_false_eq_true, not_true_eq_false, true_implies, false_implies, and_true, true_and, and_self, forall_eq, ne_eq, mset_eq, vp_mono h2 hn, rr, n93, rr3, vp_within1 (rfl : nI n = nI n) (by omega : n < 2 ^ 30), hix, iN, ei]
            refine ⟨?_, fin0⟩
            rw [mset_row (by omega), mset_row (by omega), mset_row (by decide), mset_row (by decide), mset_row (by decide), h8c i (by omega)]
          · have rr3 : mset (mset (mset (mset M 0 19 0) 0 19 0) 0 19 3) 49 0 0 193 s - 1 = nI n - 1 := by rw [mset_row (by decide), mset_row (by decide), mset_row (by decide), mset_row (by decide), gm]
            have rr : mset (mset (mset (mset M 0 19 0) 0 19 0) 0 19 3) 49 0 0 192 s = a3 := by rw [mset_row (by decide), mset_row (by decide), mset_row (by decide), mset_row (by decide), g2']
            simp only [bI_f h2, i10, i01, bI_0, bI_1, isB_bI, Classical.not_not, not_false_eq_true, not_true_eq_false, true_implies, false_implies, and_true, true_and, and_self, forall_eq, ne_eq, mset_eq, rr, n93, rr3, vp_within1 (rfl : nI n = nI n) (by omega : n < 2 ^ 30), show ((3 : Int32) = 0) = False from by decide]
            exact fin3
        · have g2' : ¬ M 192 s = a3 := by rw [g2]; exact hl
          simp only [hl, i10, i01, bI_0, bI_1, isB_bI, Classical.not_not, not_false_eq_true, not_true_eq_false, true_implies, false_implies, and_true, true_and, and_self, forall_eq, ne_eq, mset_eq, show ((2 : Int32) = 0) = False from by decide]
          simp [mset_row, g2', n92]
          exact fin 2 0
    · simp only [bI_t h1, bI_f h3, e_b16, e_b6, e_b4, e_b3, e_w2, e_isMeaning, e_isIn, e_m15, e_m5, e_m3, e_m2, e_m63, m_isMeaning, m_isSound, m_isSheet, m_isLane, m_isCollector, e_has, i10, i01, bI_0, bI_1, isB_bI, Classical.not_not, not_false_eq_true, not_true_eq_false, true_implies, false_implies, and_true, true_and, and_self, forall_eq, ne_eq]
      exact hI.f2 0
  · simp only [bI_f h1, e_b16, e_b6, e_b4, e_b3, e_w2, e_isMeaning, e_isIn, e_m15, e_m5, e_m3, e_m2, e_m63, m_isMeaning, m_isSound, m_isSheet, m_isLane, m_isCollector, e_has, i10, i01, bI_0, bI_1, isB_bI, Classical.not_not, not_false_eq_true, not_true_eq_false, true_implies, false_implies, and_true, true_and, and_self, forall_eq, ne_eq]
    exact hI.f2 0
theorem st_force {M : Mem} (hI : Inv M) (a1 a2 : Int32) : wX10_force a1 a2 M (fun r M1 => wX11_force a1 a2 M1 (fun r' M2 => r = r' ∧ Inv M2)) := by
  have h0 := hI.1
  have c22 : M 49 22 = nI (cL M) := h0.2.2.1.2.2.trans h0.2.2.1.1
  have c11 : M 49 11 = nI (cP M) := h0.1.2.2.trans h0.1.1
  have h8 := h0.1.2.1
  have hl8 := h0.2.2.1.2.1
  by_cases h1 : vp_in a1 (cL M)
  · by_cases h2 : vp_in a2 (2 ^ cP M)
    · obtain ⟨l, hl, -, el⟩ := vp_nI h1 (by omega)
      obtain ⟨v, hv, ev, -⟩ := vp_nI h2 (Nat.lt_of_le_of_lt (Nat.pow_le_pow_right (by decide) h8) (by decide))
      simp only [wX10_force, e_isLaw h0, bI_t h1, i10, i01, bI_0, bI_1, isB_bI, Classical.not_not, not_false_eq_true, not_true_eq_false, true_implies, false_implies, and_true, true_and, and_self, forall_eq, ne_eq, e_isSetBelow h0.1.1 (by omega : cP M ≤ 16), bI_t h2, vp_mono h1 (by omega : cL M ≤ 9), el]
      rw [wX11_force, m_isLawN (n := cL M) (by rw [mset_row (by omega)]; exact c22) (by omega)]
      simp only [bI_t h1, i10, i01, bI_0, bI_1, isB_bI, Classical.not_not, not_false_eq_true, not_true_eq_false, true_implies, false_implies, and_true, true_and, and_self, forall_eq, ne_eq, m_setP (show mset M (32 + l) 0 a2 49 11 = nI (cP M) by rw [mset_row (by omega)]; exact c11) h8, bI_t h2, vp_mono h1 hl8, el]
      have g := hI.2.2.2.2.2.2.2.1 l hl
      refine ⟨by rw [mset_row (by omega)]; exact g.2.1.symm, hI.but7 (fun i b1 b2 b3 b4 b5 b6 => by rw [mset_row b2, mset_row (by omega)]) (fun k hk => ?_)⟩
      have eL : cL (mset (mset M (32 + l) 0 a2) 213 l a2) = cL M := by unfold cL; rw [mset_row (by decide), mset_row (by omega)]
      have hk' : k < cL M := by rw [eL] at hk; exact hk
      have gk := hI.2.2.2.2.2.2.2.1 k hk'
      have eP : cP (mset (mset M (32 + l) 0 a2) 213 l a2) = cP M := by unfold cP; rw [mset_row (by decide), mset_row (by omega)]
      have r1 : ∀ j, j ≠ 0 → mset (mset M (32 + l) 0 a2) 213 l a2 (32 + k) j = M (32 + k) j := fun j hj => by rw [mset_row (by omega), mset_ne (by omega)]
      have r2 : ∀ a, 214 ≤ a → mset (mset M (32 + l) 0 a2) 213 l a2 a = M a := fun a ha => by rw [mset_row (by omega), mset_row (by omega)]
      rw [eP, r1 1 (by decide), r1 2 (by decide), r1 3 (by decide), r1 4 (by decide), r2 214 (by decide), r2 215 (by decide), r2 216 (by decide), r2 217 (by decide)]
      by_cases hkl : k = l
      · subst hkl
        have e1 : mset (mset M (32 + k) 0 a2) 213 k a2 (32 + k) 0 = a2 := by rw [mset_row (by omega), mset_eq]
        rw [e1, mset_eq]
        exact ⟨⟨v, hv, ev⟩, rfl, gk.2.2⟩
      · rw [mset_row (show 32 + k ≠ 213 by omega), mset_ne (show ¬ (32 + k = 32 + l ∧ 0 = 0) by omega), mset_ne (show ¬ (213 = 213 ∧ k = l) by omega), mset_row (show 213 ≠ 32 + l by omega)]
        exact gk
    · simp only [wX10_force, wX11_force, e_isLaw h0, m_isLaw h0, bI_t h1, i10, i01, bI_0, bI_1, isB_bI, Classical.not_not, not_false_eq_true, not_true_eq_false, true_implies, false_implies, and_true, true_and, and_self, forall_eq, ne_eq, e_isSetBelow h0.1.1 (by omega : cP M ≤ 16), m_setP c11 h8, bI_f h2]
      exact hI
  · simp only [wX10_force, wX11_force, e_isLaw h0, m_isLaw h0, bI_f h1, i10, i01, bI_0, bI_1, isB_bI, Classical.not_not, not_false_eq_true, not_true_eq_false, true_implies, false_implies, and_true, true_and, and_self, forall_eq, ne_eq]
    exact hI
/-- Row.at of a row whose size is n, at most 8 -/
theorem e_at {r n : Nat} {k : Int32} {M : Mem} {Q : Int32 → Mem → Prop} (hr : 50 ≤ r ∧ r < 100) (hn : M r 1 = nI n) (h8 : n ≤ 8) (hQ : (vp_in k n → Q (M (r + 50) k.toNatClampNeg) M) ∧ (¬ vp_in k n → Q (-9) M)) : wX7_at r k M Q := by
  unfold wX7_at
  refine ⟨hr, ?_⟩
  rw [vp_below hn (by omega)]
  by_cases h : vp_in k n
  · simp only [bI_t h, i10, i01, bI_0, bI_1, isB_bI, Classical.not_not, not_false_eq_true, not_true_eq_false, true_implies, false_implies, and_true, true_and, and_self, forall_eq, ne_eq]
    exact ⟨vp_mono h h8, hQ.1 h⟩
  · simp only [bI_f h, i10, i01, bI_0, bI_1, isB_bI, Classical.not_not, not_false_eq_true, not_true_eq_false, true_implies, false_implies, and_true, true_and, and_self, forall_eq, ne_eq]
    exact hQ.2 h
theorem st_ofForm {M : Mem} (hI : Inv M) (a1 a2 : Int32) : wX10_ofForm a1 a2 M (fun r M1 => wX11_ofForm a1 a2 M1 (fun r' M2 => r = r' ∧ Inv M2)) := by
  have h0 := hI.1
  have c40 := h0.2.1.2.1
  by_cases h : vp_in a1 (cF M)
  · obtain ⟨f, hf, e1, ef⟩ := vp_nI h (by omega)
    obtain ⟨⟨k1, -⟩, ⟨p, -, k2, k3⟩, ⟨m, -, k4, k5⟩, n, hn, k6, k7, k8⟩ := hI.2.2.2.2.1 f hf
    have h40 := vp_mono h c40
    simp only [wX10_ofForm, wX11_ofForm, e_isForm h0, m_isForm h0, bI_t h, i10, i01, bI_0, bI_1, isB_bI, Classical.not_not, not_false_eq_true, not_true_eq_false, true_implies, false_implies, and_true, true_and, and_self, forall_eq, ne_eq, h40, ef, fr150]
    refine ⟨fun q => ?_, fun q => ?_, fun q => ?_, fun q => ?_, fun q0 q1 q2 q3 => ?_⟩
    · subst q; simp [k1, hI]
    · subst q; simp [k2, k3, hI, i10]
    · subst q; simp [k4, k5, hI]
    · subst q; simp [k6, k7, hI]
    · have w9 : (9 : Int32) + M 207 f = nI (9 + n) := by rw [k7, show (9 : Int32) = nI 9 by decide, nI_add]
      have ww : ∀ Q : Int32 → Mem → Prop, wX11_within a2 10 (9 + M 207 f) M Q = Q (bI (¬ a2 < 10 ∧ ¬ nI (9 + n) < a2)) M := fun Q => by rw [e_within, w9]
      simp only [q0, q1, q2, q3, i10, i01, bI_0, bI_1, isB_bI, Classical.not_not, not_false_eq_true, not_true_eq_false, true_implies, false_implies, and_true, true_and, and_self, forall_eq, ne_eq, ww]
      by_cases z : a2 < 10
      · simp [z, hI]
      · have z0 : ¬ a2 < 0 := fun y => z (Int32.lt_of_lt_of_le y (by decide))
        obtain ⟨y, hy, ey⟩ := nI_of z0
        subst ey
        have e10 : (10 : Int32) = nI 10 := by decide
        have hy10 : 10 ≤ y := by
          rcases Nat.lt_or_ge y 10 with q | q
          · exact absurd (by rw [e10]; exact nI_lt q (by decide)) z
          · exact q
        have es : nI y - 10 = nI (y - 10) := by rw [e10, pk_sub hy10]
        have ex : 8 * a1 + nI y - 10 = nI (8 * f + (y - 10)) := by
          rw [e1, show (8 : Int32) = nI 8 by decide, pk_mul, nI_add, e10, pk_sub (by omega)]
          congr 1
          omega
        simp only [z, i10, i01, bI_0, bI_1, isB_bI, Classical.not_not, not_false_eq_true, not_true_eq_false, true_implies, false_implies, and_true, true_and, and_self, forall_eq, ne_eq, es, ex, k6]
        by_cases hc : n ≤ y - 10
        · have c1 : nI n ≤ nI (y - 10) := nI_le hc (by omega)
          have c2 : nI (9 + n) < nI y := nI_lt (by omega) (by omega)
          simp [c1, c2, hI]
        · have c1 : ¬ nI n ≤ nI (y - 10) := nI_ge (by omega) (by omega)
          have c2 : ¬ nI (9 + n) < nI y := nI_nlt (by omega) (by omega)
          simp only [c1, c2, i10, i01, bI_0, bI_1, isB_bI, Classical.not_not, not_false_eq_true, not_true_eq_false, true_implies, false_implies, and_true, true_and, and_self, forall_eq, ne_eq]
          refine e_at ⟨by omega, by omega⟩ k6 hn ⟨fun _ => ?_, fun q => absurd (vp_in_nI (by omega) (by omega)) q⟩
          simp only [m_isForm h0, bI_t h, i10, i01, bI_0, bI_1, isB_bI, Classical.not_not, not_false_eq_true, not_true_eq_false, true_implies, false_implies, and_true, true_and, and_self, forall_eq, ne_eq, ww, bI_t (⟨z, c2⟩ : ¬ nI y < 10 ∧ ¬ nI (9 + n) < nI y)]
          refine ⟨vp_in_nI (by omega) (by decide), ?_, hI⟩
          rw [nI_clamp (by omega), nI_clamp (by omega), fr50]
          exact (k8 (y - 10) (by omega)).1.symm
  · simp only [wX10_ofForm, wX11_ofForm, e_isForm h0, m_isForm h0, bI_f h, i10, i01, bI_0, bI_1, isB_bI, Classical.not_not, not_false_eq_true, not_true_eq_false, true_implies, false_implies, and_true, true_and, and_self, forall_eq, ne_eq]
    exact hI
theorem st_ofRoot {M : Mem} (hI : Inv M) (a1 a2 : Int32) : wX10_ofRoot a1 a2 M (fun r M1 => wX11_ofRoot a1 a2 M1 (fun r' M2 => r = r' ∧ Inv M2)) := by
  by_cases h1 : vp_in a1 6
  · by_cases h2 : (¬ a2 < (-1) ∧ ¬ 7 < a2)
    · obtain ⟨m, hm, e1, em⟩ := vp_nI h1 (by decide)
      obtain ⟨rb, hrb, er, h6⟩ := hI.2.2.2.2.2.2.1
      simp only [wX10_ofRoot, wX11_ofRoot, e_b16, e_b6, e_b4, e_b3, e_w2, e_isMeaning, e_isIn, e_m15, e_m5, e_m3, e_m2, e_m63, m_isMeaning, m_isSound, m_isSheet, m_isLane, m_isCollector, e_has, e_isWithin, e_within, bI_t h1, bI_t h2, i10, i01, bI_0, bI_1, isB_bI, Classical.not_not, not_false_eq_true, not_true_eq_false, true_implies, false_implies, and_true, true_and, and_self, forall_eq, ne_eq, h1, em, er]
      rw [e1, hb_nI (by omega) (by omega)]
      have cse : a2 = -1 ∨ ∃ k, k < 8 ∧ a2 = nI k := by
        have b1 := h2.1
        have b2 := h2.2
        rw [Int32.lt_iff_toInt_lt, show (-1 : Int32).toInt = -1 by decide] at b1
        rw [Int32.lt_iff_toInt_lt, show (7 : Int32).toInt = 7 by decide] at b2
        by_cases c : a2.toInt = -1
        · left; exact Int32.toInt_inj.mp (by rw [c]; decide)
        · right
          obtain ⟨k, hk, e⟩ := nI_of (x := a2) (by rw [Int32.lt_iff_toInt_lt, show (0 : Int32).toInt = 0 by decide]; omega)
          refine ⟨k, ?_, e⟩
          rw [e, nI_toInt hk] at b2
          omega
      rcases h6 m hm with ⟨t, g⟩ | ⟨t, n, hn, g1, g2, g3⟩
      · simp only [t, g, show (false = true) = False from by decide, i10, i01, bI_0, bI_1, isB_bI, Classical.not_not, not_false_eq_true, not_true_eq_false, true_implies, false_implies, and_true, true_and, and_self, forall_eq, ne_eq]
        rcases cse with c | ⟨k, hk, c⟩
        · simp [c, hI]
        · have c1 : ¬ nI k = -1 := by
            intro q
            have := congrArg Int32.toInt q
            rw [nI_toInt (by omega), show (-1 : Int32).toInt = -1 by decide] at this
            omega
          have c2 : (-9 : Int32) ≤ nI k := by rw [Int32.le_iff_toInt_le, nI_toInt (by omega), show (-9 : Int32).toInt = -9 by decide]; omega
          subst c
          simp [c1, c2, hI]
      · simp only [t, i10, i01, bI_0, bI_1, isB_bI, Classical.not_not, not_false_eq_true, not_true_eq_false, true_implies, false_implies, and_true, true_and, and_self, forall_eq, ne_eq, wX7_sizeOrAt]
        refine ⟨⟨by omega, by omega⟩, ?_⟩
        rcases cse with c | ⟨k, hk, c⟩
        · simp [c, g1, g2, hI]
        · have c1 : ¬ nI k = -1 := by
            intro q
            have := congrArg Int32.toInt q
            rw [nI_toInt (by omega), show (-1 : Int32).toInt = -1 by decide] at this
            omega
          subst c
          simp only [c1, i10, i01, bI_0, bI_1, isB_bI, Classical.not_not, not_false_eq_true, not_true_eq_false, true_implies, false_implies, and_true, true_and, and_self, forall_eq, ne_eq, g2]
          have ix : 8 * nI m + nI k = nI (8 * m + k) := by rw [show (8 : Int32) = nI 8 by decide, pk_mul, nI_add]
          rw [ix]
          refine e_at ⟨by omega, by omega⟩ g1 hn ⟨fun q => ?_, fun q => ?_⟩
          · have hkn := vp_lt q
            rw [nI_clamp (by omega)] at hkn
            simp only [g2]
            refine ⟨fun z => absurd z (nI_ge hkn (by omega)), fun _ => ⟨vp_in_nI (by omega) (by decide), ?_, hI⟩⟩
            rw [nI_clamp (by omega), nI_clamp (by omega), fr90]
            exact (g3 k hkn).1.symm
          · have hkn : n ≤ k := by
              rcases Nat.lt_or_ge k n with z | z
              · exact absurd (vp_in_nI z (by omega)) q
              · exact z
            simp only [g2]
            exact ⟨fun _ => ⟨by trivial, hI⟩, fun z => absurd (nI_le hkn (by omega)) z⟩
    · simp only [wX10_ofRoot, wX11_ofRoot, e_b16, e_b6, e_b4, e_b3, e_w2, e_isMeaning, e_isIn, e_m15, e_m5, e_m3, e_m2, e_m63, m_isMeaning, m_isSound, m_isSheet, m_isLane, m_isCollector, e_has, e_isWithin, e_within, bI_t h1, bI_f h2, i10, i01, bI_0, bI_1, isB_bI, Classical.not_not, not_false_eq_true, not_true_eq_false, true_implies, false_implies, and_true, true_and, and_self, forall_eq, ne_eq]
      exact hI
  · simp only [wX10_ofRoot, wX11_ofRoot, e_b16, e_b6, e_b4, e_b3, e_w2, e_isMeaning, e_isIn, e_m15, e_m5, e_m3, e_m2, e_m63, m_isMeaning, m_isSound, m_isSheet, m_isLane, m_isCollector, e_has, bI_f h1, i10, i01, bI_0, bI_1, isB_bI, Classical.not_not, not_false_eq_true, not_true_eq_false, true_implies, false_implies, and_true, true_and, and_self, forall_eq, ne_eq]
    exact hI
