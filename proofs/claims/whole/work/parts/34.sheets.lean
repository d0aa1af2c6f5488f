theorem Inv.but8f {M M' : Mem} (h : Inv M) (hF : ∀ i, ¬ (41 ≤ i ∧ i < 49) → i ≠ 192 → i ≠ 193 → i ≠ 194 → i ≠ 0 → i ≠ 49 → M' i = M i) (e : ∀ k, k ≠ 19 → M' 0 k = M 0 k) (e' : ∀ k, k ≠ 0 → M' 49 k = M 49 k) (ef : M' 49 0 = M' 0 19) (hk : I8 M') : Inv M' := by
  have hh : Inv (fun i => if (41 ≤ i ∧ i < 49) ∨ i = 192 ∨ i = 193 ∨ i = 194 then M i else M' i) := by
    refine h.ft (fun i k g1 g2 g3 g4 => ?_) ?_ ?_
    · show (if _ then _ else _ : Nat → Int32) k = _
      by_cases hc : (41 ≤ i ∧ i < 49) ∨ i = 192 ∨ i = 193 ∨ i = 194
      · rw [if_pos hc]
      · rw [if_neg hc]
        by_cases h0 : i = 0
        · subst h0; exact e k (by omega)
        · by_cases h49 : i = 49
          · subst h49; exact e' k (by omega)
          · rw [hF i (by omega) (by omega) (by omega) (by omega) h0 h49]
    · show (if _ then _ else _ : Nat → Int32) _ = (if _ then _ else _ : Nat → Int32) _
      rw [if_neg (by omega), if_neg (by omega)]; exact ef
    · show (if _ then _ else _ : Nat → Int32) _ = (if _ then _ else _ : Nat → Int32) _
      rw [if_neg (by omega), if_neg (by omega), e' 1 (by decide), e 18 (by decide)]
      exact h.1.2.2.2.2.2.1
  refine hh.but8 (fun i b1 b2 b3 b4 => ?_) hk
  show _ = (if _ then _ else _ : Nat → Int32)
  rw [if_neg (by omega)]
theorem n9 {n : Nat} (hn : n < 2 ^ 30) : ¬ nI n = -9 := by
  intro h
  have := congrArg Int32.toInt h
  rw [nI_toInt (by omega)] at this
  have h2 : (-9 : Int32).toInt = -9 := by decide
  omega
theorem n9' : ((0 : Int32) = -9) = False ∧ ((1 : Int32) = -9) = False ∧ ((2 : Int32) = -9) = False := by decide
theorem st_lose {M : Mem} (hI : Inv M) (a1 : Int32) : wX10_lose a1 M (fun r M1 => wX11_lose a1 M1 (fun r' M2 => r = r' ∧ Inv M2)) := by
  by_cases h1 : vp_in a1 4
  · obtain ⟨s, hs, -, es⟩ := vp_nI h1 (by decide)
    obtain ⟨h8, h8c⟩ := hI.2.2.2.2.2.2.2.2 s hs
    have fin : ∀ (v : Int32), Inv (mset (mset M (41 + s) 1 0) 192 s (-9)) := fun _ => by
      refine hI.but8 (fun i b1 b2 b3 b4 => by rw [mset_row b2, mset_row (by omega)]) (fun t ht => ?_)
      obtain ⟨g8, g8c⟩ := hI.2.2.2.2.2.2.2.2 t ht
      have r4 : ∀ j, mset (mset M (41 + s) 1 0) 192 s (-9) (41 + t + 4) j = M (41 + t + 4) j := fun j => by rw [mset_row (by omega), mset_row (by omega)]
      have r5 : ∀ j, mset (mset M (41 + s) 1 0) 192 s (-9) 194 j = M 194 j := fun j => by rw [mset_row (by omega), mset_row (by omega)]
      refine ⟨?_, fun i hi => by rw [r4, r5]; exact g8c i hi⟩
      by_cases hts : t = s
      · subst hts
        exact Or.inl ⟨by rw [mset_row (by omega), mset_eq], by rw [mset_eq]⟩
      · have r1 : ∀ j, mset (mset M (41 + s) 1 0) 192 s (-9) (41 + t) j = M (41 + t) j := fun j => by rw [mset_row (by omega), mset_row (by omega)]
        have r2 : mset (mset M (41 + s) 1 0) 192 s (-9) 192 t = M 192 t := by rw [mset_ne (by omega), mset_row (by omega)]
        have r3 : ∀ j, mset (mset M (41 + s) 1 0) 192 s (-9) 193 j = M 193 j := fun j => by rw [mset_row (by omega), mset_row (by omega)]
        rw [r1, r1, r1, r2, r3]
        exact g8
    simp only [wX10_lose, wX11_lose, bI_t h1, e_b16, e_b6, e_b4, e_b3, e_w2, e_isMeaning, e_isIn, e_m15, e_m5, e_m3, e_m2, e_m63, m_isMeaning, m_isSound, m_isSheet, m_isLane, m_isCollector, e_has, i10, i01, bI_0, bI_1, isB_bI, Classical.not_not, not_false_eq_true, not_true_eq_false, true_implies, false_implies, and_true, true_and, and_self, forall_eq, ne_eq, jn0, jn1, jn2, jn3, h1, es, wX8_loseRow]
    rcases h8 with ⟨g1, g2⟩ | ⟨g1, g2, g3, -⟩
    · have g2' : mset M (41 + s) 1 0 192 s = -9 := by rw [mset_row (by omega)]; exact g2
      simp [g1, g2', isB, hs]
      exact ⟨by omega, fin 0⟩
    · have g2' : ¬ mset M (41 + s) 1 0 192 s = -9 := by rw [mset_row (by omega), g2]; rcases g3 with q | q | q <;> rw [q] <;> decide
      simp [g1, g2', isB, hs, i10]
      exact ⟨by omega, fin 0⟩
  · simp only [wX10_lose, wX11_lose, bI_f h1, e_b16, e_b6, e_b4, e_b3, e_w2, e_isMeaning, e_isIn, e_m15, e_m5, e_m3, e_m2, e_m63, m_isMeaning, m_isSound, m_isSheet, m_isLane, m_isCollector, e_has, i10, i01, bI_0, bI_1, isB_bI, Classical.not_not, not_false_eq_true, not_true_eq_false, true_implies, false_implies, and_true, true_and, and_self, forall_eq, ne_eq]
    exact hI
/-- cell i of sheet s becomes v on both sides, and the fault is 0 -/
theorem Inv.cellput {M M' : Mem} (h : Inv M) {s i : Nat} {v : Int32} (hs : s < 4) (hi : i < 60) (he : M' = mset (mset (mset (mset M 0 19 0) (41 + s + 4) i v) 49 0 0) 194 (60 * s + i) v) : Inv M' := by
  subst he
  refine h.but8f (fun j b1 b2 b3 b4 b5 b6 => by rw [mset_row b4, mset_row b6, mset_row (by omega), mset_row b5]) (fun k hk => by rw [mset_row (by decide), mset_row (by decide), mset_row (by omega), mset_ne (by omega)]) (fun k hk => by rw [mset_row (by decide), mset_ne (by omega), mset_row (by omega), mset_row (by decide)]) (by rw [mset_row (by decide), mset_eq, mset_row (by decide), mset_row (by decide), mset_row (by omega), mset_eq]) (fun t ht => ?_)
  obtain ⟨g8, g8c⟩ := h.2.2.2.2.2.2.2.2 t ht
  have r1 : ∀ a, 41 ≤ a → a < 45 → mset (mset (mset (mset M 0 19 0) (41 + s + 4) i v) 49 0 0) 194 (60 * s + i) v a = M a := fun a q1 q2 => by rw [mset_row (by omega), mset_row (by omega), mset_row (by omega), mset_row (by omega)]
  have r2 : ∀ a, a = 192 ∨ a = 193 → mset (mset (mset (mset M 0 19 0) (41 + s + 4) i v) 49 0 0) 194 (60 * s + i) v a = M a := fun a q1 => by rw [mset_row (by omega), mset_row (by omega), mset_row (by omega), mset_row (by omega)]
  rw [r1 (41 + t) (by omega) (by omega), r2 192 (by omega), r2 193 (by omega)]
  refine ⟨g8, fun j hj => ?_⟩
  by_cases hc : t = s ∧ j = i
  · obtain ⟨rfl, rfl⟩ := hc
    rw [mset_eq, mset_row (by omega), mset_row (by omega), mset_eq]
  · rw [mset_ne (by omega), mset_row (by decide), mset_row (by omega), mset_row (by decide), mset_row (by omega), mset_row (by omega), mset_ne (by omega), mset_row (by omega)]
    exact g8c j hj
theorem vp_below {a : Int32} {n : Nat} {M : Mem} {Q : Int32 → Mem → Prop} {b : Int32} (h : b = nI n) (hn : n < 2 ^ 31) : wX10_isBelow a b M Q = Q (bI (vp_in a n)) M := by rw [e_isBelow, h, vp_iff hn]
theorem vp_within1 {a : Int32} {n : Nat} {M : Mem} {Q : Int32 → Mem → Prop} {b : Int32} (h : b = nI n) (hn : n < 2 ^ 30) : wX11_within a 0 (b - 1) M Q = Q (bI (vp_in a n)) M := by
  rw [e_within, h]
  congr 1
  congr 1
  apply propext
  rw [vp_in_iff, Int32.lt_iff_toInt_lt, Int32.lt_iff_toInt_lt, show (1 : Int32) = nI 1 by decide, pk_sub_toInt (by omega) (by decide)]
  rw [show (0 : Int32).toInt = 0 from rfl]
  constructor
  · intro q; omega
  · intro q; omega
theorem st_put {M : Mem} (hI : Inv M) (a1 a2 a3 : Int32) : wX10_put a1 a2 a3 M (fun r M1 => wX11_put a1 a2 a3 M1 (fun r' M2 => r = r' ∧ Inv M2)) := by
  simp only [wX10_put, wX11_put, forall_eq]
  by_cases h1 : vp_in a1 4
  · obtain ⟨s, hs, e1, es⟩ := vp_nI h1 (by decide)
    obtain ⟨h8, h8c⟩ := hI.2.2.2.2.2.2.2.2 s hs
    simp only [bI_t h1, e_b16, e_b6, e_b4, e_b3, e_w2, e_isMeaning, e_isIn, e_m15, e_m5, e_m3, e_m2, e_m63, m_isMeaning, m_isSound, m_isSheet, m_isLane, m_isCollector, e_has, i10, i01, bI_0, bI_1, isB_bI, Classical.not_not, not_false_eq_true, not_true_eq_false, true_implies, false_implies, and_true, true_and, and_self, forall_eq, ne_eq, h1, es, e_fail, m_fail]
    have rx : ∀ (Mx : Mem) v k, mset Mx 0 k v (41 + s) = Mx (41 + s) := fun Mx v k => mset_row (by omega)
    have rm2 : ∀ (Mx : Mem) a k v, a ≠ 192 → mset Mx a k v 192 = Mx 192 := fun Mx a k v h => mset_row (Ne.symm h)
    rcases h8 with ⟨g1, g2⟩ | ⟨g1, g2, g3, n, hn, gn, gm⟩
    · simp only [rx, g1, i10, i01, bI_0, bI_1, isB_bI, Classical.not_not, not_false_eq_true, not_true_eq_false, true_implies, false_implies, and_true, true_and, and_self, forall_eq, ne_eq]
      simp [mset_row, g2]
      exact hI.f4 1 0
    · simp only [rx, g1, i10, i10, i01, bI_0, bI_1, isB_bI, Classical.not_not, not_false_eq_true, not_true_eq_false, true_implies, false_implies, and_true, true_and, and_self, forall_eq, ne_eq]
      rw [vp_below (n := n) gn (by omega)]
      have n92 : ¬ M 192 s = -9 := by rw [g2]; rcases g3 with q | q | q <;> rw [q] <;> decide
      by_cases h2 : vp_in a2 n
      · obtain ⟨i, hi, e2, ei⟩ := vp_nI h2 (by omega)
        have h60 : vp_in a2 60 := vp_mono h2 hn
        have ix : 60 * a1 + a2 = nI (60 * s + i) := by rw [e1, e2, show (60 : Int32) = nI 60 by decide, pk_mul, nI_add]
        have hix : vp_in (60 * a1 + a2) 240 := by rw [ix]; exact vp_in_nI (by omega) (by decide)
        have iN : Int32.toNatClampNeg (60 * a1 + a2) = 60 * s + i := by rw [ix, nI_clamp (by omega)]
        have fin : ∀ v, Inv (mset (mset (mset (mset M 0 19 0) (41 + s + 4) i v) 49 0 0) 194 (60 * s + i) v) := fun v => hI.cellput hs (by omega) rfl
        have rr : ∀ (v : Int32), mset (mset (mset M 0 19 0) (41 + s + 4) i v) 49 0 0 192 = M 192 := fun v => by rw [mset_row (by decide), mset_row (by omega), mset_row (by decide)]
        have rr3 : ∀ (v : Int32), mset (mset (mset M 0 19 0) (41 + s + 4) i v) 49 0 0 193 s - 1 = nI n - 1 := fun v => by rw [mset_row (by decide), mset_row (by omega), mset_row (by decide), gm]
        simp only [bI_t h2, i10, i01, bI_0, bI_1, isB_bI, Classical.not_not, not_false_eq_true, not_true_eq_false, true_implies, false_implies, and_true, true_and, and_self, forall_eq, ne_eq, wX8_putCut, rx, h60, ei]
        refine ⟨⟨by omega, by omega⟩, ?_⟩
        rcases g3 with q | q | q
        · simp only [q, i01, i10, i10, i01, bI_0, bI_1, isB_bI, Classical.not_not, not_false_eq_true, not_true_eq_false, true_implies, false_implies, and_true, true_and, and_self, forall_eq, ne_eq, show ((0 : Int32) = 1) = False from by decide]
          simp only [rr, g2, q, rr3, vp_within1 (rfl : nI n = nI n) (by omega : n < 2 ^ 30), bI_t h2, i10, i01, bI_0, bI_1, isB_bI, Classical.not_not, not_false_eq_true, not_true_eq_false, true_implies, false_implies, and_true, true_and, and_self, forall_eq, ne_eq, hix, iN, show ((0 : Int32) = -9) = False from by decide]
          exact fin _
        · simp only [q, i01, i10, i10, i01, bI_0, bI_1, isB_bI, Classical.not_not, not_false_eq_true, not_true_eq_false, true_implies, false_implies, and_true, true_and, and_self, forall_eq, ne_eq]
          simp only [rr, g2, q, rr3, vp_within1 (rfl : nI n = nI n) (by omega : n < 2 ^ 30), bI_t h2, i10, i01, bI_0, bI_1, isB_bI, Classical.not_not, not_false_eq_true, not_true_eq_false, true_implies, false_implies, and_true, true_and, and_self, forall_eq, ne_eq, hix, iN, i10, show ((1 : Int32) = -9) = False from by decide]
          exact fin _
        · simp only [q, i10, i01, bI_0, bI_1, isB_bI, Classical.not_not, not_false_eq_true, not_true_eq_false, true_implies, false_implies, and_true, true_and, and_self, forall_eq, ne_eq, show ((2 : Int32) = 0) = False from by decide, show ((2 : Int32) = 1) = False from by decide]
          simp only [rr, g2, q, rr3, vp_within1 (rfl : nI n = nI n) (by omega : n < 2 ^ 30), bI_t h2, i10, i01, bI_0, bI_1, isB_bI, Classical.not_not, not_false_eq_true, not_true_eq_false, true_implies, false_implies, and_true, true_and, and_self, forall_eq, ne_eq, hix, iN, show ((2 : Int32) = 0) = False from by decide, show ((2 : Int32) = 1) = False from by decide, show ((2 : Int32) = -9) = False from by decide]
          exact fin _
      · simp only [bI_f h2, i10, i01, bI_0, bI_1, isB_bI, Classical.not_not, not_false_eq_true, not_true_eq_false, true_implies, false_implies, and_true, true_and, and_self, forall_eq, ne_eq]
        have rr : mset (mset (mset M 0 19 0) 0 19 3) 49 0 0 192 = M 192 := by rw [mset_row (by decide), mset_row (by decide), mset_row (by decide)]
        have rr3 : mset (mset (mset M 0 19 0) 0 19 3) 49 0 0 193 s - 1 = nI n - 1 := by rw [mset_row (by decide), mset_row (by decide), mset_row (by decide), gm]
        simp only [rr, rr3, n92, vp_within1 (rfl : nI n = nI n) (by omega : n < 2 ^ 30), bI_f h2, i10, i01, bI_0, bI_1, isB_bI, Classical.not_not, not_false_eq_true, not_true_eq_false, true_implies, false_implies, and_true, true_and, and_self, forall_eq, ne_eq]
        exact hI.f4 3 0
  · simp only [bI_f h1, e_b16, e_b6, e_b4, e_b3, e_w2, e_isMeaning, e_isIn, e_m15, e_m5, e_m3, e_m2, e_m63, m_isMeaning, m_isSound, m_isSheet, m_isLane, m_isCollector, e_has, i10, i01, bI_0, bI_1, isB_bI, Classical.not_not, not_false_eq_true, not_true_eq_false, true_implies, false_implies, and_true, true_and, and_self, forall_eq, ne_eq]
    exact hI.f2 0
