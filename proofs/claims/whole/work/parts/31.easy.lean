theorem Inv.ctr {M M' : Mem} (h : Inv M) (hF : ∀ i, i ≠ 0 → i ≠ 9 → i ≠ 13 → i ≠ 49 → M' i = M i) (h0 : I0 M') (eF : cF M' = cF M) (eP : cP M ≤ cP M') (eL : cL M' = cL M) (eR : M' 0 17 = M 0 17) : Inv M' := by
  obtain ⟨a0, a1, a2, a3, a4, a5, a6, a7, a8⟩ := h
  have g : ∀ i, 14 ≤ i → i ≠ 49 → M' i = M i := fun i h1 h2 => hF i (by omega) (by omega) (by omega) h2
  refine ⟨h0, a1.fr (hF _ (by decide) (by decide) (by decide) (by decide)) (hF _ (by decide) (by decide) (by decide) (by decide)) (g _ (by decide) (by decide)) (g _ (by decide) (by decide)),
    a2.fr (fun i h1 h2 => g i (by omega) (by omega)) (g _ (by decide) (by decide)) (g _ (by decide) (by decide)) (g _ (by decide) (by decide)) (g _ (by decide) (by decide)),
    a3.fr (hF _ (by decide) (by decide) (by decide) (by decide)) (g _ (by decide) (by decide)),
    a4.fr eF eP a0.2.1.2.1 (fun i h1 h2 => g i (by omega) (by omega)) (fun i h1 h2 => g i (by omega) (by omega)) (fun i h1 h2 => g i (by omega) (by omega)) (g _ (by decide) (by decide)) (g _ (by decide) (by decide)) (g _ (by decide) (by decide)) (g _ (by decide) (by decide)) (g _ (by decide) (by decide)),
    a5.fr eF (hF _ (by decide) (by decide) (by decide) (by decide)) (g _ (by decide) (by decide)) (g _ (by decide) (by decide)),
    a6.fr eR (fun i h1 h2 => g i (by omega) (by omega)) (fun i h1 h2 => g i (by omega) (by omega)) (g _ (by decide) (by decide)) (g _ (by decide) (by decide)),
    a7.fr eL eP (fun l hl => g _ (by omega) (by have := a0.2.2.1.2.1; omega)) (g _ (by decide) (by decide)) (g _ (by decide) (by decide)) (g _ (by decide) (by decide)) (g _ (by decide) (by decide)) (g _ (by decide) (by decide)),
    a8.fr (fun i h1 h2 => g i (by omega) (by omega)) (g _ (by decide) (by decide)) (g _ (by decide) (by decide)) (g _ (by decide) (by decide))⟩
/-- all as it was but the fields of the two objects that both write alike: faults and traces -/
theorem Inv.ft {M M' : Mem} (h : Inv M) (e : ∀ i k, ¬ (i = 0 ∧ k = 19) → ¬ (i = 0 ∧ k = 18) → ¬ (i = 49 ∧ k = 0) → ¬ (i = 49 ∧ k = 1) → M' i k = M i k) (ef : M' 49 0 = M' 0 19) (et : M' 49 1 = M' 0 18) : Inv M' := by
  have r : ∀ i, i ≠ 0 → i ≠ 49 → M' i = M i := fun i h1 h2 => funext (fun k => e i k (by omega) (by omega) (by omega) (by omega))
  have eP : cP M' = cP M := by unfold cP; rw [e 0 15 (by omega) (by omega) (by omega) (by omega)]
  have eF : cF M' = cF M := by unfold cF; rw [e 0 16 (by omega) (by omega) (by omega) (by omega)]
  have eL : cL M' = cL M := by unfold cL; rw [e 9 4 (by omega) (by omega) (by omega) (by omega)]
  refine h.ctr (fun i h1 h2 h3 h4 => r i h1 h4) ?_ eF (by omega) eL (e 0 17 (by omega) (by omega) (by omega) (by omega))
  have h0 := h.1
  unfold I0 at h0 ⊢
  rw [eP, eF, eL, ef, et, e 0 15 (by omega) (by omega) (by omega) (by omega), e 0 16 (by omega) (by omega) (by omega) (by omega), e 9 4 (by omega) (by omega) (by omega) (by omega), e 49 11 (by omega) (by omega) (by omega) (by omega), e 49 13 (by omega) (by omega) (by omega) (by omega), e 49 22 (by omega) (by omega) (by omega) (by omega), e 49 34 (by omega) (by omega) (by omega) (by omega), e 49 44 (by omega) (by omega) (by omega) (by omega), e 13 2 (by omega) (by omega) (by omega) (by omega), e 13 3 (by omega) (by omega) (by omega) (by omega)]
  exact ⟨h0.1, h0.2.1, h0.2.2.1, h0.2.2.2.1, h0.2.2.2.2.1, rfl, rfl⟩
theorem st_trace {M : Mem} (hI : Inv M) : wX10_trace M (fun r M1 => wX11_trace M1 (fun r' M2 => r = r' ∧ Inv M2)) := ⟨hI.1.2.2.2.2.2.1.symm, hI⟩
theorem st_fault {M : Mem} (hI : Inv M) : wX10_fault M (fun r M1 => wX11_fault M1 (fun r' M2 => r = r' ∧ Inv M2)) := ⟨hI.1.2.2.2.2.2.2.symm, hI⟩
theorem st_gap {M : Mem} (hI : Inv M) (a1 : Int32) : wX10_gap a1 M (fun r M1 => wX11_gap a1 M1 (fun r' M2 => r = r' ∧ Inv M2)) := by
  by_cases h : (¬ a1 < 1 ∧ ¬ 20 < a1)
  · simp only [wX10_gap, wX11_gap, e_b16, e_b6, e_b4, e_b3, e_w2, e_isMeaning, e_isIn, e_m15, e_m5, e_m3, e_m2, e_m63, m_isMeaning, m_isSound, m_isSheet, m_isLane, m_isCollector, e_has, e_isWithin, e_within, bI_t h, i10, i01, bI_0, bI_1, isB_bI, Classical.not_not, not_false_eq_true, not_true_eq_false, true_implies, false_implies, and_true, true_and, and_self, forall_eq, ne_eq]
    have h0 := hI.1
    refine ⟨by simp only [mset]; exact h0.2.2.2.1.1.symm, hI.ctr (fun i h0 h9 h13 h49 => by rw [mset_row h49, mset_row h13]) ?_ rfl (Nat.le_refl _) rfl rfl⟩
    exact ⟨h0.1, h0.2.1, h0.2.2.1, ⟨rfl, Int32.not_lt.mp h.1, Int32.not_lt.mp h.2⟩, h0.2.2.2.2.1, h0.2.2.2.2.2.1, h0.2.2.2.2.2.2⟩
  · simp only [wX10_gap, wX11_gap, e_b16, e_b6, e_b4, e_b3, e_w2, e_isMeaning, e_isIn, e_m15, e_m5, e_m3, e_m2, e_m63, m_isMeaning, m_isSound, m_isSheet, m_isLane, m_isCollector, e_has, e_isWithin, e_within, bI_f h, i10, i01, bI_0, bI_1, isB_bI, Classical.not_not, not_false_eq_true, not_true_eq_false, true_implies, false_implies, and_true, true_and, and_self, forall_eq, ne_eq]
    exact hI
theorem st_limit {M : Mem} (hI : Inv M) (a1 : Int32) : wX10_limit a1 M (fun r M1 => wX11_limit a1 M1 (fun r' M2 => r = r' ∧ Inv M2)) := by
  by_cases h : (¬ a1 < 0 ∧ ¬ 99 < a1)
  · simp only [wX10_limit, wX11_limit, e_b16, e_b6, e_b4, e_b3, e_w2, e_isMeaning, e_isIn, e_m15, e_m5, e_m3, e_m2, e_m63, m_isMeaning, m_isSound, m_isSheet, m_isLane, m_isCollector, e_has, e_isWithin, e_within, bI_t h, i10, i01, bI_0, bI_1, isB_bI, Classical.not_not, not_false_eq_true, not_true_eq_false, true_implies, false_implies, and_true, true_and, and_self, forall_eq, ne_eq]
    have h0 := hI.1
    refine ⟨by simp only [mset]; exact h0.2.2.2.2.1.1.symm, hI.ctr (fun i h0 h9 h13 h49 => by rw [mset_row h49, mset_row h13]) ?_ rfl (Nat.le_refl _) rfl rfl⟩
    exact ⟨h0.1, h0.2.1, h0.2.2.1, h0.2.2.2.1, ⟨rfl, Int32.not_lt.mp h.1, Int32.not_lt.mp h.2⟩, h0.2.2.2.2.2.1, h0.2.2.2.2.2.2⟩
  · simp only [wX10_limit, wX11_limit, e_b16, e_b6, e_b4, e_b3, e_w2, e_isMeaning, e_isIn, e_m15, e_m5, e_m3, e_m2, e_m63, m_isMeaning, m_isSound, m_isSheet, m_isLane, m_isCollector, e_has, e_isWithin, e_within, bI_f h, i10, i01, bI_0, bI_1, isB_bI, Classical.not_not, not_false_eq_true, not_true_eq_false, true_implies, false_implies, and_true, true_and, and_self, forall_eq, ne_eq]
    exact hI
theorem st_place {M : Mem} (hI : Inv M) : wX10_place M (fun r M1 => wX11_place M1 (fun r' M2 => r = r' ∧ Inv M2)) := by
  have h0 := hI.1
  obtain ⟨⟨p1, p2, p3⟩, h1⟩ := h0
  simp only [wX10_place, wX11_place, forall_eq]
  have e8 : (8 : Int32) = nI 8 := by decide
  by_cases h : cP M = 8
  · rw [p1, h, e8]
    refine ⟨fun q => absurd q (nI_nlt (Nat.le_refl _) (by decide)), fun _ => ⟨fun q => absurd (by rw [p3, p1, h]) q, fun _ => ⟨by trivial, hI⟩⟩⟩
  · have hl : cP M < 8 := by omega
    rw [p1, e8]
    refine ⟨fun _ => ⟨fun _ => ⟨?_, ?_⟩, fun q => ?_⟩, fun q => absurd (nI_lt hl (by decide)) q⟩
    · simp only [mset]
      simp [p3, p1]
    · have hp : cP (mset (mset M 0 15 (nI (cP M) + 1)) 49 11 (mset M 0 15 (nI (cP M) + 1) 49 11 + 1)) = cP M + 1 := by
        show (nI (cP M) + 1).toNatClampNeg = _
        rw [nI_1, nI_clamp (by omega)]
      refine hI.ctr (fun i h0 h9 h13 h49 => by rw [mset_row h49, mset_row h0]) ?_ rfl (by omega) rfl rfl
      refine ⟨⟨?_, by omega, ?_⟩, h1⟩
      · rw [hp]
        show nI (cP M) + 1 = _
        rw [nI_1]
      · show M 49 11 + 1 = nI (cP M) + 1
        rw [p3, p1]
    · have : M 49 11 = nI 8 := q
      rw [p3, p1, nI_eq (by omega) (by decide)] at this
      omega
theorem m_isFormN {a : Int32} {M : Mem} {Q : Int32 → Mem → Prop} {n : Nat} (h : M 49 13 = nI n) (hn : n < 2 ^ 31) : wX11_isForm a M Q = Q (bI (vp_in a n)) M := by rw [wX11_isForm, m_below, h, vp_iff hn]
theorem m_isPlaceN {a : Int32} {M : Mem} {Q : Int32 → Mem → Prop} {n : Nat} (h : M 49 11 = nI n) (hn : n < 2 ^ 31) : wX11_isPlace a M Q = Q (bI (vp_in a n)) M := by rw [wX11_isPlace, m_below, h, vp_iff hn]
theorem m_isLawN {a : Int32} {M : Mem} {Q : Int32 → Mem → Prop} {n : Nat} (h : M 49 22 = nI n) (hn : n < 2 ^ 31) : wX11_isLaw a M Q = Q (bI (vp_in a n)) M := by rw [wX11_isLaw, m_below, h, vp_iff hn]
theorem e_isFormN {a : Int32} {M : Mem} {Q : Int32 → Mem → Prop} {n : Nat} (h : M 0 16 = nI n) (hn : n < 2 ^ 31) : wX10_isForm a M Q = Q (bI (vp_in a n)) M := by rw [wX10_isForm, e_isBelow, isB_bI, true_and, h, vp_iff hn]
theorem e_isPlaceN {a : Int32} {M : Mem} {Q : Int32 → Mem → Prop} {n : Nat} (h : M 0 15 = nI n) (hn : n < 2 ^ 31) : wX10_isPlace a M Q = Q (bI (vp_in a n)) M := by rw [wX10_isPlace, e_isBelow, isB_bI, true_and, h, vp_iff hn]
theorem e_leave {a : Int32} {M : Mem} {Q : Mem → Prop} : wX10_leaveTrace a M Q = Q (mset M 0 18 (31 * M 0 18 + a)) := by simp only [wX10_leaveTrace, forall_eq]
theorem m_begins {a : Int32} {M : Mem} {Q : Mem → Prop} : wX11_begins a M Q = Q (mset M 49 1 (31 * M 49 1 + a)) := by simp only [wX11_begins, forall_eq]
theorem st_name {M : Mem} (hI : Inv M) (a1 : Int32) : wX10_name a1 M (fun r M1 => wX11_name a1 M1 (fun r' M2 => r = r' ∧ Inv M2)) := by
  have h0 := hI.1
  have c13 : M 49 13 = nI (cF M) := h0.2.1.2.2.trans h0.2.1.1
  have c40 := h0.2.1.2.1
  by_cases h : vp_in a1 (cF M)
  · have hk := (hI.2.2.2.2.1 _ (vp_lt h)).1.1
    have h40 := vp_mono h c40
    have fin : ∀ v, Inv (mset (mset M 0 18 (31 * M 0 18 + v)) 49 1 (31 * M 49 1 + v)) := fun v => hI.ft (fun i k g1 g2 g3 g4 => by rw [mset_ne g4, mset_ne g2]) (by simp [mset, h0.2.2.2.2.2.2]) (by simp [mset, h0.2.2.2.2.2.1])
    have rd : ∀ v : Int32, (mset M 0 18 v) 49 13 = nI (cF M) := fun v => by rw [mset_row (by decide)]; exact c13
    by_cases hk2 : M (150 + Int32.toNatClampNeg a1) 1 = 2
    · have hk3 : M 204 (Int32.toNatClampNeg a1) = 2 := hk.trans hk2
      simp only [wX10_name, e_isForm h0, bI_t h, i10, i01, bI_0, bI_1, isB_bI, Classical.not_not, not_false_eq_true, not_true_eq_false, true_implies, false_implies, and_true, true_and, and_self, forall_eq, ne_eq, h40, hk2, e_leave, wX11_name, m_isFormN (rd _) (by omega : cF M < 2 ^ 31), jn0, jn1, jn2, jn3, m_begins]
      simp [mset_row, hk3]
      exact fin 5
    · have hk3 : ¬ M 204 (Int32.toNatClampNeg a1) = 2 := by rw [hk]; exact hk2
      simp only [wX10_name, e_isForm h0, bI_t h, i10, i01, bI_0, bI_1, isB_bI, Classical.not_not, not_false_eq_true, not_true_eq_false, true_implies, false_implies, and_true, true_and, and_self, forall_eq, ne_eq, h40, hk2, e_leave, wX11_name, m_isFormN (rd _) (by omega : cF M < 2 ^ 31), jn0, jn1, jn2, jn3, m_begins]
      simp [mset_row, hk3]
      exact fin 4
  · simp only [wX10_name, wX11_name, e_isForm h0, m_isForm h0, bI_f h, i10, i01, bI_0, bI_1, isB_bI, Classical.not_not, not_false_eq_true, not_true_eq_false, true_implies, false_implies, and_true, true_and, and_self, forall_eq, ne_eq]
    exact hI
