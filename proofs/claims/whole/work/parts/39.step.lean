/-! a step's frame: T names the rows that may have changed -/
def rg (T : Nat → Bool) (a b : Nat) : Bool := (List.range b).all (fun i => decide (i < a) || !T i)
theorem rg_ok {T : Nat → Bool} {a b i : Nat} (h : rg T a b = true) (h1 : a ≤ i) (h2 : i < b) : T i = false := by
  have := List.all_eq_true.mp h i (List.mem_range.mpr h2)
  simp only [Bool.or_eq_true, decide_eq_true_eq, Bool.not_eq_true'] at this
  rcases this with q | q
  · omega
  · exact q
theorem Inv.step {M M' : Mem} (h : Inv M) (T : Nat → Bool) (hF : ∀ i, T i = false → M' i = M i) (h0 : I0 M') (eP : cP M ≤ cP M')
    (k1 : I1 M' ∨ (rg T 2 4 && rg T 195 197) = true) (k2 : I2 M' ∨ (rg T 20 32 && rg T 197 201) = true) (k3 : I3 M' ∨ (rg T 5 6 && rg T 202 203) = true)
    (k4 : I4 M' ∨ cF M' = cF M ∧ (rg T 50 90 && rg T 100 140 && rg T 150 190 && rg T 204 209) = true) (k5 : I5 M' ∨ cF M' = cF M ∧ (rg T 7 8 && rg T 205 207) = true)
    (k6 : I6 M' ∨ M' 0 17 = M 0 17 ∧ (rg T 90 96 && rg T 140 146 && rg T 210 212) = true) (k7 : I7 M' ∨ cL M' = cL M ∧ (∀ l, l < cL M → M' (32 + l) = M (32 + l)) ∧ rg T 213 218 = true)
    (k8 : I8 M' ∨ (rg T 41 49 && rg T 192 195) = true) : Inv M' := by
  obtain ⟨a0, a1, a2, a3, a4, a5, a6, a7, a8⟩ := h
  refine ⟨h0, ?_, ?_, ?_, ?_, ?_, ?_, ?_, ?_⟩
  · rcases k1 with q | q
    · exact q
    · simp only [Bool.and_eq_true] at q
      exact a1.fr (hF _ (rg_ok q.1 (by decide) (by decide))) (hF _ (rg_ok q.1 (by decide) (by decide))) (hF _ (rg_ok q.2 (by decide) (by decide))) (hF _ (rg_ok q.2 (by decide) (by decide)))
  · rcases k2 with q | q
    · exact q
    · simp only [Bool.and_eq_true] at q
      exact a2.fr (fun i g1 g2 => hF i (rg_ok q.1 g1 g2)) (hF _ (rg_ok q.2 (by decide) (by decide))) (hF _ (rg_ok q.2 (by decide) (by decide))) (hF _ (rg_ok q.2 (by decide) (by decide))) (hF _ (rg_ok q.2 (by decide) (by decide)))
  · rcases k3 with q | q
    · exact q
    · simp only [Bool.and_eq_true] at q
      exact a3.fr (hF _ (rg_ok q.1 (by decide) (by decide))) (hF _ (rg_ok q.2 (by decide) (by decide)))
  · rcases k4 with q | ⟨e, q⟩
    · exact q
    · simp only [Bool.and_eq_true] at q
      exact a4.fr e eP a0.2.1.2.1 (fun i g1 g2 => hF i (rg_ok q.1.1.1 g1 g2)) (fun i g1 g2 => hF i (rg_ok q.1.1.2 g1 g2)) (fun i g1 g2 => hF i (rg_ok q.1.2 g1 g2)) (hF _ (rg_ok q.2 (by decide) (by decide))) (hF _ (rg_ok q.2 (by decide) (by decide))) (hF _ (rg_ok q.2 (by decide) (by decide))) (hF _ (rg_ok q.2 (by decide) (by decide))) (hF _ (rg_ok q.2 (by decide) (by decide)))
  · rcases k5 with q | ⟨e, q⟩
    · exact q
    · simp only [Bool.and_eq_true] at q
      exact a5.fr e (hF _ (rg_ok q.1 (by decide) (by decide))) (hF _ (rg_ok q.2 (by decide) (by decide))) (hF _ (rg_ok q.2 (by decide) (by decide)))
  · rcases k6 with q | ⟨e, q⟩
    · exact q
    · simp only [Bool.and_eq_true] at q
      exact a6.fr e (fun i g1 g2 => hF i (rg_ok q.1.1 g1 g2)) (fun i g1 g2 => hF i (rg_ok q.1.2 g1 g2)) (hF _ (rg_ok q.2 (by decide) (by decide))) (hF _ (rg_ok q.2 (by decide) (by decide)))
  · rcases k7 with q | ⟨e, e2, q⟩
    · exact q
    · exact a7.fr e eP e2 (hF _ (rg_ok q (by decide) (by decide))) (hF _ (rg_ok q (by decide) (by decide))) (hF _ (rg_ok q (by decide) (by decide))) (hF _ (rg_ok q (by decide) (by decide))) (hF _ (rg_ok q (by decide) (by decide)))
  · rcases k8 with q | q
    · exact q
    · simp only [Bool.and_eq_true] at q
      exact a8.fr (fun i g1 g2 => hF i (rg_ok q.1 g1 g2)) (hF _ (rg_ok q.2 (by decide) (by decide))) (hF _ (rg_ok q.2 (by decide) (by decide))) (hF _ (rg_ok q.2 (by decide) (by decide)))
/-- the rows that nobody reads between two calls, and the two objects -/
def sB : List Nat := [0, 49, 11, 12, 14, 15, 16, 18, 19, 96, 97, 98, 99, 146, 147, 148, 149, 209, 220, 221, 223, 225, 226, 227, 228, 230, 232, 233, 235]
/-- the two objects' fields that count -/
def k0 : List Nat := [15, 16, 17, 18, 19]
def k49 : List Nat := [0, 1, 11, 13, 22, 34, 44]
theorem I0.of {M M' : Mem} (h : I0 M) (e0 : ∀ k, k ∈ [15, 16, 18] → M' 0 k = M 0 k) (e9 : M' 9 = M 9) (e13 : M' 13 = M 13) (e49 : ∀ k, k ∈ [1, 11, 13, 22, 34, 44] → M' 49 k = M 49 k) (ef : M' 49 0 = M' 0 19) : I0 M' := by
  unfold I0 cP cF cL at *
  rw [e0 15 (by decide), e0 16 (by decide), e0 18 (by decide), e9, e13, e49 1 (by decide), e49 11 (by decide), e49 13 (by decide), e49 22 (by decide), e49 34 (by decide), e49 44 (by decide)]
  exact ⟨h.1, h.2.1, h.2.2.1, h.2.2.2.1, h.2.2.2.2.1, h.2.2.2.2.2.1, ef⟩
/-- only scratch has changed, and faults alike -/
theorem Inv.scr {M M' : Mem} (h : Inv M) (hF : ∀ i, i ∉ sB → M' i = M i) (e0 : ∀ k, k ∈ [15, 16, 17, 18] → M' 0 k = M 0 k) (e49 : ∀ k, k ∈ [1, 11, 13, 22, 34, 44] → M' 49 k = M 49 k) (ef : M' 49 0 = M' 0 19) : Inv M' := by
  have eP : cP M' = cP M := by unfold cP; rw [e0 15 (by decide)]
  have eF : cF M' = cF M := by unfold cF; rw [e0 16 (by decide)]
  have eL : cL M' = cL M := by unfold cL; rw [hF 9 (by decide)]
  refine h.step (fun i => decide (i ∈ sB)) (fun i hi => hF i (by simpa using hi)) (h.1.of (fun k hk => e0 k (by revert hk; simp; omega)) (hF 9 (by decide)) (hF 13 (by decide)) e49 ef) (by omega) (Or.inr (by decide)) (Or.inr (by decide)) (Or.inr (by decide)) (Or.inr ⟨eF, by decide⟩) (Or.inr ⟨eF, by decide⟩) (Or.inr ⟨e0 17 (by decide), by decide⟩) (Or.inr ⟨eL, fun l hl => hF _ ?_, by decide⟩) (Or.inr (by decide))
  have := h.1.2.2.1.2.1
  have hl8 : l < 8 := by omega
  have : ∀ l, l < 8 → 32 + l ∉ sB := by decide
  exact this l hl8
/-- the fault that taking cells of sheet s comes to, by what the class keeps -/
noncomputable def ftv (M : Mem) (s : Nat) (lane i n : Int32) : Int32 := @ite Int32 (M (41 + s) 1 = 0) (Classical.propDecidable _) 1 (@ite Int32 (¬ M (41 + s) 2 = lane) (Classical.propDecidable _) 2 (@ite Int32 (n < 0) (Classical.propDecidable _) 4 (@ite Int32 (i < 0 ∨ M (41 + s) 3 < i ∨ M (41 + s) 3 - i < n) (Classical.propDecidable _) 3 0)))
theorem mcpy_in {M : Mem} {i0 i1 sp n k : Nat} (h : k < n) : mcpy M i0 i1 sp 0 n i1 k = M i0 (sp + k) := by rw [mcpy_eq, pk_cpy_in (by omega) (by omega)]; rfl
theorem take_rng {sz i n : Int32} {z : Nat} (hz : sz = nI z) (h60 : z ≤ 60) (h1 : ¬ i < 0) (h2 : ¬ sz < i) (h3 : ¬ n < 0) (h4 : ¬ sz - i < n) : ∃ ni nn : Nat, i = nI ni ∧ n = nI nn ∧ ni + nn ≤ z := by
  obtain ⟨ni, b1, e1⟩ := nI_of h1
  obtain ⟨nn, b2, e2⟩ := nI_of h3
  subst hz; subst e1; subst e2
  have c1 : ni ≤ z := by
    rcases Nat.lt_or_ge z ni with q | q
    · exact absurd (nI_lt q b1) h2
    · exact q
  rw [pk_sub c1] at h4
  have c2 : nn ≤ z - ni := by
    rcases Nat.lt_or_ge (z - ni) nn with q | q
    · exact absurd (nI_lt q b2) h4
    · exact q
  exact ⟨ni, nn, rfl, rfl, by omega⟩
theorem e_take {M Mx : Mem} (h8 : I8 M) {s : Nat} (hs : s < 4) {lane i n : Int32} {Q : Int32 → Mem → Prop} (r1 : Mx (41 + s) = M (41 + s))
    (hQ1 : ¬ ftv M s lane i n = 0 → Q ((-10) - ftv M s lane i n) (mset Mx 0 19 (ftv M s lane i n)))
    (hQ0 : ftv M s lane i n = 0 → ∀ ni nn : Nat, i = nI ni → n = nI nn → ni + nn ≤ 60 → ∀ M', (∀ a, a ≠ 18 → M' a = Mx a) → (∀ k, k < nn → M' 18 k = Mx (41 + s + 4) (ni + k)) → Q 0 M') : wX10_takeCells (nI s) lane i n Mx Q := by
  obtain ⟨g8, -⟩ := h8 s hs
  unfold wX10_takeCells
  rw [nI_clamp (by omega)]
  refine ⟨vp_in_nI hs (by decide), ?_⟩
  unfold wX8_faultOfCells wX8_faultOfRow
  rw [r1]
  refine ⟨⟨by omega, by omega⟩, ⟨by omega, by omega⟩, ?_⟩
  unfold ftv at hQ1 hQ0
  rcases g8 with ⟨g1, -⟩ | ⟨g1, -, -, z, hz, gz, -⟩
  · rw [if_pos g1] at hQ1 hQ0
    simp only [g1, i10, i01, bI_0, bI_1, isB_bI, Classical.not_not, not_false_eq_true, not_true_eq_false, true_implies, false_implies, and_true, true_and, and_self, forall_eq, ne_eq, i10, e_fail]
    exact hQ1 (by decide)
  · rw [if_neg (by rw [g1]; decide)] at hQ1 hQ0
    simp only [g1, i10, i10, i01, bI_0, bI_1, isB_bI, Classical.not_not, not_false_eq_true, not_true_eq_false, true_implies, false_implies, and_true, true_and, and_self, forall_eq, ne_eq]
    by_cases hl : M (41 + s) 2 = lane
    · rw [if_neg (by simp [hl])] at hQ1 hQ0
      simp only [hl, i10, i01, bI_0, bI_1, isB_bI, Classical.not_not, not_false_eq_true, not_true_eq_false, true_implies, false_implies, and_true, true_and, and_self, forall_eq, ne_eq]
      by_cases hn : n < 0
      · rw [if_pos hn] at hQ1 hQ0
        have : ¬ 0 ≤ n := Int32.not_le.mpr hn
        simp only [this, i10, i01, bI_0, bI_1, isB_bI, Classical.not_not, not_false_eq_true, not_true_eq_false, true_implies, false_implies, and_true, true_and, and_self, forall_eq, ne_eq, e_fail, show ((4 : Int32) = 0) = False from by decide]
        exact hQ1 (by decide)
      · rw [if_neg hn] at hQ1 hQ0
        have hn0 : 0 ≤ n := Int32.not_lt.mp hn
        simp only [hn0, i10, i01, bI_0, bI_1, isB_bI, Classical.not_not, not_false_eq_true, not_true_eq_false, true_implies, false_implies, and_true, true_and, and_self, forall_eq, ne_eq, e_isWithin, r1]
        by_cases hw : ¬ i < 0 ∧ ¬ M (41 + s) 3 < i
        · simp only [e_fail, forall_eq, show ((3 : Int32) = 0) = False from by decide, i10, i01, bI_0, bI_1, isB_bI, Classical.not_not, not_false_eq_true, not_true_eq_false, true_implies, false_implies, and_true, true_and, and_self, forall_eq, ne_eq]
          refine ⟨fun q => absurd hw q, fun _ => ?_⟩
          by_cases hc : M (41 + s) 3 - i < n
          · rw [if_pos (Or.inr (Or.inr hc))] at hQ1 hQ0
            exact ⟨fun _ => hQ1 (by decide), fun q => absurd hc q⟩
          · rw [if_neg (by rintro (q | q | q); exact hw.1 q; exact hw.2 q; exact hc q)] at hQ1 hQ0
            refine ⟨fun q => absurd q hc, fun _ => ?_⟩
            obtain ⟨ni, nn, e1, e2, e3⟩ := take_rng gz hz hw.1 hw.2 hn hc
            subst e1; subst e2
            rw [nI_clamp (by omega), nI_clamp (by omega), show Int32.toNatClampNeg 0 = 0 from rfl]
            refine ⟨hw.1, by decide, hn, by omega, by omega, hQ0 rfl ni nn rfl rfl (by omega) _ (fun a ha => by rw [mcpy_ne ha]) (fun k hk => by rw [mcpy_in hk])⟩
        · rw [if_pos (by
            by_cases q : i < 0
            · exact Or.inl q
            · exact Or.inr (Or.inl (Classical.byContradiction fun q2 => hw ⟨q, q2⟩)))] at hQ1 hQ0
          simp only [i10, i01, bI_0, bI_1, isB_bI, Classical.not_not, not_false_eq_true, not_true_eq_false, true_implies, false_implies, and_true, true_and, and_self, forall_eq, ne_eq, e_fail, show ((3 : Int32) = 0) = False from by decide]
          exact ⟨fun _ => hQ1 (by decide), fun q => absurd q hw⟩
    · rw [if_pos hl] at hQ1 hQ0
      simp only [hl, i10, i01, bI_0, bI_1, isB_bI, Classical.not_not, not_false_eq_true, not_true_eq_false, true_implies, false_implies, and_true, true_and, and_self, forall_eq, ne_eq, e_fail, show ((2 : Int32) = 0) = False from by decide]
      exact hQ1 (by decide)
theorem m_against {M Mx : Mem} (h8 : I8 M) {s : Nat} (hs : s < 4) {lane i n : Int32} {Q : Int32 → Mem → Prop} (r1 : Mx 192 = M 192) (r2 : Mx 193 = M 193) (hl3 : vp_in lane 3) (hQ : Q (ftv M s lane i n) Mx) : wX11_against (nI s) lane i n Mx Q := by
  obtain ⟨g8, -⟩ := h8 s hs
  unfold wX11_against
  rw [nI_clamp (by omega), r1]
  refine ⟨vp_in_nI hs (by decide), ?_⟩
  simp only [jn0, jn1, jn2, jn3, r1, r2]
  unfold ftv at hQ
  rcases g8 with ⟨g1, g2⟩ | ⟨g1, g2, g3, z, hz, gz, gz2⟩
  · rw [if_pos g1] at hQ
    simp only [g2, i10, i01, bI_0, bI_1, isB_bI, Classical.not_not, not_false_eq_true, not_true_eq_false, true_implies, false_implies, and_true, true_and, and_self, forall_eq, ne_eq]
    exact hQ
  · rw [if_neg (by rw [g1]; decide)] at hQ
    have n9 : ¬ M (41 + s) 2 = -9 := by rcases g3 with q | q | q <;> rw [q] <;> decide
    rw [g2, gz2]
    rw [gz] at hQ
    simp only [n9, i10, i01, bI_0, bI_1, isB_bI, Classical.not_not, not_false_eq_true, not_true_eq_false, true_implies, false_implies, and_true, true_and, and_self, forall_eq, ne_eq]
    by_cases hl : M (41 + s) 2 = lane
    · rw [if_neg (by simp [hl])] at hQ
      have n9' : ¬ lane = -9 := by rw [← hl]; exact n9
      simp only [hl, i10, i01, bI_0, bI_1, isB_bI, Classical.not_not, not_false_eq_true, not_true_eq_false, true_implies, false_implies, and_true, true_and, and_self, forall_eq, ne_eq, n9']
      by_cases hn : n < 0
      · rw [if_pos hn] at hQ
        have : ¬ 0 ≤ n := Int32.not_le.mpr hn
        simp only [this, i10, i01, bI_0, bI_1, isB_bI, Classical.not_not, not_false_eq_true, not_true_eq_false, true_implies, false_implies, and_true, true_and, and_self, forall_eq, ne_eq]
        exact hQ
      · rw [if_neg hn] at hQ
        have hn0 : 0 ≤ n := Int32.not_lt.mp hn
        simp only [hn0, i10, i01, bI_0, bI_1, isB_bI, Classical.not_not, not_false_eq_true, not_true_eq_false, true_implies, false_implies, and_true, true_and, and_self, forall_eq, ne_eq]
        by_cases hi : i < 0
        · rw [if_pos (Or.inl hi)] at hQ
          simp only [hi, i10, i01, bI_0, bI_1, isB_bI, Classical.not_not, not_false_eq_true, not_true_eq_false, true_implies, false_implies, and_true, true_and, and_self, forall_eq, ne_eq]
          exact hQ
        · by_cases hi2 : nI z < i
          · rw [if_pos (Or.inr (Or.inl hi2))] at hQ
            simp only [hi, hi2, i10, i01, bI_0, bI_1, isB_bI, Classical.not_not, not_false_eq_true, not_true_eq_false, true_implies, false_implies, and_true, true_and, and_self, forall_eq, ne_eq]
            exact hQ
          · by_cases hc : nI z - i < n
            · rw [if_pos (Or.inr (Or.inr hc))] at hQ
              have : ¬ n ≤ nI z - i := Int32.not_le.mpr hc
              simp only [hi, hi2, this, i10, i01, bI_0, bI_1, isB_bI, Classical.not_not, not_false_eq_true, not_true_eq_false, true_implies, false_implies, and_true, true_and, and_self, forall_eq, ne_eq]
              exact hQ
            · rw [if_neg (by rintro (q | q | q); exact hi q; exact hi2 q; exact hc q)] at hQ
              have : n ≤ nI z - i := Int32.not_lt.mp hc
              simp only [hi, hi2, this, i10, i01, bI_0, bI_1, isB_bI, Classical.not_not, not_false_eq_true, not_true_eq_false, true_implies, false_implies, and_true, true_and, and_self, forall_eq, ne_eq]
              exact hQ
    · rw [if_pos hl] at hQ
      simp only [hl, i10, i01, bI_0, bI_1, isB_bI, Classical.not_not, not_false_eq_true, not_true_eq_false, true_implies, false_implies, and_true, true_and, and_self, forall_eq, ne_eq]
      exact hQ
