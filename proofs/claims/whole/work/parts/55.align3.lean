theorem st_align {M : Mem} (hI : Inv M) (a1 a2 a3 : Int32) : wX10_align a1 a2 a3 M (fun r M1 => wX11_align a1 a2 a3 M1 (fun r' M2 => r = r' ∧ Inv M2)) := by
  have h0 := hI.1
  have hF40 := h0.2.1.2.1
  have c16 := h0.2.1.1
  have c13 : M 49 13 = nI (cF M) := h0.2.1.2.2.trans h0.2.1.1
  have ef : M 49 0 = M 0 19 := h0.2.2.2.2.2.2
  have eX : ∀ a Q, wX10_isForm a M Q = Q (bI (vp_in a (cF M))) M := fun a Q => e_isFormN c16 (by omega)
  have eM : ∀ a M1 Q, M1 49 13 = M 49 13 → wX11_isForm a M1 Q = Q (bI (vp_in a (cF M))) M1 := fun a M1 Q h => m_isFormN (h.trans c13) (by omega)
  by_cases q1 : vp_in a1 (cF M)
  · by_cases q2 : vp_in a2 (cF M)
    · by_cases w3 : ¬ a3 < -1 ∧ ¬ 15 < a3
      · obtain ⟨f1, hf1, e1, -⟩ := vp_nI q1 (by omega)
        obtain ⟨f2, hf2, e2, -⟩ := vp_nI q2 (by omega)
        obtain ⟨A, fa, hA8, l1, hA, mA, sA⟩ := hI.2.2.2.2.1.row hf1
        obtain ⟨B, fb, hB8, l2, hB, mB, sB'⟩ := hI.2.2.2.2.1.row hf2
        obtain ⟨g, hg1, hg⟩ : ∃ g : Nat, g ≤ 20 ∧ M 13 2 = nI g := by
          obtain ⟨-, -, -, ⟨-, w1, w2⟩, -⟩ := h0
          obtain ⟨g, b1, b2⟩ := nI_of2 (x := M 13 2) (M := 20) (n := 20) (by decide) (Int32.not_lt.mpr (Int32.le_trans (by decide) w1)) w2
          exact ⟨g, b1, b2⟩
        have mg : M 49 34 = nI g := h0.2.2.2.1.1.trans hg
        simp only [wX10_align, eX, bI_t q1, bI_t q2, i10, i01, bI_0, bI_1, isB_bI, Classical.not_not, not_false_eq_true, not_true_eq_false, true_implies, false_implies, and_true, true_and, and_self, forall_eq, ne_eq, e_isWithin, bI_t w3]
        rw [e1, e2, nI_clamp (by omega), nI_clamp (by omega), show 150 + f1 - 100 = 50 + f1 by omega, show 150 + f2 - 100 = 50 + f2 by omega]
        refine ⟨vp_in_nI (by omega) (by decide), vp_in_nI (by omega) (by decide), e_walk (fa := fa) (fb := fb) ⟨by omega, by omega⟩ ⟨by omega, by omega⟩ hA hB hA8 hB8 hg hg1 (Sn_I1 hI.2.1).1 l1 l2 (fun k hk => by rw [show 50 + f1 + 50 = 100 + f1 by omega]; exact (sA k hk).1) (fun k hk => by rw [show 50 + f2 + 50 = 100 + f2 by omega]; exact (sB' k hk).1) (fun M1 b1 => ?_)⟩
        refine m_align (fa := fa) (fb := fb) (F := cF M) (g := g) hI.2.1 hF40 hf1 hf2 (by rw [b1 49 (by decide)]; exact c13) w3 (b1 195 (by decide)) (b1 196 (by decide)) (by rw [b1 207 (by decide)]; exact mA) (by rw [b1 207 (by decide)]; exact mB) hA8 hB8 (by rw [b1 49 (by decide)]; exact mg) hg1 l1 l2 (fun k hk => by rw [b1 208 (by decide)]; exact (sA k hk).2) (fun k hk => by rw [b1 208 (by decide)]; exact (sB' k hk).2) (fun M2 g1 => ⟨rfl, ?_⟩)
        have gg : ∀ r, r ≠ 14 → r ≠ 225 → r ≠ 226 → r ≠ 227 → M2 r = M r := fun r w1 w2 w3 w4 => by rw [g1 r w2 w3 w4, b1 r w1]
        exact hI.scr (fun i hi => gg i (fun z => hi (by rw [z]; decide)) (fun z => hi (by rw [z]; decide)) (fun z => hi (by rw [z]; decide)) (fun z => hi (by rw [z]; decide))) (fun k _ => by rw [gg 0 (by decide) (by decide) (by decide) (by decide)]) (fun k _ => by rw [gg 49 (by decide) (by decide) (by decide) (by decide)]) (by rw [gg 0 (by decide) (by decide) (by decide) (by decide), gg 49 (by decide) (by decide) (by decide) (by decide), ef])
      · simp only [wX10_align, wX11_align, eX, bI_t q1, bI_t q2, i10, i01, bI_0, bI_1, isB_bI, Classical.not_not, not_false_eq_true, not_true_eq_false, true_implies, false_implies, and_true, true_and, and_self, forall_eq, ne_eq, e_isWithin, bI_f w3]
        rw [eM _ _ _ rfl]
        simp only [bI_t q1, i10, i01, bI_0, bI_1, isB_bI, Classical.not_not, not_false_eq_true, not_true_eq_false, true_implies, false_implies, and_true, true_and, and_self, forall_eq, ne_eq]
        rw [eM _ _ _ rfl]
        simp only [bI_t q2, i10, i01, bI_0, bI_1, isB_bI, Classical.not_not, not_false_eq_true, not_true_eq_false, true_implies, false_implies, and_true, true_and, and_self, forall_eq, ne_eq, e_within, bI_f w3]
        exact hI
    · simp only [wX10_align, wX11_align, eX, bI_t q1, bI_f q2, i10, i01, bI_0, bI_1, isB_bI, Classical.not_not, not_false_eq_true, not_true_eq_false, true_implies, false_implies, and_true, true_and, and_self, forall_eq, ne_eq]
      rw [eM _ _ _ rfl]
      simp only [bI_t q1, i10, i01, bI_0, bI_1, isB_bI, Classical.not_not, not_false_eq_true, not_true_eq_false, true_implies, false_implies, and_true, true_and, and_self, forall_eq, ne_eq]
      rw [eM _ _ _ rfl]
      simp only [bI_f q2, i10, i01, bI_0, bI_1, isB_bI, Classical.not_not, not_false_eq_true, not_true_eq_false, true_implies, false_implies, and_true, true_and, and_self, forall_eq, ne_eq]
      exact hI
  · simp only [wX10_align, wX11_align, eX, bI_f q1, i10, i01, bI_0, bI_1, isB_bI, Classical.not_not, not_false_eq_true, not_true_eq_false, true_implies, false_implies, and_true, true_and, and_self, forall_eq, ne_eq]
    rw [eM _ _ _ rfl]
    simp only [bI_f q1, i10, i01, bI_0, bI_1, isB_bI, Classical.not_not, not_false_eq_true, not_true_eq_false, true_implies, false_implies, and_true, true_and, and_self, forall_eq, ne_eq]
    exact hI
