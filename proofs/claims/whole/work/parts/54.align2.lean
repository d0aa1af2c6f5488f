theorem m_align {M Mx : Mem} (h1 : I1 M) {f1 f2 A B F g : Nat} {fa fb : Nat → Nat} {a3 : Int32} {Q : Int32 → Mem → Prop} (hF : F ≤ 40) (hf1 : f1 < F) (hf2 : f2 < F) (c13 : Mx 49 13 = nI F) (w3 : ¬ a3 < -1 ∧ ¬ 15 < a3) (r195 : Mx 195 = M 195) (r196 : Mx 196 = M 196) (hA : Mx 207 f1 = nI A) (hB : Mx 207 f2 = nI B) (hA8 : A ≤ 8) (hB8 : B ≤ 8) (hg : Mx 49 34 = nI g) (hg20 : g ≤ 20) (l1 : ∀ k, fa k < 16) (l2 : ∀ k, fb k < 16) (sa : ∀ k, k < A → Mx 208 (8 * f1 + k) = nI (fa k)) (sb : ∀ k, k < B → Mx 208 (8 * f2 + k) = nI (fb k))
    (hQ : ∀ M', (∀ r, r ≠ 225 → r ≠ 226 → r ≠ 227 → M' r = Mx r) → Q (wk (fun i j => dfF (M 2) (M 3) (fa i) (fb j)) g A B fa fb a3 (A + B + 1) 0 0 0) M') : wX11_align (nI f1) (nI f2) a3 Mx Q := by
  have v1 : vp_in (nI f1) F := vp_in_nI hf1 (by omega)
  have v2 : vp_in (nI f2) F := vp_in_nI hf2 (by omega)
  unfold wX11_align
  rw [m_isFormN c13 (by omega), bI_t v1]
  simp only [i10, i01, bI_0, bI_1, isB_bI, Classical.not_not, not_false_eq_true, not_true_eq_false, true_implies, false_implies, and_true, true_and, and_self, forall_eq, ne_eq]
  rw [m_isFormN c13 (by omega), bI_t v2]
  simp only [i10, i01, bI_0, bI_1, isB_bI, Classical.not_not, not_false_eq_true, not_true_eq_false, true_implies, false_implies, and_true, true_and, and_self, forall_eq, ne_eq, e_within, bI_t w3]
  refine m_costOf (fa := fa) (fb := fb) h1 (by omega) (by omega) r195 r196 hA hB hA8 hB8 hg hg20 l1 l2 sa sb (fun M1 b1 b2 b3 b4 => ?_)
  have hQ := hQ M1 b1
  obtain ⟨D, hD⟩ : ∃ D : Nat → Nat → Nat, D = fun i j => dfF (M 2) (M 3) (fa i) (fb j) := ⟨_, rfl⟩
  rw [← hD] at hQ b4
  have cA : M1 207 f1 = nI A := by rw [b1 207 (by decide) (by decide) (by decide), hA]
  have cB : M1 207 f2 = nI B := by rw [b1 207 (by decide) (by decide) (by decide), hB]
  have cg : M1 49 34 = nI g := by rw [b1 49 (by decide) (by decide) (by decide), hg]
  have k1 : (nI f1).toNatClampNeg = f1 := nI_clamp (by omega)
  have k2 : (nI f2).toNatClampNeg = f2 := nI_clamp (by omega)
  refine ⟨vp_in_nI (by omega) (by decide), vp_in_nI (by omega) (by decide), ?_⟩
  simp only [k1, k2, cA, cB]
  refine ⟨A + B + 1 + 1, lq3_ind (fun d x y w M' => M' = M1 ∧ ∃ i j c, x = nI i ∧ y = nI j ∧ w = nI c ∧ i ≤ A ∧ j ≤ B ∧ c ≤ i + j ∧ (A - i) + (B - j) + 1 ≤ d ∧ wk D g A B fa fb a3 d i j c = wk D g A B fa fb a3 (A + B + 1) 0 0 0) ?_ ?_ (A + B + 1) 0 0 0 M1 ⟨rfl, 0, 0, 0, nI_0.symm, nI_0.symm, nI_0.symm, by omega, by omega, by omega, by omega, rfl⟩⟩
  · rintro R x y w M' ⟨-, i, j, c, -, -, -, -, -, -, h, -⟩
    omega
  · rintro d R x y w M' ⟨rfl, i, j, c, rfl, rfl, rfl, hi, hj, hc, hd, hw⟩ hR
    rw [wk] at hw
    have i1 : (9 : Int32) * nI i + nI j = nI (9 * i + j) := by rw [show (9 : Int32) = nI 9 by decide, pk_mul, nI_add]
    have i3 : (9 : Int32) * nI (i + 1) + nI j = nI (9 * (i + 1) + j) := by rw [show (9 : Int32) = nI 9 by decide, pk_mul, nI_add]
    have ci : (nI i).toNatClampNeg = i := nI_clamp (by omega)
    have cj : (nI j).toNatClampNeg = j := nI_clamp (by omega)
    have c00 : (nI (9 * i + j)).toNatClampNeg = 9 * i + j := nI_clamp (by omega)
    have c10 : (nI (9 * (i + 1) + j)).toNatClampNeg = 9 * (i + 1) + j := nI_clamp (by omega)
    have c11 : (nI (9 * (i + 1) + j + 1)).toNatClampNeg = 9 * (i + 1) + (j + 1) := nI_clamp (by omega)
    have tT := b4 i j hi hj
    have bT := ct_b (D := D) (A := A) (B := B) (u := A - i) (w := B - j) (by omega) (by omega) hg20
    have go : ∀ i' j', i' ≤ A → j' ≤ B → i + j < i' + j' → wk D g A B fa fb a3 d i' j' (c + 1) = wk D g A B fa fb a3 (A + B + 1) 0 0 0 → R (nI i') (nI j') (nI (c + 1)) M' := fun i' j' w1 w2 w3 w4 => hR _ _ _ _ ⟨rfl, i', j', c + 1, rfl, rfl, rfl, w1, w2, by omega, by omega, w4⟩
    simp only [jn0, jn1, jn2, jn3, nI_1, i1, i3, ci, cj, c00, c10, c11, cg, tT]
    refine cond2 (fun hne => ?_) (fun q1 q2 => ?_)
    · rw [nI_ltI (by omega) (by omega), nI_leI (by omega) (by omega)] at hne
      rw [if_neg (by omega)] at hw
      have sec : ¬ (i < A ∧ j < B ∧ ctR D g A B (A - i) (B - j) = D i j + ctR D g A B (A - (i + 1)) (B - (j + 1))) →
          (nI A ≤ nI i → vp_in (nI j) 8 ∧ (¬ nI c = a3 → R (nI i) (nI (j + 1)) (nI (c + 1)) M') ∧ (nI c = a3 → Q (M' 227 j + 1) M')) ∧
          (¬ nI A ≤ nI i → vp_in (nI (9 * (i + 1) + j)) 81 ∧ (¬ M' 225 (9 * (i + 1) + j) + nI g = nI (ctR D g A B (A - i) (B - j)) → vp_in (nI j) 8 ∧ (¬ nI c = a3 → R (nI i) (nI (j + 1)) (nI (c + 1)) M') ∧ (nI c = a3 → Q (M' 227 j + 1) M')) ∧
            (M' 225 (9 * (i + 1) + j) + nI g = nI (ctR D g A B (A - i) (B - j)) → vp_in (nI i) 8 ∧ (¬ nI c = a3 → R (nI (i + 1)) (nI j) (nI (c + 1)) M') ∧ (nI c = a3 → Q (100 * (M' 226 i + 1)) M'))) := fun hp => by
        rw [if_neg hp] at hw
        have second : ¬ (i < A ∧ ctR D g A B (A - i) (B - j) = ctR D g A B (A - (i + 1)) (B - j) + g) → vp_in (nI j) 8 ∧ (¬ nI c = a3 → R (nI i) (nI (j + 1)) (nI (c + 1)) M') ∧ (nI c = a3 → Q (M' 227 j + 1) M') := fun hf => by
          rw [if_neg hf] at hw
          have hjB : j < B := by
            rcases Nat.lt_or_ge j B with z | z
            · exact z
            · have : j = B := by omega
              subst this
              exact absurd ⟨by omega, ct_B (by omega)⟩ hf
          refine ⟨vp_in_nI (by omega) (by decide), fun q3 => ?_, fun q3 => ?_⟩
          · rw [if_neg q3] at hw
            exact go _ _ (by omega) (by omega) (by omega) hw
          · rw [if_pos q3] at hw
            rw [b3 j hjB, hw]
            exact hQ
        refine ⟨fun q => second (fun h => ?_), fun q => ?_⟩
        · rw [nI_leI (by omega) (by omega)] at q
          omega
        · rw [nI_leI (by omega) (by omega)] at q
          have t10 := b4 (i + 1) j (by omega) (by omega)
          have b5 := ct_b (D := D) (A := A) (B := B) (u := A - (i + 1)) (w := B - j) (by omega) (by omega) hg20
          rw [t10, nI_add, nI_eq (by omega) (by omega)]
          refine ⟨vp_in_nI (by omega) (by decide), fun q2 => second (fun h => q2 h.2.symm), fun q2 => ?_⟩
          rw [if_pos ⟨by omega, q2.symm⟩] at hw
          refine ⟨vp_in_nI (by omega) (by decide), fun q3 => ?_, fun q3 => ?_⟩
          · rw [if_neg q3] at hw
            exact go _ _ (by omega) (by omega) (by omega) hw
          · rw [if_pos q3] at hw
            rw [b2 i (by omega), hw]
            exact hQ
      refine ⟨vp_in_nI (by omega) (by decide), fun q => sec (fun h => ?_), fun q => ⟨fun q2 => sec (fun h => ?_), fun q2 => ?_⟩⟩
      · rw [nI_leI (by omega) (by omega)] at q
        omega
      · rw [nI_leI (by omega) (by omega)] at q2
        omega
      · rw [nI_leI (by omega) (by omega)] at q q2
        have t11 := b4 (i + 1) (j + 1) (by omega) (by omega)
        have b5 := ct_b (D := D) (A := A) (B := B) (u := A - (i + 1)) (w := B - (j + 1)) (by omega) (by omega) hg20
        have b6 : D i j ≤ 12 := by rw [hD]; exact dfF_le
        rw [b2 i (by omega), b3 j (by omega)]
        refine ⟨vp_in_nI (by omega) (by decide), vp_in_nI (by omega) (by decide), m_diff (by rw [b1 195 (by decide) (by decide) (by decide), b1 196 (by decide) (by decide) (by decide), r195, r196]; exact (Sn_I1 h1).2) (l1 i) (l2 j) ?_⟩
        rw [b1 195 (by decide) (by decide) (by decide), b1 196 (by decide) (by decide) (by decide), r195, r196, dfF_eq h1 (l1 i) (l2 j), show dfF (M 2) (M 3) (fa i) (fb j) = D i j by rw [hD]]
        refine ⟨vp_in_nI (by omega) (by decide), fun q3 => by rw [cg]; exact sec (fun h => q3 (by rw [t11, nI_add, h.2.2])), fun q3 => ?_⟩
        rw [t11, nI_add, nI_eq (by omega) (by omega)] at q3
        rw [if_pos ⟨by omega, by omega, q3.symm⟩] at hw
        refine ⟨fun q4 => ?_, fun q4 => ?_⟩
        · rw [if_neg q4] at hw
          exact go _ _ (by omega) (by omega) (by omega) hw
        · rw [if_pos q4] at hw
          rw [b2 i (by omega), b3 j (by omega), Int32.add_assoc, hw]
          exact hQ
    · rw [nI_ltI (by omega) (by omega)] at q1
      rw [nI_leI (by omega) (by omega)] at q2
      rw [if_pos ⟨by omega, by omega⟩] at hw
      rw [← hw] at hQ
      exact ⟨fun q => by rw [if_neg q] at hQ; exact hQ, fun q => by rw [if_pos q] at hQ; exact hQ⟩
