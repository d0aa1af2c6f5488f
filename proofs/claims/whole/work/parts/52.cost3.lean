theorem I4.row {M : Mem} (h4 : I4 M) {f : Nat} (hf : f < cF M) : ∃ (n : Nat) (fa : Nat → Nat), n ≤ 8 ∧ (∀ k, fa k < 16) ∧ M (50 + f) 1 = nI n ∧ M 207 f = nI n ∧ ∀ k, k < n → M (100 + f) k = nI (fa k) ∧ M 208 (8 * f + k) = nI (fa k) := by
  obtain ⟨-, -, -, n, h8, h1, h2, h3⟩ := h4 f hf
  refine ⟨n, fun k => (M (100 + f) k).toNatClampNeg % 16, h8, fun k => Nat.mod_lt _ (by decide), h1, h2, fun k hk => ?_⟩
  obtain ⟨h5, s, hs, h6⟩ := h3 k hk
  show M (100 + f) k = nI ((M (100 + f) k).toNatClampNeg % 16) ∧ M 208 (8 * f + k) = nI ((M (100 + f) k).toNatClampNeg % 16)
  rw [h5, h6, nI_clamp (by omega), Nat.mod_eq_of_lt hs]
  exact ⟨rfl, rfl⟩
theorem dfF_eq {M : Mem} (h : I1 M) {x y : Nat} (hx : x < 16) (hy : y < 16) : dfF (M 195) (M 196) x y = dfF (M 2) (M 3) x y := by
  unfold dfF
  rw [(h x hx).1, (h x hx).2.1, (h y hy).1, (h y hy).2.1]
theorem m_takeForms {Mx : Mem} {f1 f2 A B : Nat} {Q : Mem → Prop} (h1 : f1 < 40) (h2 : f2 < 40) (hA : Mx 207 f1 = nI A) (hB : Mx 207 f2 = nI B) (hA8 : A ≤ 8) (hB8 : B ≤ 8)
    (hQ : ∀ M', (∀ r, r ≠ 226 → r ≠ 227 → M' r = Mx r) → (∀ k, k < A → M' 226 k = Mx 208 (8 * f1 + k)) → (∀ k, k < B → M' 227 k = Mx 208 (8 * f2 + k)) → Q M') : wX11_takeForms (nI f1) (nI f2) Mx Q := by
  unfold wX11_takeForms
  refine ⟨A + 1, lq1_ind (fun d x M' => d ≤ A ∧ x = nI (A - d) ∧ (∀ r, r ≠ 226 → M' r = Mx r) ∧ ∀ k, k < A - d → M' 226 k = Mx 208 (8 * f1 + k)) ?_ ?_ A 0 Mx ⟨Nat.le_refl _, by rw [Nat.sub_self, nI_0], fun _ _ => rfl, fun k hk => by omega⟩⟩
  · rintro R x M' ⟨-, rfl, g1, g2⟩
    rw [Nat.sub_zero] at g2 ⊢
    rw [nI_clamp (by omega), nI_clamp (by omega), g1 207 (by decide), hA]
    refine ⟨vp_in_nI h1 (by decide), fun _ => ?_, fun q => absurd (Int32.le_refl _) q⟩
    refine ⟨B + 1, lq1_ind (fun d x M2 => d ≤ B ∧ x = nI (B - d) ∧ (∀ r, r ≠ 227 → M2 r = M' r) ∧ ∀ k, k < B - d → M2 227 k = Mx 208 (8 * f2 + k)) ?_ ?_ B 0 M' ⟨Nat.le_refl _, by rw [Nat.sub_self, nI_0], fun _ _ => rfl, fun k hk => by omega⟩⟩
    · rintro R x M2 ⟨-, rfl, g3, g4⟩
      rw [Nat.sub_zero] at g4 ⊢
      rw [g3 207 (by decide), g1 207 (by decide), hB]
      exact ⟨vp_in_nI h2 (by decide), fun _ => hQ M2 (fun r w1 w2 => by rw [g3 r w2, g1 r w1]) (fun k hk => by rw [g3 226 (by decide), g2 k hk]) g4, fun q => absurd (Int32.le_refl _) q⟩
    · rintro d R x M2 ⟨hd, rfl, g3, g4⟩ hR
      obtain ⟨k, hk0⟩ : ∃ k, k = B - (d + 1) := ⟨_, rfl⟩
      rw [← hk0] at g4 ⊢
      have i2 : (8 : Int32) * nI f2 + nI k = nI (8 * f2 + k) := by rw [show (8 : Int32) = nI 8 by decide, pk_mul, nI_add]
      rw [g3 207 (by decide), g1 207 (by decide), hB, i2, nI_clamp (by omega), nI_clamp (by omega), g3 208 (by decide), g1 208 (by decide)]
      refine ⟨vp_in_nI h2 (by decide), fun q => absurd q (nI_ge (by omega) (by omega)), fun _ => ⟨vp_in_nI (by omega) (by decide), vp_in_nI (by omega) (by decide), fun N hN => hR _ _ ⟨by omega, by rw [nI_1]; congr 1; omega, fun r hr => by rw [hN, mset_row hr, g3 r hr], fun j hj => ?_⟩⟩⟩
      by_cases w : j = k
      · rw [hN, w, mset_eq]
      · rw [hN, mset_ne (by omega)]; exact g4 j (by omega)
  · rintro d R x M2 ⟨hd, rfl, g3, g4⟩ hR
    obtain ⟨k, hk0⟩ : ∃ k, k = A - (d + 1) := ⟨_, rfl⟩
    rw [← hk0] at g4 ⊢
    have i2 : (8 : Int32) * nI f1 + nI k = nI (8 * f1 + k) := by rw [show (8 : Int32) = nI 8 by decide, pk_mul, nI_add]
    rw [i2, nI_clamp (n := f1) (by omega), nI_clamp (n := k) (by omega), nI_clamp (n := 8 * f1 + k) (by omega), g3 207 (by decide), hA, g3 208 (by decide)]
    refine ⟨vp_in_nI h1 (by decide), fun q => absurd q (nI_ge (by omega) (by omega)), fun _ => ⟨vp_in_nI (by omega) (by decide), vp_in_nI (by omega) (by decide), fun N hN => hR _ _ ⟨by omega, by rw [nI_1]; congr 1; omega, fun r hr => by rw [hN, mset_row hr, g3 r hr], fun j hj => ?_⟩⟩⟩
    by_cases w : j = k
    · rw [hN, w, mset_eq]
    · rw [hN, mset_ne (by omega)]; exact g4 j (by omega)
/-- the reference's cost of two forms, its table left behind -/
theorem m_costOf {M Mx : Mem} (h1 : I1 M) {f1 f2 A B g : Nat} {fa fb : Nat → Nat} {Q : Int32 → Mem → Prop} (hf1 : f1 < 40) (hf2 : f2 < 40) (r195 : Mx 195 = M 195) (r196 : Mx 196 = M 196) (hA : Mx 207 f1 = nI A) (hB : Mx 207 f2 = nI B) (hA8 : A ≤ 8) (hB8 : B ≤ 8) (hg : Mx 49 34 = nI g) (hg20 : g ≤ 20) (l1 : ∀ k, fa k < 16) (l2 : ∀ k, fb k < 16) (sa : ∀ k, k < A → Mx 208 (8 * f1 + k) = nI (fa k)) (sb : ∀ k, k < B → Mx 208 (8 * f2 + k) = nI (fb k))
    (hQ : ∀ M', (∀ r, r ≠ 225 → r ≠ 226 → r ≠ 227 → M' r = Mx r) → (∀ k, k < A → M' 226 k = nI (fa k)) → (∀ k, k < B → M' 227 k = nI (fb k)) → (∀ i j, i ≤ A → j ≤ B → M' 225 (9 * i + j) = nI (ctR (fun i j => dfF (M 2) (M 3) (fa i) (fb j)) g A B (A - i) (B - j))) → Q (nI (ctR (fun i j => dfF (M 2) (M 3) (fa i) (fb j)) g A B A B)) M') : wX11_costOf (nI f1) (nI f2) Mx Q := by
  unfold wX11_costOf
  refine m_takeForms hf1 hf2 hA hB hA8 hB8 (fun M2 g1 g2 g3 => ?_)
  rw [nI_clamp (by omega), nI_clamp (by omega), g1 207 (by decide) (by decide), hA, hB]
  have eD : (fun i j => dfF (M2 195) (M2 196) (fa i) (fb j)) = fun i j => dfF (M 2) (M 3) (fa i) (fb j) := by
    funext i j
    rw [g1 195 (by decide) (by decide), g1 196 (by decide) (by decide), r195, r196, dfF_eq h1 (l1 i) (l2 j)]
  refine ⟨vp_in_nI hf1 (by decide), vp_in_nI hf2 (by decide), m_least (fa := fa) (fb := fb) hA8 hB8 (by rw [g1 49 (by decide) (by decide)]; exact hg) hg20 (by rw [g1 195 (by decide) (by decide), g1 196 (by decide) (by decide), r195, r196]; exact (Sn_I1 h1).2) (fun k hk => ⟨by rw [g2 k hk, sa k hk], l1 k⟩) (fun k hk => ⟨by rw [g3 k hk, sb k hk], l2 k⟩) (fun M3 b1 b2 => ?_)⟩
  rw [eD] at b2 ⊢
  exact hQ M3 (fun r w1 w2 w3 => by rw [b1 r w1, g1 r w2 w3]) (fun k hk => by rw [b1 226 (by decide), g2 k hk, sa k hk]) (fun k hk => by rw [b1 227 (by decide), g3 k hk, sb k hk]) b2
theorem st_cost {M : Mem} (hI : Inv M) (a1 a2 : Int32) : wX10_cost a1 a2 M (fun r M1 => wX11_cost a1 a2 M1 (fun r' M2 => r = r' ∧ Inv M2)) := by
  have h0 := hI.1
  have hF40 := h0.2.1.2.1
  have c16 := h0.2.1.1
  have c13 : M 49 13 = nI (cF M) := h0.2.1.2.2.trans h0.2.1.1
  have ef : M 49 0 = M 0 19 := h0.2.2.2.2.2.2
  have eX : ∀ a Q, wX10_isForm a M Q = Q (bI (vp_in a (cF M))) M := fun a Q => e_isFormN c16 (by omega)
  have eM : ∀ a M1 Q, M1 49 13 = M 49 13 → wX11_isForm a M1 Q = Q (bI (vp_in a (cF M))) M1 := fun a M1 Q h => m_isFormN (h.trans c13) (by omega)
  by_cases q1 : vp_in a1 (cF M)
  · by_cases q2 : vp_in a2 (cF M)
    · obtain ⟨f1, hf1, e1, -⟩ := vp_nI q1 (by omega)
      obtain ⟨f2, hf2, e2, -⟩ := vp_nI q2 (by omega)
      obtain ⟨A, fa, hA8, l1, hA, mA, sA⟩ := hI.2.2.2.2.1.row hf1
      obtain ⟨B, fb, hB8, l2, hB, mB, sB'⟩ := hI.2.2.2.2.1.row hf2
      obtain ⟨g, hg1, hg⟩ : ∃ g : Nat, g ≤ 20 ∧ M 13 2 = nI g := by
        obtain ⟨-, -, -, ⟨-, w1, w2⟩, -⟩ := h0
        obtain ⟨g, b1, b2⟩ := nI_of2 (x := M 13 2) (M := 20) (n := 20) (by decide) (Int32.not_lt.mpr (Int32.le_trans (by decide) w1)) w2
        exact ⟨g, b1, b2⟩
      have mg : M 49 34 = nI g := h0.2.2.2.1.1.trans hg
      simp only [wX10_cost, eX, bI_t q1, bI_t q2, i10, i01, bI_0, bI_1, isB_bI, Classical.not_not, not_false_eq_true, not_true_eq_false, true_implies, false_implies, and_true, true_and, and_self, forall_eq, ne_eq]
      rw [e1, e2, nI_clamp (by omega), nI_clamp (by omega), show 150 + f1 - 100 = 50 + f1 by omega, show 150 + f2 - 100 = 50 + f2 by omega]
      refine ⟨vp_in_nI (by omega) (by decide), vp_in_nI (by omega) (by decide), e_least (fa := fa) (fb := fb) ⟨by omega, by omega⟩ ⟨by omega, by omega⟩ hA hB hA8 hB8 hg hg1 (Sn_I1 hI.2.1).1 (fun k hk => ⟨by rw [show 50 + f1 + 50 = 100 + f1 by omega]; exact (sA k hk).1, l1 k⟩) (fun k hk => ⟨by rw [show 50 + f2 + 50 = 100 + f2 by omega]; exact (sB' k hk).1, l2 k⟩) (fun M1 b1 b2 => ?_)⟩
      rw [← e1, ← e2]
      simp only [wX11_cost]
      rw [eM _ _ _ (by rw [b1 49 (by decide)])]
      simp only [bI_t q1, i10, i01, bI_0, bI_1, isB_bI, Classical.not_not, not_false_eq_true, not_true_eq_false, true_implies, false_implies, and_true, true_and, and_self, forall_eq, ne_eq]
      rw [eM _ _ _ (by rw [b1 49 (by decide)])]
      simp only [bI_t q2, i10, i01, bI_0, bI_1, isB_bI, Classical.not_not, not_false_eq_true, not_true_eq_false, true_implies, false_implies, and_true, true_and, and_self, forall_eq, ne_eq]
      rw [e1, e2]
      refine m_costOf (fa := fa) (fb := fb) hI.2.1 (by omega) (by omega) (b1 195 (by decide)) (b1 196 (by decide)) (by rw [b1 207 (by decide)]; exact mA) (by rw [b1 207 (by decide)]; exact mB) hA8 hB8 (by rw [b1 49 (by decide)]; exact mg) hg1 l1 l2 (fun k hk => by rw [b1 208 (by decide)]; exact (sA k hk).2) (fun k hk => by rw [b1 208 (by decide)]; exact (sB' k hk).2) (fun M2 g1 g2 g3 g4 => ⟨rfl, ?_⟩)
      have gg : ∀ r, r ≠ 14 → r ≠ 225 → r ≠ 226 → r ≠ 227 → M2 r = M r := fun r w1 w2 w3 w4 => by rw [g1 r w2 w3 w4, b1 r w1]
      exact hI.scr (fun i hi => gg i (fun z => hi (by rw [z]; decide)) (fun z => hi (by rw [z]; decide)) (fun z => hi (by rw [z]; decide)) (fun z => hi (by rw [z]; decide))) (fun k _ => by rw [gg 0 (by decide) (by decide) (by decide) (by decide)]) (fun k _ => by rw [gg 49 (by decide) (by decide) (by decide) (by decide)]) (by rw [gg 0 (by decide) (by decide) (by decide) (by decide), gg 49 (by decide) (by decide) (by decide) (by decide), ef])
    · simp only [wX10_cost, wX11_cost, eX, bI_t q1, bI_f q2, i10, i01, bI_0, bI_1, isB_bI, Classical.not_not, not_false_eq_true, not_true_eq_false, true_implies, false_implies, and_true, true_and, and_self, forall_eq, ne_eq]
      rw [eM _ _ _ rfl]
      simp only [bI_t q1, i10, i01, bI_0, bI_1, isB_bI, Classical.not_not, not_false_eq_true, not_true_eq_false, true_implies, false_implies, and_true, true_and, and_self, forall_eq, ne_eq]
      rw [eM _ _ _ rfl]
      simp only [bI_f q2, i10, i01, bI_0, bI_1, isB_bI, Classical.not_not, not_false_eq_true, not_true_eq_false, true_implies, false_implies, and_true, true_and, and_self, forall_eq, ne_eq]
      exact hI
  · simp only [wX10_cost, wX11_cost, eX, bI_f q1, i10, i01, bI_0, bI_1, isB_bI, Classical.not_not, not_false_eq_true, not_true_eq_false, true_implies, false_implies, and_true, true_and, and_self, forall_eq, ne_eq]
    rw [eM _ _ _ rfl]
    simp only [bI_f q1, i10, i01, bI_0, bI_1, isB_bI, Classical.not_not, not_false_eq_true, not_true_eq_false, true_implies, false_implies, and_true, true_and, and_self, forall_eq, ne_eq]
    exact hI
