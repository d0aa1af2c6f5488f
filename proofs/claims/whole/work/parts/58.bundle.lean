noncomputable def bcn (M : Mem) (p q : Nat) : Nat → Nat
  | 0 => 0
  | m + 1 => @ite Nat (mo M p q m) (Classical.propDecidable _) (bcn M p q m + 1) (bcn M p q m)
theorem mo_sd {M : Mem} {p q m : Nat} (h : mo M p q m) : sd2 M p q m := by
  obtain ⟨f1, f2, a, b, c, d, -⟩ := h
  exact ⟨f1, f2, a, b, c, d⟩
theorem st_bundle {M : Mem} (hI : Inv M) (a1 a2 : Int32) : wX10_bundle a1 a2 M (fun r M1 => wX11_bundle a1 a2 M1 (fun r' M2 => r = r' ∧ Inv M2)) := by
  have h0 := hI.1
  have hP8 := h0.1.2.1
  have c15 := h0.1.1
  have c11 : M 49 11 = nI (cP M) := h0.1.2.2.trans h0.1.1
  have ef : M 49 0 = M 0 19 := h0.2.2.2.2.2.2
  have eX : ∀ a Q, wX10_isPlace a M Q = Q (bI (vp_in a (cP M))) M := fun a Q => e_isPlaceN c15 (by omega)
  have eM : ∀ a M1 Q, M1 49 11 = M 49 11 → wX11_isPlace a M1 Q = Q (bI (vp_in a (cP M))) M1 := fun a M1 Q h => m_isPlaceN (h.trans c11) (by omega)
  by_cases q1 : vp_in a1 (cP M)
  · by_cases q2 : vp_in a2 (cP M)
    · by_cases q3 : a1 = a2
      · simp only [wX10_bundle, wX11_bundle, eX, bI_t q1, bI_t q2, i10, i01, bI_0, bI_1, isB_bI, Classical.not_not, not_false_eq_true, not_true_eq_false, true_implies, false_implies, and_true, true_and, and_self, forall_eq, ne_eq, q3]
        rw [eM _ _ _ rfl]
        simp only [bI_t q2, i10, i01, bI_0, bI_1, isB_bI, Classical.not_not, not_false_eq_true, not_true_eq_false, true_implies, false_implies, and_true, true_and, and_self, forall_eq, ne_eq]
        rw [eM _ _ _ rfl]
        simp only [bI_t q2, i10, i01, bI_0, bI_1, isB_bI, Classical.not_not, not_false_eq_true, not_true_eq_false, true_implies, false_implies, and_true, true_and, and_self, forall_eq, ne_eq]
        exact hI
      · obtain ⟨p, hp, e1, -⟩ := vp_nI q1 (by omega)
        obtain ⟨q, hq, e2, -⟩ := vp_nI q2 (by omega)
        simp only [wX10_bundle, eX, bI_t q1, bI_t q2, i10, i01, bI_0, bI_1, isB_bI, Classical.not_not, not_false_eq_true, not_true_eq_false, true_implies, false_implies, and_true, true_and, and_self, forall_eq, ne_eq, q3]
        refine ⟨7, lq2_ind (fun d x y M' => (∀ r, r ≠ 14 → M' r = M r) ∧ d ≤ 6 ∧ x = nI (bcn M p q (6 - d)) ∧ y = nI (6 - d)) ?_ ?_ 6 0 0 M ⟨fun _ _ => rfl, by omega, rfl, rfl⟩⟩
        · rintro R x y M1 ⟨b1, -, rfl, rfl⟩
          refine ⟨fun _ => ?_, fun z => absurd (by decide) z⟩
          simp only [wX11_bundle]
          rw [eM _ _ _ (by rw [b1 49 (by decide)])]
          simp only [bI_t q1, i10, i01, bI_0, bI_1, isB_bI, Classical.not_not, not_false_eq_true, not_true_eq_false, true_implies, false_implies, and_true, true_and, and_self, forall_eq, ne_eq]
          rw [eM _ _ _ (by rw [b1 49 (by decide)])]
          simp only [bI_t q2, i10, i01, bI_0, bI_1, isB_bI, Classical.not_not, not_false_eq_true, not_true_eq_false, true_implies, false_implies, and_true, true_and, and_self, forall_eq, ne_eq, q3]
          refine ⟨7, lq2_ind (fun d x y M' => (∀ r, r ≠ 14 → r ≠ 225 → r ≠ 226 → r ≠ 227 → M' r = M r) ∧ d ≤ 6 ∧ x = nI (bcn M p q (6 - d)) ∧ y = nI (6 - d)) ?_ ?_ 6 0 0 M1 ⟨fun r w _ _ _ => b1 r w, by omega, rfl, rfl⟩⟩
          · rintro R x y M2 ⟨gg, -, rfl, rfl⟩
            refine ⟨fun _ => ⟨rfl, ?_⟩, fun z => absurd (by decide) z⟩
            exact hI.scr (fun i hi => gg i (fun z => hi (by rw [z]; decide)) (fun z => hi (by rw [z]; decide)) (fun z => hi (by rw [z]; decide)) (fun z => hi (by rw [z]; decide))) (fun k _ => by rw [gg 0 (by decide) (by decide) (by decide) (by decide)]) (fun k _ => by rw [gg 49 (by decide) (by decide) (by decide) (by decide)]) (by rw [gg 0 (by decide) (by decide) (by decide) (by decide), gg 49 (by decide) (by decide) (by decide) (by decide), ef])
          · rintro d R x y M2 ⟨gg, hd, rfl, rfl⟩ hR
            obtain ⟨m, hm⟩ : ∃ m, m = 6 - (d + 1) := ⟨_, rfl⟩
            rw [← hm]
            refine ⟨fun z => absurd z (nI_ge (b := 6) (by omega) (by decide)), fun _ => ?_⟩
            rw [e1, e2]
            refine m_areSaid hI gg ?_
            have go : ∀ M3 x', (∀ r, r ≠ 14 → r ≠ 225 → r ≠ 226 → r ≠ 227 → M3 r = M r) → x' = nI (bcn M p q (m + 1)) → R x' (nI m + 1) M3 := fun M3 x' g1 g2 => hR _ _ _ ⟨g1, by omega, by rw [g2, show 6 - d = m + 1 by omega], by rw [nI_1, show 6 - d = m + 1 by omega]⟩
            simp only [jn0, jn1, jn2, jn3]
            by_cases hs : sd2 M p q m
            · rw [bI_t hs]
              refine ⟨fun z => absurd z (by decide), fun _ => m_areLike hI gg (fun M3 g3 => ?_)⟩
              by_cases hmo : mo M p q m
              · rw [bI_f (fun y => y.2 hmo)]
                exact ⟨fun z => absurd rfl z, fun _ => go _ _ g3 (by rw [bcn, if_pos hmo, nI_1])⟩
              · rw [bI_t ⟨hs, hmo⟩]
                exact ⟨fun _ => go _ _ g3 (by rw [bcn, if_neg hmo, Int32.add_zero]), fun z => absurd z (by decide)⟩
            · rw [bI_f hs]
              exact ⟨fun _ => go _ _ gg (by rw [bcn, if_neg (fun y => hs (mo_sd y)), Int32.add_zero]), fun z => absurd rfl z⟩
        · rintro d R x y M1 ⟨b1, hd, rfl, rfl⟩ hR
          obtain ⟨m, hm⟩ : ∃ m, m = 6 - (d + 1) := ⟨_, rfl⟩
          rw [← hm]
          refine ⟨fun z => absurd z (nI_ge (b := 6) (by omega) (by decide)), fun _ => ?_⟩
          rw [e1, e2]
          refine e_between hI (by omega) (by omega) (by omega) b1 (fun M3 v g1 g2 => ?_)
          rw [g1 13 (by decide)]
          refine ⟨fun z => hR _ _ _ ⟨g1, by omega, ?_, by rw [nI_1, show 6 - d = m + 1 by omega]⟩, fun z => hR _ _ _ ⟨g1, by omega, ?_, by rw [nI_1, show 6 - d = m + 1 by omega]⟩⟩
          · rw [show 6 - d = m + 1 by omega, bcn, if_neg (fun y => absurd (g2.mpr y) (Int32.not_lt.mpr z))]
          · rw [show 6 - d = m + 1 by omega, bcn, if_pos (g2.mp (Int32.not_le.mp z)), nI_1]
    · simp only [wX10_bundle, wX11_bundle, eX, bI_t q1, bI_f q2, i10, i01, bI_0, bI_1, isB_bI, Classical.not_not, not_false_eq_true, not_true_eq_false, true_implies, false_implies, and_true, true_and, and_self, forall_eq, ne_eq]
      rw [eM _ _ _ rfl]
      simp only [bI_t q1, i10, i01, bI_0, bI_1, isB_bI, Classical.not_not, not_false_eq_true, not_true_eq_false, true_implies, false_implies, and_true, true_and, and_self, forall_eq, ne_eq]
      rw [eM _ _ _ rfl]
      simp only [bI_f q2, i10, i01, bI_0, bI_1, isB_bI, Classical.not_not, not_false_eq_true, not_true_eq_false, true_implies, false_implies, and_true, true_and, and_self, forall_eq, ne_eq]
      exact hI
  · simp only [wX10_bundle, wX11_bundle, eX, bI_f q1, i10, i01, bI_0, bI_1, isB_bI, Classical.not_not, not_false_eq_true, not_true_eq_false, true_implies, false_implies, and_true, true_and, and_self, forall_eq, ne_eq]
    rw [eM _ _ _ rfl]
    simp only [bI_f q1, i10, i01, bI_0, bI_1, isB_bI, Classical.not_not, not_false_eq_true, not_true_eq_false, true_implies, false_implies, and_true, true_and, and_self, forall_eq, ne_eq]
    exact hI
