noncomputable def bIn (M : Mem) (m p : Nat) (a2 : Int32) : Nat → Nat → Nat → Int32 ⊕ Nat
  | 0, _, x => .inr x
  | d + 1, q, x => @ite _ (hb (M 5 p) (nI q) ∧ mo M p q m) (Classical.propDecidable _) (if nI x = a2 then .inl (10 * nI p + nI q) else bIn M m p a2 d (q + 1) (x + 1)) (bIn M m p a2 d (q + 1) x)
noncomputable def bOut (M : Mem) (m P : Nat) (a2 : Int32) : Nat → Nat → Nat → Int32
  | 0, _, x => if a2 = -1 then nI x else -9
  | d + 1, p, x => match bIn M m p a2 (P - (p + 1)) (p + 1) x with
    | .inl v => v
    | .inr x' => bOut M m P a2 d (p + 1) x'
theorem st_border {M : Mem} (hI : Inv M) (a1 a2 : Int32) : wX10_border a1 a2 M (fun r M1 => wX11_border a1 a2 M1 (fun r' M2 => r = r' ∧ Inv M2)) := by
  have h0 := hI.1
  have hP8 := h0.1.2.1
  have c15 := h0.1.1
  have c11 : M 49 11 = nI (cP M) := h0.1.2.2.trans h0.1.1
  have ef : M 49 0 = M 0 19 := h0.2.2.2.2.2.2
  obtain ⟨P, hP⟩ : ∃ P, P = cP M := ⟨_, rfl⟩
  rw [← hP] at c15 c11 hP8
  have n5 : ∀ p, p < 8 → M 202 p = M 5 p := by
    obtain ⟨nb, h, -⟩ := hI.2.2.2.1
    exact fun p hp => (h p hp).2.2
  by_cases q1 : vp_in a1 6
  · by_cases w3 : ¬ a2 < -1 ∧ ¬ 27 < a2
    · obtain ⟨m, hm, e1, -⟩ := vp_nI q1 (by decide)
      simp only [wX10_border, e_b16, e_b6, e_b4, e_b3, e_w2, e_isMeaning, e_isIn, q1, i10, i01, bI_0, bI_1, isB_bI, Classical.not_not, not_false_eq_true, not_true_eq_false, true_implies, false_implies, and_true, true_and, and_self, forall_eq, ne_eq, e_isWithin, bI_t w3, w3.1, w3.2]
      have key : ∀ M1, (∀ r, r ≠ 14 → M1 r = M r) → wX11_border a1 a2 M1 (fun r' M2 => bOut M m P a2 P 0 0 = r' ∧ Inv M2) := fun M1 b1 => by
        simp only [wX11_border, e_m15, e_m5, e_m3, e_m2, e_m63, m_isMeaning, m_isSound, m_isSheet, m_isLane, m_isCollector, e_has, q1, i10, i01, bI_0, bI_1, isB_bI, Classical.not_not, not_false_eq_true, not_true_eq_false, true_implies, false_implies, and_true, true_and, and_self, forall_eq, ne_eq, e_within, bI_t w3, w3.1, w3.2]
        have fin : ∀ M2 : Mem, (∀ r, r ≠ 14 → r ≠ 225 → r ≠ 226 → r ≠ 227 → M2 r = M r) → Inv M2 := fun M2 gg => hI.scr (fun i hi => gg i (fun z => hi (by rw [z]; decide)) (fun z => hi (by rw [z]; decide)) (fun z => hi (by rw [z]; decide)) (fun z => hi (by rw [z]; decide))) (fun k _ => by rw [gg 0 (by decide) (by decide) (by decide) (by decide)]) (fun k _ => by rw [gg 49 (by decide) (by decide) (by decide) (by decide)]) (by rw [gg 0 (by decide) (by decide) (by decide) (by decide), gg 49 (by decide) (by decide) (by decide) (by decide), ef])
        refine ⟨P + 1, lq2_ind (fun d x y M' => ∃ xx, (∀ r, r ≠ 14 → r ≠ 225 → r ≠ 226 → r ≠ 227 → M' r = M r) ∧ d ≤ P ∧ x = nI xx ∧ y = nI (P - d) ∧ bOut M m P a2 d (P - d) xx = bOut M m P a2 P 0 0) ?_ ?_ P 0 0 M1 ⟨0, fun r w _ _ _ => b1 r w, by omega, rfl, by rw [Nat.sub_self]; rfl, by rw [Nat.sub_self]⟩⟩
        · rintro R x y M2 ⟨xx, gg, -, rfl, rfl, hb⟩
          rw [gg 49 (by decide) (by decide) (by decide) (by decide), c11, Nat.sub_zero]
          rw [bOut] at hb
          refine ⟨fun _ => ⟨fun z => ⟨?_, fin M2 gg⟩, fun z => ⟨?_, fin M2 gg⟩⟩, fun z => absurd (Int32.le_refl _) z⟩
          · rw [← hb, if_neg z]
          · rw [← hb, if_pos z]
        · rintro d R x y M2 ⟨xx, gg, hd, rfl, rfl, hb⟩ hR
          obtain ⟨p, hp⟩ : ∃ p, p = P - (d + 1) := ⟨_, rfl⟩
          rw [← hp] at hb ⊢
          rw [gg 49 (by decide) (by decide) (by decide) (by decide), c11]
          refine ⟨fun z => absurd z (nI_ge (by omega) (by omega)), fun _ => ?_⟩
          rw [nI_1]
          refine ⟨P - (p + 1) + 1, lq2_ind (fun e x y M' => ∃ xx', (∀ r, r ≠ 14 → r ≠ 225 → r ≠ 226 → r ≠ 227 → M' r = M r) ∧ e ≤ P - (p + 1) ∧ x = nI xx' ∧ y = nI (P - e) ∧ bIn M m p a2 e (P - e) xx' = bIn M m p a2 (P - (p + 1)) (p + 1) xx) ?_ ?_ (P - (p + 1)) _ _ M2 ⟨xx, gg, by omega, rfl, by rw [show P - (P - (p + 1)) = p + 1 by omega], by rw [show P - (P - (p + 1)) = p + 1 by omega]⟩⟩
          · rintro R2 x y M3 ⟨x2, g3, -, rfl, rfl, hi⟩
            rw [g3 49 (by decide) (by decide) (by decide) (by decide), c11, Nat.sub_zero]
            rw [bOut, ← hi, bIn] at hb
            exact ⟨fun _ => hR _ _ _ ⟨x2, g3, by omega, rfl, by rw [show P - d = p + 1 by omega], by rw [show P - d = p + 1 by omega]; exact hb⟩, fun z => absurd (Int32.le_refl _) z⟩
          · rintro e R2 x y M3 ⟨x2, g3, he, rfl, rfl, hi⟩ hR2
            obtain ⟨q, hq⟩ : ∃ q, q = P - (e + 1) := ⟨_, rfl⟩
            rw [← hq] at hi ⊢
            rw [g3 49 (by decide) (by decide) (by decide) (by decide), c11, g3 202 (by decide) (by decide) (by decide) (by decide), nI_clamp (by omega), n5 p (by omega)]
            rw [bIn] at hi
            have go : ∀ M4 x3, (∀ r, r ≠ 14 → r ≠ 225 → r ≠ 226 → r ≠ 227 → M4 r = M r) → bIn M m p a2 e (q + 1) x3 = bIn M m p a2 (P - (p + 1)) (p + 1) xx → R2 (nI x3) (nI q + 1) M4 := fun M4 x3 g1 g2 => hR2 _ _ _ ⟨x3, g1, by omega, rfl, by rw [nI_1, show P - e = q + 1 by omega], by rw [show P - e = q + 1 by omega]; exact g2⟩
            refine ⟨fun z => absurd z (nI_ge (by omega) (by omega)), fun _ => ⟨vp_in_nI (by omega) (by decide), fun z => ?_, fun z => ?_⟩⟩
            · rw [if_neg (fun y => z y.1)] at hi
              exact go _ _ g3 hi
            · rw [e1]
              refine m_areSaid hI g3 ⟨fun z2 => ?_, fun z2 => m_areLike hI g3 (fun M4 g4 => ⟨fun z3 => ?_, fun z3 => ?_⟩)⟩
              · rw [bI_0] at z2
                rw [if_neg (fun y => z2 (mo_sd y.2))] at hi
                exact go _ _ g3 hi
              · rw [bI_0, Classical.not_not] at z3
                rw [if_neg (fun y => z3.2 y.2)] at hi
                exact go _ _ g4 hi
              · rw [bI_0] at z2 z3
                have hmo : mo M p q m := Classical.byContradiction fun y => z3 ⟨Classical.not_not.mp z2, y⟩
                rw [if_pos ⟨z, hmo⟩] at hi
                refine ⟨fun z4 => ?_, fun z4 => ⟨?_, fin M4 g4⟩⟩
                · rw [if_neg z4] at hi
                  rw [nI_1]
                  exact go _ _ g4 hi
                · rw [if_pos z4] at hi
                  rw [bOut, ← hi] at hb
                  exact hb.symm
      refine ⟨P + 1, lq2_ind (fun d x y M' => ∃ xx, (∀ r, r ≠ 14 → M' r = M r) ∧ d ≤ P ∧ x = nI xx ∧ y = nI (P - d) ∧ bOut M m P a2 d (P - d) xx = bOut M m P a2 P 0 0) ?_ ?_ P 0 0 M ⟨0, fun r w => rfl, by omega, rfl, by rw [Nat.sub_self]; rfl, by rw [Nat.sub_self]⟩⟩
      · rintro R x y M2 ⟨xx, gg, -, rfl, rfl, hb⟩
        have k := key M2 gg
        rw [gg 0 (by decide), c15, Nat.sub_zero]
        rw [bOut] at hb
        refine ⟨fun _ => ⟨fun z => ?_, fun z => ?_⟩, fun z => absurd (Int32.le_refl _) z⟩
        · rw [if_neg z] at hb; rw [hb]; exact k
        · rw [if_pos z] at hb; rw [hb]; exact k
      · rintro d R x y M2 ⟨xx, gg, hd, rfl, rfl, hb⟩ hR
        obtain ⟨p, hp⟩ : ∃ p, p = P - (d + 1) := ⟨_, rfl⟩
        rw [← hp] at hb ⊢
        rw [gg 0 (by decide), c15]
        refine ⟨fun z => absurd z (nI_ge (by omega) (by omega)), fun _ => ?_⟩
        rw [nI_1]
        refine ⟨P - (p + 1) + 1, lq2_ind (fun e x y M' => ∃ xx', (∀ r, r ≠ 14 → M' r = M r) ∧ e ≤ P - (p + 1) ∧ x = nI xx' ∧ y = nI (P - e) ∧ bIn M m p a2 e (P - e) xx' = bIn M m p a2 (P - (p + 1)) (p + 1) xx) ?_ ?_ (P - (p + 1)) _ _ M2 ⟨xx, gg, by omega, rfl, by rw [show P - (P - (p + 1)) = p + 1 by omega], by rw [show P - (P - (p + 1)) = p + 1 by omega]⟩⟩
        · rintro R2 x y M3 ⟨x2, g3, -, rfl, rfl, hi⟩
          rw [g3 0 (by decide), c15, Nat.sub_zero]
          rw [bOut, ← hi, bIn] at hb
          exact ⟨fun _ => hR _ _ _ ⟨x2, g3, by omega, rfl, by rw [show P - d = p + 1 by omega], by rw [show P - d = p + 1 by omega]; exact hb⟩, fun z => absurd (Int32.le_refl _) z⟩
        · rintro e R2 x y M3 ⟨x2, g3, he, rfl, rfl, hi⟩ hR2
          obtain ⟨q, hq⟩ : ∃ q, q = P - (e + 1) := ⟨_, rfl⟩
          rw [← hq] at hi ⊢
          rw [g3 0 (by decide), c15, g3 5 (by decide), nI_clamp (by omega)]
          rw [bIn] at hi
          have go : ∀ M4 x3, (∀ r, r ≠ 14 → M4 r = M r) → bIn M m p a2 e (q + 1) x3 = bIn M m p a2 (P - (p + 1)) (p + 1) xx → R2 (nI x3) (nI q + 1) M4 := fun M4 x3 g1 g2 => hR2 _ _ _ ⟨x3, g1, by omega, rfl, by rw [nI_1, show P - e = q + 1 by omega], by rw [show P - e = q + 1 by omega]; exact g2⟩
          refine ⟨fun z => absurd z (nI_ge (by omega) (by omega)), fun _ => ⟨vp_in_nI (by omega) (by decide), fun z => ?_, fun z => ?_⟩⟩
          · rw [if_neg (fun y => z y.1)] at hi
            exact go _ _ g3 hi
          · rw [e1]
            refine e_between hI (by omega) (by omega) hm g3 (fun M4 v g4 hv => ?_)
            rw [g4 13 (by decide)]
            refine ⟨fun z2 => ?_, fun z2 => ?_⟩
            · rw [if_pos ⟨z, hv.mp z2⟩] at hi
              refine ⟨fun z4 => ?_, fun z4 => ?_⟩
              · rw [if_neg z4] at hi
                rw [nI_1]
                exact go _ _ g4 hi
              · rw [if_pos z4] at hi
                rw [bOut, ← hi] at hb
                have k := key M4 g4
                rw [← hb] at k
                rw [← e1]
                exact k
            · rw [if_neg (fun y => z2 (hv.mpr y.2))] at hi
              exact go _ _ g4 hi
    · simp only [wX10_border, wX11_border, e_b16, e_b6, e_b4, e_b3, e_w2, e_isMeaning, e_isIn, e_m15, e_m5, e_m3, e_m2, e_m63, m_isMeaning, m_isSound, m_isSheet, m_isLane, m_isCollector, e_has, q1, i10, i01, bI_0, bI_1, isB_bI, Classical.not_not, not_false_eq_true, not_true_eq_false, true_implies, false_implies, and_true, true_and, and_self, forall_eq, ne_eq, e_isWithin, e_within, bI_f w3]
      exact hI
  · simp only [wX10_border, wX11_border, e_b16, e_b6, e_b4, e_b3, e_w2, e_isMeaning, e_isIn, e_m15, e_m5, e_m3, e_m2, e_m63, m_isMeaning, m_isSound, m_isSheet, m_isLane, m_isCollector, e_has, q1, i10, i01, bI_0, bI_1, isB_bI, Classical.not_not, not_false_eq_true, not_true_eq_false, true_implies, false_implies, and_true, true_and, and_self, forall_eq, ne_eq]
    exact hI
