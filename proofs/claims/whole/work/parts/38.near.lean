theorem st_many {M : Mem} (hI : Inv M) (a1 : Int32) : wX10_many a1 M (fun r M1 => wX11_many a1 M1 (fun r' M2 => r = r' ∧ Inv M2)) := by
  obtain ⟨rb, hrb, er, h6⟩ := hI.2.2.2.2.2.2.1
  have h0 := hI.1
  have c49 : ∀ m, m < 6 → (M 210 m = -9) = (rb.testBit m = false) := fun m hm => by
    rcases h6 m hm with ⟨t, g⟩ | ⟨t, n, hn, -, g, -⟩
    · simp [t, g]
    · simp [t, g, n9 (show n < 2 ^ 30 by omega)]
  have run : ∀ (r : Int32), (a1 = 0 → r = M 0 15) → (a1 = 1 → r = M 0 16) → (a1 = 2 → r = M 9 4) → (a1 = 3 → r = nI (b6 rb)) → (¬ a1 = 0 → ¬ a1 = 1 → ¬ a1 = 2 → ¬ a1 = 3 → r = -2) → wX11_many a1 M (fun r' M2 => r = r' ∧ Inv M2) := by
    intro r q0 q1 q2 q3 q4
    have bs : Nat → Nat := fun k => 0
    obtain ⟨cb, hcb⟩ : ∃ cb : Nat → Nat, ∀ k, cb k = ([(rb.testBit 0).toNat, (rb.testBit 1).toNat, (rb.testBit 2).toNat, (rb.testBit 3).toNat, (rb.testBit 4).toNat, (rb.testBit 5).toNat].take k).sum := ⟨_, fun _ => rfl⟩
    have hs : ∀ k, k < 6 → cb (k + 1) = cb k + (rb.testBit k).toNat := by
      intro k hk
      rw [hcb, hcb]
      match k, hk with
      | 0, _ => simp
      | 1, _ => simp
      | 2, _ => simp; omega
      | 3, _ => simp; omega
      | 4, _ => simp; omega
      | 5, _ => simp; omega
      | k + 6, h => omega
    have h66 : cb 6 = b6 rb := by rw [hcb]; simp [b6]; omega
    refine ⟨7, lq2_ind (fun d s k M' => M' = M ∧ d ≤ 6 ∧ k = nI (6 - d) ∧ s = nI (cb (6 - d))) ?_ ?_ 6 0 0 M ⟨rfl, Nat.le_refl _, rfl, by rw [Nat.sub_self, hcb]; rfl⟩⟩
    · rintro R s k M' ⟨rfl, -, rfl, rfl⟩
      refine ⟨fun _ => ⟨fun q => ⟨by rw [q0 q, h0.1.2.2], hI⟩, fun q => ⟨by rw [q1 q, h0.2.1.2.2], hI⟩, fun q => ⟨by rw [q2 q, h0.2.2.1.2.2], hI⟩, fun q => ⟨by rw [q3 q]; show _ = nI (cb 6); rw [h66], hI⟩, fun z0 z1 z2 z3 => ⟨q4 z0 z1 z2 z3, hI⟩⟩, fun q => absurd (by decide) q⟩
    · rintro d R s k M' ⟨rfl, hd, rfl, rfl⟩ hR
      have e : 6 - d = 6 - (d + 1) + 1 := by omega
      obtain ⟨f, hf⟩ : ∃ f, f = 6 - (d + 1) := ⟨_, rfl⟩
      rw [← hf] at e ⊢
      have hf6 : f < 6 := by omega
      refine ⟨fun q => absurd q (nI_ge (b := 6) hf6 (by decide)), fun _ => ⟨vp_in_nI hf6 (by decide), ?_⟩⟩
      rw [nI_clamp (by omega), c49 f hf6]
      refine ⟨fun q => hR _ _ _ ⟨rfl, by omega, by rw [e, nI_1], ?_⟩, fun q => hR _ _ _ ⟨rfl, by omega, by rw [e, nI_1], ?_⟩⟩
      · rw [e, hs f hf6, nI_1]
        simp at q
        rw [q]; rfl
      · rw [e, hs f hf6, q, show (0 : Int32) = nI 0 by decide, nI_add]; rfl
  simp only [wX10_many]
  refine ⟨fun q => run _ (fun _ => rfl) (fun z => ?_) (fun z => ?_) (fun z => ?_) (fun z => absurd q z), fun q => run _ (fun z => ?_) (fun _ => rfl) (fun z => ?_) (fun z => ?_) (fun _ z => absurd q z), fun q => run _ (fun z => ?_) (fun z => ?_) (fun _ => rfl) (fun z => ?_) (fun _ _ z => absurd q z), fun q => ?_, fun z0 z1 z2 z3 => run _ (fun z => absurd z z0) (fun z => absurd z z1) (fun z => absurd z z2) (fun z => absurd z z3) (fun _ _ _ _ => rfl)⟩
  all_goals first | (rw [q] at z; exact absurd z (by decide)) | skip
  rw [er]
  exact e_bc64 hrb (run _ (fun z => by rw [q] at z; exact absurd z (by decide)) (fun z => by rw [q] at z; exact absurd z (by decide)) (fun z => by rw [q] at z; exact absurd z (by decide)) (fun _ => rfl) (fun _ _ _ z => absurd q z))
theorem nb_xor : ∀ v, v < 256 → ∀ q, q < 8 → nI v ^^^ ((1 : Int32) <<< (nI q &&& 31)) = nI (v ^^^ 2 ^ q) := by decide +kernel
theorem nb_or : ∀ v, v < 256 → ∀ q, q < 8 → v.testBit q = false → nI v ||| ((1 : Int32) <<< (nI q &&& 31)) = nI (v ^^^ 2 ^ q) := by decide +kernel
theorem nb_and : ∀ v, v < 256 → ∀ q, q < 8 → v.testBit q = true → nI v &&& (((1 : Int32) <<< (nI q &&& 31)) ^^^ (-1)) = nI (v ^^^ 2 ^ q) := by decide +kernel
theorem Inv.toggle {M M' : Mem} (h : Inv M) {nb : Nat → Nat} (h3 : ∀ p, p < 8 → M 5 p = nI (nb p) ∧ nb p < 256 ∧ M 202 p = M 5 p) (hsy : ∀ p, p < 8 → ∀ q, q < 8 → (nb p).testBit q = (nb q).testBit p) {p q : Nat} (hp : p < 8) (hq : q < 8) (hpq : p ≠ q) (he : M' = mset (mset (mset (mset M 5 p (nI (nb p ^^^ 2 ^ q))) 5 q (nI (nb q ^^^ 2 ^ p))) 202 p (nI (nb p ^^^ 2 ^ q))) 202 q (nI (nb q ^^^ 2 ^ p))) : Inv M' := by
  subst he
  refine h.but3 (fun i b1 b2 => by rw [mset_row b2, mset_row b2, mset_row b1, mset_row b1]) ⟨fun i => if i = p then nb p ^^^ 2 ^ q else if i = q then nb q ^^^ 2 ^ p else nb i, fun i hi => ?_, fun i hi j hj => ?_⟩
  · obtain ⟨g1, g2, g3⟩ := h3 i hi
    obtain ⟨-, gp, -⟩ := h3 p hp
    obtain ⟨-, gq, -⟩ := h3 q hq
    have p2 : ∀ k, k < 8 → 2 ^ k < 2 ^ 8 := fun k hk => Nat.pow_lt_pow_right (by decide) hk
    by_cases hip : i = p
    · subst hip
      dsimp only
      rw [if_pos rfl, mset_row (by decide), mset_row (by decide), mset_ne (by omega), mset_eq, mset_ne (by omega), mset_eq]
      exact ⟨rfl, Nat.xor_lt_two_pow (n := 8) gp (p2 q hq), rfl⟩
    · by_cases hiq : i = q
      · subst hiq
        dsimp only
        rw [if_neg hip, if_pos rfl, mset_row (by decide), mset_row (by decide), mset_eq, mset_eq]
        exact ⟨rfl, Nat.xor_lt_two_pow (n := 8) gq (p2 p hp), rfl⟩
      · dsimp only
        rw [if_neg hip, if_neg hiq, mset_row (by decide), mset_row (by decide), mset_ne (by omega), mset_ne (by omega), mset_ne (by omega), mset_ne (by omega), mset_row (by decide), mset_row (by decide)]
        exact ⟨g1, g2, g3⟩
  · have tb : ∀ i, i < 8 → ∀ j, j < 8 → (if i = p then nb p ^^^ 2 ^ q else if i = q then nb q ^^^ 2 ^ p else nb i).testBit j = ((nb i).testBit j ^^ decide ((i = p ∧ j = q) ∨ (i = q ∧ j = p))) := by
      intro i hi j hj
      by_cases hip : i = p
      · subst hip
        rw [if_pos rfl, Nat.testBit_xor, Nat.testBit_two_pow]
        rw [show decide (q = j) = decide ((i = i ∧ j = q) ∨ (i = q ∧ j = i)) from decide_eq_decide.mpr ⟨fun e => Or.inl ⟨rfl, e.symm⟩, fun e => e.elim (fun e => e.2.symm) (fun e => absurd e.1 hpq)⟩]
      · by_cases hiq : i = q
        · subst hiq
          rw [if_neg hip, if_pos rfl, Nat.testBit_xor, Nat.testBit_two_pow]
          rw [show decide (p = j) = decide ((i = p ∧ j = i) ∨ (i = i ∧ j = p)) from decide_eq_decide.mpr ⟨fun e => Or.inr ⟨rfl, e.symm⟩, fun e => e.elim (fun e => absurd e.1 hip) (fun e => e.2.symm)⟩]
        · rw [if_neg hip, if_neg hiq, decide_eq_false (by omega), Bool.xor_false]
    show (if i = p then nb p ^^^ 2 ^ q else if i = q then nb q ^^^ 2 ^ p else nb i).testBit j = (if j = p then nb p ^^^ 2 ^ q else if j = q then nb q ^^^ 2 ^ p else nb j).testBit i
    rw [tb i hi j hj, tb j hj i hi, hsy i hi j hj]
    congr 1
    simp only [decide_eq_decide]
    omega
theorem st_near {M : Mem} (hI : Inv M) (a1 a2 a3 : Int32) (h3 : a3 = 0 ∨ a3 = 1) : wX10_near a1 a2 a3 M (fun r M1 => wX11_near a1 a2 a3 M1 (fun r' M2 => r = r' ∧ Inv M2)) := by
  have h0 := hI.1
  have h8 := h0.1.2.1
  have c11 : M 49 11 = nI (cP M) := h0.1.2.2.trans h0.1.1
  by_cases h1 : vp_in a1 (cP M)
  · by_cases h2 : vp_in a2 (cP M)
    · by_cases h4 : a1 = a2
      · simp only [wX10_near, wX11_near, e_isPlace h0, m_isPlace h0, bI_t h1, bI_t h2, h4, i10, i01, bI_0, bI_1, isB_bI, Classical.not_not, not_false_eq_true, not_true_eq_false, true_implies, false_implies, and_true, true_and, and_self, forall_eq, ne_eq]
        exact hI
      · obtain ⟨p, hp, ep, tp⟩ := vp_nI h1 (by omega)
        obtain ⟨q, hq, eq, tq⟩ := vp_nI h2 (by omega)
        have hpq : p ≠ q := fun e => h4 (by rw [ep, eq, e])
        obtain ⟨nb, n1, n2⟩ := hI.2.2.2.1
        obtain ⟨g1, g2, g3⟩ := n1 p (by omega)
        obtain ⟨k1, k2, k3⟩ := n1 q (by omega)
        have v1 := vp_mono h1 h8
        have v2 := vp_mono h2 h8
        have hbx : hb (M 5 p) a2 = ((nb p).testBit q = true) := by rw [g1, eq, hb_nI (by omega) (by omega)]
        have hsy := n2 p (by omega) q (by omega)
        simp only [wX10_near, e_isPlace h0, bI_t h1, bI_t h2, h4, i10, i01, bI_0, bI_1, isB_bI, Classical.not_not, not_false_eq_true, not_true_eq_false, true_implies, false_implies, and_true, true_and, and_self, forall_eq, ne_eq, v1, v2, tp, tq, e_isIn, hbx]
        by_cases hc : bI ((nb p).testBit q = true) = a3
        · simp only [hc, i10, i01, bI_0, bI_1, isB_bI, Classical.not_not, not_false_eq_true, not_true_eq_false, true_implies, false_implies, and_true, true_and, and_self, forall_eq, ne_eq]
          simp only [wX11_near, m_isPlace h0, bI_t h1, bI_t h2, h4, i10, i01, bI_0, bI_1, isB_bI, Classical.not_not, not_false_eq_true, not_true_eq_false, true_implies, false_implies, and_true, true_and, and_self, forall_eq, ne_eq, v1, v2, tp, tq, e_has, g3, hbx, hc]
          exact hI
        · simp only [hc, i10, i01, bI_0, bI_1, isB_bI, Classical.not_not, not_false_eq_true, not_true_eq_false, true_implies, false_implies, and_true, true_and, and_self, forall_eq, ne_eq]
          have e1 : M 5 p ^^^ 1 <<< (a2 &&& 31) = nI (nb p ^^^ 2 ^ q) := by rw [g1, eq]; exact nb_xor _ g2 _ (by omega)
          have e2 : mset M 5 p (nI (nb p ^^^ 2 ^ q)) 5 q ^^^ 1 <<< (a1 &&& 31) = nI (nb q ^^^ 2 ^ p) := by rw [mset_ne (by omega), k1, ep]; exact nb_xor _ k2 _ (by omega)
          rw [e1, e2]
          have r11 : mset (mset M 5 p (nI (nb p ^^^ 2 ^ q))) 5 q (nI (nb q ^^^ 2 ^ p)) 49 11 = nI (cP M) := by rw [mset_row (by decide), mset_row (by decide)]; exact c11
          have rp : mset (mset M 5 p (nI (nb p ^^^ 2 ^ q))) 5 q (nI (nb q ^^^ 2 ^ p)) 202 p = nI (nb p) := by rw [mset_row (by decide), mset_row (by decide), g3, g1]
          have rq : mset (mset (mset M 5 p (nI (nb p ^^^ 2 ^ q))) 5 q (nI (nb q ^^^ 2 ^ p))) 202 p (nI (nb p ^^^ 2 ^ q)) 202 q = nI (nb q) := by rw [mset_ne (by omega), mset_row (by decide), mset_row (by decide), k3, k1]
          have fin := hI.toggle n1 n2 (show p < 8 by omega) (show q < 8 by omega) hpq rfl
          have hb2 : hb (nI (nb p)) a2 = ((nb p).testBit q = true) := by rw [eq, hb_nI (by omega) (by omega)]
          simp only [wX11_near, m_isPlaceN r11 (show cP M < 2 ^ 31 by omega), bI_t h1, bI_t h2, h4, i10, i01, bI_0, bI_1, isB_bI, Classical.not_not, not_false_eq_true, not_true_eq_false, true_implies, false_implies, and_true, true_and, and_self, forall_eq, ne_eq, jn0, jn1, jn2, jn3, v1, v2, tp, tq, e_has, rp, hb2, hc]
          rcases h3 with h3 | h3
          · subst h3
            have hbit : (nb p).testBit q = true := by
              cases hz : (nb p).testBit q with
              | true => rfl
              | false => exact absurd (bI_f (by rw [hz]; decide)) hc
            have m1 : nI (nb p) &&& (1 <<< (a2 &&& 31) ^^^ -1) = nI (nb p ^^^ 2 ^ q) := by rw [eq]; exact nb_and _ g2 _ (by omega) hbit
            have m2 : nI (nb q) &&& (1 <<< (a1 &&& 31) ^^^ -1) = nI (nb q ^^^ 2 ^ p) := by rw [ep]; exact nb_and _ k2 _ (by omega) (by rw [← hsy]; exact hbit)
            simp only [i10, i01, bI_0, bI_1, isB_bI, Classical.not_not, not_false_eq_true, not_true_eq_false, true_implies, false_implies, and_true, true_and, and_self, forall_eq, ne_eq, m1, rq, m2]
            exact fin
          · subst h3
            have hbit : (nb p).testBit q = false := by
              cases hz : (nb p).testBit q with
              | false => rfl
              | true => exact absurd (bI_t hz) hc
            have m1 : nI (nb p) ||| 1 <<< (a2 &&& 31) = nI (nb p ^^^ 2 ^ q) := by rw [eq]; exact nb_or _ g2 _ (by omega) hbit
            have m2 : nI (nb q) ||| 1 <<< (a1 &&& 31) = nI (nb q ^^^ 2 ^ p) := by rw [ep]; exact nb_or _ k2 _ (by omega) (by rw [← hsy]; exact hbit)
            simp only [i10, i01, bI_0, bI_1, isB_bI, Classical.not_not, not_false_eq_true, not_true_eq_false, true_implies, false_implies, and_true, true_and, and_self, forall_eq, ne_eq, m1, rq, m2, i10]
            exact fin
    · simp only [wX10_near, wX11_near, e_isPlace h0, m_isPlace h0, bI_t h1, bI_f h2, i10, i01, bI_0, bI_1, isB_bI, Classical.not_not, not_false_eq_true, not_true_eq_false, true_implies, false_implies, and_true, true_and, and_self, forall_eq, ne_eq]
      exact hI
  · simp only [wX10_near, wX11_near, e_isPlace h0, m_isPlace h0, bI_f h1, i10, i01, bI_0, bI_1, isB_bI, Classical.not_not, not_false_eq_true, not_true_eq_false, true_implies, false_implies, and_true, true_and, and_self, forall_eq, ne_eq]
    exact hI
