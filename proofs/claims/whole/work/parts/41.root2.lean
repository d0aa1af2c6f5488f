def mcF (M : Mem) (t o n : Nat) (f : Nat → Int32) : Mem := fun i k => if i = t ∧ o ≤ k ∧ k < o + n then f (k - o) else M i k
theorem mcF_0 {M : Mem} {t o : Nat} {f : Nat → Int32} : mcF M t o 0 f = M := by funext i k; rw [mcF, if_neg (by omega)]
theorem mcF_s {M : Mem} {t o n : Nat} {f : Nat → Int32} : mset (mcF M t o n f) t (o + n) (f n) = mcF M t o (n + 1) f := by
  funext i k
  simp only [mset, mcF]
  by_cases h : i = t ∧ k = o + n
  · rw [if_pos h, if_pos (by omega), h.2, Nat.add_sub_cancel_left]
  · rw [if_neg h]
    by_cases h2 : i = t ∧ o ≤ k ∧ k < o + n
    · rw [if_pos h2, if_pos (by omega)]
    · rw [if_neg h2, if_neg (by omega)]
theorem mcF_row {M : Mem} {t o n i : Nat} {f : Nat → Int32} (h : i ≠ t) : mcF M t o n f i = M i := by funext k; rw [mcF, if_neg (by omega)]
theorem mcF_in {M : Mem} {t o n k : Nat} {f : Nat → Int32} (h : k < n) : mcF M t o n f t (o + k) = f k := by rw [mcF, if_pos ⟨rfl, by omega, by omega⟩, Nat.add_sub_cancel_left]
theorem mcF_out {M : Mem} {t o n k : Nat} {f : Nat → Int32} (h : ¬ (o ≤ k ∧ k < o + n)) : mcF M t o n f t k = M t k := by rw [mcF, if_neg (by omega)]
theorem vp16 {c : Int32} : (¬ c < 0 ∧ ¬ 15 < c) = vp_in c 16 := by rw [← vp_iff_le (n := 15) (by decide)]; rfl
theorem fr60 {s ni : Nat} : (60 : Int32) * nI s + nI ni = nI (60 * s + ni) := by rw [show (60 : Int32) = nI 60 by decide, pk_mul, nI_add]
theorem m_root {M Mx : Mem} (h8 : I8 M) {m s : Nat} (hm : m < 6) (hs : s < 4) {lane i n : Int32} (hl : vp_in lane 3) {Q : Int32 → Mem → Prop} (r1 : Mx 192 = M 192) (r2 : Mx 193 = M 193) (r3 : Mx 194 = M 194)
    (hQ1 : ¬ ftv M s lane i n = 0 → Q ((-10) - ftv M s lane i n) (mset (mset Mx 49 0 0) 49 0 (ftv M s lane i n)))
    (hQ0 : ftv M s lane i n = 0 → ∀ ni nn : Nat, i = nI ni → n = nI nn → ni + nn ≤ 60 →
      (¬ nn ≤ 8 → Q (-2) (mset Mx 49 0 0)) ∧ (nn ≤ 8 → (¬ (∀ k, k < nn → vp_in (M 194 (60 * s + ni + k)) 16) → Q (-1) (mset Mx 49 0 0)) ∧ ((∀ k, k < nn → vp_in (M 194 (60 * s + ni + k)) 16) → Q n (mcF (mset (mset Mx 49 0 0) 210 m n) 211 (8 * m) nn (fun k => M 194 (60 * s + ni + k))))))
    (hrng : ftv M s lane i n = 0 → ∃ ni nn : Nat, i = nI ni ∧ n = nI nn ∧ ni + nn ≤ 60) : wX11_root (nI m) (nI s) lane i n Mx Q := by
  have v1 : vp_in (nI m) 6 := vp_in_nI hm (by decide)
  have v2 : vp_in (nI s) 4 := vp_in_nI hs (by decide)
  simp only [wX11_root, forall_eq, e_m15, e_m5, e_m3, e_m2, e_m63, m_isMeaning, m_isSound, m_isSheet, m_isLane, m_isCollector, e_has, bI_t v1, bI_t v2, bI_t hl, i10, i01, bI_0, bI_1, isB_bI, Classical.not_not, not_false_eq_true, not_true_eq_false, true_implies, false_implies, and_true, true_and, and_self, forall_eq, ne_eq]
  refine m_against h8 hs (by rw [mset_row (by decide)]; exact r1) (by rw [mset_row (by decide)]; exact r2) hl ?_
  by_cases hv : ftv M s lane i n = 0
  · obtain ⟨ni, nn, e1, e2, e3⟩ := hrng hv
    obtain ⟨g1, g2⟩ := hQ0 hv ni nn e1 e2 e3
    subst e1; subst e2
    simp only [hv, i10, i01, bI_0, bI_1, isB_bI, Classical.not_not, not_false_eq_true, not_true_eq_false, true_implies, false_implies, and_true, true_and, and_self, forall_eq, ne_eq]
    refine ⟨fun q => ?_, fun q => g1 (fun z => q (nI_le z (by decide)))⟩
    have hnn : nn ≤ 8 := by
      rcases Nat.lt_or_ge 8 nn with z | z
      · exact absurd q (nI_ge (a := 8) z (by omega))
      · exact z
    obtain ⟨g3, g4⟩ := g2 hnn
    rw [fr60]
    refine m_areCells (by omega) ?_
    have r4 : mset Mx 49 0 0 194 = M 194 := by rw [mset_row (by decide)]; exact r3
    simp only [r4, vp16, i10, i01, bI_0, bI_1, isB_bI, Classical.not_not, not_false_eq_true, not_true_eq_false, true_implies, false_implies, and_true, true_and, and_self, forall_eq, ne_eq]
    refine ⟨fun q => ⟨v1, ?_⟩, g3⟩
    rw [nI_clamp (by omega)]
    refine ⟨nn + 1, lq1_ind (fun d x M' => d ≤ nn ∧ x = nI (nn - d) ∧ M' = mcF (mset (mset Mx 49 0 0) 210 m (nI nn)) 211 (8 * m) (nn - d) (fun k => M 194 (60 * s + ni + k))) ?_ ?_ nn 0 _ ⟨Nat.le_refl _, by rw [Nat.sub_self, nI_0], by rw [Nat.sub_self, mcF_0]⟩⟩
    · rintro R x M' ⟨-, rfl, rfl⟩
      rw [Nat.sub_zero]
      exact ⟨fun _ => g4 q, fun q => absurd (Int32.le_refl _) q⟩
    · rintro d R x M' ⟨hd, rfl, rfl⟩ hR
      obtain ⟨k, hk0⟩ : ∃ k, k = nn - (d + 1) := ⟨_, rfl⟩
      rw [← hk0]
      have i1 : nI (60 * s + ni) + nI k = nI (60 * s + ni + k) := nI_add _ _
      have i2 : (8 : Int32) * nI m + nI k = nI (8 * m + k) := by rw [show (8 : Int32) = nI 8 by decide, pk_mul, nI_add]
      rw [i1, i2]
      refine ⟨fun q => absurd q (nI_ge (by omega) (by omega)), fun _ => ⟨vp_in_nI (by omega) (by decide), vp_in_nI (by omega) (by decide), hR _ _ ⟨by omega, by rw [nI_1]; congr 1; omega, ?_⟩⟩⟩
      rw [nI_clamp (by omega), nI_clamp (by omega), mcF_row (by decide), mset_row (by decide), mset_row (by decide), r3]
      have := mcF_s (M := mset (mset Mx 49 0 0) 210 m (nI nn)) (t := 211) (o := 8 * m) (n := k) (f := fun k => M 194 (60 * s + ni + k))
      rw [this]
      congr 1
      omega
  · simp only [hv, i10, i01, bI_0, bI_1, isB_bI, Classical.not_not, not_false_eq_true, not_true_eq_false, true_implies, false_implies, and_true, true_and, and_self, forall_eq, ne_eq, m_fail]
    exact hQ1 hv
theorem ftv_rng {M : Mem} (h8 : I8 M) {s : Nat} (hs : s < 4) {lane i n : Int32} (h : ftv M s lane i n = 0) : ∃ ni nn : Nat, i = nI ni ∧ n = nI nn ∧ ni + nn ≤ 60 := by
  obtain ⟨g8, -⟩ := h8 s hs
  unfold ftv at h
  rcases g8 with ⟨g1, -⟩ | ⟨g1, -, -, z, hz, gz, -⟩
  · rw [if_pos g1] at h; exact absurd h (by decide)
  · rw [if_neg (by rw [g1]; decide)] at h
    by_cases hl : M (41 + s) 2 = lane
    · rw [if_neg (by simp [hl])] at h
      by_cases hn : n < 0
      · rw [if_pos hn] at h; exact absurd h (by decide)
      · rw [if_neg hn] at h
        by_cases hc : i < 0 ∨ M (41 + s) 3 < i ∨ M (41 + s) 3 - i < n
        · rw [if_pos hc] at h; exact absurd h (by decide)
        · obtain ⟨ni, nn, e1, e2, e3⟩ := take_rng gz hz (fun q => hc (Or.inl q)) (fun q => hc (Or.inr (Or.inl q))) hn (fun q => hc (Or.inr (Or.inr q)))
          exact ⟨ni, nn, e1, e2, by omega⟩
    · rw [if_pos hl] at h; exact absurd h (by decide)
theorem Inv.root' {M M' : Mem} (h : Inv M) {m nn : Nat} {rb : Nat} {f : Nat → Int32} (hm : m < 6) (hn : nn ≤ 8) (hf : ∀ k, k < nn → vp_in (f k) 16)
    (hrb : rb < 64) (er : M 0 17 = nI rb) (hF : ∀ i, i ∉ sB → i ≠ 90 + m → i ≠ 140 + m → i ≠ 210 → i ≠ 211 → M' i = M i) (e0 : ∀ k, k ∈ [15, 16, 18] → M' 0 k = M 0 k) (e49 : ∀ k, k ∈ [1, 11, 13, 22, 34, 44] → M' 49 k = M 49 k) (ef : M' 49 0 = M' 0 19)
    (e17 : M' 0 17 = nI (rb ||| 2 ^ m)) (x1 : M' (90 + m) 1 = nI nn) (x2 : ∀ k, k < nn → M' (140 + m) k = f k) (m1 : M' 210 m = nI nn) (m2 : ∀ j, j ≠ m → M' 210 j = M 210 j) (m3 : ∀ k, k < nn → M' 211 (8 * m + k) = f k) (m4 : ∀ j, ¬ (8 * m ≤ j ∧ j < 8 * m + nn) → M' 211 j = M 211 j) : Inv M' := by
  have eP : cP M' = cP M := by unfold cP; rw [e0 15 (by decide)]
  have eF : cF M' = cF M := by unfold cF; rw [e0 16 (by decide)]
  have h9 : M' 9 = M 9 := hF 9 (by decide) (by omega) (by omega) (by decide) (by decide)
  have eL : cL M' = cL M := by unfold cL; rw [h9]
  refine h.step (fun i => decide (i ∈ sB) || (decide (90 ≤ i) && decide (i < 96)) || (decide (140 ≤ i) && decide (i < 146)) || decide (i = 210) || decide (i = 211)) (fun i hi => ?_) (h.1.of e0 h9 (hF 13 (by decide) (by omega) (by omega) (by decide) (by decide)) e49 ef) (by omega) (Or.inr (by decide +kernel)) (Or.inr (by decide +kernel)) (Or.inr (by decide +kernel)) (Or.inr ⟨eF, by decide +kernel⟩) (Or.inr ⟨eF, by decide +kernel⟩) (Or.inl ?_) (Or.inr ⟨eL, fun l hl => ?_, by decide +kernel⟩) (Or.inr (by decide +kernel))
  · simp at hi
    exact hF i hi.1.1.1.1 (by omega) (by omega) (by omega) (by omega)
  · obtain ⟨rb2, hrb2, er2, h6⟩ := h.2.2.2.2.2.2.1
    have e : rb2 = rb := by rw [er, nI_eq (by omega) (by omega)] at er2; exact er2.symm
    subst e
    have p2 : 2 ^ m < 2 ^ 6 := Nat.pow_lt_pow_right (by decide) hm
    refine ⟨rb2 ||| 2 ^ m, Nat.or_lt_two_pow (n := 6) hrb2 p2, e17, fun j hj => ?_⟩
    have tb : (rb2 ||| 2 ^ m).testBit j = (rb2.testBit j || decide (m = j)) := by rw [Nat.testBit_or, Nat.testBit_two_pow]
    rw [tb]
    by_cases hjm : j = m
    · subst hjm
      right
      refine ⟨by simp, nn, hn, x1, m1, fun k hk => ⟨by rw [m3 k hk, x2 k hk], ?_⟩⟩
      obtain ⟨z, hz, ez, -⟩ := vp_nI (hf k hk) (by decide)
      exact ⟨z, hz, by rw [x2 k hk]; exact ez⟩
    · rw [decide_eq_false (fun q => hjm q.symm), Bool.or_false, m2 j hjm]
      have q1 : ∀ j, j < 6 → 90 + j ∉ sB ∧ 140 + j ∉ sB := by decide
      have row1 : M' (90 + j) = M (90 + j) := hF _ (q1 j hj).1 (by omega) (by omega) (by omega) (by omega)
      have row2 : M' (140 + j) = M (140 + j) := hF _ (q1 j hj).2 (by omega) (by omega) (by omega) (by omega)
      rw [row1, row2]
      rcases h6 j hj with q | ⟨t, n2, b1, b2, b3, b4⟩
      · exact Or.inl q
      · exact Or.inr ⟨t, n2, b1, b2, b3, fun k hk => by rw [m4 _ (by omega)]; exact b4 k hk⟩
  · have := h.1.2.2.1.2.1
    have q : ∀ l, l < 8 → 32 + l ∉ sB := by decide
    exact hF _ (q l (by omega)) (by omega) (by omega) (by omega) (by omega)
theorem st_root {M : Mem} (hI : Inv M) (a1 a2 a3 a4 a5 : Int32) : wX10_root a1 a2 a3 a4 a5 M (fun r M1 => wX11_root a1 a2 a3 a4 a5 M1 (fun r' M2 => r = r' ∧ Inv M2)) := by
  by_cases h1 : vp_in a1 6
  · by_cases h2 : vp_in a2 4
    · by_cases h3 : vp_in a3 3
      · obtain ⟨m, hm, em, tm⟩ := vp_nI h1 (by decide)
        obtain ⟨s, hs, es, -⟩ := vp_nI h2 (by decide)
        have h8 := hI.2.2.2.2.2.2.2.2
        obtain ⟨rb, hrb, er, -⟩ := hI.2.2.2.2.2.2.1
        simp only [wX10_root, forall_eq, e_b16, e_b6, e_b4, e_b3, e_w2, e_isMeaning, e_isIn, bI_t h1, bI_t h2, bI_t h3, i10, i01, bI_0, bI_1, isB_bI, Classical.not_not, not_false_eq_true, not_true_eq_false, true_implies, false_implies, and_true, true_and, and_self, forall_eq, ne_eq, h1, tm]
        rw [em, es]
        refine e_takeS h8 hs (mset_row (by omega)) (mset_row (by omega)) (fun q => ?_) (fun q ni nn e1 e2 e3 M' f1 f3 => ?_)
        · simp only [ftv_ne q, i10, i01, bI_0, bI_1, isB_bI, Classical.not_not, not_false_eq_true, not_true_eq_false, true_implies, false_implies, and_true, true_and, and_self, forall_eq, ne_eq]
          exact m_root h8 hm hs h3 (by rw [mset_row (by decide), mset_row (by decide)]) (by rw [mset_row (by decide), mset_row (by decide)]) (by rw [mset_row (by decide), mset_row (by decide)]) (fun _ => ⟨rfl, hI.f4 _ 0⟩) (fun z => absurd z q) (fun z => absurd z q)
        · have g : ∀ a, a ≠ 18 → a ≠ 0 → M' a = M a := fun a b1 b2 => by rw [f1 a b1, mset_row b2]
          have g0 : ∀ k, k ≠ 19 → M' 0 k = M 0 k := fun k hk => by rw [f1 0 (by decide), mset_ne (by omega)]
          have g19 : M' 0 19 = 0 := by rw [f1 0 (by decide), mset_eq]
          have sc : ∀ i, i ∉ sB → i ≠ 18 ∧ i ≠ 0 ∧ i ≠ 49 := fun i hi => ⟨fun z => hi (by rw [z]; decide), fun z => hi (by rw [z]; decide), fun z => hi (by rw [z]; decide)⟩
          have fin : Inv (mset M' 49 0 0) := hI.scr (fun i hi => by rw [mset_row (sc i hi).2.2, g i (sc i hi).1 (sc i hi).2.1]) (fun k hk => by rw [mset_row (by decide), g0 k (by revert hk; simp; omega)]) (fun k hk => by rw [mset_ne (by revert hk; simp; omega), g 49 (by decide) (by decide)]) (by rw [mset_eq, mset_row (by decide), g19])
          refine ⟨fun z => ?_, fun z => ⟨fun zz => ?_, fun zz => ?_⟩⟩
          · simp only [show ((-2 : Int32) = 0) = False from by decide, i10, i01, bI_0, bI_1, isB_bI, Classical.not_not, not_false_eq_true, not_true_eq_false, true_implies, false_implies, and_true, true_and, and_self, forall_eq, ne_eq]
            refine m_root h8 hm hs h3 (g _ (by decide) (by decide)) (g _ (by decide) (by decide)) (g _ (by decide) (by decide)) (fun y => absurd q y) (fun _ n1 n2 d1 d2 d3 => ⟨fun _ => ⟨rfl, fin⟩, fun y => ?_⟩) (fun _ => ⟨ni, nn, e1, e2, e3⟩)
            rw [e2, nI_eq (by omega) (by omega)] at d2
            omega
          · simp only [show ((-1 : Int32) = 0) = False from by decide, i10, i01, bI_0, bI_1, isB_bI, Classical.not_not, not_false_eq_true, not_true_eq_false, true_implies, false_implies, and_true, true_and, and_self, forall_eq, ne_eq]
            refine m_root h8 hm hs h3 (g _ (by decide) (by decide)) (g _ (by decide) (by decide)) (g _ (by decide) (by decide)) (fun y => absurd q y) (fun _ n1 n2 d1 d2 d3 => ?_) (fun _ => ⟨ni, nn, e1, e2, e3⟩)
            rw [e1, nI_eq (by omega) (by omega)] at d1
            rw [e2, nI_eq (by omega) (by omega)] at d2
            subst d1; subst d2
            exact ⟨fun y => absurd z y, fun _ => ⟨fun _ => ⟨rfl, fin⟩, fun y => absurd y zz⟩⟩
          · simp only [i10, i01, bI_0, bI_1, isB_bI, Classical.not_not, not_false_eq_true, not_true_eq_false, true_implies, false_implies, and_true, true_and, and_self, forall_eq, ne_eq]
            rw [e2]
            refine e_cells ⟨by omega, by omega⟩ z (fun M3 b1 b2 b3 => ?_)
            have c17 : M3 0 17 = nI rb := by rw [b1 0 (by omega) (by omega), g0 17 (by decide)]; exact er
            rw [c17, rb_or rb hrb m hm]
            rw [fr90] at b1 b3
            have gg : ∀ a, a ≠ 18 → a ≠ 0 → a ≠ 90 + m → a ≠ 140 + m → mset M3 0 17 (nI (rb ||| 2 ^ m)) a = M a := fun a w1 w2 w3 w4 => by rw [mset_row w2, b1 a w3 w4, g a w1 w2]
            refine m_root h8 hm hs h3 (gg _ (by decide) (by decide) (by omega) (by omega)) (gg _ (by decide) (by decide) (by omega) (by omega)) (gg _ (by decide) (by decide) (by omega) (by omega)) (fun y => absurd (by rw [← e2]; exact q) y) (fun _ n1 n2 d1 d2 d3 => ?_) (fun _ => ⟨ni, nn, e1, rfl, e3⟩)
            rw [e1, nI_eq (by omega) (by omega)] at d1
            rw [nI_eq (by omega) (by omega)] at d2
            subst d1; subst d2
            refine ⟨fun y => absurd z y, fun _ => ⟨fun y => absurd zz y, fun _ => ⟨rfl, ?_⟩⟩⟩
            refine hI.root' hm z zz hrb er (fun i hi w1 w2 w3 w4 => ?_) (fun k hk => ?_) (fun k hk => ?_) ?_ ?_ ?_ (fun k hk => ?_) ?_ (fun j hj => ?_) (fun k hk => ?_) (fun j hj => ?_)
            · rw [mcF_row w4, mset_row w3, mset_row (sc i hi).2.2, gg i (sc i hi).1 (sc i hi).2.1 w1 w2]
            · have : k ≠ 17 ∧ k ≠ 19 := by revert hk; simp; omega
              rw [mcF_row (by decide), mset_row (by decide), mset_row (by decide), mset_ne (by omega), b1 0 (by omega) (by omega), g0 k this.2]
            · have : k ≠ 0 := by revert hk; simp; omega
              rw [mcF_row (by decide), mset_row (by decide), mset_ne (by omega), gg 49 (by decide) (by decide) (by omega) (by omega)]
            · rw [mcF_row (by decide), mset_row (by decide), mset_eq, mcF_row (by decide), mset_row (by decide), mset_row (by decide), mset_ne (by decide), b1 0 (by omega) (by omega), g19]
            · rw [mcF_row (by decide), mset_row (by decide), mset_row (by decide), mset_eq]
            · rw [mcF_row (by omega), mset_row (by omega), mset_row (by omega), mset_row (by omega), b2]
            · rw [mcF_row (by omega), mset_row (by omega), mset_row (by omega), mset_row (by omega), b3 k hk, f3 k hk]
            · rw [mcF_row (by decide), mset_eq]
            · rw [mcF_row (by decide), mset_ne (by omega), mset_row (by decide), gg 210 (by decide) (by decide) (by omega) (by omega)]
            · rw [mcF_in hk]
            · rw [mcF_out hj, mset_row (by decide), mset_row (by decide), gg 211 (by decide) (by decide) (by omega) (by omega)]
      · simp only [wX10_root, wX11_root, forall_eq, e_b16, e_b6, e_b4, e_b3, e_w2, e_isMeaning, e_isIn, e_m15, e_m5, e_m3, e_m2, e_m63, m_isMeaning, m_isSound, m_isSheet, m_isLane, m_isCollector, e_has, bI_t h1, bI_t h2, bI_f h3, i10, i01, bI_0, bI_1, isB_bI, Classical.not_not, not_false_eq_true, not_true_eq_false, true_implies, false_implies, and_true, true_and, and_self, forall_eq, ne_eq]
        exact hI.f2 0
    · simp only [wX10_root, wX11_root, forall_eq, e_b16, e_b6, e_b4, e_b3, e_w2, e_isMeaning, e_isIn, e_m15, e_m5, e_m3, e_m2, e_m63, m_isMeaning, m_isSound, m_isSheet, m_isLane, m_isCollector, e_has, bI_t h1, bI_f h2, i10, i01, bI_0, bI_1, isB_bI, Classical.not_not, not_false_eq_true, not_true_eq_false, true_implies, false_implies, and_true, true_and, and_self, forall_eq, ne_eq]
      exact hI.f2 0
  · simp only [wX10_root, wX11_root, forall_eq, e_b16, e_b6, e_b4, e_b3, e_w2, e_isMeaning, e_isIn, e_m15, e_m5, e_m3, e_m2, e_m63, m_isMeaning, m_isSound, m_isSheet, m_isLane, m_isCollector, e_has, bI_f h1, i10, i01, bI_0, bI_1, isB_bI, Classical.not_not, not_false_eq_true, not_true_eq_false, true_implies, false_implies, and_true, true_and, and_self, forall_eq, ne_eq]
    exact hI.f2 0
