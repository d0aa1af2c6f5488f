theorem vp128 {c : Int32} : (¬ c < 0 ∧ ¬ 127 < c) = vp_in c 128 := by rw [← vp_iff_le (n := 127) (by decide)]; rfl
theorem e_addEntry {Mx : Mem} {c e n : Nat} {x : Int32} {Q : Int32 → Mem → Prop} (hc : c < 3) (hcnt : Mx (20 + c) 3 = nI e) (he : e ≤ 10) (hn : n ≤ 3) (hQ1 : e = 10 → Q (-4) Mx)
    (hQ0 : e < 10 → Q (nI (e + 1)) (mset (mset (mset (mcpy Mx 18 (20 + c + 3) 0 (3 * e) n) (20 + c + 6) e (nI n)) (20 + c + 9) e x) (20 + c) 3 (nI (e + 1)))) : wX1_addEntry (20 + c) x 18 (nI n) Mx Q := by
  unfold wX1_addEntry
  rw [hcnt]
  refine ⟨⟨by omega, by omega⟩, rfl, fun q => ?_, fun q => hQ1 ?_⟩
  · have he2 : e < 10 := by
      rcases Nat.lt_or_ge e 10 with z | z
      · exact z
      · exact absurd q (nI_nlt (b := 10) z (by omega))
    have e3 : nI e * 3 = nI (3 * e) := by rw [show (3 : Int32) = nI 3 by decide, pk_mul, Nat.mul_comm]
    simp only [forall_eq]
    rw [e3, nI_clamp (by omega), nI_clamp (by omega), show Int32.toNatClampNeg 0 = 0 from rfl]
    have s1 : mcpy Mx 18 (20 + c + 3) 0 (3 * e) n (20 + c) 3 = nI e := by rw [mcpy_ne (by omega)]; exact hcnt
    rw [s1, nI_clamp (by omega)]
    have s2 : mset (mcpy Mx 18 (20 + c + 3) 0 (3 * e) n) (20 + c + 6) e (nI n) (20 + c) 3 = nI e := by rw [mset_row (by omega)]; exact s1
    rw [s2, nI_clamp (by omega)]
    have s3 : mset (mset (mcpy Mx 18 (20 + c + 3) 0 (3 * e) n) (20 + c + 6) e (nI n)) (20 + c + 9) e x (20 + c) 3 = nI e := by rw [mset_row (by omega)]; exact s2
    rw [s3, nI_1, mset_eq]
    exact ⟨by decide, nI_pos (by omega), nI_pos (by omega), (show 0 + n ≤ 60 by omega), by omega, vp_in_nI he2 (by decide), vp_in_nI he2 (by decide), hQ0 he2⟩
  · rcases Nat.lt_or_ge e 10 with z | z
    · exact absurd (nI_lt (b := 10) z (by decide)) q
    · omega
theorem m_entry {M Mx : Mem} (h8 : I8 M) {c e s : Nat} (hc : c < 3) (he : e ≤ 10) (hs : s < 4) {x lane i n : Int32} (hx : vp_in x 16) (hl : vp_in lane 3) {Q : Int32 → Mem → Prop} (c7 : Mx 197 c = nI e) (r1 : Mx 192 = M 192) (r2 : Mx 193 = M 193) (r3 : Mx 194 = M 194)
    (hQ1 : ¬ ftv M s lane i n = 0 → Q ((-10) - ftv M s lane i n) (mset (mset Mx 49 0 0) 49 0 (ftv M s lane i n)))
    (hQ0 : ftv M s lane i n = 0 → ∀ ni nn : Nat, i = nI ni → n = nI nn → ni + nn ≤ 60 →
      (¬ (1 ≤ nn ∧ nn ≤ 3) → Q (-2) (mset Mx 49 0 0)) ∧ (1 ≤ nn ∧ nn ≤ 3 → (¬ (∀ k, k < nn → vp_in (M 194 (60 * s + ni + k)) 128) → Q (-2) (mset Mx 49 0 0)) ∧ ((∀ k, k < nn → vp_in (M 194 (60 * s + ni + k)) 128) → (e = 10 → Q (-4) (mset Mx 49 0 0)) ∧ (e < 10 → Q (nI (e + 1)) (mset (mcF (mset (mset (mset Mx 49 0 0) 198 (10 * c + e) x) 199 (10 * c + e) n) 200 (3 * (10 * c + e)) nn (fun k => M 194 (60 * s + ni + k))) 197 c (nI (e + 1)))))))
    (hrng : ftv M s lane i n = 0 → ∃ ni nn : Nat, i = nI ni ∧ n = nI nn ∧ ni + nn ≤ 60) : wX11_entry (nI c) x (nI s) lane i n Mx Q := by
  have v1 : vp_in (nI c) 3 := vp_in_nI hc (by decide)
  have v2 : vp_in (nI s) 4 := vp_in_nI hs (by decide)
  simp only [wX11_entry, forall_eq, e_m15, e_m5, e_m3, e_m2, e_m63, m_isMeaning, m_isSound, m_isSheet, m_isLane, m_isCollector, e_has, bI_t v1, bI_t v2, bI_t hx, bI_t hl, i10, i01, bI_0, bI_1, isB_bI, Classical.not_not, not_false_eq_true, not_true_eq_false, true_implies, false_implies, and_true, true_and, and_self, forall_eq, ne_eq]
  refine m_against h8 hs (by rw [mset_row (by decide)]; exact r1) (by rw [mset_row (by decide)]; exact r2) hl ?_
  by_cases hv : ftv M s lane i n = 0
  · obtain ⟨ni, nn, e1, e2, e3⟩ := hrng hv
    obtain ⟨g1, g2⟩ := hQ0 hv ni nn e1 e2 e3
    subst e1; subst e2
    have ew : (¬ nI nn < 1 ∧ ¬ 3 < nI nn) = (1 ≤ nn ∧ nn ≤ 3) := by
      rw [show (1 : Int32) = nI 1 by decide, show (3 : Int32) = nI 3 by decide, nI_ltI (by omega) (by omega), nI_ltI (by omega) (by omega)]
      apply propext
      omega
    simp only [hv, i10, i01, bI_0, bI_1, isB_bI, Classical.not_not, not_false_eq_true, not_true_eq_false, true_implies, false_implies, and_true, true_and, and_self, forall_eq, ne_eq, e_within, ew]
    refine ⟨fun q => g1 q, fun q => ?_⟩
    obtain ⟨g3, g4⟩ := g2 q
    rw [fr60]
    refine m_areCells (by omega) ?_
    have r4 : mset Mx 49 0 0 194 = M 194 := by rw [mset_row (by decide)]; exact r3
    have r5 : mset Mx 49 0 0 197 c = nI e := by rw [mset_row (by decide)]; exact c7
    simp only [r4, vp128, i10, i01, bI_0, bI_1, isB_bI, Classical.not_not, not_false_eq_true, not_true_eq_false, true_implies, false_implies, and_true, true_and, and_self, forall_eq, ne_eq]
    refine ⟨fun q2 => ⟨v1, ?_⟩, g3⟩
    obtain ⟨g5, g6⟩ := g4 q2
    rw [nI_clamp (by omega), r5]
    by_cases h10 : e = 10
    · subst h10
      exact ⟨fun z => absurd rfl z, fun _ => g5 rfl⟩
    · have hel : e < 10 := by omega
      have ie : (10 : Int32) * nI c + nI e = nI (10 * c + e) := by rw [show (10 : Int32) = nI 10 by decide, pk_mul, nI_add]
      refine ⟨fun _ => ?_, fun z => absurd z (by rw [show (10 : Int32) = nI 10 by decide, nI_eq (by omega) (by decide)]; exact h10)⟩
      rw [ie, nI_clamp (by omega)]
      refine ⟨vp_in_nI (by omega) (by decide), ?_⟩
      refine ⟨nn + 1, lq1_ind (fun d x' M' => d ≤ nn ∧ x' = nI (nn - d) ∧ M' = mcF (mset (mset (mset Mx 49 0 0) 198 (10 * c + e) x) 199 (10 * c + e) (nI nn)) 200 (3 * (10 * c + e)) (nn - d) (fun k => M 194 (60 * s + ni + k))) ?_ ?_ nn 0 _ ⟨Nat.le_refl _, by rw [Nat.sub_self, nI_0], by rw [Nat.sub_self, mcF_0]⟩⟩
      · rintro R x' M' ⟨-, rfl, rfl⟩
        rw [Nat.sub_zero]
        refine ⟨fun _ => ?_, fun q => absurd (Int32.le_refl _) q⟩
        have s1 : mcF (mset (mset (mset Mx 49 0 0) 198 (10 * c + e) x) 199 (10 * c + e) (nI nn)) 200 (3 * (10 * c + e)) nn (fun k => M 194 (60 * s + ni + k)) 197 c = nI e := by rw [mcF_row (by decide), mset_row (by decide), mset_row (by decide)]; exact r5
        rw [s1, nI_1, mset_eq]
        exact g6 hel
      · rintro d R x' M' ⟨hd, rfl, rfl⟩ hR
        obtain ⟨k, hk0⟩ : ∃ k, k = nn - (d + 1) := ⟨_, rfl⟩
        rw [← hk0]
        have i1 : nI (60 * s + ni) + nI k = nI (60 * s + ni + k) := nI_add _ _
        have i2 : (3 : Int32) * nI (10 * c + e) + nI k = nI (3 * (10 * c + e) + k) := by rw [show (3 : Int32) = nI 3 by decide, pk_mul, nI_add]
        rw [i1, i2]
        refine ⟨fun q => absurd q (nI_ge (by omega) (by omega)), fun _ => ⟨vp_in_nI (by omega) (by decide), vp_in_nI (by omega) (by decide), hR _ _ ⟨by omega, by rw [nI_1]; congr 1; omega, ?_⟩⟩⟩
        rw [nI_clamp (by omega), nI_clamp (by omega), mcF_row (by decide), mset_row (by decide), mset_row (by decide), r4]
        have := mcF_s (M := mset (mset (mset Mx 49 0 0) 198 (10 * c + e) x) 199 (10 * c + e) (nI nn)) (t := 200) (o := 3 * (10 * c + e)) (n := k) (f := fun k => M 194 (60 * s + ni + k))
        rw [this]
        congr 1
        omega
  · simp only [hv, i10, i01, bI_0, bI_1, isB_bI, Classical.not_not, not_false_eq_true, not_true_eq_false, true_implies, false_implies, and_true, true_and, and_self, forall_eq, ne_eq, m_fail]
    exact hQ1 hv
theorem Inv.entry' {M M' : Mem} (h : Inv M) {c e nn : Nat} {x : Int32} {f : Nat → Int32} (hc : c < 3) (he : e < 10) (hn : 1 ≤ nn ∧ nn ≤ 3) (hx : vp_in x 16) (he0 : M (20 + c) 3 = nI e)
    (hR : ∀ i, i ∉ sB → ¬ (i = 20 + c ∨ i = 20 + c + 3 ∨ i = 20 + c + 6 ∨ i = 20 + c + 9) → ¬ (197 ≤ i ∧ i < 201) → M' i = M i) (e0 : ∀ k, k ∈ [15, 16, 17, 18] → M' 0 k = M 0 k) (e49 : ∀ k, k ∈ [1, 11, 13, 22, 34, 44] → M' 49 k = M 49 k) (ef : M' 49 0 = M' 0 19)
    (x1 : M' (20 + c) 3 = nI (e + 1)) (x2 : M' (20 + c + 6) e = nI nn) (x3 : ∀ j, j ≠ e → M' (20 + c + 6) j = M (20 + c + 6) j) (x4 : M' (20 + c + 9) e = x) (x5 : ∀ j, j ≠ e → M' (20 + c + 9) j = M (20 + c + 9) j) (x6 : ∀ k, k < nn → M' (20 + c + 3) (3 * e + k) = f k) (x7 : ∀ j, j < 3 * e → M' (20 + c + 3) j = M (20 + c + 3) j)
    (m1 : M' 197 c = nI (e + 1)) (m2 : ∀ j, j ≠ c → M' 197 j = M 197 j) (m3 : M' 199 (10 * c + e) = nI nn) (m4 : ∀ j, j ≠ 10 * c + e → M' 199 j = M 199 j) (m5 : M' 198 (10 * c + e) = x) (m6 : ∀ j, j ≠ 10 * c + e → M' 198 j = M 198 j) (m7 : ∀ k, k < nn → M' 200 (3 * (10 * c + e) + k) = f k) (m8 : ∀ j, ¬ (3 * (10 * c + e) ≤ j ∧ j < 3 * (10 * c + e) + nn) → M' 200 j = M 200 j) : Inv M' := by
  have eP : cP M' = cP M := by unfold cP; rw [e0 15 (by decide)]
  have eF : cF M' = cF M := by unfold cF; rw [e0 16 (by decide)]
  have h9 : M' 9 = M 9 := hR 9 (by decide) (by omega) (by omega)
  have eL : cL M' = cL M := by unfold cL; rw [h9]
  refine h.step (fun i => decide (i ∈ sB) || (decide (20 ≤ i) && decide (i < 32)) || (decide (197 ≤ i) && decide (i < 201))) (fun i hi => ?_) (h.1.of (fun k hk => e0 k (by revert hk; simp; omega)) h9 (hR 13 (by decide) (by omega) (by omega)) e49 ef) (by omega) (Or.inr (by decide +kernel)) (Or.inl ?_) (Or.inr (by decide +kernel)) (Or.inr ⟨eF, by decide +kernel⟩) (Or.inr ⟨eF, by decide +kernel⟩) (Or.inr ⟨e0 17 (by decide), by decide +kernel⟩) (Or.inr ⟨eL, fun l hl => ?_, by decide +kernel⟩) (Or.inr (by decide +kernel))
  · simp at hi
    exact hR i hi.1.1 (by omega) (by omega)
  · intro d hd
    by_cases hdc : d = c
    · subst hdc
      refine ⟨e + 1, by omega, x1, m1, fun g hg => ?_⟩
      by_cases hge : g = e
      · subst hge
        obtain ⟨z, hz, ez, -⟩ := vp_nI hx (by decide)
        exact ⟨nn, hn.1, hn.2, x2, m3, ⟨z, hz, by rw [x4]; exact ez⟩, by rw [m5, x4], fun k hk => by rw [m7 k hk, x6 k hk]⟩
      · obtain ⟨n0, w0, w1, w2, w3⟩ := h.2.2.1 d hd
        have : n0 = e := by rw [w1, nI_eq (by omega) (by omega)] at he0; exact he0
        subst this
        obtain ⟨z, b1, b2, b3, b4, b5, b6, b7⟩ := w3 g (by omega)
        refine ⟨z, b1, b2, by rw [x3 g hge]; exact b3, by rw [m4 _ (by omega)]; exact b4, by rw [x5 g hge]; exact b5, by rw [m6 _ (by omega), x5 g hge]; exact b6, fun k hk => ?_⟩
        rw [m8 _ (by omega), x7 _ (by omega)]
        exact b7 k hk
    · have q : ∀ d, d < 3 → 20 + d ∉ sB ∧ 20 + d + 3 ∉ sB ∧ 20 + d + 6 ∉ sB ∧ 20 + d + 9 ∉ sB := by decide
      obtain ⟨q1, q2, q3, q4⟩ := q d hd
      obtain ⟨n0, w0, w1, w2, w3⟩ := h.2.2.1 d hd
      refine ⟨n0, w0, by rw [hR _ q1 (by omega) (by omega)]; exact w1, by rw [m2 d hdc]; exact w2, fun g hg => ?_⟩
      obtain ⟨z, b1, b2, b3, b4, b5, b6, b7⟩ := w3 g hg
      refine ⟨z, b1, b2, by rw [hR _ q3 (by omega) (by omega)]; exact b3, by rw [m4 _ (by omega)]; exact b4, by rw [hR _ q4 (by omega) (by omega)]; exact b5, by rw [m6 _ (by omega), hR _ q4 (by omega) (by omega)]; exact b6, fun k hk => ?_⟩
      rw [m8 _ (by omega), hR _ q2 (by omega) (by omega)]
      exact b7 k hk
  · have := h.1.2.2.1.2.1
    have q : ∀ l, l < 8 → 32 + l ∉ sB := by decide
    exact hR _ (q l (by omega)) (by omega) (by omega)
theorem mcpy_at {M : Mem} {i0 i1 dp n k : Nat} (h : k < n) : mcpy M i0 i1 0 dp n i1 (dp + k) = M i0 k := by rw [mcpy_eq, pk_cpy_in (by omega) (by omega)]; congr 1; omega
theorem mcpy_off {M : Mem} {i0 i1 sp dp n j : Nat} (h : j < dp ∨ dp + n ≤ j) : mcpy M i0 i1 sp dp n i1 j = M i1 j := by rw [mcpy_eq, pk_cpy_out h]
theorem st_entry {M : Mem} (hI : Inv M) (a1 a2 a3 a4 a5 a6 : Int32) : wX10_entry a1 a2 a3 a4 a5 a6 M (fun r M1 => wX11_entry a1 a2 a3 a4 a5 a6 M1 (fun r' M2 => r = r' ∧ Inv M2)) := by
  by_cases h1 : vp_in a1 3
  · by_cases h2 : vp_in a2 16
    · by_cases h3 : vp_in a3 4
      · by_cases h4 : vp_in a4 3
        · obtain ⟨c, hc, ec, tc⟩ := vp_nI h1 (by decide)
          obtain ⟨s, hs, es, -⟩ := vp_nI h3 (by decide)
          have h8 := hI.2.2.2.2.2.2.2.2
          obtain ⟨e, he10, k1, k2, -⟩ := hI.2.2.1 c hc
          simp only [wX10_entry, forall_eq, e_b16, e_b6, e_b4, e_b3, e_w2, e_isMeaning, e_isIn, bI_t h1, bI_t h2, bI_t h3, bI_t h4, i10, i01, bI_0, bI_1, isB_bI, Classical.not_not, not_false_eq_true, not_true_eq_false, true_implies, false_implies, and_true, true_and, and_self, forall_eq, ne_eq, h1, tc]
          rw [ec, es]
          refine e_take h8 hs (mset_row (by omega)) (fun q => ?_) (fun q ni nn e1 e2 e3 M' f1 f2 => ?_)
          · simp only [ftv_ne q, i10, i01, bI_0, bI_1, isB_bI, Classical.not_not, not_false_eq_true, not_true_eq_false, true_implies, false_implies, and_true, true_and, and_self, forall_eq, ne_eq]
            exact m_entry h8 hc he10 hs h2 h4 (by rw [mset_row (by decide), mset_row (by decide)]; exact k2) (by rw [mset_row (by decide), mset_row (by decide)]) (by rw [mset_row (by decide), mset_row (by decide)]) (by rw [mset_row (by decide), mset_row (by decide)]) (fun _ => ⟨rfl, hI.f4 _ 0⟩) (fun z => absurd z q) (fun z => absurd z q)
          · have g : ∀ a, a ≠ 18 → a ≠ 0 → M' a = M a := fun a b1 b2 => by rw [f1 a b1, mset_row b2]
            have g0 : ∀ k, k ≠ 19 → M' 0 k = M 0 k := fun k hk => by rw [f1 0 (by decide), mset_ne (by omega)]
            have g19 : M' 0 19 = 0 := by rw [f1 0 (by decide), mset_eq]
            have f3 : ∀ k, k < nn → M' 18 k = M 194 (60 * s + ni + k) := fun k hk => by
              rw [f2 k hk, mset_row (by omega), ← (h8 s hs).2 (ni + k) (by omega)]
              congr 1
              omega
            have sc : ∀ i, i ∉ sB → i ≠ 18 ∧ i ≠ 0 ∧ i ≠ 49 := fun i hi => ⟨fun z => hi (by rw [z]; decide), fun z => hi (by rw [z]; decide), fun z => hi (by rw [z]; decide)⟩
            have fin : Inv (mset M' 49 0 0) := hI.scr (fun i hi => by rw [mset_row (sc i hi).2.2, g i (sc i hi).1 (sc i hi).2.1]) (fun k hk => by rw [mset_row (by decide), g0 k (by revert hk; simp; omega)]) (fun k hk => by rw [mset_ne (by revert hk; simp; omega), g 49 (by decide) (by decide)]) (by rw [mset_eq, mset_row (by decide), g19])
            have mm : ∀ {Q : Int32 → Mem → Prop}, ((¬ (1 ≤ nn ∧ nn ≤ 3) → Q (-2) (mset M' 49 0 0)) ∧ (1 ≤ nn ∧ nn ≤ 3 → (¬ (∀ k, k < nn → vp_in (M 194 (60 * s + ni + k)) 128) → Q (-2) (mset M' 49 0 0)) ∧ ((∀ k, k < nn → vp_in (M 194 (60 * s + ni + k)) 128) → (e = 10 → Q (-4) (mset M' 49 0 0)) ∧ (e < 10 → Q (nI (e + 1)) (mset (mcF (mset (mset (mset M' 49 0 0) 198 (10 * c + e) a2) 199 (10 * c + e) a6) 200 (3 * (10 * c + e)) nn (fun k => M 194 (60 * s + ni + k))) 197 c (nI (e + 1))))))) → wX11_entry (nI c) a2 (nI s) a4 a5 a6 M' Q := fun hh => m_entry h8 hc he10 hs h2 h4 (by rw [g 197 (by decide) (by decide)]; exact k2) (g _ (by decide) (by decide)) (g _ (by decide) (by decide)) (g _ (by decide) (by decide)) (fun y => absurd q y) (fun _ n1 n2 d1 d2 d3 => by
              rw [e1, nI_eq (by omega) (by omega)] at d1
              rw [e2, nI_eq (by omega) (by omega)] at d2
              subst d1; subst d2
              exact hh) (fun _ => ⟨ni, nn, e1, e2, e3⟩)
            have ew : (¬ a6 < 1 ∧ ¬ 3 < a6) = (1 ≤ nn ∧ nn ≤ 3) := by
              rw [e2, show (1 : Int32) = nI 1 by decide, show (3 : Int32) = nI 3 by decide, nI_ltI (by omega) (by omega), nI_ltI (by omega) (by omega)]
              apply propext
              omega
            simp only [i10, i01, bI_0, bI_1, isB_bI, Classical.not_not, not_false_eq_true, not_true_eq_false, true_implies, false_implies, and_true, true_and, and_self, forall_eq, ne_eq, e_isWithin, ew]
            refine ⟨fun z => mm ⟨fun _ => ⟨rfl, fin⟩, fun y => absurd y z⟩, fun z => ?_⟩
            have e2' := e2
            rw [e2]
            refine e_areTaken (b := 128) (by decide) (by omega) ?_
            have ea : (∀ k, k < nn → vp_in (M' 18 k) 128) = ∀ k, k < nn → vp_in (M 194 (60 * s + ni + k)) 128 := by
              apply propext
              exact ⟨fun h k hk => by rw [← f3 k hk]; exact h k hk, fun h k hk => by rw [f3 k hk]; exact h k hk⟩
            rw [ea]
            simp only [i10, i01, bI_0, bI_1, isB_bI, Classical.not_not, not_false_eq_true, not_true_eq_false, true_implies, false_implies, and_true, true_and, and_self, forall_eq, ne_eq]
            rw [← e2']
            refine ⟨fun zz => ?_, fun zz => mm ⟨fun y => absurd z y, fun _ => ⟨fun _ => ⟨rfl, fin⟩, fun y => absurd y zz⟩⟩⟩
            rw [e2']
            refine e_addEntry (e := e) hc (by rw [g _ (by omega) (by omega)]; exact k1) he10 z.2 (fun h10 => ?_) (fun hel => ?_)
            · rw [← e2']
              exact mm ⟨fun y => absurd z y, fun _ => ⟨fun y => absurd zz y, fun _ => ⟨fun _ => ⟨rfl, fin⟩, fun y => absurd y (by omega)⟩⟩⟩
            · have lay : ∀ a, ¬ (a = 20 + c ∨ a = 20 + c + 3 ∨ a = 20 + c + 6 ∨ a = 20 + c + 9) → a ≠ 18 → a ≠ 0 → (mset (mset (mset (mcpy M' 18 (20 + c + 3) 0 (3 * e) nn) (20 + c + 6) e (nI nn)) (20 + c + 9) e a2) (20 + c) 3 (nI (e + 1))) a = M a := fun a w1 w2 w3 => by
                rw [mset_row (by omega), mset_row (by omega), mset_row (by omega), mcpy_ne (by omega), g a w2 w3]
              have lay0 : (mset (mset (mset (mcpy M' 18 (20 + c + 3) 0 (3 * e) nn) (20 + c + 6) e (nI nn)) (20 + c + 9) e a2) (20 + c) 3 (nI (e + 1))) 0 = M' 0 := by
                rw [mset_row (by omega), mset_row (by omega), mset_row (by omega), mcpy_ne (by omega)]
              refine m_entry h8 hc he10 hs h2 h4 (by rw [lay 197 (by omega) (by decide) (by decide)]; exact k2) (lay 192 (by omega) (by decide) (by decide)) (lay 193 (by omega) (by decide) (by decide)) (lay 194 (by omega) (by decide) (by decide)) (fun y => absurd (by rw [← e2']; exact q) y) (fun _ n1 n2 d1 d2 d3 => ?_) (fun _ => ⟨ni, nn, e1, rfl, e3⟩)
              rw [e1, nI_eq (by omega) (by omega)] at d1
              rw [nI_eq (by omega) (by omega)] at d2
              subst d1; subst d2
              refine ⟨fun y => absurd z y, fun _ => ⟨fun y => absurd zz y, fun _ => ⟨fun y => absurd y (by omega), fun _ => ⟨rfl, ?_⟩⟩⟩⟩
              have q9 : ∀ a, ¬ (197 ≤ a ∧ a < 201) → a ≠ 49 → ∀ (Mx : Mem), (mset (mcF (mset (mset (mset Mx 49 0 0) 198 (10 * c + e) a2) 199 (10 * c + e) (nI nn)) 200 (3 * (10 * c + e)) nn (fun k => M 194 (60 * s + ni + k))) 197 c (nI (e + 1))) a = Mx a := fun a w1 w2 Mx => by
                rw [mset_row (by omega), mcF_row (by omega), mset_row (by omega), mset_row (by omega), mset_row w2]
              refine hI.entry' (f := fun k => M 194 (60 * s + ni + k)) hc hel z h2 k1 (fun i hi w1 w2 => by rw [q9 i w2 (sc i hi).2.2, lay i w1 (sc i hi).1 (sc i hi).2.1]) (fun k hk => by rw [q9 0 (by omega) (by decide), lay0, g0 k (by revert hk; simp; omega)]) (fun k hk => ?_) ?_ ?_ ?_ (fun j hj => ?_) ?_ (fun j hj => ?_) (fun k hk => ?_) (fun j hj => ?_) ?_ (fun j hj => ?_) ?_ (fun j hj => ?_) ?_ (fun j hj => ?_) (fun k hk => ?_) (fun j hj => ?_)
              · rw [mset_row (by decide), mcF_row (by decide), mset_row (by decide), mset_row (by decide), mset_ne (by revert hk; simp; omega), lay 49 (by omega) (by decide) (by decide)]
              · rw [mset_row (by decide), mcF_row (by decide), mset_row (by decide), mset_row (by decide), mset_eq, q9 0 (by omega) (by decide), lay0, g19]
              · rw [q9 _ (by omega) (by omega), mset_eq]
              · rw [q9 _ (by omega) (by omega), mset_row (by omega), mset_row (by omega), mset_eq]
              · rw [q9 _ (by omega) (by omega), mset_row (by omega), mset_row (by omega), mset_ne (by omega), mcpy_ne (by omega), g _ (by omega) (by omega)]
              · rw [q9 _ (by omega) (by omega), mset_row (by omega), mset_eq]
              · rw [q9 _ (by omega) (by omega), mset_row (by omega), mset_ne (by omega), mset_row (by omega), mcpy_ne (by omega), g _ (by omega) (by omega)]
              · rw [q9 _ (by omega) (by omega), mset_row (by omega), mset_row (by omega), mset_row (by omega), mcpy_at hk, f3 k hk]
              · rw [q9 _ (by omega) (by omega), mset_row (by omega), mset_row (by omega), mset_row (by omega), mcpy_off (Or.inl hj), g _ (by omega) (by omega)]
              · rw [mset_eq]
              · rw [mset_ne (by omega), mcF_row (by decide), mset_row (by decide), mset_row (by decide), mset_row (by decide), lay 197 (by omega) (by decide) (by decide)]
              · rw [mset_row (by decide), mcF_row (by decide), mset_eq]
              · rw [mset_row (by decide), mcF_row (by decide), mset_ne (by omega), mset_row (by decide), mset_row (by decide), lay 199 (by omega) (by decide) (by decide)]
              · rw [mset_row (by decide), mcF_row (by decide), mset_row (by decide), mset_eq]
              · rw [mset_row (by decide), mcF_row (by decide), mset_row (by decide), mset_ne (by omega), mset_row (by decide), lay 198 (by omega) (by decide) (by decide)]
              · rw [mset_row (by decide), mcF_in hk]
              · rw [mset_row (by decide), mcF_out hj, mset_row (by decide), mset_row (by decide), mset_row (by decide), lay 200 (by omega) (by decide) (by decide)]
        · simp only [wX10_entry, wX11_entry, forall_eq, e_b16, e_b6, e_b4, e_b3, e_w2, e_isMeaning, e_isIn, e_m15, e_m5, e_m3, e_m2, e_m63, m_isMeaning, m_isSound, m_isSheet, m_isLane, m_isCollector, e_has, bI_t h1, bI_t h2, bI_t h3, bI_f h4, i10, i01, bI_0, bI_1, isB_bI, Classical.not_not, not_false_eq_true, not_true_eq_false, true_implies, false_implies, and_true, true_and, and_self, forall_eq, ne_eq]
          exact hI.f2 0
      · simp only [wX10_entry, wX11_entry, forall_eq, e_b16, e_b6, e_b4, e_b3, e_w2, e_isMeaning, e_isIn, e_m15, e_m5, e_m3, e_m2, e_m63, m_isMeaning, m_isSound, m_isSheet, m_isLane, m_isCollector, e_has, bI_t h1, bI_t h2, bI_f h3, i10, i01, bI_0, bI_1, isB_bI, Classical.not_not, not_false_eq_true, not_true_eq_false, true_implies, false_implies, and_true, true_and, and_self, forall_eq, ne_eq]
        exact hI.f2 0
    · simp only [wX10_entry, wX11_entry, forall_eq, e_b16, e_b6, e_b4, e_b3, e_w2, e_isMeaning, e_isIn, e_m15, e_m5, e_m3, e_m2, e_m63, m_isMeaning, m_isSound, m_isSheet, m_isLane, m_isCollector, e_has, bI_t h1, bI_f h2, i10, i01, bI_0, bI_1, isB_bI, Classical.not_not, not_false_eq_true, not_true_eq_false, true_implies, false_implies, and_true, true_and, and_self, forall_eq, ne_eq]
      exact hI.f2 0
  · simp only [wX10_entry, wX11_entry, forall_eq, e_b16, e_b6, e_b4, e_b3, e_w2, e_isMeaning, e_isIn, e_m15, e_m5, e_m3, e_m2, e_m63, m_isMeaning, m_isSound, m_isSheet, m_isLane, m_isCollector, e_has, bI_f h1, i10, i01, bI_0, bI_1, isB_bI, Classical.not_not, not_false_eq_true, not_true_eq_false, true_implies, false_implies, and_true, true_and, and_self, forall_eq, ne_eq]
    exact hI.f2 0
