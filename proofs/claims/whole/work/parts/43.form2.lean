theorem m_form {M Mx : Mem} (h8 : I8 M) {F P p m s : Nat} (hp : p < P) (hP : P ≤ 8) (hm : m < 6) (hs : s < 4) (hF40 : F ≤ 40) {kind lane i n : Int32} (hk : vp_in kind 3) (hl : vp_in lane 3) {Q : Int32 → Mem → Prop} (c11 : Mx 49 11 = nI P) (c13 : Mx 49 13 = nI F) (r1 : Mx 192 = M 192) (r2 : Mx 193 = M 193) (r3 : Mx 194 = M 194)
    (hQ1 : ¬ ftv M s lane i n = 0 → Q ((-10) - ftv M s lane i n) (mset (mset Mx 49 0 0) 49 0 (ftv M s lane i n)))
    (hQ0 : ftv M s lane i n = 0 → ∀ ni nn : Nat, i = nI ni → n = nI nn → ni + nn ≤ 60 →
      (¬ nn ≤ 8 → Q (-2) (mset Mx 49 0 0)) ∧ (nn ≤ 8 → (¬ (∀ k, k < nn → vp_in (M 194 (60 * s + ni + k)) 16) → Q (-1) (mset Mx 49 0 0)) ∧ ((∀ k, k < nn → vp_in (M 194 (60 * s + ni + k)) 16) → (F = 40 → Q (-4) (mset Mx 49 0 0)) ∧ (F < 40 → Q (nI F) (mset (mset (mset (mset (mset (mcF (mset Mx 49 0 0) 208 (8 * F) nn (fun k => M 194 (60 * s + ni + k))) 204 F kind) 205 F (nI p)) 206 F (nI m)) 207 F n) 49 13 (nI (F + 1)))))))
    (hrng : ftv M s lane i n = 0 → ∃ ni nn : Nat, i = nI ni ∧ n = nI nn ∧ ni + nn ≤ 60) : wX11_form kind (nI p) (nI m) (nI s) lane i n Mx Q := by
  have v0 : vp_in (nI p) P := vp_in_nI hp (by omega)
  have v1 : vp_in (nI m) 6 := vp_in_nI hm (by decide)
  have v2 : vp_in (nI s) 4 := vp_in_nI hs (by decide)
  simp only [wX11_form, forall_eq]
  rw [m_isPlaceN (n := P) (by rw [mset_ne (by decide)]; exact c11) (by omega)]
  simp only [e_m15, e_m5, e_m3, e_m2, e_m63, m_isMeaning, m_isSound, m_isSheet, m_isLane, m_isCollector, e_has, bI_t v0, bI_t v1, bI_t v2, bI_t hl, bI_t hk, i10, i01, bI_0, bI_1, isB_bI, Classical.not_not, not_false_eq_true, not_true_eq_false, true_implies, false_implies, and_true, true_and, and_self, forall_eq, ne_eq]
  refine m_against h8 hs (by rw [mset_row (by decide)]; exact r1) (by rw [mset_row (by decide)]; exact r2) hl ?_
  by_cases hv : ftv M s lane i n = 0
  · obtain ⟨ni, nn, e1, e2, e3⟩ := hrng hv
    obtain ⟨g1, g2⟩ := hQ0 hv ni nn e1 e2 e3
    subst e1; subst e2
    simp only [hv, i10, i01, bI_0, bI_1, isB_bI, Classical.not_not, not_false_eq_true, not_true_eq_false, true_implies, false_implies, and_true, true_and, and_self, forall_eq, ne_eq]
    refine ⟨fun q => ?_, fun q => g1 (fun z => q (nI_le z (by decide)))⟩
    have hnn : nn ≤ 8 := by
      rcases Nat.lt_or_ge 8 nn with z | z
      · exact absurd q (nI_ge (a := 8) z (by omega))
      · exact z
    obtain ⟨g3, g4⟩ := g2 hnn
    rw [fr60]
    refine m_areCells (by omega) ?_
    have r4 : mset Mx 49 0 0 194 = M 194 := by rw [mset_row (by decide)]; exact r3
    have r5 : mset Mx 49 0 0 49 13 = nI F := by rw [mset_ne (by decide)]; exact c13
    simp only [r4, vp16, i10, i01, bI_0, bI_1, isB_bI, Classical.not_not, not_false_eq_true, not_true_eq_false, true_implies, false_implies, and_true, true_and, and_self, forall_eq, ne_eq, r5]
    refine ⟨fun q => ?_, g3⟩
    obtain ⟨g5, g6⟩ := g4 q
    by_cases hF : F = 40
    · subst hF
      exact ⟨fun z => absurd rfl z, fun _ => g5 rfl⟩
    · have hFl : F < 40 := by omega
      refine ⟨fun _ => ?_, fun z => absurd z (by rw [show (40 : Int32) = nI 40 by decide, nI_eq (by omega) (by decide)]; exact hF)⟩
      refine ⟨nn + 1, lq1_ind (fun d x M' => d ≤ nn ∧ x = nI (nn - d) ∧ M' = mcF (mset Mx 49 0 0) 208 (8 * F) (nn - d) (fun k => M 194 (60 * s + ni + k))) ?_ ?_ nn 0 _ ⟨Nat.le_refl _, by rw [Nat.sub_self, nI_0], by rw [Nat.sub_self, mcF_0]⟩⟩
      · rintro R x M' ⟨-, rfl, rfl⟩
        rw [Nat.sub_zero]
        refine ⟨fun _ => m_comes (by rw [mcF_row (by decide)]; exact r5) hFl (g6 hFl), fun q => absurd (Int32.le_refl _) q⟩
      · rintro d R x M' ⟨hd, rfl, rfl⟩ hR
        obtain ⟨k, hk0⟩ : ∃ k, k = nn - (d + 1) := ⟨_, rfl⟩
        rw [← hk0]
        have i0 : mcF (mset Mx 49 0 0) 208 (8 * F) k (fun k => M 194 (60 * s + ni + k)) 49 13 = nI F := by rw [mcF_row (by decide)]; exact r5
        have i1 : nI (60 * s + ni) + nI k = nI (60 * s + ni + k) := nI_add _ _
        have i2 : (8 : Int32) * nI F + nI k = nI (8 * F + k) := by rw [show (8 : Int32) = nI 8 by decide, pk_mul, nI_add]
        simp only [i0]
        rw [i1, i2]
        refine ⟨fun q => absurd q (nI_ge (by omega) (by omega)), fun _ => ⟨vp_in_nI (by omega) (by decide), vp_in_nI (by omega) (by decide), hR _ _ ⟨by omega, by rw [nI_1]; congr 1; omega, ?_⟩⟩⟩
        rw [nI_clamp (by omega), nI_clamp (by omega), mcF_row (by decide), r4]
        have := mcF_s (M := mset Mx 49 0 0) (t := 208) (o := 8 * F) (n := k) (f := fun k => M 194 (60 * s + ni + k))
        rw [this]
        congr 1
        omega
  · simp only [hv, i10, i01, bI_0, bI_1, isB_bI, Classical.not_not, not_false_eq_true, not_true_eq_false, true_implies, false_implies, and_true, true_and, and_self, forall_eq, ne_eq, m_fail]
    exact hQ1 hv
/-- the model's rows behind a new form, as form' wants them -/
theorem Inv.form2 {M M3 : Mem} (hI : Inv M) {F p m nn : Nat} {kind : Int32} {f : Nat → Int32} (hF : cF M = F) (hF40 : F < 40) (hp : p < cP M) (hm : m < 6) (hk : vp_in kind 3) (hn : nn ≤ 8) (hf : ∀ k, k < nn → vp_in (f k) 16)
    (gg : ∀ a, a ∉ sB → a ≠ 7 → a ≠ 50 + F → a ≠ 100 + F → a ≠ 150 + F → M3 a = M a) (g49 : ∀ k, k ∈ [1, 11, 22, 34, 44] → M3 49 k = M 49 k) (g0 : ∀ k, k ∈ [15, 17, 18] → M3 0 k = M 0 k) (g16 : M3 0 16 = nI (F + 1)) (g19 : M3 0 19 = 0)
    (s1 : M3 7 (6 * p + m) = nI F) (s2 : ∀ j, j ≠ 6 * p + m → M3 7 j = M 7 j) (x1 : M3 (150 + F) 1 = kind) (x2 : M3 (150 + F) 2 = nI p) (x3 : M3 (150 + F) 3 = nI m) (x4 : M3 (50 + F) 1 = nI nn) (x5 : ∀ k, k < nn → M3 (100 + F) k = f k) :
    Inv (mset (mset (mset (mset (mset (mcF (mset M3 49 0 0) 208 (8 * F) nn f) 204 F kind) 205 F (nI p)) 206 F (nI m)) 207 F (nI nn)) 49 13 (nI (F + 1))) := by
  have lay : ∀ a, a ≠ 49 → ¬ (204 ≤ a ∧ a < 209) → (mset (mset (mset (mset (mset (mcF (mset M3 49 0 0) 208 (8 * F) nn f) 204 F kind) 205 F (nI p)) 206 F (nI m)) 207 F (nI nn)) 49 13 (nI (F + 1))) a = M3 a := fun a w1 w2 => by
    rw [mset_row w1, mset_row (by omega), mset_row (by omega), mset_row (by omega), mset_row (by omega), mcF_row (by omega), mset_row w1]
  have sc : ∀ a, a ∉ sB → a ≠ 49 := fun a ha z => ha (by rw [z]; decide)
  have b204 : ∀ a, 204 ≤ a ∧ a < 209 → a ∉ sB := by
    intro a ha
    have q : ∀ a, a < 209 → 204 ≤ a → a ∉ sB := by decide +kernel
    exact q a ha.2 ha.1
  have o : ∀ a, 204 ≤ a ∧ a < 209 → M3 a = M a := fun a ha => gg a (b204 a ha) (by omega) (by omega) (by omega) (by omega)
  refine hI.form' hF hF40 hp hm hk hn hf (fun i hi w1 w2 w3 w4 w5 => by rw [lay i (sc i hi) w5, gg i hi w1 w2 w3 w4]) (fun k hk => by rw [lay 0 (by decide) (by omega), g0 k hk]) (by rw [lay 0 (by decide) (by omega), g16]) (fun k hk => ?_) (by rw [mset_eq]) ?_ (by rw [lay 7 (by decide) (by omega), s1]) (fun j hj => by rw [lay 7 (by decide) (by omega), s2 j hj]) (by rw [lay _ (by omega) (by omega), x1]) (by rw [lay _ (by omega) (by omega), x2]) (by rw [lay _ (by omega) (by omega), x3]) (by rw [lay _ (by omega) (by omega), x4]) (fun k hk => by rw [lay _ (by omega) (by omega), x5 k hk]) ?_ ?_ ?_ ?_ (fun k hk => ?_) (fun g hg => ⟨?_, ?_, ?_, ?_⟩) (fun j hj => ?_)
  · have : k ≠ 0 ∧ k ≠ 13 := by revert hk; simp; omega
    rw [mset_ne (by omega), mset_row (by decide), mset_row (by decide), mset_row (by decide), mset_row (by decide), mcF_row (by decide), mset_ne (by omega), g49 k hk]
  · rw [mset_ne (by decide), mset_row (by decide), mset_row (by decide), mset_row (by decide), mset_row (by decide), mcF_row (by decide), mset_eq, lay 0 (by decide) (by omega), g19]
  · rw [mset_row (by decide), mset_row (by decide), mset_row (by decide), mset_row (by decide), mset_eq]
  · rw [mset_row (by decide), mset_row (by decide), mset_row (by decide), mset_eq]
  · rw [mset_row (by decide), mset_row (by decide), mset_eq]
  · rw [mset_row (by decide), mset_eq]
  · rw [mset_row (by decide), mset_row (by decide), mset_row (by decide), mset_row (by decide), mset_row (by decide), mcF_in hk]
  · rw [mset_row (by decide), mset_row (by decide), mset_row (by decide), mset_row (by decide), mset_ne (by omega), mcF_row (by decide), mset_row (by decide), o 204 (by omega)]
  · rw [mset_row (by decide), mset_row (by decide), mset_row (by decide), mset_ne (by omega), mset_row (by decide), mcF_row (by decide), mset_row (by decide), o 205 (by omega)]
  · rw [mset_row (by decide), mset_row (by decide), mset_ne (by omega), mset_row (by decide), mset_row (by decide), mcF_row (by decide), mset_row (by decide), o 206 (by omega)]
  · rw [mset_row (by decide), mset_ne (by omega), mset_row (by decide), mset_row (by decide), mset_row (by decide), mcF_row (by decide), mset_row (by decide), o 207 (by omega)]
  · rw [mset_row (by decide), mset_row (by decide), mset_row (by decide), mset_row (by decide), mset_row (by decide), mcF_out (by omega), mset_row (by decide), o 208 (by omega)]
theorem st_form {M : Mem} (hI : Inv M) (a1 a2 a3 a4 a5 a6 a7 : Int32) : wX10_form a1 a2 a3 a4 a5 a6 a7 M (fun r M1 => wX11_form a1 a2 a3 a4 a5 a6 a7 M1 (fun r' M2 => r = r' ∧ Inv M2)) := by
  have h0 := hI.1
  have hP8 := h0.1.2.1
  have hF40 := h0.2.1.2.1
  have c15 := h0.1.1
  have c11 : M 49 11 = nI (cP M) := h0.1.2.2.trans h0.1.1
  have c16 := h0.2.1.1
  have c13 : M 49 13 = nI (cF M) := h0.2.1.2.2.trans h0.2.1.1
  have eX : ∀ Q, wX10_isPlace a2 (mset M 0 19 0) Q = Q (bI (vp_in a2 (cP M))) (mset M 0 19 0) := fun Q => e_isPlaceN (by rw [mset_ne (by decide)]; exact c15) (by omega)
  have eM : ∀ Q, wX11_isPlace a2 (mset (mset M 0 19 0) 49 0 0) Q = Q (bI (vp_in a2 (cP M))) (mset (mset M 0 19 0) 49 0 0) := fun Q => m_isPlaceN (by rw [mset_ne (by decide), mset_row (by decide)]; exact c11) (by omega)
  by_cases h1 : vp_in a2 (cP M)
  · by_cases h2 : vp_in a3 6
    · by_cases h3 : vp_in a4 4
      · by_cases h4 : vp_in a1 3
        · by_cases h5 : vp_in a5 3
          · obtain ⟨p, hp, ep, -⟩ := vp_nI h1 (by omega)
            obtain ⟨m, hm, em, -⟩ := vp_nI h2 (by decide)
            obtain ⟨s, hs, es, -⟩ := vp_nI h3 (by decide)
            have h8 := hI.2.2.2.2.2.2.2.2
            simp only [wX10_form, forall_eq, eX, e_b16, e_b6, e_b4, e_b3, e_w2, e_isMeaning, e_isIn, bI_t h1, bI_t h2, bI_t h3, bI_t h4, bI_t h5, i10, i01, bI_0, bI_1, isB_bI, Classical.not_not, not_false_eq_true, not_true_eq_false, true_implies, false_implies, and_true, true_and, and_self, forall_eq, ne_eq]
            rw [ep, em, es]
            refine e_takeS h8 hs (mset_row (by omega)) (mset_row (by omega)) (fun q => ?_) (fun q ni nn e1 e2 e3 M' f1 f3 => ?_)
            · simp only [ftv_ne q, i10, i01, bI_0, bI_1, isB_bI, Classical.not_not, not_false_eq_true, not_true_eq_false, true_implies, false_implies, and_true, true_and, and_self, forall_eq, ne_eq]
              exact m_form h8 hp hP8 hm hs hF40 h4 h5 (by rw [mset_row (by decide), mset_row (by decide)]; exact c11) (by rw [mset_row (by decide), mset_row (by decide)]; exact c13) (by rw [mset_row (by decide), mset_row (by decide)]) (by rw [mset_row (by decide), mset_row (by decide)]) (by rw [mset_row (by decide), mset_row (by decide)]) (fun _ => ⟨rfl, hI.f4 _ 0⟩) (fun z => absurd z q) (fun z => absurd z q)
            · have g : ∀ a, a ≠ 18 → a ≠ 0 → M' a = M a := fun a b1 b2 => by rw [f1 a b1, mset_row b2]
              have g0 : ∀ k, k ≠ 19 → M' 0 k = M 0 k := fun k hk => by rw [f1 0 (by decide), mset_ne (by omega)]
              have g19 : M' 0 19 = 0 := by rw [f1 0 (by decide), mset_eq]
              have sc : ∀ i, i ∉ sB → i ≠ 18 ∧ i ≠ 0 ∧ i ≠ 49 ∧ i ≠ 97 ∧ i ≠ 147 := fun i hi => ⟨fun z => hi (by rw [z]; decide), fun z => hi (by rw [z]; decide), fun z => hi (by rw [z]; decide), fun z => hi (by rw [z]; decide), fun z => hi (by rw [z]; decide)⟩
              have fin : Inv (mset M' 49 0 0) := hI.scr (fun i hi => by rw [mset_row (sc i hi).2.2.1, g i (sc i hi).1 (sc i hi).2.1]) (fun k hk => by rw [mset_row (by decide), g0 k (by revert hk; simp; omega)]) (fun k hk => by rw [mset_ne (by revert hk; simp; omega), g 49 (by decide) (by decide)]) (by rw [mset_eq, mset_row (by decide), g19])
              refine ⟨fun z => ?_, fun z => ⟨fun zz => ?_, fun zz => ?_⟩⟩
              · simp only [show ((-2 : Int32) = 0) = False from by decide, i10, i01, bI_0, bI_1, isB_bI, Classical.not_not, not_false_eq_true, not_true_eq_false, true_implies, false_implies, and_true, true_and, and_self, forall_eq, ne_eq]
                refine m_form h8 hp hP8 hm hs hF40 h4 h5 (by rw [g _ (by decide) (by decide)]; exact c11) (by rw [g _ (by decide) (by decide)]; exact c13) (g _ (by decide) (by decide)) (g _ (by decide) (by decide)) (g _ (by decide) (by decide)) (fun y => absurd q y) (fun _ n1 n2 d1 d2 d3 => ⟨fun _ => ⟨rfl, fin⟩, fun y => ?_⟩) (fun _ => ⟨ni, nn, e1, e2, e3⟩)
                rw [e2, nI_eq (by omega) (by omega)] at d2
                omega
              · simp only [show ((-1 : Int32) = 0) = False from by decide, i10, i01, bI_0, bI_1, isB_bI, Classical.not_not, not_false_eq_true, not_true_eq_false, true_implies, false_implies, and_true, true_and, and_self, forall_eq, ne_eq]
                refine m_form h8 hp hP8 hm hs hF40 h4 h5 (by rw [g _ (by decide) (by decide)]; exact c11) (by rw [g _ (by decide) (by decide)]; exact c13) (g _ (by decide) (by decide)) (g _ (by decide) (by decide)) (g _ (by decide) (by decide)) (fun y => absurd q y) (fun _ n1 n2 d1 d2 d3 => ?_) (fun _ => ⟨ni, nn, e1, e2, e3⟩)
                rw [e1, nI_eq (by omega) (by omega)] at d1
                rw [e2, nI_eq (by omega) (by omega)] at d2
                subst d1; subst d2
                exact ⟨fun y => absurd z y, fun _ => ⟨fun _ => ⟨rfl, fin⟩, fun y => absurd y zz⟩⟩
              · simp only [i10, i01, bI_0, bI_1, isB_bI, Classical.not_not, not_false_eq_true, not_true_eq_false, true_implies, false_implies, and_true, true_and, and_self, forall_eq, ne_eq]
                rw [e2]
                refine e_cells ⟨by omega, by omega⟩ z (fun M3 b1 b2 b3 => ?_)
                have gg : ∀ a, a ≠ 18 → a ≠ 0 → a ≠ 97 → a ≠ 147 → M3 a = M a := fun a w1 w2 w3 w4 => by rw [b1 a w3 w4, g a w1 w2]
                have gg0 : ∀ k, k ≠ 19 → M3 0 k = M 0 k := fun k hk => by rw [b1 0 (by decide) (by decide), g0 k hk]
                have gg19 : M3 0 19 = 0 := by rw [b1 0 (by decide) (by decide), g19]
                refine e_addForm (F := cF M) (nn := nn) (by rw [gg0 16 (by decide)]; exact c16) hF40 (by omega) hm b2 z (fun hF => ?_) (fun hF M4 w1 w2 w3 w4 w5 w6 w7 w8 w9 w10 => ?_)
                · have fin2 : Inv (mset M3 49 0 0) := hI.scr (fun i hi => by rw [mset_row (sc i hi).2.2.1, gg i (sc i hi).1 (sc i hi).2.1 (sc i hi).2.2.2.1 (sc i hi).2.2.2.2]) (fun k hk => by rw [mset_row (by decide), gg0 k (by revert hk; simp; omega)]) (fun k hk => by rw [mset_ne (by revert hk; simp; omega), gg 49 (by decide) (by decide) (by decide) (by decide)]) (by rw [mset_eq, mset_row (by decide), gg19])
                  refine m_form h8 hp hP8 hm hs hF40 h4 h5 (by rw [gg 49 (by decide) (by decide) (by decide) (by decide)]; exact c11) (by rw [gg 49 (by decide) (by decide) (by decide) (by decide)]; exact c13) (gg _ (by decide) (by decide) (by decide) (by decide)) (gg _ (by decide) (by decide) (by decide) (by decide)) (gg _ (by decide) (by decide) (by decide) (by decide)) (fun y => absurd (by rw [← e2]; exact q) y) (fun _ n1 n2 d1 d2 d3 => ?_) (fun _ => ⟨ni, nn, e1, rfl, e3⟩)
                  rw [e1, nI_eq (by omega) (by omega)] at d1
                  rw [nI_eq (by omega) (by omega)] at d2
                  subst d1; subst d2
                  exact ⟨fun y => absurd z y, fun _ => ⟨fun y => absurd zz y, fun _ => ⟨fun _ => ⟨rfl, fin2⟩, fun y => absurd y (by omega)⟩⟩⟩
                · have hh : ∀ a, a ≠ 18 → a ≠ 0 → a ≠ 97 → a ≠ 147 → a ≠ 7 → a ≠ 50 + cF M → a ≠ 100 + cF M → a ≠ 150 + cF M → M4 a = M a := fun a y1 y2 y3 y4 y5 y6 y7 y8 => by rw [w1 a y2 y5 y6 y7 y8, gg a y1 y2 y3 y4]
                  have hh0 : ∀ k, k ≠ 19 → k ≠ 16 → M4 0 k = M 0 k := fun k y1 y2 => by rw [w2 k y2, gg0 k y1]
                  have fin3 := hI.form2 (M3 := M4) (kind := a1) (f := fun k => M 194 (60 * s + ni + k)) rfl hF hp hm h4 z zz (fun a ha y1 y2 y3 y4 => hh a (sc a ha).1 (sc a ha).2.1 (sc a ha).2.2.2.1 (sc a ha).2.2.2.2 y1 y2 y3 y4) (fun k hk => by rw [hh 49 (by decide) (by decide) (by decide) (by decide) (by decide) (by omega) (by omega) (by omega)]) (fun k hk => hh0 k (by revert hk; simp; omega) (by revert hk; simp; omega)) w3 (by rw [w2 19 (by decide), gg19]) w4 (fun j hj => by rw [w5 j hj, gg 7 (by decide) (by decide) (by decide) (by decide)]) w6 w7 w8 w9 (fun k hk => by rw [w10 k hk, b3 k hk, f3 k hk])
                  refine m_form h8 hp hP8 hm hs hF40 h4 h5 (by rw [hh 49 (by decide) (by decide) (by decide) (by decide) (by decide) (by omega) (by omega) (by omega)]; exact c11) (by rw [hh 49 (by decide) (by decide) (by decide) (by decide) (by decide) (by omega) (by omega) (by omega)]; exact c13) (hh 192 (by decide) (by decide) (by decide) (by decide) (by decide) (by omega) (by omega) (by omega)) (hh 193 (by decide) (by decide) (by decide) (by decide) (by decide) (by omega) (by omega) (by omega)) (hh 194 (by decide) (by decide) (by decide) (by decide) (by decide) (by omega) (by omega) (by omega)) (fun y => absurd (by rw [← e2]; exact q) y) (fun _ n1 n2 d1 d2 d3 => ?_) (fun _ => ⟨ni, nn, e1, rfl, e3⟩)
                  rw [e1, nI_eq (by omega) (by omega)] at d1
                  rw [nI_eq (by omega) (by omega)] at d2
                  subst d1; subst d2
                  exact ⟨fun y => absurd z y, fun _ => ⟨fun y => absurd zz y, fun _ => ⟨fun y => absurd y (by omega), fun _ => ⟨rfl, fin3⟩⟩⟩⟩
          · simp only [wX10_form, wX11_form, forall_eq, eX, eM, e_b16, e_b6, e_b4, e_b3, e_w2, e_isMeaning, e_isIn, e_m15, e_m5, e_m3, e_m2, e_m63, m_isMeaning, m_isSound, m_isSheet, m_isLane, m_isCollector, e_has, bI_t h1, bI_t h2, bI_t h3, bI_t h4, bI_f h5, i10, i01, bI_0, bI_1, isB_bI, Classical.not_not, not_false_eq_true, not_true_eq_false, true_implies, false_implies, and_true, true_and, and_self, forall_eq, ne_eq]
            exact hI.f2 0
        · simp only [wX10_form, wX11_form, forall_eq, eX, eM, e_b16, e_b6, e_b4, e_b3, e_w2, e_isMeaning, e_isIn, e_m15, e_m5, e_m3, e_m2, e_m63, m_isMeaning, m_isSound, m_isSheet, m_isLane, m_isCollector, e_has, bI_t h1, bI_t h2, bI_t h3, bI_f h4, i10, i01, bI_0, bI_1, isB_bI, Classical.not_not, not_false_eq_true, not_true_eq_false, true_implies, false_implies, and_true, true_and, and_self, forall_eq, ne_eq]
          exact hI.f2 0
      · simp only [wX10_form, wX11_form, forall_eq, eX, eM, e_b16, e_b6, e_b4, e_b3, e_w2, e_isMeaning, e_isIn, e_m15, e_m5, e_m3, e_m2, e_m63, m_isMeaning, m_isSound, m_isSheet, m_isLane, m_isCollector, e_has, bI_t h1, bI_t h2, bI_f h3, i10, i01, bI_0, bI_1, isB_bI, Classical.not_not, not_false_eq_true, not_true_eq_false, true_implies, false_implies, and_true, true_and, and_self, forall_eq, ne_eq]
        exact hI.f2 0
    · simp only [wX10_form, wX11_form, forall_eq, eX, eM, e_b16, e_b6, e_b4, e_b3, e_w2, e_isMeaning, e_isIn, e_m15, e_m5, e_m3, e_m2, e_m63, m_isMeaning, m_isSound, m_isSheet, m_isLane, m_isCollector, e_has, bI_t h1, bI_f h2, i10, i01, bI_0, bI_1, isB_bI, Classical.not_not, not_false_eq_true, not_true_eq_false, true_implies, false_implies, and_true, true_and, and_self, forall_eq, ne_eq]
      exact hI.f2 0
  · simp only [wX10_form, wX11_form, forall_eq, eX, eM, e_b16, e_b6, e_b4, e_b3, e_w2, e_isMeaning, e_isIn, e_m15, e_m5, e_m3, e_m2, e_m63, m_isMeaning, m_isSound, m_isSheet, m_isLane, m_isCollector, e_has, bI_f h1, i10, i01, bI_0, bI_1, isB_bI, Classical.not_not, not_false_eq_true, not_true_eq_false, true_implies, false_implies, and_true, true_and, and_self, forall_eq, ne_eq]
    exact hI.f2 0
