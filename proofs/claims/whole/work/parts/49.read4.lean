theorem rdO_pos {L : Nat → Option Nat} {z : Nat → Nat} {v : Nat → Int32} {nn : Nat} (hL : ∀ p b, p ≤ nn → L p = some b → p + z b ≤ nn) : ∀ d p j f, p ≤ nn → ∀ q, (rdO L z v nn d p j f).1 = some q → q ≤ nn := by
  intro d
  induction d with
  | zero => intro p j f hp q hq; cases hq; exact hp
  | succ d ih =>
    intro p j f hp q
    rw [rdO]
    split
    · intro hq; cases hq
    · split
      · intro hq; cases hq; exact hp
      · rename_i b hb
        split
        · intro hq; cases hq; exact hp
        · exact ih _ _ _ (hL p b hp hb) q
theorem st_read {M : Mem} (hI : Inv M) (a1 a2 a3 a4 a5 a6 a7 : Int32) : wX10_read a1 a2 a3 a4 a5 a6 a7 M (fun r M1 => wX11_read a1 a2 a3 a4 a5 a6 a7 M1 (fun r' M2 => r = r' ∧ Inv M2)) := by
  have h0 := hI.1
  have hP8 := h0.1.2.1
  have hF40 := h0.2.1.2.1
  have c15 := h0.1.1
  have c11 : M 49 11 = nI (cP M) := h0.1.2.2.trans h0.1.1
  have c16 := h0.2.1.1
  have c13 : M 49 13 = nI (cF M) := h0.2.1.2.2.trans h0.2.1.1
  have eX : ∀ Q, wX10_isPlace a2 (mset M 0 19 0) Q = Q (bI (vp_in a2 (cP M))) (mset M 0 19 0) := fun Q => e_isPlaceN (by rw [mset_ne (by decide)]; exact c15) (by omega)
  have eM : ∀ Q, wX11_isPlace a2 (mset (mset M 0 19 0) 49 0 0) Q = Q (bI (vp_in a2 (cP M))) (mset (mset M 0 19 0) 49 0 0) := fun Q => m_isPlaceN (by rw [mset_ne (by decide), mset_row (by decide)]; exact c11) (by omega)
  by_cases h4 : vp_in a1 3
  · by_cases h1 : vp_in a2 (cP M)
    · by_cases h2 : vp_in a3 6
      · by_cases h3 : vp_in a4 4
        · by_cases h5 : vp_in a5 3
          · obtain ⟨col, hc, ec, -⟩ := vp_nI h4 (by decide)
            obtain ⟨p, hp, ep, -⟩ := vp_nI h1 (by omega)
            obtain ⟨m, hm, em, -⟩ := vp_nI h2 (by decide)
            obtain ⟨s, hs, es, -⟩ := vp_nI h3 (by decide)
            have h8 := hI.2.2.2.2.2.2.2.2
            obtain ⟨n, hn10, k1, k2, k3⟩ := hI.2.2.1 col hc
            have hz0 : ∀ e, e < n → M (20 + col + 6) e = nI (M (20 + col + 6) e).toNatClampNeg ∧ (M (20 + col + 6) e).toNatClampNeg ≤ 3 := fun e he => by
              obtain ⟨z, z1, z2, z3, -⟩ := k3 e he
              rw [z3, nI_clamp (by omega)]
              exact ⟨rfl, z2⟩
            obtain ⟨z, hzd⟩ : ∃ z : Nat → Nat, z = fun e => (M (20 + col + 6) e).toNatClampNeg := ⟨_, rfl⟩
            obtain ⟨t, htd⟩ : ∃ t : Nat → Nat → Int32, t = fun e k => M (20 + col + 3) (3 * e + k) := ⟨_, rfl⟩
            obtain ⟨v, hvd⟩ : ∃ v : Nat → Int32, v = fun e => M (20 + col + 9) e := ⟨_, rfl⟩
            have hz : ∀ e, e < n → M (20 + col + 6) e = nI (z e) := fun e he => by rw [hzd]; exact (hz0 e he).1
            have hz3 : ∀ e, e < n → z e ≤ 3 := fun e he => by rw [hzd]; exact (hz0 e he).2
            have mz : ∀ e, e < n → M 199 (10 * col + e) = nI (z e) := fun e he => by
              obtain ⟨z', z1, z2, z3, z4, -⟩ := k3 e he
              rw [z4, ← z3, hz e he]
            have mt : ∀ e, e < n → ∀ k, k < z e → M 200 (3 * (10 * col + e) + k) = t e k := fun e he k hk => by
              obtain ⟨z', z1, z2, z3, z4, z5, z6, z7⟩ := k3 e he
              rw [htd]
              refine z7 k ?_
              rw [hz e he, nI_eq (by have := hz3 e he; omega) (by omega)] at z3
              omega
            have mv : ∀ e, e < n → M 198 (10 * col + e) = v e := fun e he => by
              obtain ⟨z', z1, z2, z3, z4, z5, z6, z7⟩ := k3 e he
              rw [hvd]; exact z6
            have v16 : ∀ e, e < n → vp_in (v e) 16 := fun e he => by
              obtain ⟨z', z1, z2, z3, z4, ⟨q, q1, q2⟩, z6, z7⟩ := k3 e he
              rw [hvd]
              show vp_in (M (20 + col + 9) e) 16
              rw [q2]; exact vp_in_nI q1 (by decide)
            simp only [wX10_read, forall_eq]
            simp only [e_b16, e_b6, e_b4, e_b3, e_w2, e_isMeaning, e_isIn, bI_t h4, i10, i01, bI_0, bI_1, isB_bI, Classical.not_not, not_false_eq_true, not_true_eq_false, true_implies, false_implies, and_true, true_and, and_self, forall_eq, ne_eq]
            simp only [eX, e_b16, e_b6, e_b4, e_b3, e_w2, e_isMeaning, e_isIn, h1, h2, h3, h4, h5, bI_t h1, i10, i01, bI_0, bI_1, isB_bI, Classical.not_not, not_false_eq_true, not_true_eq_false, true_implies, false_implies, and_true, true_and, and_self, forall_eq, ne_eq]
            rw [ec, ep, em, es]
            refine e_take h8 hs (mset_row (by omega)) (fun q => ?_) (fun q ni nn e1 e2 e3 M' f1 f3 => ?_)
            · simp only [ftv_ne q, i10, i01, bI_0, bI_1, isB_bI, Classical.not_not, not_false_eq_true, not_true_eq_false, true_implies, false_implies, and_true, true_and, and_self, forall_eq, ne_eq]
              have rr : ∀ a, a ≠ 0 → mset (mset M 0 19 0) 0 19 (ftv M s a5 a6 a7) a = M a := fun a ha => by rw [mset_row ha, mset_row ha]
              exact m_read (z := z) (v := v) (t := t) h8 hc hn10 hp hP8 hm hs hF40 h5 (by rw [rr _ (by decide)]; exact c11) (by rw [rr _ (by decide)]; exact c13) (rr _ (by decide)) (rr _ (by decide)) (rr _ (by decide)) (by rw [rr _ (by decide)]; exact k2) (fun e he => by rw [rr _ (by decide)]; exact mz e he) hz3 (fun e he k hk => by rw [rr _ (by decide)]; exact mt e he k hk) (fun e he => by rw [rr _ (by decide)]; exact mv e he) (fun _ => ⟨rfl, hI.f4 _ 0⟩) (fun y => absurd y q)
            · have g : ∀ a, a ≠ 18 → a ≠ 0 → M' a = M a := fun a b1 b2 => by rw [f1 a b1, mset_row b2]
              have g0 : ∀ k, k ≠ 19 → M' 0 k = M 0 k := fun k hk => by rw [f1 0 (by decide), mset_ne (by omega)]
              have g19 : M' 0 19 = 0 := by rw [f1 0 (by decide), mset_eq]
              have sc : ∀ i, i ∉ sB → i ≠ 18 ∧ i ≠ 0 ∧ i ≠ 49 ∧ i ≠ 97 ∧ i ≠ 147 ∧ i ≠ 209 := fun i hi => ⟨fun z => hi (by rw [z]; decide), fun z => hi (by rw [z]; decide), fun z => hi (by rw [z]; decide), fun z => hi (by rw [z]; decide), fun z => hi (by rw [z]; decide), fun z => hi (by rw [z]; decide)⟩
              have c18 : ∀ k, k < nn → M' 18 k = M 194 (60 * s + ni + k) := fun k hk => by
                rw [f3 k hk, mset_row (by omega), Nat.add_assoc (60 * s) ni k]
                exact ((h8 s hs).2 (ni + k) (by omega)).symm
              obtain ⟨res, hres⟩ : ∃ res, res = rdO (fun p => lg (fun k => M 194 (60 * s + ni + k)) nn p z t n) z v nn 9 0 0 (fun _ => 0) := ⟨_, rfl⟩
              have hle := rdO_le (L := fun p => lg (fun k => M 194 (60 * s + ni + k)) nn p z t n) (z := z) (v := v) (nn := nn) (n := n) (fun p b hb => (lg_lt n hb).1) v16 9 0 0 (fun _ => 0) (by omega) (fun k hk => by omega)
              rw [← hres] at hle
              simp only [i10, i01, bI_0, bI_1, isB_bI, Classical.not_not, not_false_eq_true, not_true_eq_false, true_implies, false_implies, and_true, true_and, and_self, forall_eq, ne_eq]
              rw [nI_clamp (by omega), e2]
              refine e_readInto (c := fun k => M 194 (60 * s + ni + k)) (z := z) (t := t) (v := v) hc hn10 (by rw [g _ (by omega) (by omega)]; exact k1) (fun e he => by rw [g _ (by omega) (by omega)]; exact hz e he) hz3 (by omega) c18 (fun e he k hk => by rw [g _ (by omega) (by omega), htd]) (fun e he => by rw [g _ (by omega) (by omega), hvd]) hres.symm (fun M3 b1 b2 b3 => ?_)
              have gg : ∀ a, a ≠ 18 → a ≠ 0 → a ≠ 97 → a ≠ 147 → M3 a = M a := fun a w1 w2 w3 w4 => by rw [b1 a w3 w4, g a w1 w2]
              have gg0 : ∀ k, k ≠ 19 → M3 0 k = M 0 k := fun k hk => by rw [b1 0 (by decide) (by decide), g0 k hk]
              have gg19 : M3 0 19 = 0 := by rw [b1 0 (by decide) (by decide), g19]
              have fin : ∀ M5, (∀ a, a ≠ 209 → M5 a = mset M3 49 0 0 a) → Inv M5 := fun M5 hM5 => hI.scr (fun i hi => by rw [hM5 i (sc i hi).2.2.2.2.2, mset_row (sc i hi).2.2.1, gg i (sc i hi).1 (sc i hi).2.1 (sc i hi).2.2.2.1 (sc i hi).2.2.2.2.1]) (fun k hk => by rw [hM5 0 (by decide), mset_row (by decide), gg0 k (by revert hk; simp; omega)]) (fun k hk => by rw [hM5 49 (by decide), mset_ne (by revert hk; simp; omega), gg 49 (by decide) (by decide) (by decide) (by decide)]) (by rw [hM5 49 (by decide), hM5 0 (by decide), mset_eq, mset_row (by decide), gg19])
              cases hr1 : res.1 with
              | some q1 =>
                have n9' : ¬ nI q1 = -9 ∧ oI 0 (some q1) = nI q1 := by
                  have := rdO_pos (L := fun p => lg (fun k => M 194 (60 * s + ni + k)) nn p z t n) (z := z) (v := v) (nn := nn) (fun p b hp hb => by have := (lg_lt n hb).2.1; omega) 9 0 0 (fun _ => 0) (by omega) q1 (by rw [← hres]; exact hr1)
                  rw [oI, Nat.zero_add]
                  exact ⟨n9 (by omega), rfl⟩
                rw [n9'.2]
                simp only [n9'.1, i10, i01, bI_0, bI_1, isB_bI, Classical.not_not, not_false_eq_true, not_true_eq_false, true_implies, false_implies, and_true, true_and, and_self, forall_eq, ne_eq]
                exact m_read (z := z) (v := v) (t := t) h8 hc hn10 hp hP8 hm hs hF40 h5 (by rw [gg 49 (by decide) (by decide) (by decide) (by decide)]; exact c11) (by rw [gg 49 (by decide) (by decide) (by decide) (by decide)]; exact c13) (gg _ (by decide) (by decide) (by decide) (by decide)) (gg _ (by decide) (by decide) (by decide) (by decide)) (gg _ (by decide) (by decide) (by decide) (by decide)) (by rw [gg _ (by decide) (by decide) (by decide) (by decide)]; exact k2) (fun e he => by rw [gg _ (by decide) (by decide) (by decide) (by decide)]; exact mz e he) hz3 (fun e he k hk => by rw [gg _ (by decide) (by decide) (by decide) (by decide)]; exact mt e he k hk) (fun e he => by rw [gg _ (by decide) (by decide) (by decide) (by decide)]; exact mv e he) (fun y => absurd (by rw [← e2]; exact q) y) (fun _ => ⟨ni, nn, e1, rfl, e3, res, hres, hle.1, fun M5 hM5 => ⟨fun q2 hq2 => ⟨by rw [hr1] at hq2; cases hq2; rfl, fin M5 hM5⟩, fun y => by rw [hr1] at y; cases y⟩⟩)
              | none =>
                simp only [oI, i10, i01, bI_0, bI_1, isB_bI, Classical.not_not, not_false_eq_true, not_true_eq_false, true_implies, false_implies, and_true, true_and, and_self, forall_eq, ne_eq]
                refine e_addForm (F := cF M) (nn := res.2.1) (by rw [gg0 16 (by decide)]; exact c16) hF40 (by omega) hm b2 hle.1 (fun hF => ?_) (fun hF M4 w1 w2 w3 w4 w5 w6 w7 w8 w9 w10 => ?_)
                · exact m_read (z := z) (v := v) (t := t) h8 hc hn10 hp hP8 hm hs hF40 h5 (by rw [gg 49 (by decide) (by decide) (by decide) (by decide)]; exact c11) (by rw [gg 49 (by decide) (by decide) (by decide) (by decide)]; exact c13) (gg _ (by decide) (by decide) (by decide) (by decide)) (gg _ (by decide) (by decide) (by decide) (by decide)) (gg _ (by decide) (by decide) (by decide) (by decide)) (by rw [gg _ (by decide) (by decide) (by decide) (by decide)]; exact k2) (fun e he => by rw [gg _ (by decide) (by decide) (by decide) (by decide)]; exact mz e he) hz3 (fun e he k hk => by rw [gg _ (by decide) (by decide) (by decide) (by decide)]; exact mt e he k hk) (fun e he => by rw [gg _ (by decide) (by decide) (by decide) (by decide)]; exact mv e he) (fun y => absurd (by rw [← e2]; exact q) y) (fun _ => ⟨ni, nn, e1, rfl, e3, res, hres, hle.1, fun M5 hM5 => ⟨fun q2 hq2 => (by rw [hr1] at hq2; cases hq2), fun _ => ⟨fun _ => ⟨rfl, fin M5 hM5⟩, fun y => absurd y (by omega)⟩⟩⟩)
                · have hh : ∀ a, a ≠ 18 → a ≠ 0 → a ≠ 97 → a ≠ 147 → a ≠ 7 → a ≠ 50 + cF M → a ≠ 100 + cF M → a ≠ 150 + cF M → M4 a = M a := fun a y1 y2 y3 y4 y5 y6 y7 y8 => by rw [w1 a y2 y5 y6 y7 y8, gg a y1 y2 y3 y4]
                  have h2' : ∀ a, 190 ≤ a → M4 a = M a := fun a ha => hh a (by omega) (by omega) (by omega) (by omega) (by omega) (by omega) (by omega) (by omega)
                  have h49 : M4 49 = M 49 := hh 49 (by decide) (by decide) (by decide) (by decide) (by decide) (by omega) (by omega) (by omega)
                  have hh0 : ∀ k, k ≠ 19 → k ≠ 16 → M4 0 k = M 0 k := fun k y1 y2 => by rw [w2 k y2, gg0 k y1]
                  refine m_read (z := z) (v := v) (t := t) h8 hc hn10 hp hP8 hm hs hF40 h5 (by rw [h49]; exact c11) (by rw [h49]; exact c13) (h2' 192 (by decide)) (h2' 193 (by decide)) (h2' 194 (by decide)) (by rw [h2' 197 (by decide)]; exact k2) (fun e he => by rw [h2' 199 (by decide)]; exact mz e he) hz3 (fun e he k hk => by rw [h2' 200 (by decide)]; exact mt e he k hk) (fun e he => by rw [h2' 198 (by decide)]; exact mv e he) (fun y => absurd (by rw [← e2]; exact q) y) (fun _ => ⟨ni, nn, e1, rfl, e3, res, hres, hle.1, fun M5 hM5 => ⟨fun q2 hq2 => (by rw [hr1] at hq2; cases hq2), fun _ => ⟨fun y => absurd y (by omega), fun _ => ⟨rfl, ?_⟩⟩⟩⟩)
                  have x5 : ∀ a, a ≠ 209 → a ≠ 49 → M5 a = M4 a := fun a y1 y2 => by rw [hM5 a y1, mset_row y2]
                  have fin3 := hI.form2 (M3 := M5) (kind := 0) (f := res.2.2) rfl hF hp hm (vp_in_nI (n := 0) (by decide) (by decide)) hle.1 hle.2 (fun a ha y1 y2 y3 y4 => by rw [x5 a (sc a ha).2.2.2.2.2 (sc a ha).2.2.1, hh a (sc a ha).1 (sc a ha).2.1 (sc a ha).2.2.2.1 (sc a ha).2.2.2.2.1 y1 y2 y3 y4]) (fun k hk => by rw [hM5 49 (by decide), mset_ne (by revert hk; simp; omega), h49]) (fun k hk => by rw [x5 0 (by decide) (by decide)]; exact hh0 k (by revert hk; simp; omega) (by revert hk; simp; omega)) (by rw [x5 0 (by decide) (by decide)]; exact w3) (by rw [x5 0 (by decide) (by decide), w2 19 (by decide), gg19]) (by rw [x5 7 (by decide) (by decide)]; exact w4) (fun j hj => by rw [x5 7 (by decide) (by decide), w5 j hj, gg 7 (by decide) (by decide) (by decide) (by decide)]) (by rw [x5 _ (by omega) (by omega)]; exact w6) (by rw [x5 _ (by omega) (by omega)]; exact w7) (by rw [x5 _ (by omega) (by omega)]; exact w8) (by rw [x5 _ (by omega) (by omega)]; exact w9) (fun k hk => by rw [x5 _ (by omega) (by omega), w10 k hk, b3 k hk])
                  rw [mset_id (M := M5) (i := 49) (k := 0) (v := 0) (by rw [hM5 49 (by decide), mset_eq])] at fin3
                  exact fin3
          · simp only [wX10_read, wX11_read, forall_eq]
            simp only [e_b16, e_b6, e_b4, e_b3, e_w2, e_isMeaning, e_isIn, bI_t h4, i10, i01, bI_0, bI_1, isB_bI, Classical.not_not, not_false_eq_true, not_true_eq_false, true_implies, false_implies, and_true, true_and, and_self, forall_eq, ne_eq]
            simp only [eX, eM, e_b16, e_b6, e_b4, e_b3, e_w2, e_isMeaning, e_isIn, e_m15, e_m5, e_m3, e_m2, e_m63, m_isMeaning, m_isSound, m_isSheet, m_isLane, m_isCollector, e_has, h1, h2, h3, h4, h5, bI_t h1, bI_t h4, i10, i01, bI_0, bI_1, isB_bI, Classical.not_not, not_false_eq_true, not_true_eq_false, true_implies, false_implies, and_true, true_and, and_self, forall_eq, ne_eq]
            exact hI.f2 0
        · simp only [wX10_read, wX11_read, forall_eq]
          simp only [e_b16, e_b6, e_b4, e_b3, e_w2, e_isMeaning, e_isIn, bI_t h4, i10, i01, bI_0, bI_1, isB_bI, Classical.not_not, not_false_eq_true, not_true_eq_false, true_implies, false_implies, and_true, true_and, and_self, forall_eq, ne_eq]
          simp only [eX, eM, e_b16, e_b6, e_b4, e_b3, e_w2, e_isMeaning, e_isIn, e_m15, e_m5, e_m3, e_m2, e_m63, m_isMeaning, m_isSound, m_isSheet, m_isLane, m_isCollector, e_has, h1, h2, h3, h4, bI_t h1, bI_t h4, i10, i01, bI_0, bI_1, isB_bI, Classical.not_not, not_false_eq_true, not_true_eq_false, true_implies, false_implies, and_true, true_and, and_self, forall_eq, ne_eq]
          exact hI.f2 0
      · simp only [wX10_read, wX11_read, forall_eq]
        simp only [e_b16, e_b6, e_b4, e_b3, e_w2, e_isMeaning, e_isIn, bI_t h4, i10, i01, bI_0, bI_1, isB_bI, Classical.not_not, not_false_eq_true, not_true_eq_false, true_implies, false_implies, and_true, true_and, and_self, forall_eq, ne_eq]
        simp only [eX, eM, e_b16, e_b6, e_b4, e_b3, e_w2, e_isMeaning, e_isIn, e_m15, e_m5, e_m3, e_m2, e_m63, m_isMeaning, m_isSound, m_isSheet, m_isLane, m_isCollector, e_has, h1, h2, h4, bI_t h1, bI_t h4, i10, i01, bI_0, bI_1, isB_bI, Classical.not_not, not_false_eq_true, not_true_eq_false, true_implies, false_implies, and_true, true_and, and_self, forall_eq, ne_eq]
        exact hI.f2 0
    · simp only [wX10_read, wX11_read, forall_eq]
      simp only [e_b16, e_b6, e_b4, e_b3, e_w2, e_isMeaning, e_isIn, bI_t h4, i10, i01, bI_0, bI_1, isB_bI, Classical.not_not, not_false_eq_true, not_true_eq_false, true_implies, false_implies, and_true, true_and, and_self, forall_eq, ne_eq]
      simp only [eX, eM, e_b16, e_b6, e_b4, e_b3, e_w2, e_isMeaning, e_isIn, e_m15, e_m5, e_m3, e_m2, e_m63, m_isMeaning, m_isSound, m_isSheet, m_isLane, m_isCollector, e_has, h1, h4, bI_f h1, bI_t h4, i10, i01, bI_0, bI_1, isB_bI, Classical.not_not, not_false_eq_true, not_true_eq_false, true_implies, false_implies, and_true, true_and, and_self, forall_eq, ne_eq]
      exact hI.f2 0
  · simp only [wX10_read, wX11_read, forall_eq, e_b16, e_b6, e_b4, e_b3, e_w2, e_isMeaning, e_isIn, e_m15, e_m5, e_m3, e_m2, e_m63, m_isMeaning, m_isSound, m_isSheet, m_isLane, m_isCollector, e_has, h4, i10, i01, bI_0, bI_1, isB_bI, Classical.not_not, not_false_eq_true, not_true_eq_false, true_implies, false_implies, and_true, true_and, and_self, forall_eq, ne_eq]
    exact hI.f2 0
