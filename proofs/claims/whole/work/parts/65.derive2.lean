/-! deriving by the laws in force at a place -/
noncomputable def dv (M : Mem) (p : Nat) : Nat → Nat → Nat → Int32 → List Nat → Int32 × List Nat
  | 0, _, _, v, L => (v, L)
  | d + 1, l, c, v, L => if c = 0 then (v, L) else @ite (Int32 × List Nat) (hb (M (32 + l) 0) (nI p)) (Classical.propDecidable _) (dv M p d (l + 1) (c - 1) (@ite Int32 (lch M l L L.length) (Classical.propDecidable _) (nI l) v) (ldo M l L L.length)) (dv M p d (l + 1) c v L)
theorem e_derive {M Mx : Mem} (hI : Inv M) {p c : Nat} {L : List Nat} {Q : Int32 → Mem → Prop} (hc : c ≤ 8) (hok : okL L) (hrw : rwX Mx 97 L) (fr : ∀ r, r = 2 ∨ r = 3 ∨ r = 9 ∨ (32 ≤ r ∧ r < 41) → Mx r = M r)
    (hQ : ∀ M', (∀ r, r ≠ 97 → r ≠ 147 → r ≠ 96 → r ≠ 146 → M' r = Mx r) → rwX M' 97 (dv M p (cL M) 0 c (-9) L).2 → okL (dv M p (cL M) 0 c (-9) L).2 → Q (dv M p (cL M) 0 c (-9) L).1 M') : wX4_deriveAt (nI p) 97 (nI c) Mx Q := by
  have hl8 := hI.1.2.2.1.2.1
  have c4 := hI.1.2.2.1.1
  obtain ⟨N, hN⟩ : ∃ N, N = cL M := ⟨_, rfl⟩
  rw [← hN] at hQ hl8 c4
  unfold wX4_deriveAt
  refine ⟨by decide, N + 1, lq3_ind (fun d x y z M' => ∃ j L', d ≤ N ∧ z = nI (N - d) ∧ j ≤ c ∧ y = nI (c - j) ∧ okL L' ∧ rwX M' 97 L' ∧ (∀ r, r ≠ 97 → r ≠ 147 → r ≠ 96 → r ≠ 146 → M' r = Mx r) ∧ dv M p d (N - d) j x L' = dv M p N 0 c (-9) L) ?_ ?_ N (-9) 0 0 Mx ⟨c, L, Nat.le_refl _, by rw [Nat.sub_self, nI_0], Nat.le_refl _, by rw [Nat.sub_self, nI_0], hok, hrw, fun _ _ _ _ _ => rfl, by rw [Nat.sub_self]⟩⟩
  · rintro R x y z M2 ⟨j, L', -, rfl, hj, rfl, o1, o2, o3, o4⟩
    rw [o3 9 (by decide) (by decide) (by decide) (by decide), fr 9 (by omega), c4, Nat.sub_zero]
    refine ⟨fun _ => ?_, fun q => absurd (Int32.le_refl _) q⟩
    rw [dv] at o4
    have := hQ M2 o3 (by rw [← o4]; exact o2) (by rw [← o4]; exact o1)
    rw [← o4] at this
    exact this
  · rintro d R x y z M2 ⟨j, L', hd, rfl, hj, rfl, o1, o2, o3, o4⟩ hR
    obtain ⟨l, hl⟩ : ∃ l, l = N - (d + 1) := ⟨_, rfl⟩
    rw [← hl] at o4 ⊢
    have e1 : N - d = l + 1 := by omega
    have rl : M2 (32 + l) = M (32 + l) := by rw [o3 _ (by omega) (by omega) (by omega) (by omega), fr _ (by omega)]
    rw [dv] at o4
    rw [o3 9 (by decide) (by decide) (by decide) (by decide), fr 9 (by omega), c4, nI_leI (by omega) (by omega), nI_leI (by omega) (by omega), nI_clamp (n := l) (by omega), rl, e_isIn]
    refine ⟨fun q => by omega, fun _ => ⟨fun q => ?_, fun q => ⟨vp_in_nI (by omega) (by decide), ?_⟩⟩⟩
    · rw [if_pos (by omega)] at o4
      have := hQ M2 o3 (by rw [← o4]; exact o2) (by rw [← o4]; exact o1)
      rw [← o4] at this
      exact this
    · rw [if_neg (by omega)] at o4
      rw [bI_0]
      refine ⟨fun z => ?_, fun z => ?_⟩
      · rw [if_pos (Classical.not_not.mp z)] at o4
        refine e_doLaw hI (by omega) o1 o2 (by rw [o3 2 (by decide) (by decide) (by decide) (by decide), fr 2 (by omega)]) (by rw [o3 3 (by decide) (by decide) (by decide) (by decide), fr 3 (by omega)]) rl (fun M3 f1 f2 => ?_)
        have go : ∀ x', x' = (@ite Int32 (lch M l L' L'.length) (Classical.propDecidable _) (nI l) x) → R x' (nI (c - j) + 1) (nI l + 1) M3 := fun x' hx' => hR _ _ _ _ ⟨j - 1, _, by omega, by rw [nI_1, e1], by omega, by rw [nI_1]; congr 1; omega, ldo_okL hI (by omega) o1, f2, fun r w1 w2 w3 w4 => by rw [f1 r w1 w2 w3 w4, o3 r w1 w2 w3 w4], by rw [hx', e1]; exact o4⟩
        rw [bI_0]
        exact ⟨fun z2 => go _ (by rw [if_neg z2]), fun z2 => go _ (by rw [if_pos (Classical.not_not.mp z2)])⟩
      · rw [if_neg z] at o4
        exact hR _ _ _ _ ⟨j, L', by omega, by rw [nI_1, e1], hj, rfl, o1, o2, o3, by rw [e1]; exact o4⟩
theorem m_derive {M Mx : Mem} (hI : Inv M) {p c : Nat} {L : List Nat} {Q : Int32 → Mem → Prop} (hc : c ≤ 8) (hok : okL L) (hrw : rwM Mx L) (fr : ∀ r, r = 195 ∨ r = 196 ∨ (213 ≤ r ∧ r < 218) → Mx r = M r) (f22 : Mx 49 22 = M 49 22)
    (hQ : ∀ M', (∀ r, r ≠ 49 → r ≠ 221 → r ≠ 223 → M' r = Mx r) → (∀ k, k ≠ 32 → M' 49 k = Mx 49 k) → rwM M' (dv M p (cL M) 0 c (-9) L).2 → okL (dv M p (cL M) 0 c (-9) L).2 → Q (dv M p (cL M) 0 c (-9) L).1 M') : wX11_derive (nI p) (nI c) Mx Q := by
  have hl8 := hI.1.2.2.1.2.1
  have c4 : Mx 49 22 = nI (cL M) := by rw [f22, hI.1.2.2.1.2.2]; exact hI.1.2.2.1.1
  have h7 := hI.2.2.2.2.2.2.2.1
  obtain ⟨N, hN⟩ : ∃ N, N = cL M := ⟨_, rfl⟩
  rw [← hN] at hQ hl8 c4
  unfold wX11_derive
  refine ⟨N + 1, lq3_ind (fun d x y z M' => ∃ j L', d ≤ N ∧ z = nI (N - d) ∧ j ≤ c ∧ y = nI j ∧ okL L' ∧ rwM M' L' ∧ (∀ r, r ≠ 49 → r ≠ 221 → r ≠ 223 → M' r = Mx r) ∧ (∀ k, k ≠ 32 → M' 49 k = Mx 49 k) ∧ dv M p d (N - d) j x L' = dv M p N 0 c (-9) L) ?_ ?_ N (-9) (nI c) 0 Mx ⟨c, L, Nat.le_refl _, by rw [Nat.sub_self, nI_0], Nat.le_refl _, rfl, hok, hrw, fun _ _ _ _ => rfl, fun _ _ => rfl, by rw [Nat.sub_self]⟩⟩
  · rintro R x y z M2 ⟨j, L', -, rfl, hj, rfl, o1, o2, o3, o5, o4⟩
    rw [o5 22 (by decide), c4, Nat.sub_zero]
    refine ⟨fun _ => ?_, fun q => absurd (Int32.le_refl _) q⟩
    rw [dv] at o4
    have := hQ M2 o3 o5 (by rw [← o4]; exact o2) (by rw [← o4]; exact o1)
    rw [← o4] at this
    exact this
  · rintro d R x y z M2 ⟨j, L', hd, rfl, hj, rfl, o1, o2, o3, o5, o4⟩ hR
    obtain ⟨l, hl⟩ : ∃ l, l = N - (d + 1) := ⟨_, rfl⟩
    rw [← hl] at o4 ⊢
    have e1 : N - d = l + 1 := by omega
    rw [dv] at o4
    have r213 : M2 213 l = M (32 + l) 0 := by rw [o3 _ (by decide) (by decide) (by decide), fr _ (by omega)]; exact (h7 l (by omega)).2.1
    rw [o5 22 (by decide), c4, nI_leI (by omega) (by omega), show nI j ≤ 0 ↔ j ≤ 0 from nI_leI (b := 0) (by omega) (by decide), nI_clamp (n := l) (by omega), r213, e_has]
    refine ⟨fun q => by omega, fun _ => ⟨fun q => ?_, fun q => ⟨vp_in_nI (by omega) (by decide), ?_⟩⟩⟩
    · rw [if_pos (by omega)] at o4
      have := hQ M2 o3 o5 (by rw [← o4]; exact o2) (by rw [← o4]; exact o1)
      rw [← o4] at this
      exact this
    · rw [if_neg (by omega)] at o4
      rw [bI_0]
      refine ⟨fun z => ?_, fun z => ?_⟩
      · rw [if_neg z] at o4
        exact hR _ _ _ _ ⟨j, L', by omega, by rw [nI_1, e1], hj, rfl, o1, o2, o3, o5, by rw [e1]; exact o4⟩
      · rw [if_pos (Classical.not_not.mp z)] at o4
        refine m_doLaw hI (by omega) o1 o2 (fun r hr => by rw [o3 r (by omega) (by omega) (by omega), fr r (by omega)]) (fun M3 f1 f3 f2 => ?_)
        have go : ∀ x', x' = (@ite Int32 (lch M l L' L'.length) (Classical.propDecidable _) (nI l) x) → R x' (nI j + (-1)) (nI l + 1) M3 := fun x' hx' => hR _ _ _ _ ⟨j - 1, _, by omega, by rw [nI_1, e1], by omega, by rw [show j = (j - 1) + 1 by omega, pk_m1]; rfl, ldo_okL hI (by omega) o1, f2, fun r w1 w2 w3 => by rw [f1 r w1 w2 w3, o3 r w1 w2 w3], fun k hk => by rw [f3 k hk, o5 k hk], by rw [hx', e1]; exact o4⟩
        rw [bI_0]
        exact ⟨fun z2 => go _ (by rw [if_neg z2]), fun z2 => go _ (by rw [if_pos (Classical.not_not.mp z2)])⟩
/-- the root of a meaning derived, in the class and in the reference -/
noncomputable def dvR (M : Mem) (p m c : Nat) : Int32 × List Nat := dv M p (cL M) 0 c (-9) (rowL M (90 + m))
theorem e_dvR {M Mx : Mem} (hI : Inv M) {p m c : Nat} {pa : Mem → Int32} {Q : Int32 → Mem → Prop} (hm : m < 6) (hc : c ≤ 8) (hr : hb (M 0 17) (nI m)) (fq : Fq M Mx) (hpa : ∀ M', Fq M M' → pa M' = nI p)
    (hQ : ∀ M', Fq M M' → rwX M' 97 (dvR M p m c).2 → okL (dvR M p m c).2 → Q (dvR M p m c).1 M') : wX7_become 97 (90 + m) Mx (fun M65 => wX4_deriveAt (pa M65) 97 (nI c) M65 Q) := by
  rcases hI.2.2.2.2.2.2.1.rl hm with ⟨h, -⟩ | ⟨-, -, ok, rx, -⟩
  · exact absurd hr h
  · have n1 : ∀ m, m < 6 → 90 + m ∉ 49 :: sQ ∧ 90 + m + 50 ∉ 49 :: sQ := by decide
    have e1 := fq.1 (90 + m) (n1 m hm).1
    have e2 := fq.1 (90 + m + 50) (n1 m hm).2
    refine e_bec (by decide) ⟨by omega, by omega⟩ (by omega) (L := rowL M (90 + m)) ⟨by rw [e1]; exact rx.1, fun k hk => by rw [e2]; exact rx.2 k hk⟩ ok.1 (fun M1 b1 b2 => ?_)
    have f1 := fq.b97 b1
    have n2 : ∀ r, r < 50 → (r = 2 ∨ r = 3 ∨ r = 9 ∨ (32 ≤ r ∧ r < 41)) → r ∉ 49 :: sQ := by decide
    show wX4_deriveAt (pa M1) 97 (nI c) M1 Q
    rw [hpa M1 f1]
    exact e_derive hI hc ok b2 (fun r h => f1.1 r (n2 r (by omega) h)) (fun M2 g1 g2 g3 => hQ M2 (f1.d97 g1) g2 g3)
theorem m_dvR {M Mx : Mem} (hI : Inv M) {p m c : Nat} {pa : Mem → Int32} {Q : Int32 → Mem → Prop} (hm : m < 6) (hc : c ≤ 8) (hr : hb (M 0 17) (nI m)) (fq : Fq M Mx) (hpa : ∀ M', Fq M M' → pa M' = nI p)
    (hQ : ∀ M', Fq M M' → rwM M' (dvR M p m c).2 → okL (dvR M p m c).2 → Q (dvR M p m c).1 M') : wX11_takeRoot (nI m) Mx (fun M65 => wX11_derive (pa M65) (nI c) M65 Q) := by
  rcases hI.2.2.2.2.2.2.1.rl hm with ⟨h, -⟩ | ⟨-, -, ok, -, e210, e211⟩
  · exact absurd hr h
  · refine m_takeRoot (A := (rowL M (90 + m)).length) hm (by rw [fq.1 210 (by decide)]; exact e210) ok.1 (fun M1 b1 b2 b3 b4 => ?_)
    have f1 : Fq M M1 := fq.dm (fun r w1 w2 w3 => b1 r w1 w2) b2
    have n2 : ∀ r, r < 220 → (r = 195 ∨ r = 196 ∨ (213 ≤ r ∧ r < 218)) → r ∉ 49 :: sQ := by decide +kernel
    show wX11_derive (pa M1) (nI c) M1 Q
    rw [hpa M1 f1]
    exact m_derive hI hc ok ⟨b3, fun k hk => by rw [b4 k hk, fq.1 211 (by decide)]; exact e211 k hk⟩ (fun r h => f1.1 r (n2 r (by omega) h)) (f1.2 22 (by decide) (by decide) (by decide)) (fun M2 g1 g2 g3 g4 => hQ M2 (f1.dm g1 g2) g3 g4)
theorem st_derived {M : Mem} (hI : Inv M) (a1 a2 a3 a4 : Int32) : wX10_derived a1 a2 a3 a4 M (fun r M1 => wX11_derived a1 a2 a3 a4 M1 (fun r' M2 => r = r' ∧ Inv M2)) := by
  have h0 := hI.1
  have hP8 := h0.1.2.1
  have c11 : M 49 11 = nI (cP M) := h0.1.2.2.trans h0.1.1
  have eX : ∀ a Q, wX10_isPlace a M Q = Q (bI (vp_in a (cP M))) M := fun a Q => e_isPlaceN h0.1.1 (by omega)
  have eM : ∀ a M1 Q, M1 49 11 = M 49 11 → wX11_isPlace a M1 Q = Q (bI (vp_in a (cP M))) M1 := fun a M1 Q h => m_isPlaceN (h.trans c11) (by omega)
  by_cases q1 : vp_in a1 (cP M)
  · by_cases q2 : vp_in a2 6
    · by_cases q4 : ¬ a4 < -1 ∧ ¬ 7 < a4
      · by_cases q3 : ¬ a3 < 0 ∧ ¬ 8 < a3
        · obtain ⟨p, hp, e1, -⟩ := vp_nI q1 (by omega)
          obtain ⟨m, hm, e2, t2⟩ := vp_nI q2 (by decide)
          have q3' : vp_in a3 9 := by rw [← vp_iff_le (n := 8) (by decide)]; exact q3
          obtain ⟨c, hc, e3, -⟩ := vp_nI q3' (by decide)
          rcases hI.2.2.2.2.2.2.1.rl hm with ⟨h1, h2⟩ | ⟨h1, h2, -⟩
          · simp only [wX10_derived, wX11_derived, eX, eM _ _ _ rfl, bI_t q1, e_b16, e_b6, e_b4, e_b3, e_w2, e_isMeaning, e_isIn, e_m15, e_m5, e_m3, e_m2, e_m63, m_isMeaning, m_isSound, m_isSheet, m_isLane, m_isCollector, e_has, bI_t q2, q2, i10, i01, bI_0, bI_1, isB_bI, Classical.not_not, not_false_eq_true, not_true_eq_false, true_implies, false_implies, and_true, true_and, and_self, forall_eq, ne_eq, e_isWithin, e_within, bI_t q3, q3.1, q3.2, bI_t q4, q4.1, q4.2, t2, h2]
            rw [e2]
            exact ⟨fun z => absurd z h1, fun _ => hI⟩
          · simp only [wX10_derived, eX, bI_t q1, e_b16, e_b6, e_b4, e_b3, e_w2, e_isMeaning, e_isIn, bI_t q2, q2, i10, i01, bI_0, bI_1, isB_bI, Classical.not_not, not_false_eq_true, not_true_eq_false, true_implies, false_implies, and_true, true_and, and_self, forall_eq, ne_eq, e_isWithin, e_within, bI_t q3, q3.1, q3.2, bI_t q4, q4.1, q4.2, t2]
            rw [e2, e1, e3]
            refine ⟨fun _ => e_dvR hI hm (by omega) h1 Fq.rf (fun _ _ => rfl) (fun M1 f1 f2 f3 => e_soA (by decide) f2 f3.1 ?_), fun z => absurd h1 z⟩
            rw [← e1, ← e2, ← e3]
            simp only [wX11_derived]
            rw [eM _ _ _ (f1.2 11 (by decide) (by decide) (by decide))]
            simp only [bI_t q1, e_m15, e_m5, e_m3, e_m2, e_m63, m_isMeaning, m_isSound, m_isSheet, m_isLane, m_isCollector, e_has, bI_t q2, q2, i10, i01, bI_0, bI_1, isB_bI, Classical.not_not, not_false_eq_true, not_true_eq_false, true_implies, false_implies, and_true, true_and, and_self, forall_eq, ne_eq, e_isWithin, e_within, bI_t q3, q3.1, q3.2, bI_t q4, q4.1, q4.2, t2]
            rw [f1.1 210 (by decide)]
            refine ⟨fun _ => ?_, fun z => absurd z h2⟩
            rw [e1, e2, e3]
            refine m_dvR hI hm (by omega) h1 f1 (fun _ _ => rfl) (fun M2 g1 g2 g3 => ?_)
            exact m_soA (L := (dvR M p m c).2) (Q := fun r' M2 => soA (dvR M p m c).2 a4 = r' ∧ Inv M2) g2.1 g3.1 (by decide) g2.2 q4.1 ⟨rfl, g1.fin hI⟩
        · simp only [wX10_derived, wX11_derived, eX, eM _ _ _ rfl, bI_t q1, e_b16, e_b6, e_b4, e_b3, e_w2, e_isMeaning, e_isIn, e_m15, e_m5, e_m3, e_m2, e_m63, m_isMeaning, m_isSound, m_isSheet, m_isLane, m_isCollector, e_has, bI_t q2, q2, i10, i01, bI_0, bI_1, isB_bI, Classical.not_not, not_false_eq_true, not_true_eq_false, true_implies, false_implies, and_true, true_and, and_self, forall_eq, ne_eq, e_isWithin, e_within, bI_f q3, q3, bI_t q4, q4.1, q4.2]
          exact hI
      · simp only [wX10_derived, wX11_derived, eX, eM _ _ _ rfl, bI_t q1, e_b16, e_b6, e_b4, e_b3, e_w2, e_isMeaning, e_isIn, e_m15, e_m5, e_m3, e_m2, e_m63, m_isMeaning, m_isSound, m_isSheet, m_isLane, m_isCollector, e_has, bI_t q2, q2, i10, i01, bI_0, bI_1, isB_bI, Classical.not_not, not_false_eq_true, not_true_eq_false, true_implies, false_implies, and_true, true_and, and_self, forall_eq, ne_eq, e_isWithin, e_within, bI_f q4]
        exact hI
    · simp only [wX10_derived, wX11_derived, eX, eM _ _ _ rfl, bI_t q1, e_b16, e_b6, e_b4, e_b3, e_w2, e_isMeaning, e_isIn, e_m15, e_m5, e_m3, e_m2, e_m63, m_isMeaning, m_isSound, m_isSheet, m_isLane, m_isCollector, e_has, bI_f q2, i10, i01, bI_0, bI_1, isB_bI, Classical.not_not, not_false_eq_true, not_true_eq_false, true_implies, false_implies, and_true, true_and, and_self, forall_eq, ne_eq]
      exact hI
  · simp only [wX10_derived, wX11_derived, eX, eM _ _ _ rfl, bI_f q1, i10, i01, bI_0, bI_1, isB_bI, Classical.not_not, not_false_eq_true, not_true_eq_false, true_implies, false_implies, and_true, true_and, and_self, forall_eq, ne_eq]
    exact hI
theorem st_latest {M : Mem} (hI : Inv M) (a1 a2 : Int32) : wX10_latest a1 a2 M (fun r M1 => wX11_latest a1 a2 M1 (fun r' M2 => r = r' ∧ Inv M2)) := by
  have h0 := hI.1
  have hP8 := h0.1.2.1
  have c11 : M 49 11 = nI (cP M) := h0.1.2.2.trans h0.1.1
  have eX : ∀ a Q, wX10_isPlace a M Q = Q (bI (vp_in a (cP M))) M := fun a Q => e_isPlaceN h0.1.1 (by omega)
  have eM : ∀ a M1 Q, M1 49 11 = M 49 11 → wX11_isPlace a M1 Q = Q (bI (vp_in a (cP M))) M1 := fun a M1 Q h => m_isPlaceN (h.trans c11) (by omega)
  by_cases q1 : vp_in a1 (cP M)
  · by_cases q2 : vp_in a2 6
    · obtain ⟨p, hp, e1, -⟩ := vp_nI q1 (by omega)
      obtain ⟨m, hm, e2, t2⟩ := vp_nI q2 (by decide)
      rcases hI.2.2.2.2.2.2.1.rl hm with ⟨h1, h2⟩ | ⟨h1, h2, -⟩
      · simp only [wX10_latest, wX11_latest, eX, eM _ _ _ rfl, bI_t q1, e_b16, e_b6, e_b4, e_b3, e_w2, e_isMeaning, e_isIn, e_m15, e_m5, e_m3, e_m2, e_m63, m_isMeaning, m_isSound, m_isSheet, m_isLane, m_isCollector, e_has, bI_t q2, q2, i10, i01, bI_0, bI_1, isB_bI, Classical.not_not, not_false_eq_true, not_true_eq_false, true_implies, false_implies, and_true, true_and, and_self, forall_eq, ne_eq, t2, h2]
        rw [e2]
        exact ⟨fun z => absurd z h1, fun _ => hI⟩
      · simp only [wX10_latest, eX, bI_t q1, e_b16, e_b6, e_b4, e_b3, e_w2, e_isMeaning, e_isIn, bI_t q2, q2, i10, i01, bI_0, bI_1, isB_bI, Classical.not_not, not_false_eq_true, not_true_eq_false, true_implies, false_implies, and_true, true_and, and_self, forall_eq, ne_eq, t2]
        rw [e2, e1]
        refine ⟨fun _ => e_dvR (c := 8) hI hm (by omega) h1 Fq.rf (fun _ _ => rfl) (fun M1 f1 f2 f3 => ?_), fun z => absurd h1 z⟩
        rw [← e1, ← e2]
        simp only [wX11_latest]
        rw [eM _ _ _ (f1.2 11 (by decide) (by decide) (by decide))]
        simp only [bI_t q1, e_m15, e_m5, e_m3, e_m2, e_m63, m_isMeaning, m_isSound, m_isSheet, m_isLane, m_isCollector, e_has, bI_t q2, q2, i10, i01, bI_0, bI_1, isB_bI, Classical.not_not, not_false_eq_true, not_true_eq_false, true_implies, false_implies, and_true, true_and, and_self, forall_eq, ne_eq, t2]
        rw [f1.1 210 (by decide)]
        refine ⟨fun _ => ?_, fun z => absurd z h2⟩
        rw [e1, e2]
        exact m_dvR (c := 8) hI hm (by omega) h1 f1 (fun _ _ => rfl) (fun M2 g1 g2 g3 => ⟨rfl, g1.fin hI⟩)
    · simp only [wX10_latest, wX11_latest, eX, eM _ _ _ rfl, bI_t q1, e_b16, e_b6, e_b4, e_b3, e_w2, e_isMeaning, e_isIn, e_m15, e_m5, e_m3, e_m2, e_m63, m_isMeaning, m_isSound, m_isSheet, m_isLane, m_isCollector, e_has, bI_f q2, i10, i01, bI_0, bI_1, isB_bI, Classical.not_not, not_false_eq_true, not_true_eq_false, true_implies, false_implies, and_true, true_and, and_self, forall_eq, ne_eq]
      exact hI
  · simp only [wX10_latest, wX11_latest, eX, eM _ _ _ rfl, bI_f q1, i10, i01, bI_0, bI_1, isB_bI, Classical.not_not, not_false_eq_true, not_true_eq_false, true_implies, false_implies, and_true, true_and, and_self, forall_eq, ne_eq]
    exact hI
theorem st_regular {M : Mem} (hI : Inv M) (a1 : Int32) : wX10_regular a1 M (fun r M1 => wX11_regular a1 M1 (fun r' M2 => r = r' ∧ Inv M2)) := by
  have h0 := hI.1
  have hF40 := h0.2.1.2.1
  have c13 : M 49 13 = nI (cF M) := h0.2.1.2.2.trans h0.2.1.1
  have eX : ∀ a Q, wX10_isForm a M Q = Q (bI (vp_in a (cF M))) M := fun a Q => e_isFormN h0.2.1.1 (by omega)
  have eM : ∀ a M1 Q, M1 49 13 = M 49 13 → wX11_isForm a M1 Q = Q (bI (vp_in a (cF M))) M1 := fun a M1 Q h => m_isFormN (h.trans c13) (by omega)
  by_cases q1 : vp_in a1 (cF M)
  · obtain ⟨f, hf, e1, t1⟩ := vp_nI q1 (by omega)
    have q40 := vp_mono q1 hF40
    obtain ⟨-, ⟨p, hp, p1, p2⟩, ⟨m, hm, m1, m2⟩, -⟩ := hI.2.2.2.2.1 f hf
    obtain ⟨okF, rF, -⟩ := hI.2.2.2.2.1.rl hf
    have q6 : vp_in (nI m) 6 := vp_in_nI hm (by decide)
    have t6 : (nI m).toNatClampNeg = m := nI_clamp (by omega)
    rcases hI.2.2.2.2.2.2.1.rl hm with ⟨h1, h2⟩ | ⟨h1, h2, -⟩
    · simp only [wX10_regular, wX11_regular, eX, eM _ _ _ rfl, bI_t q1, e_b16, e_b6, e_b4, e_b3, e_w2, e_isMeaning, e_isIn, i10, i01, bI_0, bI_1, isB_bI, Classical.not_not, not_false_eq_true, not_true_eq_false, true_implies, false_implies, and_true, true_and, and_self, forall_eq, ne_eq, q40, t1, m1, m2, q6, t6, h2]
      exact ⟨fun z => absurd z h1, fun _ => hI⟩
    · simp only [wX10_regular, eX, bI_t q1, e_b16, e_b6, e_b4, e_b3, e_w2, e_isMeaning, e_isIn, i10, i01, bI_0, bI_1, isB_bI, Classical.not_not, not_false_eq_true, not_true_eq_false, true_implies, false_implies, and_true, true_and, and_self, forall_eq, ne_eq, q40, t1, m1, q6, t6]
      refine ⟨fun _ => ?_, fun z => absurd h1 z⟩
      have n150 : ∀ f, f < 40 → 150 + f ∉ 49 :: sQ ∧ 50 + f ∉ 49 :: sQ ∧ 100 + f ∉ 49 :: sQ := by decide
      refine e_dvR (p := p) (c := 8) (pa := fun M' => M' (150 + f) 2) hI hm (by omega) h1 Fq.rf (fun M' g => by rw [g.1 _ (n150 f (by omega)).1]; exact p1) (fun M1 f1 f2 f3 => ?_)
      rw [fr150]
      refine e_same (b := 50 + f) ⟨by omega, by omega⟩ f2 ⟨by rw [f1.1 _ (n150 f (by omega)).2.1]; exact rF.1, fun k hk => by rw [fr50, f1.1 _ (n150 f (by omega)).2.2, ← fr50]; exact rF.2 k hk⟩ f3 okF ?_
      have ref : ∀ v, v = bI ((dvR M p m 8).2 = rowL M (50 + f)) → wX11_regular a1 M1 (fun r' M2 => v = r' ∧ Inv M2) := fun v hv => by
        simp only [wX11_regular]
        rw [eM _ _ _ (f1.2 13 (by decide) (by decide) (by decide))]
        simp only [bI_t q1, i10, i01, bI_0, bI_1, isB_bI, Classical.not_not, not_false_eq_true, not_true_eq_false, true_implies, false_implies, and_true, true_and, and_self, forall_eq, ne_eq, q40, t1, f1.1 206 (by decide), f1.1 210 (by decide), m2, q6, t6]
        refine ⟨fun _ => ?_, fun z => absurd z h2⟩
        rw [e1]
        refine m_dvR (p := p) (c := 8) (pa := fun M' => M' 205 f) hI hm (by omega) h1 f1 (fun M' g => by rw [g.1 _ (by decide)]; exact p2) (fun M2 g1 g2 g3 => m_isForms hI hf g2 g3 (g1.1 207 (by decide)) (g1.1 208 (by decide)) ?_)
        rw [bI_0]
        exact ⟨fun z => ⟨by rw [hv, bI_f z], g1.fin hI⟩, fun z => ⟨by rw [hv, bI_t (Classical.not_not.mp z)], g1.fin hI⟩⟩
      rw [bI_0]
      exact ⟨fun z => ref 0 (by rw [bI_f z]), fun z => ref 1 (by rw [bI_t (Classical.not_not.mp z)])⟩
  · simp only [wX10_regular, wX11_regular, eX, eM _ _ _ rfl, bI_f q1, i10, i01, bI_0, bI_1, isB_bI, Classical.not_not, not_false_eq_true, not_true_eq_false, true_implies, false_implies, and_true, true_and, and_self, forall_eq, ne_eq]
    exact hI
