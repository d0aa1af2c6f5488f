theorem mset_id {M : Mem} {i k : Nat} {v : Int32} (h : M i k = v) : mset M i k v = M := by
  funext a b
  by_cases w : a = i
  · subst w
    by_cases w2 : b = k
    · subst w2; rw [mset_eq, h]
    · rw [mset_ne (by omega)]
  · rw [mset_row w]
theorem m_read {M Mx : Mem} (h8 : I8 M) {F P p m s col n : Nat} {z : Nat → Nat} {v : Nat → Int32} {t : Nat → Nat → Int32} (hc : col < 3) (hn10 : n ≤ 10) (hp : p < P) (hP : P ≤ 8) (hm : m < 6) (hs : s < 4) (hF40 : F ≤ 40) {lane i nx : Int32} (hl : vp_in lane 3) {Q : Int32 → Mem → Prop} (c11 : Mx 49 11 = nI P) (c13 : Mx 49 13 = nI F) (r1 : Mx 192 = M 192) (r2 : Mx 193 = M 193) (r3 : Mx 194 = M 194)
    (hcn : Mx 197 col = nI n) (hz : ∀ e, e < n → Mx 199 (10 * col + e) = nI (z e)) (hz3 : ∀ e, e < n → z e ≤ 3) (ht : ∀ e, e < n → ∀ k, k < z e → Mx 200 (3 * (10 * col + e) + k) = t e k) (hv : ∀ e, e < n → Mx 198 (10 * col + e) = v e)
    (hQ1 : ¬ ftv M s lane i nx = 0 → Q ((-10) - ftv M s lane i nx) (mset (mset Mx 49 0 0) 49 0 (ftv M s lane i nx)))
    (hQ0 : ftv M s lane i nx = 0 → ∃ ni nn : Nat, i = nI ni ∧ nx = nI nn ∧ ni + nn ≤ 60 ∧ ∃ res : Option Nat × Nat × (Nat → Int32), res = rdO (fun p => lg (fun k => M 194 (60 * s + ni + k)) nn p z t n) z v nn 9 0 0 (fun _ => 0) ∧ res.2.1 ≤ 8 ∧ ∀ M', (∀ a, a ≠ 209 → M' a = mset Mx 49 0 0 a) →
      (∀ q, res.1 = some q → Q ((-100) - nI q) M') ∧ (res.1 = none → (F = 40 → Q (-4) M') ∧ (F < 40 → Q (nI F) (mset (mset (mset (mset (mset (mcF M' 208 (8 * F) res.2.1 res.2.2) 204 F 0) 205 F (nI p)) 206 F (nI m)) 207 F (nI res.2.1)) 49 13 (nI (F + 1)))))) : wX11_read (nI col) (nI p) (nI m) (nI s) lane i nx Mx Q := by
  have v0 : vp_in (nI p) P := vp_in_nI hp (by omega)
  have v1 : vp_in (nI m) 6 := vp_in_nI hm (by decide)
  have v2 : vp_in (nI s) 4 := vp_in_nI hs (by decide)
  have v3 : vp_in (nI col) 3 := vp_in_nI hc (by decide)
  simp only [wX11_read, forall_eq]
  simp only [e_m15, e_m5, e_m3, e_m2, e_m63, m_isMeaning, m_isSound, m_isSheet, m_isLane, m_isCollector, e_has, bI_t v3, i10, i01, bI_0, bI_1, isB_bI, Classical.not_not, not_false_eq_true, not_true_eq_false, true_implies, false_implies, and_true, true_and, and_self, forall_eq, ne_eq]
  rw [m_isPlaceN (n := P) (by rw [mset_ne (by decide)]; exact c11) (by omega)]
  simp only [e_m15, e_m5, e_m3, e_m2, e_m63, m_isMeaning, m_isSound, m_isSheet, m_isLane, m_isCollector, e_has, v0, v1, v2, hl, bI_t v0, i10, i01, bI_0, bI_1, isB_bI, Classical.not_not, not_false_eq_true, not_true_eq_false, true_implies, false_implies, and_true, true_and, and_self, forall_eq, ne_eq]
  refine m_against h8 hs (by rw [mset_row (by decide)]; exact r1) (by rw [mset_row (by decide)]; exact r2) hl ?_
  by_cases hf : ftv M s lane i nx = 0
  · obtain ⟨ni, nn, e1, e2, e3, res, hres, hr8, hQ⟩ := hQ0 hf
    subst e1; subst e2
    simp only [hf, i10, i01, bI_0, bI_1, isB_bI, Classical.not_not, not_false_eq_true, not_true_eq_false, true_implies, false_implies, and_true, true_and, and_self, forall_eq, ne_eq]
    rw [fr60]
    have i0 : nI (60 * s + ni) + nI nn = nI (60 * s + ni + nn) := nI_add _ _
    simp only [i0]
    refine ⟨10, lq2_ind (fun d x y M' => ∃ p j f, x = nI (60 * s + ni + p) ∧ y = nI j ∧ j + d = 9 ∧ j ≤ 8 ∧ p ≤ nn ∧ (∀ a, a ≠ 209 → M' a = mset Mx 49 0 0 a) ∧ (∀ k, k < j → M' 209 k = f k) ∧ rdO (fun p => lg (fun k => M 194 (60 * s + ni + k)) nn p z t n) z v nn d p j f = res) ?_ ?_ 9 _ 0 _ ⟨0, 0, fun _ => 0, rfl, nI_0.symm, by omega, by omega, by omega, fun a w1 => rfl, fun k hk => by omega, hres.symm⟩⟩
    · rintro R x y M' ⟨p, j, f, -, -, h1, h2, -⟩
      omega
    · rintro d R x y M' ⟨p', j, f, rfl, rfl, h1, h2, h3, h4, h6, h7⟩ hR
      obtain ⟨g1, g2⟩ := hQ M' h4
      have m49 : M' 49 13 = nI F := by rw [h4 49 (by decide), mset_ne (by decide)]; exact c13
      have bad : res.1 = some p' → Q ((-100) - (nI (60 * s + ni + p') - nI (60 * s + ni))) M' := fun h => by
        rw [pk_sub (by omega), Nat.add_sub_cancel_left]
        exact g1 p' h
      refine ⟨fun q => ?_, fun q => ?_⟩
      · rw [nI_leI (by omega) (by omega)] at q
        rw [rdO, if_pos (by omega)] at h7
        rw [← h7] at g2
        obtain ⟨g3, g4⟩ := g2 rfl
        rw [m49]
        by_cases hF : F = 40
        · subst hF
          exact ⟨fun z => absurd rfl z, fun _ => g3 rfl⟩
        · have hFl : F < 40 := by omega
          refine ⟨fun _ => ?_, fun z => absurd z (by rw [show (40 : Int32) = nI 40 by decide, nI_eq (by omega) (by decide)]; exact hF)⟩
          refine ⟨j + 1, lq1_ind (fun d x M2 => d ≤ j ∧ x = nI (j - d) ∧ M2 = mcF M' 208 (8 * F) (j - d) f) ?_ ?_ j 0 _ ⟨Nat.le_refl _, by rw [Nat.sub_self, nI_0], by rw [Nat.sub_self, mcF_0]⟩⟩
          · rintro R x M2 ⟨-, rfl, rfl⟩
            rw [Nat.sub_zero]
            exact ⟨fun _ => m_comes (by rw [mcF_row (by decide)]; exact m49) hFl (g4 hFl), fun q => absurd (Int32.le_refl _) q⟩
          · rintro d R x M2 ⟨hd, rfl, rfl⟩ hR
            obtain ⟨k, hk0⟩ : ∃ k, k = j - (d + 1) := ⟨_, rfl⟩
            rw [← hk0]
            have i1 : mcF M' 208 (8 * F) k f 49 13 = nI F := by rw [mcF_row (by decide)]; exact m49
            have i2 : (8 : Int32) * nI F + nI k = nI (8 * F + k) := by rw [show (8 : Int32) = nI 8 by decide, pk_mul, nI_add]
            simp only [i1]
            rw [i2]
            refine ⟨fun q => absurd q (nI_ge (by omega) (by omega)), fun _ => ⟨vp_in_nI (by omega) (by decide), vp_in_nI (by omega) (by decide), hR _ _ ⟨by omega, by rw [nI_1]; congr 1; omega, ?_⟩⟩⟩
            rw [nI_clamp (by omega), nI_clamp (by omega), mcF_row (by decide), h6 k (by omega), mcF_s]
            congr 1
            omega
      · rw [nI_leI (by omega) (by omega)] at q
        rw [rdO, if_neg (by omega)] at h7
        have q0 : ∀ a, a ≠ 209 → a ≠ 49 → M' a = Mx a := fun a w1 w2 => by rw [h4 a w1, mset_row w2]
        refine m_entryAt (c := fun k => M 194 (60 * s + ni + k)) (t := t) (z := z) hc hn10 (by rw [q0 _ (by decide) (by decide)]; exact hcn) (fun e he => by rw [q0 _ (by decide) (by decide)]; exact hz e he) hz3 h3 (by omega) (fun k hk => by rw [q0 _ (by decide) (by decide), r3]) (fun e he k hk => by rw [q0 _ (by decide) (by decide)]; exact ht e he k hk) ?_
        simp only [jn0, jn1, jn2, jn3]
        cases hL : lg (fun k => M 194 (60 * s + ni + k)) nn p' z t n with
        | none =>
          simp only [hL] at h7
          simp only [oI, i10, i01, bI_0, bI_1, isB_bI, Classical.not_not, not_false_eq_true, not_true_eq_false, true_implies, false_implies, and_true, true_and, and_self, forall_eq, ne_eq]
          exact bad (by rw [← h7])
        | some b =>
          obtain ⟨hb, hsd⟩ := lg_lt n hL
          simp only [hL] at h7
          simp only [oI, i10, i01, bI_0, bI_1, isB_bI, Classical.not_not, not_false_eq_true, not_true_eq_false, true_implies, false_implies, and_true, true_and, and_self, forall_eq, ne_eq, n9 (n := 10 * col + b) (by omega)]
          refine ⟨fun q2 => ?_, fun q2 => ?_⟩
          · have hj : ¬ j = 8 := fun w => q2 (by rw [w]; rfl)
            rw [if_neg hj] at h7
            rw [nI_clamp (by omega), nI_clamp (by omega), mset_row (by decide), q0 199 (by decide) (by decide), hz b hb, nI_add, nI_1, q0 198 (by decide) (by decide), hv b hb]
            have hz1 := hsd.1
            refine ⟨vp_in_nI (by omega) (by decide), vp_in_nI (by omega) (by decide), hR _ _ _ ⟨p' + z b, j + 1, _, by rw [Nat.add_assoc], rfl, by omega, by omega, by omega, fun a w1 => by rw [mset_row w1, h4 a w1], fun k hk => ?_, h7⟩⟩
            by_cases w : k = j
            · rw [if_pos w, w, mset_eq]
            · rw [if_neg w, mset_ne (by omega)]; exact h6 k (by omega)
          · have hj : j = 8 := (nI_eq (by omega) (by decide)).mp q2
            rw [if_pos hj] at h7
            exact bad (by rw [← h7])
  · simp only [hf, i10, i01, bI_0, bI_1, isB_bI, Classical.not_not, not_false_eq_true, not_true_eq_false, true_implies, false_implies, and_true, true_and, and_self, forall_eq, ne_eq, m_fail]
    exact hQ1 hf
