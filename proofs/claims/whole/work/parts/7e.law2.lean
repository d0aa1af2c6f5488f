theorem Inv.law0 {M M' : Mem} (h : Inv M) (hF : ∀ i, i ∉ sB → ¬ (32 ≤ i ∧ i < 41) → M' i = M i) (hl : ∀ l, l < cL M → M' (32 + l) = M (32 + l)) (e0 : ∀ k, k ∈ [15, 16, 17, 18] → M' 0 k = M 0 k) (e49 : ∀ k, k ∈ [1, 11, 13, 22, 34, 44] → M' 49 k = M 49 k) (ef : M' 49 0 = M' 0 19) : Inv M' := by
  have eP : cP M' = cP M := by unfold cP; rw [e0 15 (by decide)]
  have eF : cF M' = cF M := by unfold cF; rw [e0 16 (by decide)]
  have eL : cL M' = cL M := by unfold cL; rw [hF 9 (by decide) (by omega)]
  exact h.step (fun i => decide (i ∈ sB) || (decide (32 ≤ i) && decide (i < 41))) (fun i hi => hF i (by simp at hi; simpa using hi.1) (by simp at hi; omega)) (h.1.of (fun k hk => e0 k (by revert hk; simp; omega)) (hF 9 (by decide) (by omega)) (hF 13 (by decide) (by omega)) e49 ef) (by omega) (Or.inr (by decide)) (Or.inr (by decide)) (Or.inr (by decide)) (Or.inr ⟨eF, by decide⟩) (Or.inr ⟨eF, by decide⟩) (Or.inr ⟨e0 17 (by decide), by decide⟩) (Or.inr ⟨eL, hl, by decide⟩) (Or.inr (by decide))
theorem Inv.law1 {M M' : Mem} (h : Inv M) (hL : cL M < 8) (hF : ∀ i, i ∉ sB → i ≠ 9 → i ≠ 32 + cL M → ¬ (213 ≤ i ∧ i < 218) → M' i = M i) (e0 : ∀ k, k ∈ [15, 16, 17, 18] → M' 0 k = M 0 k) (e9 : M' 9 4 = nI (cL M + 1)) (e22 : M' 49 22 = nI (cL M + 1)) (e49 : ∀ k, k ∈ [1, 11, 13, 34, 44] → M' 49 k = M 49 k) (ef : M' 49 0 = M' 0 19)
    (hk : ∀ x, 213 ≤ x → x < 218 → ∀ k, k ≠ cL M → M' x k = M x k) {p : Nat} (hp : p < 2 ^ cP M) (n0 : M' (32 + cL M) 0 = nI p) (n213 : M' 213 (cL M) = nI p) (n1 : tRel (M' (32 + cL M) 1) (M' 214 (cL M))) (n2 : rRel (M' (32 + cL M) 2) (M' 215 (cL M))) (n3 : sRel (M' (32 + cL M) 3) (M' 216 (cL M))) (n4 : sRel (M' (32 + cL M) 4) (M' 217 (cL M))) : Inv M' := by
  have eP : cP M' = cP M := by unfold cP; rw [e0 15 (by decide)]
  have eF : cF M' = cF M := by unfold cF; rw [e0 16 (by decide)]
  have eL : cL M' = cL M + 1 := by show (M' 9 4).toNatClampNeg = _; rw [e9, nI_clamp (by omega)]
  have h0 := h.1
  refine h.step (fun i => decide (i ∈ sB) || decide (i = 9) || (decide (32 ≤ i) && decide (i < 41)) || (decide (213 ≤ i) && decide (i < 218))) (fun i hi => ?_) ?_ (by omega) (Or.inr (by decide)) (Or.inr (by decide)) (Or.inr (by decide)) (Or.inr ⟨eF, by decide⟩) (Or.inr ⟨eF, by decide⟩) (Or.inr ⟨e0 17 (by decide), by decide⟩) (Or.inl ?_) (Or.inr (by decide))
  · simp at hi
    obtain ⟨⟨⟨g1, g2⟩, g3⟩, g4⟩ := hi
    exact hF i (by simpa using g1) g2 (by omega) (by omega)
  · unfold I0
    rw [eP, eF, eL, e0 15 (by decide), e0 16 (by decide), e0 18 (by decide), e49 1 (by decide), e49 11 (by decide), e49 13 (by decide), e49 34 (by decide), e49 44 (by decide), e22, e9, hF 13 (by decide) (by decide) (by omega) (by omega)]
    exact ⟨h0.1, h0.2.1, ⟨rfl, by omega, rfl⟩, h0.2.2.2.1, h0.2.2.2.2.1, h0.2.2.2.2.2.1, ef⟩
  · intro l hl
    rw [eL] at hl
    rw [eP]
    by_cases w : l = cL M
    · rw [w]
      exact ⟨⟨p, hp, n0⟩, by rw [n213, n0], n1, n2, n3, n4⟩
    · have nl : 32 + l ∉ sB := by
        have : ∀ l, l < 8 → 32 + l ∉ sB := by decide
        exact this l (by omega)
      rw [hF (32 + l) nl (by omega) (by omega) (by omega), hk 213 (by decide) (by decide) l w, hk 214 (by decide) (by decide) l w, hk 215 (by decide) (by decide) l w, hk 216 (by decide) (by decide) l w, hk 217 (by decide) (by decide) l w]
      exact h.2.2.2.2.2.2.2.1 l (by omega)
theorem m_law {M Mx : Mem} (hI : Inv M) {s : Nat} {a1 lane i n : Int32} {Q : Int32 → Mem → Prop} (hs : s < 4) (h1 : vp_in a1 (2 ^ cP M)) (hl : vp_in lane 3) (fr : ∀ r, 190 ≤ r → Mx r = M r) (f49 : Mx 49 = M 49)
    (hQ1 : ¬ ftv M s lane i n = 0 → Q ((-10) - ftv M s lane i n) (mset (mset Mx 49 0 0) 49 0 (ftv M s lane i n)))
    (hQ0 : ftv M s lane i n = 0 → ∀ ni nn : Nat, i = nI ni → n = nI nn → ni + nn ≤ 60 →
      (∀ j, prs (fun k => M 194 (60 * s + ni + k)) nn = .inl j → ∀ M', (∀ r, r ≠ 49 → r ≠ 220 → M' r = Mx r) → M' 49 0 = 0 → (∀ k, k ≠ 0 → k ≠ 28 → k ≠ 29 → M' 49 k = Mx 49 k) → Q ((-100) - nI j) M') ∧
      (∀ v : LC4, prs (fun k => M 194 (60 * s + ni + k)) nn = .inr v → (cL M = 8 → ∀ M', (∀ r, r ≠ 49 → r ≠ 220 → M' r = Mx r) → M' 49 0 = 0 → (∀ k, k ≠ 0 → k ≠ 28 → k ≠ 29 → M' 49 k = Mx 49 k) → Q (-4) M') ∧
        (cL M < 8 → ∀ M', (∀ r, r ≠ 49 → r ≠ 220 → ¬ (213 ≤ r ∧ r < 218) → M' r = Mx r) → M' 49 0 = 0 → M' 49 22 = nI (cL M + 1) → (∀ k, k ≠ 0 → k ≠ 22 → k ≠ 28 → k ≠ 29 → M' 49 k = Mx 49 k) → (∀ x, 213 ≤ x → x < 218 → ∀ k, k ≠ cL M → M' x k = Mx x k) → M' 213 (cL M) = a1 → M' 214 (cL M) = v.1.2 → M' 215 (cL M) = v.2.1.2 → M' 216 (cL M) = v.2.2.1.2 → M' 217 (cL M) = v.2.2.2.2 → Q (nI (cL M)) M')))
    : wX11_law a1 (nI s) lane i n Mx Q := by
  have h0 := hI.1
  have hP8 := h0.1.2.1
  have hl8 := h0.2.2.1.2.1
  have h8 := hI.2.2.2.2.2.2.2.2
  have c11 : M 49 11 = nI (cP M) := h0.1.2.2.trans h0.1.1
  have c22 : M 49 22 = nI (cL M) := h0.2.2.1.2.2.trans h0.2.2.1.1
  unfold wX11_law
  intro N hN
  subst hN
  rw [m_isSheet, bI_t (vp_in_nI hs (by decide))]
  refine ⟨fun _ => ?_, fun z => absurd z (by decide)⟩
  rw [m_setP (n := cP M) (by rw [mset_ne (by omega), f49]; exact c11) hP8, bI_t h1]
  refine ⟨fun z => absurd z (by decide), fun _ => ?_⟩
  rw [m_isLane, bI_t hl]
  refine ⟨fun _ => m_against h8 hs (by rw [mset_row (by decide)]; exact fr _ (by decide)) (by rw [mset_row (by decide)]; exact fr _ (by decide)) hl ⟨fun q N1 n1 N2 n2 => ?_, fun q => ?_⟩, fun z => absurd z (by decide)⟩
  · obtain ⟨ni, nn, e1, e2, e3⟩ := ftv_rng h8 hs q
    obtain ⟨g0, g1⟩ := hQ0 q ni nn e1 e2 e3
    subst e1; subst e2
    rw [fr60] at n1 n2
    rw [nI_add] at n2
    have f2 : ∀ r, r ≠ 49 → N2 r = Mx r := fun r hr => by rw [n2, mset_row hr, n1, mset_row hr, mset_row hr]
    have z2 : N2 49 0 = 0 := by rw [n2, mset_ne (by omega), n1, mset_ne (by omega), mset_eq]
    have k2 : ∀ k, k ≠ 0 → k ≠ 28 → k ≠ 29 → N2 49 k = Mx 49 k := fun k w1 w2 w3 => by rw [n2, mset_ne (by omega), n1, mset_ne (by omega), mset_ne (by omega)]
    have s2 : SM N2 (fun k => M 194 (60 * s + ni + k)) (60 * s + ni) nn 0 := ⟨by rw [n2, mset_ne (by omega), n1, mset_eq]; rfl, by rw [n2, mset_eq], fun k hk => by rw [f2 194 (by decide), fr 194 (by decide)]⟩
    refine m_reads (by omega) s2 (fun j hj M3 f3 k3 p3 => ⟨fun w => absurd rfl w, fun _ => ?_⟩) (fun v hv M3 f3 k3 b0 b1 b2 b3 => ⟨fun _ => ?_, fun w => absurd w (by decide)⟩)
    · have := g0 j hj M3 (fun r w1 w2 => by rw [f3 r w1 w2, f2 r w1]) (by rw [k3 0 (by decide), z2]) (fun k w1 w2 w3 => by rw [k3 k w2, k2 k w1 w2 w3])
      rw [p3, fr60, pk_sub (by omega), Nat.add_sub_cancel_left]
      exact this
    · obtain ⟨ga, gb⟩ := g1 v hv
      have c22' : M3 49 22 = nI (cL M) := by rw [k3 22 (by decide), k2 22 (by decide) (by decide) (by decide), f49, c22]
      have f3' : ∀ r, r ≠ 49 → r ≠ 220 → M3 r = Mx r := fun r w1 w2 => by rw [f3 r w1 w2, f2 r w1]
      rw [c22', show nI (cL M) = 8 ↔ cL M = 8 from nI_eq (b := 8) (by omega) (by decide)]
      refine ⟨fun w => ⟨vp_in_nI (by omega) (by decide), fun N5 n5 => ?_⟩, fun w => ga w M3 f3' (by rw [k3 0 (by decide), z2]) (fun k w1 w2 w3 => by rw [k3 k w2, k2 k w1 w2 w3])⟩
      rw [nI_clamp (by omega)] at n5
      have lt : cL M < 8 := by omega
      have l22 : ∀ N : Mem, N 49 = M3 49 → N 49 22 = nI (cL M) := fun N h => by rw [h, c22']
      have r5 : N5 49 = M3 49 := by rw [n5, mset_row (by decide)]
      rw [l22 N5 r5, nI_clamp (by omega), show Int32.toNatClampNeg 0 = 0 from rfl, show Int32.toNatClampNeg 1 = 1 by decide, show Int32.toNatClampNeg 2 = 2 by decide, show Int32.toNatClampNeg 3 = 3 by decide]
      refine ⟨vp_in_nI (n := 0) (by decide) (by decide), vp_in_nI lt (by decide), fun N6 n6 => ?_⟩
      have r6 : N6 49 = M3 49 := by rw [n6, mset_row (by decide), r5]
      rw [l22 N6 r6, nI_clamp (by omega)]
      refine ⟨vp_in_nI (n := 1) (by decide) (by decide), vp_in_nI lt (by decide), fun N7 n7 => ?_⟩
      have r7 : N7 49 = M3 49 := by rw [n7, mset_row (by decide), r6]
      rw [l22 N7 r7, nI_clamp (by omega)]
      refine ⟨vp_in_nI (n := 2) (by decide) (by decide), vp_in_nI lt (by decide), fun N8 n8 => ?_⟩
      have r8 : N8 49 = M3 49 := by rw [n8, mset_row (by decide), r7]
      rw [l22 N8 r8, nI_clamp (by omega)]
      refine ⟨vp_in_nI (n := 3) (by decide) (by decide), vp_in_nI lt (by decide), fun N9 n9 N10 n10 => ?_⟩
      have r9 : N9 49 = M3 49 := by rw [n9, mset_row (by decide), r8]
      rw [l22 N9 r9, nI_1] at n10
      have e22 : N10 49 22 = nI (cL M + 1) := by rw [n10, mset_eq]
      rw [e22, nI_pred]
      have x5 : ∀ x, x ≠ 213 → N5 x = M3 x := fun x hx => by rw [n5, mset_row hx]
      have x6 : ∀ x, x ≠ 214 → N6 x = N5 x := fun x hx => by rw [n6, mset_row hx]
      have x7 : ∀ x, x ≠ 215 → N7 x = N6 x := fun x hx => by rw [n7, mset_row hx]
      have x8 : ∀ x, x ≠ 216 → N8 x = N7 x := fun x hx => by rw [n8, mset_row hx]
      have x9 : ∀ x, x ≠ 217 → N9 x = N8 x := fun x hx => by rw [n9, mset_row hx]
      have x10 : ∀ x, x ≠ 49 → N10 x = N9 x := fun x hx => by rw [n10, mset_row hx]
      refine gb lt N10 (fun r w1 w2 w3 => ?_) ?_ e22 (fun k w1 w2 w3 w4 => ?_) (fun x g1 g2 k w => ?_) ?_ ?_ ?_ ?_ ?_
      · rw [x10 r w1, x9 r (by omega), x8 r (by omega), x7 r (by omega), x6 r (by omega), x5 r (by omega), f3' r w1 w2]
      · rw [n10, mset_ne (by omega), r9, k3 0 (by decide), z2]
      · rw [n10, mset_ne (by omega), r9, k3 k w3, k2 k w1 w3 w4]
      · have b : M3 x k = Mx x k := by rw [f3' x (by omega) (by omega)]
        rw [x10 x (by omega), ← b]
        have y5 : N5 x k = M3 x k := by rw [n5, mset_ne (by omega)]
        have y6 : N6 x k = M3 x k := by rw [n6, mset_ne (by omega), y5]
        have y7 : N7 x k = M3 x k := by rw [n7, mset_ne (by omega), y6]
        have y8 : N8 x k = M3 x k := by rw [n8, mset_ne (by omega), y7]
        rw [n9, mset_ne (by omega), y8]
      · rw [x10 213 (by decide), x9 213 (by decide), x8 213 (by decide), x7 213 (by decide), x6 213 (by decide), n5, mset_eq]
      · rw [x10 214 (by decide), x9 214 (by decide), x8 214 (by decide), x7 214 (by decide), n6, mset_eq, x5 220 (by decide), b0]
      · rw [x10 215 (by decide), x9 215 (by decide), x8 215 (by decide), n7, mset_eq, x6 220 (by decide), x5 220 (by decide), b1]
      · rw [x10 216 (by decide), x9 216 (by decide), n8, mset_eq, x7 220 (by decide), x6 220 (by decide), x5 220 (by decide), b2]
      · rw [x10 217 (by decide), n9, mset_eq, x8 220 (by decide), x7 220 (by decide), x6 220 (by decide), x5 220 (by decide), b3]
  · rw [m_fail]
    exact hQ1 q
