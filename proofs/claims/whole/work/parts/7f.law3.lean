theorem prs_b {c : Nat → Int32} {n j : Nat} (h : prs c n = .inl j) : j ≤ n := by
  obtain ⟨t1, -, t3⟩ := tgt_r (c := c) (n := n) (i := 0) (Nat.zero_le _)
  unfold prs at h
  cases ht : (tgt c n 0).1 with
  | none => rw [ht] at h; rw [← Sum.inl.inj h]; exact t1
  | some t =>
    rw [ht] at h
    have h : (if cdA c n (tgt c n 0).2 = 62 then (match rsP (cdA c n ((tgt c n 0).2 + 1)) with | none => .inl ((tgt c n 0).2 + 1) | some r => prs2 c n t r ((tgt c n 0).2 + 2)) else .inl (tgt c n 0).2) = (Sum.inl j : Nat ⊕ LC4) := h
    by_cases h62 : cdA c n (tgt c n 0).2 = 62
    · have l0 : (tgt c n 0).2 < n := cd_lt (by rw [h62]; decide)
      rw [if_pos h62] at h
      cases hr : rsP (cdA c n ((tgt c n 0).2 + 1)) with
      | none => rw [hr] at h; rw [← Sum.inl.inj h]; exact l0
      | some r =>
        rw [hr] at h
        have h : prs2 c n t r ((tgt c n 0).2 + 2) = .inl j := h
        generalize (tgt c n 0).2 + 2 = i at h
        unfold prs2 at h
        by_cases hn : n ≤ i
        · rw [if_pos hn] at h
          cases h
        · rw [if_neg hn] at h
          by_cases h47 : cdA c n i = 47
          · rw [if_pos h47] at h
            obtain ⟨l1, -, l3⟩ := lft_r (c := c) (n := n) (i := i + 1) (by omega)
            cases hl : (lft c n (i + 1)).1 with
            | none => rw [hl] at h; rw [← Sum.inl.inj h]; exact l1
            | some l =>
              rw [hl] at h
              have h : (if cdA c n (lft c n (i + 1)).2 = 95 then prs3 c n t r l ((lft c n (i + 1)).2 + 1) else .inl (lft c n (i + 1)).2) = (Sum.inl j : Nat ⊕ LC4) := h
              by_cases h95 : cdA c n (lft c n (i + 1)).2 = 95
              · rw [if_pos h95] at h
                generalize (lft c n (i + 1)).2 + 1 = m at h
                unfold prs3 at h
                by_cases hn2 : n ≤ m
                · rw [if_pos hn2] at h
                  cases h
                · rw [if_neg hn2] at h
                  obtain ⟨s1, -, s3⟩ := sid_r (c := c) (n := n) (i := m) (by omega)
                  cases hs : (sid c n m).1 with
                  | none => rw [hs] at h; rw [← Sum.inl.inj h]; exact s1
                  | some s =>
                    rw [hs] at h
                    have h : (if (sid c n m).2 = n then .inr (t, r, l, s) else .inl (sid c n m).2) = (Sum.inl j : Nat ⊕ LC4) := h
                    by_cases he : (sid c n m).2 = n
                    · rw [if_pos he] at h
                      cases h
                    · rw [if_neg he] at h
                      rw [← Sum.inl.inj h]; exact s1
              · rw [if_neg h95] at h
                rw [← Sum.inl.inj h]; exact l1
          · rw [if_neg h47] at h
            rw [← Sum.inl.inj h]
            omega
    · rw [if_neg h62] at h
      rw [← Sum.inl.inj h]
      exact t1
theorem st_law {M : Mem} (hI : Inv M) (a1 a2 a3 a4 a5 : Int32) : wX10_law a1 a2 a3 a4 a5 M (fun r M1 => wX11_law a1 a2 a3 a4 a5 M1 (fun r' M2 => r = r' ∧ Inv M2)) := by
  have h0 := hI.1
  have hP8 := h0.1.2.1
  have hl8 := h0.2.2.1.2.1
  have h8 := hI.2.2.2.2.2.2.2.2
  have c15 := h0.1.1
  have c4 := h0.2.2.1.1
  have c11 : M 49 11 = nI (cP M) := h0.1.2.2.trans h0.1.1
  have eS : ∀ Q, wX10_isSetBelow a1 (mset M 0 19 0 0 15) (mset M 0 19 0) Q = Q (bI (vp_in a1 (2 ^ cP M))) (mset M 0 19 0) := fun Q => e_isSetBelow (by rw [mset_ne (by omega)]; exact c15) (by omega)
  have mS : ∀ M1 Q, M1 49 11 = nI (cP M) → wX11_within a1 0 (((1 : Int32) <<< (M1 49 11 &&& 31)) - 1) M1 Q = Q (bI (vp_in a1 (2 ^ cP M))) M1 := fun M1 Q h => m_setP h hP8
  have m11 : mset (mset M 0 19 0) 49 0 0 49 11 = nI (cP M) := by rw [mset_ne (by omega), mset_row (by decide)]; exact c11
  by_cases h2 : vp_in a2 4
  · by_cases h1 : vp_in a1 (2 ^ cP M)
    · by_cases h3 : vp_in a3 3
      · obtain ⟨s, hs, es, -⟩ := vp_nI h2 (by decide)
        have pw : 2 ^ cP M ≤ 256 := Nat.pow_le_pow_right (n := 2) (j := 8) (by decide) hP8
        obtain ⟨p, hp, ep, -⟩ := vp_nI h1 (by omega)
        unfold wX10_law
        intro N hN
        subst hN
        rw [e_b4, bI_t h2]
        refine ⟨fun _ => ?_, fun z => absurd z (by decide)⟩
        rw [eS, bI_t h1]
        refine ⟨fun z => absurd z (by decide), fun _ => ?_⟩
        rw [e_b3, bI_t h3]
        refine ⟨fun _ => ?_, fun z => absurd z (by decide)⟩
        rw [es]
        refine e_take h8 hs (mset_row (by omega)) (fun q => ⟨fun z => absurd z (ftv_ne q), fun _ => ?_⟩) (fun q ni nn e1 e2 e3 M' f1 f2 => ⟨fun _ => ?_, fun z => absurd rfl z⟩)
        · exact m_law hI hs h1 h3 (fun r hr => by rw [mset_row (by omega), mset_row (by omega)]) (by rw [mset_row (by decide), mset_row (by decide)]) (fun _ => ⟨rfl, hI.f4 _ 0⟩) (fun z => absurd z q)
        · have g : ∀ a, a ≠ 18 → a ≠ 0 → M' a = M a := fun a b1 b2 => by rw [f1 a b1, mset_row b2]
          have g0 : ∀ k, k ≠ 19 → M' 0 k = M 0 k := fun k hk => by rw [f1 0 (by decide), mset_ne (by omega)]
          have g19 : M' 0 19 = 0 := by rw [f1 0 (by decide), mset_eq]
          have f3 : ∀ k, k < nn → M' 18 k = M 194 (60 * s + ni + k) := fun k hk => by
            rw [f2 k hk, mset_row (by omega), ← (h8 s hs).2 (ni + k) (by omega)]
            congr 1
            omega
          have c9 : M' 9 4 = nI (cL M) := by rw [g 9 (by decide) (by decide)]; exact c4
          have nsB : ∀ i, i ∉ sB → i ≠ 18 ∧ i ≠ 0 ∧ i ≠ 49 ∧ i ≠ 11 ∧ i ≠ 12 ∧ i ≠ 220 := fun i hi => ⟨fun z => hi (by rw [z]; decide), fun z => hi (by rw [z]; decide), fun z => hi (by rw [z]; decide), fun z => hi (by rw [z]; decide), fun z => hi (by rw [z]; decide), fun z => hi (by rw [z]; decide)⟩
          have rng : ∀ n1 n2 : Nat, a4 = nI n1 → a5 = nI n2 → n1 + n2 ≤ 60 → n1 = ni ∧ n2 = nn := fun n1 n2 d1 d2 d3 => by
            rw [e1, nI_eq (by omega) (by omega)] at d1
            rw [e2, nI_eq (by omega) (by omega)] at d2
            exact ⟨d1.symm, d2.symm⟩
          unfold wX4_readLaw
          rw [c9, nI_clamp (by omega), e2]
          refine ⟨by decide, vp_in_nI (by omega) (by decide), ?_⟩
          have old : ∀ M2 M3 : Mem, (∀ q, q ≠ 11 → q ≠ 12 → q ≠ 32 + cL M → M2 q = M' q) → (∀ r, r ≠ 49 → r ≠ 220 → M3 r = M2 r) → M3 49 0 = 0 → (∀ k, k ≠ 0 → k ≠ 28 → k ≠ 29 → M3 49 k = M2 49 k) → Inv M3 := fun M2 M3 k2 k3 z3 k4 => by
            refine hI.law0 (fun i hi w => ?_) (fun l hl => ?_) (fun k hk => ?_) (fun k hk => ?_) ?_
            · obtain ⟨w1, w2, w3, w4, w5, w6⟩ := nsB i hi
              rw [k3 i w3 w6, k2 i w4 w5 (by omega), g i w1 w2]
            · rw [k3 _ (by omega) (by omega), k2 _ (by omega) (by omega) (by omega), g _ (by omega) (by omega)]
            · rw [k3 0 (by decide) (by decide), k2 0 (by decide) (by decide) (by omega), g0 k (by revert hk; simp; omega)]
            · rw [k4 k (by revert hk; simp; omega) (by revert hk; simp; omega) (by revert hk; simp; omega), k2 49 (by decide) (by decide) (by omega), g 49 (by decide) (by decide)]
            · rw [z3, k3 0 (by decide) (by decide), k2 0 (by decide) (by decide) (by omega), g19]
          have ref : ∀ (M2 : Mem), (∀ q, q ≠ 11 → q ≠ 12 → q ≠ 32 + cL M → M2 q = M' q) → (∀ r, 190 ≤ r → M2 r = M r) ∧ M2 49 = M 49 := fun M2 k2 => ⟨fun r hr => by rw [k2 r (by omega) (by omega) (by omega), g r (by omega) (by omega)], by rw [k2 49 (by decide) (by decide) (by omega), g 49 (by decide) (by decide)]⟩
          refine e_first (c := fun k => M 194 (60 * s + ni + k)) ⟨by omega, by omega⟩ (by omega) f3 (fun j hj M2 k2 => ⟨fun w => ?_, fun w => ?_⟩) (fun v hv M2 k2 b1 b2 b3 b4 => ⟨fun _ => ?_, fun w => absurd rfl w⟩)
          · exact absurd w (n9 (by have := prs_b hj; omega))
          · rw [← e2]
            obtain ⟨r1, r2⟩ := ref M2 k2
            refine m_law hI hs h1 h3 r1 r2 (fun z => absurd q z) (fun _ n1 n2 d1 d2 d3 => ?_)
            obtain ⟨rfl, rfl⟩ := rng n1 n2 d1 d2 d3
            refine ⟨fun j' hj' M3 k3 z3 k4 => ⟨?_, old M2 M3 k2 k3 z3 k4⟩, fun v hv => ?_⟩
            · rw [hj] at hj'
              rw [Sum.inl.inj hj']
            · rw [hj] at hv
              cases hv
          · obtain ⟨o1, o2, o3, o4⟩ := prs_r hv
            have c9' : M2 9 4 = nI (cL M) := by rw [k2 9 (by decide) (by decide) (by omega)]; exact c9
            unfold wX4_addRead
            rw [c9', show nI (cL M) < 8 ↔ cL M < 8 from nI_ltI (b := 8) (by omega) (by decide), nI_clamp (by omega)]
            refine ⟨fun w => ⟨vp_in_nI (by omega) (by decide), fun N3 n3 N4 n4 => ?_⟩, fun w => ?_⟩
            · have c93 : N3 9 4 = nI (cL M) := by rw [n3, mset_row (by omega), c9']
              rw [c93, nI_1] at n4
              have c94 : N4 9 4 = nI (cL M + 1) := by rw [n4, mset_eq]
              rw [c94, nI_pred]
              have x4 : ∀ x, x ≠ 9 → x ≠ 32 + cL M → N4 x = M2 x := fun x w1 w2 => by rw [n4, mset_row w1, n3, mset_row w2]
              have a40 : N4 (32 + cL M) 0 = a1 := by rw [n4, mset_row (by omega), n3, mset_eq]
              have a4 : ∀ k, k ≠ 0 → N4 (32 + cL M) k = M2 (32 + cL M) k := fun k hk => by rw [n4, mset_row (by omega), n3, mset_ne (by omega)]
              obtain ⟨r1, r2⟩ := ref M2 k2
              rw [← e2]
              refine m_law hI hs h1 h3 (fun r hr => by rw [x4 r (by omega) (by omega), r1 r hr]) (by rw [x4 49 (by decide) (by omega), r2]) (fun z => absurd q z) (fun _ n1 n2 d1 d2 d3 => ?_)
              obtain ⟨rfl, rfl⟩ := rng n1 n2 d1 d2 d3
              refine ⟨fun j' hj' => ?_, fun v' hv' => ⟨fun w2 => by omega, fun _ M5 k5 z5 e22 k6 k7 p0 p1 p2 p3 p4 => ⟨rfl, ?_⟩⟩⟩
              · rw [hv] at hj'
                cases hj'
              · rw [hv] at hv'
                have ev := Sum.inr.inj hv'
                subst ev
                have ra : M5 (32 + cL M) = N4 (32 + cL M) := k5 _ (by omega) (by omega) (by omega)
                refine hI.law1 w (fun i hi w1 w2 w3 => ?_) (fun k hk => ?_) ?_ e22 (fun k hk => ?_) ?_ (fun x g1 g2 k hk => ?_) hp ?_ (by rw [p0]; exact ep) ?_ ?_ ?_ ?_
                · obtain ⟨y1, y2, y3, y4, y5, y6⟩ := nsB i hi
                  rw [k5 i y3 y6 w3, x4 i w1 w2, k2 i y4 y5 w2, g i y1 y2]
                · rw [k5 0 (by decide) (by decide) (by omega), x4 0 (by decide) (by omega), k2 0 (by decide) (by decide) (by omega), g0 k (by revert hk; simp; omega)]
                · rw [k5 9 (by decide) (by decide) (by omega), c94]
                · rw [k6 k (by revert hk; simp; omega) (by revert hk; simp; omega) (by revert hk; simp; omega) (by revert hk; simp; omega), x4 49 (by decide) (by omega), r2]
                · rw [z5, k5 0 (by decide) (by decide) (by omega), x4 0 (by decide) (by omega), k2 0 (by decide) (by decide) (by omega), g19]
                · rw [k7 x g1 g2 k hk, x4 x (by omega) (by omega), r1 x (by omega)]
                · rw [ra, a40]; exact ep
                · rw [ra, a4 1 (by decide), b1, p1]; exact o1
                · rw [ra, a4 2 (by decide), b2, p2]; exact o2
                · rw [ra, a4 3 (by decide), b3, p3]; exact o3
                · rw [ra, a4 4 (by decide), b4, p4]; exact o4
            · rw [← e2]
              obtain ⟨r1, r2⟩ := ref M2 k2
              refine m_law hI hs h1 h3 r1 r2 (fun z => absurd q z) (fun _ n1 n2 d1 d2 d3 => ?_)
              obtain ⟨rfl, rfl⟩ := rng n1 n2 d1 d2 d3
              refine ⟨fun j' hj' => ?_, fun v' hv' => ⟨fun _ M3 k3 z3 k4 => ⟨rfl, old M2 M3 k2 k3 z3 k4⟩, fun w2 => absurd w2 w⟩⟩
              rw [hv] at hj'
              cases hj'
      · simp only [wX10_law, wX11_law, forall_eq, eS, mS _ _ m11, e_b16, e_b6, e_b4, e_b3, e_w2, e_isMeaning, e_isIn, e_m15, e_m5, e_m3, e_m2, e_m63, m_isMeaning, m_isSound, m_isSheet, m_isLane, m_isCollector, e_has, bI_t h1, bI_t h2, bI_f h3, i10, i01, bI_0, bI_1, isB_bI, Classical.not_not, not_false_eq_true, not_true_eq_false, true_implies, false_implies, and_true, true_and, and_self, forall_eq, ne_eq]
        exact hI.f2 0
    · simp only [wX10_law, wX11_law, forall_eq, eS, mS _ _ m11, e_b16, e_b6, e_b4, e_b3, e_w2, e_isMeaning, e_isIn, e_m15, e_m5, e_m3, e_m2, e_m63, m_isMeaning, m_isSound, m_isSheet, m_isLane, m_isCollector, e_has, bI_f h1, bI_t h2, i10, i01, bI_0, bI_1, isB_bI, Classical.not_not, not_false_eq_true, not_true_eq_false, true_implies, false_implies, and_true, true_and, and_self, forall_eq, ne_eq]
      exact hI.f2 0
  · simp only [wX10_law, wX11_law, forall_eq, e_b16, e_b6, e_b4, e_b3, e_w2, e_isMeaning, e_isIn, e_m15, e_m5, e_m3, e_m2, e_m63, m_isMeaning, m_isSound, m_isSheet, m_isLane, m_isCollector, e_has, bI_f h2, i10, i01, bI_0, bI_1, isB_bI, Classical.not_not, not_false_eq_true, not_true_eq_false, true_implies, false_implies, and_true, true_and, and_self, forall_eq, ne_eq]
    exact hI.f2 0
