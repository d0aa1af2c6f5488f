/-! the columns of a laying -/
def wk (D : Nat → Nat → Nat) (g A B : Nat) (fa fb : Nat → Nat) (a3 : Int32) : Nat → Nat → Nat → Nat → Int32
  | 0, _, _, _ => 0
  | d + 1, i, j, c => if A ≤ i ∧ B ≤ j then (if a3 = -1 then nI c else -9)
    else if i < A ∧ j < B ∧ ctR D g A B (A - i) (B - j) = D i j + ctR D g A B (A - (i + 1)) (B - (j + 1)) then (if nI c = a3 then 100 * (nI (fa i) + 1) + (nI (fb j) + 1) else wk D g A B fa fb a3 d (i + 1) (j + 1) (c + 1))
    else if i < A ∧ ctR D g A B (A - i) (B - j) = ctR D g A B (A - (i + 1)) (B - j) + g then (if nI c = a3 then 100 * (nI (fa i) + 1) else wk D g A B fa fb a3 d (i + 1) j (c + 1))
    else (if nI c = a3 then nI (fb j) + 1 else wk D g A B fa fb a3 d i (j + 1) (c + 1))
theorem ct_B {D : Nat → Nat → Nat} {g A B i : Nat} (h : i < A) : ctR D g A B (A - i) (B - B) = ctR D g A B (A - (i + 1)) (B - B) + g := by
  rw [Nat.sub_self, ct_e (Or.inr rfl), ct_e (Or.inr rfl), show A - i = (A - (i + 1)) + 1 by omega, Nat.add_zero, Nat.succ_mul]
  rfl
theorem cond2 {a b X S : Prop} (hX : ¬ (¬ a ∧ b) → X) (hS : ¬ a → b → S) : (a → X) ∧ (¬ a → (b → S) ∧ (¬ b → X)) := ⟨fun h => hX (fun q => q.1 h), fun h => ⟨hS h, fun q => hX (fun w => q w.2)⟩⟩
theorem e_walk {Mx : Mem} {a b A B g : Nat} {fa fb : Nat → Nat} {a3 : Int32} {Q : Int32 → Mem → Prop} (ha : 50 ≤ a ∧ a < 100) (hb : 50 ≤ b ∧ b < 100) (hA : Mx a 1 = nI A) (hB : Mx b 1 = nI B) (hA8 : A ≤ 8) (hB8 : B ≤ 8) (hg : Mx 13 2 = nI g) (hg20 : g ≤ 20) (hS : Sn (Mx 2) (Mx 3)) (l1 : ∀ k, fa k < 16) (l2 : ∀ k, fb k < 16) (sa : ∀ k, k < A → Mx (a + 50) k = nI (fa k)) (sb : ∀ k, k < B → Mx (b + 50) k = nI (fb k))
    (hQ : ∀ M', (∀ r, r ≠ 14 → M' r = Mx r) → Q (wk (fun i j => dfF (Mx 2) (Mx 3) (fa i) (fb j)) g A B fa fb a3 (A + B + 1) 0 0 0) M') : wX6_column a b a3 Mx Q := by
  unfold wX6_column
  refine ⟨ha, hb, e_least (fa := fa) (fb := fb) ha hb hA hB hA8 hB8 hg hg20 hS (fun k hk => ⟨sa k hk, l1 k⟩) (fun k hk => ⟨sb k hk, l2 k⟩) (fun M1 b1 b2 => ?_)⟩
  obtain ⟨D, hD⟩ : ∃ D : Nat → Nat → Nat, D = fun i j => dfF (Mx 2) (Mx 3) (fa i) (fb j) := ⟨_, rfl⟩
  rw [← hD] at hQ b2
  have cA : M1 a 1 = nI A := by rw [b1 a (by omega), hA]
  have cB : M1 b 1 = nI B := by rw [b1 b (by omega), hB]
  have cg : M1 13 2 = nI g := by rw [b1 13 (by decide), hg]
  have hQ := hQ M1 b1
  refine ⟨A + B + 1 + 1, lq3_ind (fun d x y w M' => M' = M1 ∧ ∃ i j c, x = nI i ∧ y = nI j ∧ w = nI c ∧ i ≤ A ∧ j ≤ B ∧ c ≤ i + j ∧ (A - i) + (B - j) + 1 ≤ d ∧ wk D g A B fa fb a3 d i j c = wk D g A B fa fb a3 (A + B + 1) 0 0 0) ?_ ?_ (A + B + 1) 0 0 0 M1 ⟨rfl, 0, 0, 0, nI_0.symm, nI_0.symm, nI_0.symm, by omega, by omega, by omega, by omega, rfl⟩⟩
  · rintro R x y w M' ⟨-, i, j, c, -, -, -, -, -, -, h, -⟩
    omega
  · rintro d R x y w M' ⟨rfl, i, j, c, rfl, rfl, rfl, hi, hj, hc, hd, hw⟩ hR
    rw [wk] at hw
    have i1 : nI i * 9 + nI j = nI (9 * i + j) := by rw [show (9 : Int32) = nI 9 by decide, pk_mul, nI_add, Nat.mul_comm]
    have i2 : (nI i + 1) * 9 + nI j = nI (9 * (i + 1) + j) := by rw [nI_1, show (9 : Int32) = nI 9 by decide, pk_mul, nI_add, Nat.mul_comm]
    have stop : A ≤ i ∧ B ≤ j → (¬ a3 = -1 → Q (-9) M') ∧ (a3 = -1 → Q (nI c) M') := fun h => by
      rw [if_pos h] at hw
      rw [← hw] at hQ
      exact ⟨fun q => by rw [if_neg q] at hQ; exact hQ, fun q => by rw [if_pos q] at hQ; exact hQ⟩
    have tT := b2 i j hi hj
    have bT := ct_b (D := D) (A := A) (B := B) (u := A - i) (w := B - j) (by omega) (by omega) hg20
    have pairQ : ∀ P : Int32 → Mem → Prop, P (bI (i < A ∧ j < B ∧ ctR D g A B (A - i) (B - j) = D i j + ctR D g A B (A - (i + 1)) (B - (j + 1)))) M' → wX6_isPair a b (nI i) (nI j) M' P := fun P hP => by
      unfold wX6_isPair
      rw [cA, cB, i1, nI_clamp (by omega), tT]
      refine ⟨ha, hb, fun q => ?_, fun q => ⟨fun q2 => ?_, fun q2 => ?_⟩⟩
      · rw [nI_leI (by omega) (by omega)] at q
        rw [bI_f (by omega)] at hP; exact hP
      · rw [nI_leI (by omega) (by omega)] at q2
        rw [bI_f (by omega)] at hP; exact hP
      · rw [nI_leI (by omega) (by omega)] at q q2
        refine ⟨vp_in_nI (by omega) (by decide), ?_⟩
        have t11 := b2 (i + 1) (j + 1) (by omega) (by omega)
        have b3 := ct_b (D := D) (A := A) (B := B) (u := A - (i + 1)) (w := B - (j + 1)) (by omega) (by omega) hg20
        have b4 : D i j ≤ 12 := by rw [hD]; exact dfF_le
        unfold wX6_costOfPair
        rw [nI_clamp (by omega), nI_clamp (by omega), b1 (a + 50) (by omega), b1 (b + 50) (by omega), sa i (by omega), sb j (by omega)]
        refine ⟨ha, hb, vp_in_nI (by omega) (by decide), vp_in_nI (by omega) (by decide), e_diff (by rw [b1 2 (by decide), b1 3 (by decide)]; exact hS) (l1 i) (l2 j) ?_⟩
        rw [i2, nI_1, nI_clamp (by omega), show 9 * (i + 1) + j + 1 = 9 * (i + 1) + (j + 1) by omega, t11, nI_add, b1 2 (by decide), b1 3 (by decide), show dfF (Mx 2) (Mx 3) (fa i) (fb j) = D i j by rw [hD]]
        refine ⟨vp_in_nI (by omega) (by decide), fun q3 => ?_, fun q3 => ?_⟩
        · rw [nI_eq (by omega) (by omega)] at q3
          rw [bI_f (fun h => q3 h.2.2)] at hP; exact hP
        · rw [nI_eq (by omega) (by omega)] at q3
          rw [bI_t ⟨by omega, by omega, q3⟩] at hP; exact hP
    have firstQ : ∀ P : Int32 → Mem → Prop, P (bI (i < A ∧ ctR D g A B (A - i) (B - j) = ctR D g A B (A - (i + 1)) (B - j) + g)) M' → wX6_isFirstAlone a (nI i) (nI j) M' P := fun P hP => by
      unfold wX6_isFirstAlone
      rw [cA, i1, i2, nI_clamp (by omega), tT, cg]
      refine ⟨ha, fun q => ?_, fun q => ?_⟩
      · rw [nI_leI (by omega) (by omega)] at q
        rw [bI_f (by omega)] at hP; exact hP
      · rw [nI_leI (by omega) (by omega)] at q
        have t10 := b2 (i + 1) j (by omega) (by omega)
        have b3 := ct_b (D := D) (A := A) (B := B) (u := A - (i + 1)) (w := B - j) (by omega) (by omega) hg20
        rw [nI_clamp (by omega), t10, nI_add, nI_eq (by omega) (by omega)]
        refine ⟨vp_in_nI (by omega) (by decide), vp_in_nI (by omega) (by decide), fun q3 => ?_, fun q3 => ?_⟩
        · rw [bI_f (fun h => q3 h.2)] at hP; exact hP
        · rw [bI_t ⟨by omega, q3⟩] at hP; exact hP
    have atA : i < A → ∀ P : Int32 → Mem → Prop, P (nI (fa i)) M' → wX7_at a (nI i) M' P := fun h P hP => e_at ha cA hA8 ⟨fun _ => by rw [nI_clamp (by omega), b1 (a + 50) (by omega), sa i h]; exact hP, fun q => absurd (vp_in_nI h (by omega)) q⟩
    have atB : j < B → ∀ P : Int32 → Mem → Prop, P (nI (fb j)) M' → wX7_at b (nI j) M' P := fun h P hP => e_at hb cB hB8 ⟨fun _ => by rw [nI_clamp (by omega), b1 (b + 50) (by omega), sb j h]; exact hP, fun q => absurd (vp_in_nI h (by omega)) q⟩
    have go : ∀ i' j', i' ≤ A → j' ≤ B → i + j < i' + j' → wk D g A B fa fb a3 d i' j' (c + 1) = wk D g A B fa fb a3 (A + B + 1) 0 0 0 → R (nI i') (nI j') (nI (c + 1)) M' := fun i' j' w1 w2 w3 w4 => hR _ _ _ _ ⟨rfl, i', j', c + 1, rfl, rfl, rfl, w1, w2, by omega, by omega, w4⟩
    simp only [jn0, jn1, jn2, jn3]
    refine ⟨fun q => ?_, fun q => cond2 (fun hne => pairQ _ ?_) (fun q1 q2 => ?_)⟩
    · rw [show (16 : Int32) = nI 16 by decide, nI_leI (by decide) (by omega)] at q
      exact stop ⟨by omega, by omega⟩
    · rw [cA, cB, nI_ltI (by omega) (by omega), nI_leI (by omega) (by omega)] at hne
      rw [if_neg (by omega)] at hw
      by_cases hp : i < A ∧ j < B ∧ ctR D g A B (A - i) (B - j) = D i j + ctR D g A B (A - (i + 1)) (B - (j + 1))
      · rw [if_pos hp] at hw
        simp only [bI_t hp, i10, i01, bI_0, bI_1, isB_bI, Classical.not_not, not_false_eq_true, not_true_eq_false, true_implies, false_implies, and_true, true_and, and_self, forall_eq, ne_eq]
        refine ⟨fun q3 => ?_, fun q3 => atA hp.1 _ (atB hp.2.1 _ ?_)⟩
        · rw [if_neg q3] at hw
          rw [nI_1, nI_1, nI_1]
          exact go _ _ (by omega) (by omega) (by omega) hw
        · rw [if_pos q3] at hw
          rw [hw]
          exact hQ
      · rw [if_neg hp] at hw
        simp only [bI_f hp, i10, i01, bI_0, bI_1, isB_bI, Classical.not_not, not_false_eq_true, not_true_eq_false, true_implies, false_implies, and_true, true_and, and_self, forall_eq, ne_eq]
        refine firstQ _ ?_
        by_cases hf : i < A ∧ ctR D g A B (A - i) (B - j) = ctR D g A B (A - (i + 1)) (B - j) + g
        · rw [if_pos hf] at hw
          simp only [bI_t hf, i10, i01, bI_0, bI_1, isB_bI, Classical.not_not, not_false_eq_true, not_true_eq_false, true_implies, false_implies, and_true, true_and, and_self, forall_eq, ne_eq]
          refine ⟨fun q3 => ?_, fun q3 => atA hf.1 _ ?_⟩
          · rw [if_neg q3] at hw
            rw [nI_1, nI_1, Int32.add_zero]
            exact go _ _ (by omega) (by omega) (by omega) hw
          · rw [if_pos q3] at hw
            rw [Int32.add_zero, hw]
            exact hQ
        · rw [if_neg hf] at hw
          have hjB : j < B := by
            rcases Nat.lt_or_ge j B with z | z
            · exact z
            · have : j = B := by omega
              subst this
              exact absurd ⟨by omega, ct_B (by omega)⟩ hf
          simp only [bI_f hf, i10, i01, bI_0, bI_1, isB_bI, Classical.not_not, not_false_eq_true, not_true_eq_false, true_implies, false_implies, and_true, true_and, and_self, forall_eq, ne_eq]
          refine ⟨fun q3 => ?_, fun q3 => atB hjB _ ?_⟩
          · rw [if_neg q3] at hw
            rw [nI_1, nI_1, Int32.add_zero]
            exact go _ _ (by omega) (by omega) (by omega) hw
          · rw [if_pos q3] at hw
            rw [Int32.zero_add, hw]
            exact hQ
    · rw [cA, nI_ltI (by omega) (by omega)] at q1
      rw [cB, nI_leI (by omega) (by omega)] at q2
      exact stop ⟨by omega, by omega⟩
