theorem minL {a b : Nat} (ha : a < 2 ^ 31) (hb : b < 2 ^ 31) {P : Int32 → Prop} (h : P (nI (min a b))) : (nI a ≤ nI b → P (nI a)) ∧ (¬ nI a ≤ nI b → P (nI b)) := by
  refine ⟨fun q => ?_, fun q => ?_⟩
  · rw [nI_leI ha hb] at q
    rw [show min a b = a by omega] at h
    exact h
  · rw [nI_leI ha hb] at q
    rw [show min a b = b by omega] at h
    exact h
theorem m_least {Mx : Mem} {A B g : Nat} {fa fb : Nat → Nat} {Q : Int32 → Mem → Prop} (hA8 : A ≤ 8) (hB8 : B ≤ 8) (hg : Mx 49 34 = nI g) (hg20 : g ≤ 20) (hS : Sn (Mx 195) (Mx 196)) (sa : ∀ k, k < A → Mx 226 k = nI (fa k) ∧ fa k < 16) (sb : ∀ k, k < B → Mx 227 k = nI (fb k) ∧ fb k < 16)
    (hQ : ∀ M', (∀ r, r ≠ 225 → M' r = Mx r) → (∀ i j, i ≤ A → j ≤ B → M' 225 (9 * i + j) = nI (ctR (fun i j => dfF (Mx 195) (Mx 196) (fa i) (fb j)) g A B (A - i) (B - j))) → Q (nI (ctR (fun i j => dfF (Mx 195) (Mx 196) (fa i) (fb j)) g A B A B)) M') : wX11_layCosts (nI A) (nI B) Mx Q := by
  unfold wX11_layCosts
  obtain ⟨D, hD⟩ : ∃ D : Nat → Nat → Nat, D = fun i j => dfF (Mx 195) (Mx 196) (fa i) (fb j) := ⟨_, rfl⟩
  rw [← hD] at hQ
  refine ⟨A + 1 + 1, lq1_ind (fun d x M' => d ≤ A + 1 ∧ x = dI d ∧ (∀ r, r ≠ 225 → M' r = Mx r) ∧ ∀ i j, d ≤ i → i ≤ A → j ≤ B → M' 225 (9 * i + j) = nI (ctR D g A B (A - i) (B - j))) ?_ ?_ (A + 1) _ Mx ⟨Nat.le_refl _, rfl, fun _ _ => rfl, fun i j h1 h2 => by omega⟩⟩
  · rintro R x M' ⟨-, rfl, h1, h2⟩
    refine ⟨fun _ => ⟨vp_in_nI (n := 0) (by decide) (by decide), ?_⟩, fun q => absurd dI_0 q⟩
    have := hQ M' h1 (fun i j g1 g2 => h2 i j (by omega) g1 g2)
    have h3 := h2 0 0 (by omega) (by omega) (by omega)
    rw [show Int32.toNatClampNeg 0 = 0 from rfl, show M' 225 0 = _ from h3]
    exact this
  · rintro i R x M' ⟨hi, rfl, h1, h2⟩ hR
    refine ⟨fun q => absurd q (dI_n (by omega)), fun _ => ?_⟩
    refine ⟨B + 1 + 1, lq1_ind (fun d x M2 => d ≤ B + 1 ∧ x = dI d ∧ (∀ r, r ≠ 225 → M2 r = Mx r) ∧ Fl D g A B 225 M2 i d) ?_ ?_ (B + 1) _ M' ⟨Nat.le_refl _, rfl, h1, fun i' j' w1 w2 w3 => h2 i' j' (by omega) w1 w2⟩⟩
    · rintro R2 x M2 ⟨-, rfl, h3, h4⟩
      refine ⟨fun _ => hR _ _ ⟨by omega, dI_s, h3, fun i' j' w1 w2 w3 => h4 i' j' w2 w3 (by omega)⟩, fun q => absurd dI_0 q⟩
    · rintro j R2 x M2 ⟨hj, rfl, h3, h4⟩ hR2
      refine ⟨fun q => absurd q (dI_n (by omega)), fun _ => ?_⟩
      have i1 : (9 : Int32) * nI i + nI j = nI (9 * i + j) := by rw [show (9 : Int32) = nI 9 by decide, pk_mul, nI_add]
      have i3 : (9 : Int32) * nI (i + 1) + nI j = nI (9 * (i + 1) + j) := by rw [show (9 : Int32) = nI 9 by decide, pk_mul, nI_add]
      have cg : M2 49 34 = nI g := by rw [h3 49 (by decide), hg]
      have fin : ∀ v, v = nI (ctR D g A B (A - i) (B - j)) → R2 (nI j + (-1)) (mset M2 225 (9 * i + j) v) := fun v hv => hR2 _ _ ⟨by omega, dI_s, fun r hr => by rw [mset_row hr, h3 r hr], Fl_set hB8 (by omega) h4 hv⟩
      simp only [dI, jn0, jn1, jn2, jn3, i1, i3, cg, nI_1]
      have edge : (i = A ∨ j = B) → vp_in (nI (9 * i + j)) 81 ∧ ∀ N67, N67 = mset M2 225 (nI (9 * i + j)).toNatClampNeg (nI g * (nI A - nI i + nI B - nI j)) → R2 (nI j + (-1)) N67 := fun he => by
        refine ⟨vp_in_nI (by omega) (by decide), fun N hN => ?_⟩
        rw [hN, nI_clamp (by omega)]
        refine fin _ ?_
        rw [pk_sub (by omega), nI_add, pk_sub (by omega), pk_mul, ct_e (by omega), Nat.mul_comm]
        congr 2
        omega
      refine ⟨fun q => ?_, fun q => ⟨fun q2 => ?_, fun q2 => ?_⟩⟩
      · exact edge (Or.inl ((nI_eq (by omega) (by omega)).mp q))
      · rw [nI_eq (by omega) (by omega)] at q q2
        have hu : A - i = (A - (i + 1)) + 1 := by omega
        have hw : B - j = (B - (j + 1)) + 1 := by omega
        have t01 := h4 i (j + 1) (by omega) (by omega) (by omega)
        have t10 := h4 (i + 1) j (by omega) (by omega) (by omega)
        have t11 := h4 (i + 1) (j + 1) (by omega) (by omega) (by omega)
        have e01 : 9 * i + j + 1 = 9 * i + (j + 1) := by omega
        have e11 : 9 * (i + 1) + j + 1 = 9 * (i + 1) + (j + 1) := by omega
        obtain ⟨va, va2⟩ := sa i (by omega)
        obtain ⟨vb, vb2⟩ := sb j (by omega)
        have b1 := ct_b (D := D) (A := A) (B := B) (u := A - i) (w := B - (j + 1)) (by omega) (by omega) hg20
        have b2 := ct_b (D := D) (A := A) (B := B) (u := A - (i + 1)) (w := B - j) (by omega) (by omega) hg20
        have b3 := ct_b (D := D) (A := A) (B := B) (u := A - (i + 1)) (w := B - (j + 1)) (by omega) (by omega) hg20
        have b4 := dfF_le (Y := Mx 195) (N := Mx 196) (x := fa i) (y := fb j)
        rw [nI_clamp (by omega), nI_clamp (by omega), h3 226 (by decide), h3 227 (by decide), va, vb]
        refine ⟨vp_in_nI (by omega) (by decide), vp_in_nI (by omega) (by decide), m_diff (by rw [h3 195 (by decide), h3 196 (by decide)]; exact hS) va2 vb2 ?_⟩
        rw [h3 195 (by decide), h3 196 (by decide)]
        refine ⟨vp_in_nI (by omega) (by decide), fun t1 ht1 => ⟨vp_in_nI (by omega) (by decide), fun t2 ht2 => ⟨vp_in_nI (by omega) (by decide), fun t3 ht3 => ?_⟩⟩⟩
        rw [nI_clamp (by omega), e11, t11, nI_add] at ht1
        rw [nI_clamp (by omega), t10, cg, nI_add] at ht2
        rw [nI_clamp (by omega), e01, t01, cg, nI_add] at ht3
        subst ht1; subst ht2; subst ht3
        rw [nI_clamp (by omega)]
        have v81 : vp_in (nI (9 * i + j)) 81 := vp_in_nI (by omega) (by decide)
        refine minL (by omega) (by omega) (P := fun y => (_ ≤ y → vp_in (nI (9 * i + j)) 81 ∧ ∀ N172, N172 = mset M2 225 (9 * i + j) _ → R2 (nI j + -1) N172) ∧ (¬ _ ≤ y → vp_in (nI (9 * i + j)) 81 ∧ ∀ N172, N172 = mset M2 225 (9 * i + j) y → R2 (nI j + -1) N172)) ?_
        refine minL (by omega) (by omega) (P := fun y => vp_in (nI (9 * i + j)) 81 ∧ ∀ N172, N172 = mset M2 225 (9 * i + j) y → R2 (nI j + -1) N172) ⟨v81, fun N hN => ?_⟩
        rw [hN]
        refine fin _ ?_
        congr 1
        have := ct_s (D := D) (g := g) (A := A) (B := B) (u := A - (i + 1)) (w := B - (j + 1))
        rw [← hu, ← hw, show A - (A - i) = i by omega, show B - (B - j) = j by omega] at this
        rw [this, show D i j = dfF (Mx 195) (Mx 196) (fa i) (fb j) by rw [hD]]
        omega
      · exact edge (Or.inr ((nI_eq (by omega) (by omega)).mp q2))
