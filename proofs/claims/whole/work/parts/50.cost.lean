/-! the least cost of laying two rows side by side -/
theorem df6_le {y1 n1 y2 n2 : Nat} : ∀ f, df6 y1 n1 y2 n2 f ≤ 2 * f := by
  intro f
  induction f with
  | zero => exact Nat.le_refl _
  | succ f ih =>
    have : df1 (y1.testBit f) (n1.testBit f) (y2.testBit f) (n2.testBit f) ≤ 2 := by
      unfold df1
      split
      · split <;> omega
      · split <;> omega
    rw [df6]
    omega
theorem dfF_le {Y N : Nat → Int32} {x y : Nat} : dfF Y N x y ≤ 12 := df6_le 6
def ctW (b g : Nat) (c D : Nat → Nat) : Nat → Nat
  | 0 => b
  | w + 1 => min (D w + c w) (min (ctW b g c D w) (c (w + 1)) + g)
def ctR (D : Nat → Nat → Nat) (g A B : Nat) : Nat → Nat → Nat
  | 0, w => w * g
  | u + 1, w => ctW ((u + 1) * g) g (ctR D g A B u) (fun w => D (A - (u + 1)) (B - (w + 1))) w
theorem ct_s {D : Nat → Nat → Nat} {g A B u w : Nat} : ctR D g A B (u + 1) (w + 1) = min (D (A - (u + 1)) (B - (w + 1)) + ctR D g A B u w) (min (ctR D g A B (u + 1) w) (ctR D g A B u (w + 1)) + g) := rfl
theorem ct_e {D : Nat → Nat → Nat} {g A B u w : Nat} (h : u = 0 ∨ w = 0) : ctR D g A B u w = (u + w) * g := by
  cases u with
  | zero => rw [Nat.zero_add]; rfl
  | succ u =>
    have : w = 0 := by omega
    subst this
    rfl
theorem ct_le {D : Nat → Nat → Nat} {g A B : Nat} : ∀ u w, ctR D g A B u w ≤ (u + w) * g := by
  intro u
  induction u with
  | zero => intro w; rw [ct_e (Or.inl rfl)]; exact Nat.le_refl _
  | succ u ih =>
    intro w
    induction w with
    | zero => rw [ct_e (Or.inr rfl)]; exact Nat.le_refl _
    | succ w ih2 =>
      rw [ct_s]
      have h1 := ih (w + 1)
      have h2 : (u + (w + 1)) * g + g = (u + 1 + (w + 1)) * g := by rw [show u + 1 + (w + 1) = (u + (w + 1)) + 1 by omega, Nat.succ_mul]
      omega
theorem ct_b {D : Nat → Nat → Nat} {g A B u w : Nat} (h : u ≤ 8) (h2 : w ≤ 8) (hg : g ≤ 20) : ctR D g A B u w ≤ 320 := Nat.le_trans (ct_le u w) (Nat.le_trans (Nat.mul_le_mul (by omega : u + w ≤ 16) hg) (by decide))
def dI : Nat → Int32
  | 0 => -1
  | i + 1 => nI i
theorem dI_s {i : Nat} : nI i + (-1) = dI i := by
  cases i with
  | zero => decide
  | succ i =>
    show nI (i + 1) + (-1) = nI i
    rw [← Int32.sub_eq_add_neg, nI_pred]
theorem dI_n {i : Nat} (h : i < 2 ^ 31) : ¬ dI (i + 1) < 0 := nI_pos h
theorem dI_0 : dI 0 < 0 := by decide
theorem minI {a b : Nat} (ha : a < 2 ^ 31) (hb : b < 2 ^ 31) : (if nI a < nI b then nI a else nI b) = nI (min a b) := by
  split
  · rename_i q
    rw [nI_ltI ha hb] at q
    congr 1
    omega
  · rename_i q
    rw [nI_ltI ha hb] at q
    congr 1
    omega
/-- the table r is filled from (i, e) on -/
def Fl (D : Nat → Nat → Nat) (g A B r : Nat) (M : Mem) (i e : Nat) : Prop := ∀ i' j', i' ≤ A → j' ≤ B → (i < i' ∨ i' = i ∧ e ≤ j') → M r (9 * i' + j') = nI (ctR D g A B (A - i') (B - j'))
theorem Fl_set {D : Nat → Nat → Nat} {g A B r : Nat} {M : Mem} {i j : Nat} {v : Int32} (hB : B ≤ 8) (hj : j ≤ B) (h : Fl D g A B r M i (j + 1)) (hv : v = nI (ctR D g A B (A - i) (B - j))) : Fl D g A B r (mset M r (9 * i + j) v) i j := by
  intro i' j' h1 h2 h3
  by_cases w : i' = i ∧ j' = j
  · rw [w.1, w.2, mset_eq, hv]
  · rw [mset_ne (by omega)]
    exact h i' j' h1 h2 (by omega)
theorem e_least {Mx : Mem} {a b A B g : Nat} {fa fb : Nat → Nat} {Q : Int32 → Mem → Prop} (ha : 50 ≤ a ∧ a < 100) (hb : 50 ≤ b ∧ b < 100) (hA : Mx a 1 = nI A) (hB : Mx b 1 = nI B) (hA8 : A ≤ 8) (hB8 : B ≤ 8) (hg : Mx 13 2 = nI g) (hg20 : g ≤ 20) (hS : Sn (Mx 2) (Mx 3)) (sa : ∀ k, k < A → Mx (a + 50) k = nI (fa k) ∧ fa k < 16) (sb : ∀ k, k < B → Mx (b + 50) k = nI (fb k) ∧ fb k < 16)
    (hQ : ∀ M', (∀ r, r ≠ 14 → M' r = Mx r) → (∀ i j, i ≤ A → j ≤ B → M' 14 (9 * i + j) = nI (ctR (fun i j => dfF (Mx 2) (Mx 3) (fa i) (fb j)) g A B (A - i) (B - j))) → Q (nI (ctR (fun i j => dfF (Mx 2) (Mx 3) (fa i) (fb j)) g A B A B)) M') : wX6_leastCost a b Mx Q := by
  unfold wX6_leastCost
  obtain ⟨D, hD⟩ : ∃ D : Nat → Nat → Nat, D = fun i j => dfF (Mx 2) (Mx 3) (fa i) (fb j) := ⟨_, rfl⟩
  rw [← hD] at hQ
  refine ⟨ha, hb, A + 1 + 1, lq1_ind (fun d x M' => d ≤ A + 1 ∧ x = dI d ∧ (∀ r, r ≠ 14 → M' r = Mx r) ∧ ∀ i j, d ≤ i → i ≤ A → j ≤ B → M' 14 (9 * i + j) = nI (ctR D g A B (A - i) (B - j))) ?_ ?_ (A + 1) _ Mx ⟨Nat.le_refl _, hA, fun _ _ => rfl, fun i j h1 h2 => by omega⟩⟩
  · rintro R x M' ⟨-, rfl, h1, h2⟩
    refine ⟨fun _ => ⟨vp_in_nI (n := 0) (by decide) (by decide), ?_⟩, fun q => absurd dI_0 q⟩
    have := hQ M' h1 (fun i j g1 g2 => h2 i j (by omega) g1 g2)
    have h3 := h2 0 0 (by omega) (by omega) (by omega)
    rw [show Int32.toNatClampNeg 0 = 0 from rfl, show M' 14 0 = _ from h3]
    exact this
  · rintro i R x M' ⟨hi, rfl, h1, h2⟩ hR
    refine ⟨fun q => absurd q (dI_n (by omega)), fun _ => ?_⟩
    show ∃ n, lq1 _ n (M' b 1) M'
    refine ⟨B + 1 + 1, lq1_ind (fun d x M2 => d ≤ B + 1 ∧ x = dI d ∧ (∀ r, r ≠ 14 → M2 r = Mx r) ∧ Fl D g A B 14 M2 i d) ?_ ?_ (B + 1) _ M' ⟨Nat.le_refl _, by rw [h1 b (by omega), hB]; rfl, h1, fun i' j' w1 w2 w3 => h2 i' j' (by omega) w1 w2⟩⟩
    · rintro R2 x M2 ⟨-, rfl, h3, h4⟩
      refine ⟨fun _ => hR _ _ ⟨by omega, dI_s, h3, fun i' j' w1 w2 w3 => h4 i' j' w2 w3 (by omega)⟩, fun q => absurd dI_0 q⟩
    · rintro j R2 x M2 ⟨hj, rfl, h3, h4⟩ hR2
      refine ⟨fun q => absurd q (dI_n (by omega)), fun _ => ?_⟩
      have i1 : nI i * 9 + nI j = nI (9 * i + j) := by rw [show (9 : Int32) = nI 9 by decide, pk_mul, nI_add, Nat.mul_comm]
      have i2 : (nI i + 1) * 9 + nI j = nI (9 * (i + 1) + j) := by rw [nI_1, show (9 : Int32) = nI 9 by decide, pk_mul, nI_add, Nat.mul_comm]
      have cA : M2 a 1 = nI A := by rw [h3 a (by omega), hA]
      have cB : M2 b 1 = nI B := by rw [h3 b (by omega), hB]
      have cg : M2 13 2 = nI g := by rw [h3 13 (by decide), hg]
      have fin : ∀ v, v = nI (ctR D g A B (A - i) (B - j)) → R2 (nI j + (-1)) (mset M2 14 (9 * i + j) v) := fun v hv => hR2 _ _ ⟨by omega, dI_s, fun r hr => by rw [mset_row hr, h3 r hr], Fl_set hB8 (by omega) h4 hv⟩
      have i3 : nI (i + 1) * 9 + nI j = nI (9 * (i + 1) + j) := by rw [show (9 : Int32) = nI 9 by decide, pk_mul, nI_add, Nat.mul_comm]
      simp only [dI, jn0, jn1, jn2, jn3, i1, i3, cA, cB, cg, nI_1]
      have edge : (i = A ∨ j = B) → vp_in (nI (9 * i + j)) 81 ∧ ∀ N67, N67 = mset M2 14 (nI (9 * i + j)).toNatClampNeg ((nI A - nI i + nI B - nI j) * nI g) → R2 (nI j + (-1)) N67 := fun he => by
        refine ⟨vp_in_nI (by omega) (by decide), fun N hN => ?_⟩
        rw [hN, nI_clamp (by omega)]
        refine fin _ ?_
        rw [pk_sub (by omega), nI_add, pk_sub (by omega), pk_mul, ct_e (by omega)]
        congr 2
        omega
      refine ⟨fun q => ?_, fun q => ⟨fun q2 => ?_, fun q2 => ?_⟩⟩
      · exact edge (Or.inl ((nI_eq (by omega) (by omega)).mp q))
      · rw [nI_eq (by omega) (by omega)] at q q2
        have hu : A - i = (A - (i + 1)) + 1 := by omega
        have hw : B - j = (B - (j + 1)) + 1 := by omega
        have t01 := h4 i (j + 1) (by omega) (by omega) (by omega)
        have t10 := h4 (i + 1) j (by omega) (by omega) (by omega)
        have t11 := h4 (i + 1) (j + 1) (by omega) (by omega) (by omega)
        have e01 : 9 * i + j + 1 = 9 * i + (j + 1) := by omega
        have e11 : 9 * (i + 1) + j + 1 = 9 * (i + 1) + (j + 1) := by omega
        obtain ⟨va, va2⟩ := sa i (by omega)
        obtain ⟨vb, vb2⟩ := sb j (by omega)
        refine ⟨vp_in_nI (by omega) (by decide), vp_in_nI (by omega) (by decide), fun t ht => ?_⟩
        rw [nI_clamp (by omega), nI_clamp (by omega), e01, t01, t10, minI (by have := ct_b (D := D) (A := A) (B := B) (u := A - i) (w := B - (j + 1)) (by omega) (by omega) hg20; omega) (by have := ct_b (D := D) (A := A) (B := B) (u := A - (i + 1)) (w := B - j) (by omega) (by omega) hg20; omega), nI_add] at ht
        unfold wX6_costOfPair
        rw [nI_clamp (by omega), nI_clamp (by omega), h3 (a + 50) (by omega), h3 (b + 50) (by omega), va, vb]
        refine ⟨ha, hb, vp_in_nI (by omega) (by decide), vp_in_nI (by omega) (by decide), e_diff (by rw [h3 2 (by decide), h3 3 (by decide)]; exact hS) va2 vb2 ?_⟩
        rw [i2, nI_1, nI_clamp (n := 9 * i + j) (by omega), e11, nI_clamp (by omega), t11, nI_add, h3 2 (by decide), h3 3 (by decide)]
        refine ⟨vp_in_nI (by omega) (by decide), vp_in_nI (by omega) (by decide), fun N hN => ?_⟩
        rw [hN]
        refine fin _ ?_
        have b1 := ct_b (D := D) (A := A) (B := B) (u := A - i) (w := B - (j + 1)) (by omega) (by omega) hg20
        have b2 := ct_b (D := D) (A := A) (B := B) (u := A - (i + 1)) (w := B - j) (by omega) (by omega) hg20
        have b3 := ct_b (D := D) (A := A) (B := B) (u := A - (i + 1)) (w := B - (j + 1)) (by omega) (by omega) hg20
        have b4 := dfF_le (Y := Mx 2) (N := Mx 3) (x := fa i) (y := fb j)
        rw [ht, minI (by omega) (by omega)]
        congr 1
        have := ct_s (D := D) (g := g) (A := A) (B := B) (u := A - (i + 1)) (w := B - (j + 1))
        rw [← hu, ← hw, show A - (A - i) = i by omega, show B - (B - j) = j by omega] at this
        rw [this, hD]
      · exact edge (Or.inr ((nI_eq (by omega) (by omega)).mp q2))
