/-- how many of the six features speak of a number -/
def b6 (z : Nat) : Nat := (z.testBit 0).toNat + (z.testBit 1).toNat + (z.testBit 2).toNat + (z.testBit 3).toNat + (z.testBit 4).toNat + (z.testBit 5).toNat
theorem e_bc64 {z : Nat} {M : Mem} {Q : Int32 → Mem → Prop} (hz : z < 64) (hQ : Q (nI (b6 z)) M) : wJ6_bitCount_0f7a4 (nI z) M Q := by
  have h : ∀ z, z < 64 → wJ6_bitCount_0f7a4 (nI z) (fun _ _ => 0) (fun r _ => r = nI (b6 z)) := by
    simp only [wJ6_bitCount_0f7a4, forall_eq]
    decide +kernel
  have h1 := h z hz
  simp only [wJ6_bitCount_0f7a4, forall_eq] at h1 ⊢
  rw [h1]
  exact hQ
theorem and64 : ∀ a, a < 64 → ∀ b, b < 64 → nI a &&& nI b = nI (a &&& b) := by decide +kernel
theorem or64 : ∀ a, a < 64 → ∀ b, b < 64 → nI a ||| nI b = nI (a ||| b) := by decide +kernel
theorem xor64 : ∀ a, a < 64 → ∀ b, b < 64 → nI a ^^^ nI b = nI (a ^^^ b) := by decide +kernel
theorem lt64a {a b : Nat} (h : a < 64) : a &&& b < 64 := Nat.lt_of_le_of_lt Nat.and_le_left h
theorem lt64o {a b : Nat} (h : a < 64) (h2 : b < 64) : a ||| b < 64 := Nat.or_lt_two_pow (n := 6) h h2
theorem lt64x {a b : Nat} (h : a < 64) (h2 : b < 64) : a ^^^ b < 64 := Nat.xor_lt_two_pow (n := 6) h h2
/-- what a feature adds: told of both 0 or 2, of one 1 -/
def df1 (y1 n1 y2 n2 : Bool) : Nat := if (y1 || n1) && (y2 || n2) then (if y1 = y2 then 0 else 2) else if (y1 || n1) || (y2 || n2) then 1 else 0
def df6 (y1 n1 y2 n2 : Nat) : Nat → Nat
  | 0 => 0
  | f + 1 => df6 y1 n1 y2 n2 f + df1 (y1.testBit f) (n1.testBit f) (y2.testBit f) (n2.testBit f)
def Sn (Y N : Nat → Int32) : Prop := ∀ k, k < 16 → ∃ y n : Nat, y < 64 ∧ n < 64 ∧ Y k = nI y ∧ N k = nI n ∧ y &&& n = 0
def dfF (Y N : Nat → Int32) (x y : Nat) : Nat := df6 (Y x).toNatClampNeg (N x).toNatClampNeg (Y y).toNatClampNeg (N y).toNatClampNeg 6
theorem Sn_I1 {M : Mem} (h : I1 M) : Sn (M 2) (M 3) ∧ Sn (M 195) (M 196) := by
  have key : Sn (M 2) (M 3) := fun k hk => by
    obtain ⟨-, -, ⟨h1, h2⟩, ⟨h3, h4⟩, h5⟩ := h k hk
    obtain ⟨y, hy, ey⟩ := nI_of2 (x := M 2 k) (M := 63) (n := 63) (by decide) (Int32.not_lt.mpr h1) h2
    obtain ⟨n, hn, en⟩ := nI_of2 (x := M 3 k) (M := 63) (n := 63) (by decide) (Int32.not_lt.mpr h3) h4
    refine ⟨y, n, by omega, by omega, ey, en, ?_⟩
    rw [ey, en, and64 y (by omega) n (by omega), show (0 : Int32) = nI 0 by decide, nI_eq (by have := lt64a (b := n) (show y < 64 by omega); omega) (by decide)] at h5
    exact h5
  refine ⟨key, fun k hk => ?_⟩
  obtain ⟨y, n, h1, h2, h3, h4, h5⟩ := key k hk
  exact ⟨y, n, h1, h2, (h k hk).1.trans h3, (h k hk).2.1.trans h4, h5⟩
theorem df1_eq : ∀ y1 n1 y2 n2 : Bool, (y1 && n1) = false → (y2 && n2) = false → 2 * ((y1 && n2) || (n1 && y2)).toNat + ((y1 || n1) ^^ (y2 || n2)).toNat = df1 y1 n1 y2 n2 := by decide
theorem b6_df {y1 n1 y2 n2 : Nat} (h1 : y1 &&& n1 = 0) (h2 : y2 &&& n2 = 0) : 2 * b6 ((y1 &&& n2) ||| (n1 &&& y2)) + b6 ((y1 ||| n1) ^^^ (y2 ||| n2)) = df6 y1 n1 y2 n2 6 := by
  have e1 : ∀ f, (y1.testBit f && n1.testBit f) = false := fun f => by rw [← Nat.testBit_and, h1, Nat.zero_testBit]
  have e2 : ∀ f, (y2.testBit f && n2.testBit f) = false := fun f => by rw [← Nat.testBit_and, h2, Nat.zero_testBit]
  have k := fun f => df1_eq (y1.testBit f) (n1.testBit f) (y2.testBit f) (n2.testBit f) (e1 f) (e2 f)
  simp only [b6, df6, Nat.testBit_and, Nat.testBit_or, Nat.testBit_xor, ← k]
  omega
theorem e_diff {x y : Nat} {M : Mem} {Q : Int32 → Mem → Prop} (hS : Sn (M 2) (M 3)) (hx : x < 16) (hy : y < 16) (hQ : Q (nI (dfF (M 2) (M 3) x y)) M) : wX9_difference (nI x) (nI y) M Q := by
  obtain ⟨y1, n1, a1, a2, a3, a4, a5⟩ := hS x hx
  obtain ⟨y2, n2, b1, b2, b3, b4, b5⟩ := hS y hy
  simp only [wX9_difference, forall_eq]
  rw [nI_clamp (by omega), nI_clamp (by omega), a3, a4, b3, b4, and64 y1 a1 n2 b2, and64 n1 a2 y2 b1, or64 _ (lt64a a1) _ (lt64a a2), or64 y1 a1 n1 a2, or64 y2 b1 n2 b2, xor64 _ (lt64o a1 a2) _ (lt64o b1 b2)]
  refine ⟨vp_in_nI hx (by decide), vp_in_nI hy (by decide), e_bc64 (lt64o (lt64a a1) (lt64a a2)) (e_bc64 (lt64x (lt64o a1 a2) (lt64o b1 b2)) ?_)⟩
  rw [show (2 : Int32) = nI 2 by decide, pk_mul, nI_add, b6_df a5 b5]
  unfold dfF at hQ
  rw [a3, a4, b3, b4, nI_clamp (by omega), nI_clamp (by omega), nI_clamp (by omega), nI_clamp (by omega)] at hQ
  exact hQ
theorem m_diff {x y : Nat} {M : Mem} {Q : Int32 → Mem → Prop} (hS : Sn (M 195) (M 196)) (hx : x < 16) (hy : y < 16) (hQ : Q (nI (dfF (M 195) (M 196) x y)) M) : wX11_differOf (nI x) (nI y) M Q := by
  obtain ⟨y1, n1, a1, a2, a3, a4, a5⟩ := hS x hx
  obtain ⟨y2, n2, b1, b2, b3, b4, b5⟩ := hS y hy
  unfold dfF at hQ
  rw [a3, a4, b3, b4, nI_clamp (by omega), nI_clamp (by omega), nI_clamp (by omega), nI_clamp (by omega)] at hQ
  have o1 := lt64o a1 a2
  have o2 := lt64o b1 b2
  unfold wX11_differOf
  refine ⟨7, lq2_ind (fun d s f M' => M' = M ∧ d ≤ 6 ∧ f = nI (6 - d) ∧ s = nI (df6 y1 n1 y2 n2 (6 - d))) ?_ ?_ 6 0 0 M ⟨rfl, Nat.le_refl _, rfl, rfl⟩⟩
  · rintro R s f M' ⟨rfl, -, rfl, rfl⟩
    exact ⟨fun _ => hQ, fun q => absurd (by decide) q⟩
  · rintro d R s f M' ⟨rfl, hd, rfl, rfl⟩ hR
    have e : 6 - d = 6 - (d + 1) + 1 := by omega
    obtain ⟨f, hf⟩ : ∃ f, f = 6 - (d + 1) := ⟨_, rfl⟩
    rw [← hf] at e ⊢
    have hf6 : f < 6 := by omega
    have step : ∀ v : Nat, v = df1 (y1.testBit f) (n1.testBit f) (y2.testBit f) (n2.testBit f) → R (nI (df6 y1 n1 y2 n2 f) + nI v) (nI f + 1) M' := fun v hv => hR _ _ _ ⟨rfl, by omega, by rw [e, nI_1], by rw [nI_add, e, hv]; rfl⟩
    have t1 : hb (nI y1 ||| nI n1) (nI f) = ((y1.testBit f || n1.testBit f) = true) := by rw [or64 _ a1 _ a2, hb_nI (by omega) (by omega), Nat.testBit_or]
    have t2 : hb (nI y2 ||| nI n2) (nI f) = ((y2.testBit f || n2.testBit f) = true) := by rw [or64 _ b1 _ b2, hb_nI (by omega) (by omega), Nat.testBit_or]
    have t3 : hb (nI y1) (nI f) = (y1.testBit f = true) := hb_nI (by omega) (by omega)
    have t4 : hb (nI y2) (nI f) = (y2.testBit f = true) := hb_nI (by omega) (by omega)
    refine ⟨fun q => absurd q (nI_ge (b := 6) hf6 (by decide)), fun _ => ?_⟩
    simp only [nI_clamp (show x < 2 ^ 31 by omega), nI_clamp (show y < 2 ^ 31 by omega), e_has, a3, a4, b3, b4, t1, t2, t3, t4, i10, i01, bI_0, bI_1, isB_bI, Classical.not_not, not_false_eq_true, not_true_eq_false, true_implies, false_implies, and_true, true_and, and_self, forall_eq, ne_eq, jn0, jn1, jn2, jn3]
    refine ⟨vp_in_nI hx (by decide), vp_in_nI hy (by decide), ?_⟩
    have s0 := step 0
    have s1 := step 1
    have s2 := step 2
    rw [show nI 0 = 0 by decide] at s0
    rw [show nI 1 = 1 by decide] at s1
    rw [show nI 2 = 2 by decide] at s2
    generalize y1.testBit f = z1 at *
    generalize n1.testBit f = z2 at *
    generalize y2.testBit f = z3 at *
    generalize n2.testBit f = z4 at *
    clear t1 t2 t3 t4 step hQ
    revert s0 s1 s2
    cases z1 <;> cases z2 <;> cases z3 <;> cases z4 <;> simp [df1, bI_t, bI_f, bI_0, bI_1]
theorem st_differ {M : Mem} (hI : Inv M) (a1 a2 : Int32) : wX10_differ a1 a2 M (fun r M1 => wX11_differ a1 a2 M1 (fun r' M2 => r = r' ∧ Inv M2)) := by
  by_cases h1 : vp_in a1 16
  · by_cases h2 : vp_in a2 16
    · obtain ⟨x, hx, ex, -⟩ := vp_nI h1 (by decide)
      obtain ⟨y, hy, ey, -⟩ := vp_nI h2 (by decide)
      obtain ⟨s1, s2⟩ := Sn_I1 hI.2.1
      simp only [wX10_differ, wX11_differ, e_b16, e_b6, e_b4, e_b3, e_w2, e_isMeaning, e_isIn, e_m15, e_m5, e_m3, e_m2, e_m63, m_isMeaning, m_isSound, m_isSheet, m_isLane, m_isCollector, e_has, bI_t h1, bI_t h2, i10, i01, bI_0, bI_1, isB_bI, Classical.not_not, not_false_eq_true, not_true_eq_false, true_implies, false_implies, and_true, true_and, and_self, forall_eq, ne_eq]
      rw [ex, ey]
      refine e_diff s1 hx hy (m_diff s2 hx hy ⟨?_, hI⟩)
      congr 1
      unfold dfF
      rw [(hI.2.1 x hx).1, (hI.2.1 x hx).2.1, (hI.2.1 y hy).1, (hI.2.1 y hy).2.1]
    · simp only [wX10_differ, wX11_differ, e_b16, e_b6, e_b4, e_b3, e_w2, e_isMeaning, e_isIn, e_m15, e_m5, e_m3, e_m2, e_m63, m_isMeaning, m_isSound, m_isSheet, m_isLane, m_isCollector, e_has, bI_t h1, bI_f h2, i10, i01, bI_0, bI_1, isB_bI, Classical.not_not, not_false_eq_true, not_true_eq_false, true_implies, false_implies, and_true, true_and, and_self, forall_eq, ne_eq]
      exact hI
  · simp only [wX10_differ, wX11_differ, e_b16, e_b6, e_b4, e_b3, e_w2, e_isMeaning, e_isIn, e_m15, e_m5, e_m3, e_m2, e_m63, m_isMeaning, m_isSound, m_isSheet, m_isLane, m_isCollector, e_has, bI_f h1, i10, i01, bI_0, bI_1, isB_bI, Classical.not_not, not_false_eq_true, not_true_eq_false, true_implies, false_implies, and_true, true_and, and_self, forall_eq, ne_eq]
    exact hI
