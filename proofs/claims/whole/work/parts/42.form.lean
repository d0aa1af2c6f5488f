theorem e_become {r r2 n : Nat} {M : Mem} {Q : Mem → Prop} (hr : 50 ≤ r ∧ r < 100) (hr2 : 50 ≤ r2 ∧ r2 < 100) (hne : r ≠ r2) (hn : M r2 1 = nI n) (h8 : n ≤ 8) (hQ : ∀ M', (∀ a, a ≠ r → a ≠ r + 50 → M' a = M a) → M' r 1 = nI n → (∀ k, k < n → M' (r + 50) k = M (r2 + 50) k) → Q M') : wX7_become r r2 M Q := by
  unfold wX7_become
  refine ⟨hr, hr2, fun M5 e5 => ?_⟩
  subst e5
  rw [mset_eq, hn, show Int32.toNatClampNeg 0 = 0 from rfl, nI_clamp (by omega)]
  refine ⟨by decide, by decide, nI_pos (by omega), by omega, by omega, fun M2 e2 => ?_⟩
  subst e2
  refine hQ _ (fun a g1 g2 => by rw [mcpy_ne g2, mset_row g1]) (by rw [mcpy_ne (by omega), mset_eq]) (fun k hk => ?_)
  rw [mcpy_in hk, mset_row (by omega), Nat.zero_add]
theorem e_addForm {Mx : Mem} {F p m nn : Nat} {kind : Int32} {Q : Int32 → Mem → Prop} (h16 : Mx 0 16 = nI F) (hF40 : F ≤ 40) (hp : p < 8) (hm : m < 6) (hw : Mx 97 1 = nI nn) (hn : nn ≤ 8)
    (hQ1 : F = 40 → Q (-4) Mx)
    (hQ0 : F < 40 → ∀ M', (∀ a, a ≠ 0 → a ≠ 7 → a ≠ 50 + F → a ≠ 100 + F → a ≠ 150 + F → M' a = Mx a) → (∀ k, k ≠ 16 → M' 0 k = Mx 0 k) → M' 0 16 = nI (F + 1) → M' 7 (6 * p + m) = nI F → (∀ j, j ≠ 6 * p + m → M' 7 j = Mx 7 j) →
      M' (150 + F) 1 = kind → M' (150 + F) 2 = nI p → M' (150 + F) 3 = nI m → M' (50 + F) 1 = nI nn → (∀ k, k < nn → M' (100 + F) k = Mx 147 k) → Q (nI F) M') : wX10_addForm kind (nI p) (nI m) Mx Q := by
  unfold wX10_addForm
  rw [h16]
  refine ⟨fun q => ?_, fun q => hQ1 ?_⟩
  · have hF : F < 40 := by
      rcases Nat.lt_or_ge F 40 with z | z
      · exact z
      · exact absurd q (nI_nlt (b := 40) z (by omega))
    rw [nI_clamp (by omega)]
    refine ⟨vp_in_nI hF (by decide), ?_⟩
    unfold wX2_become
    simp only [forall_eq]
    refine ⟨⟨by omega, by omega⟩, ⟨by decide, by decide⟩, ?_⟩
    rw [fr150]
    refine e_become ⟨by omega, by omega⟩ ⟨by decide, by decide⟩ (by omega) (n := nn) (by rw [mset_row (by omega), mset_row (by omega), mset_row (by omega)]; exact hw) hn (fun M3 b1 b2 b3 => ?_)
    have e6 : nI p * 6 + nI m = nI (6 * p + m) := by rw [show (6 : Int32) = nI 6 by decide, pk_mul, nI_add, Nat.mul_comm]
    rw [e6, nI_clamp (by omega)]
    rw [fr50] at b1 b3
    have r1 : ∀ a, a ≠ 150 + F → a ≠ 50 + F → a ≠ 100 + F → M3 a = Mx a := fun a w1 w2 w3 => by rw [b1 a w2 w3, mset_row w1, mset_row w1, mset_row w1]
    refine ⟨vp_in_nI (by omega) (by decide), ?_⟩
    have c16 : mset M3 7 (6 * p + m) (nI F) 0 16 + 1 = nI (F + 1) := by rw [mset_row (by decide), r1 0 (by omega) (by omega) (by omega), h16, nI_1]
    rw [c16]
    refine hQ0 hF _ (fun a w0 w7 w1 w2 w3 => by rw [mset_row w0, mset_row w7, r1 a w3 w1 w2]) (fun k hk => by rw [mset_ne (by omega), mset_row (by decide), r1 0 (by omega) (by omega) (by omega)]) (by rw [mset_eq]) (by rw [mset_row (by decide), mset_eq]) (fun j hj => by rw [mset_row (by decide), mset_ne (by omega), r1 7 (by omega) (by omega) (by omega)]) ?_ ?_ ?_ ?_ (fun k hk => ?_)
    · rw [mset_row (by omega), mset_row (by omega), b1 _ (by omega) (by omega), mset_ne (by omega), mset_ne (by omega), mset_eq]
    · rw [mset_row (by omega), mset_row (by omega), b1 _ (by omega) (by omega), mset_ne (by omega), mset_eq]
    · rw [mset_row (by omega), mset_row (by omega), b1 _ (by omega) (by omega), mset_eq]
    · rw [mset_row (by omega), mset_row (by omega), b2]
    · rw [mset_row (by omega), mset_row (by omega), b3 k hk, mset_row (by omega), mset_row (by omega), mset_row (by omega)]
  · rcases Nat.lt_or_ge F 40 with z | z
    · exact absurd (nI_lt (b := 40) z (by decide)) q
    · omega
theorem m_comes {Mx : Mem} {F : Nat} {kind p m n : Int32} {Q : Int32 → Mem → Prop} (h13 : Mx 49 13 = nI F) (hF : F < 40) (hQ : Q (nI F) (mset (mset (mset (mset (mset Mx 204 F kind) 205 F p) 206 F m) 207 F n) 49 13 (nI (F + 1)))) : wX11_formComes kind p m n Mx Q := by
  unfold wX11_formComes
  simp only [forall_eq]
  have r1 : ∀ v, (mset Mx 204 F v) 49 13 = nI F := fun v => by rw [mset_row (by decide)]; exact h13
  have v1 : vp_in (nI F) 40 := vp_in_nI hF (by decide)
  have s1 : mset Mx 204 (Int32.toNatClampNeg (Mx 49 13)) kind = mset Mx 204 F kind := by rw [h13, nI_clamp (by omega)]
  simp only [s1]
  have s2 : mset (mset Mx 204 F kind) 205 (Int32.toNatClampNeg (mset Mx 204 F kind 49 13)) p = mset (mset Mx 204 F kind) 205 F p := by rw [r1, nI_clamp (by omega)]
  simp only [s2]
  have r2 : mset (mset Mx 204 F kind) 205 F p 49 13 = nI F := by rw [mset_row (by decide)]; exact r1 _
  have s3 : mset (mset (mset Mx 204 F kind) 205 F p) 206 (Int32.toNatClampNeg (mset (mset Mx 204 F kind) 205 F p 49 13)) m = mset (mset (mset Mx 204 F kind) 205 F p) 206 F m := by rw [r2, nI_clamp (by omega)]
  simp only [s3]
  have r3 : mset (mset (mset Mx 204 F kind) 205 F p) 206 F m 49 13 = nI F := by rw [mset_row (by decide)]; exact r2
  have s4 : mset (mset (mset (mset Mx 204 F kind) 205 F p) 206 F m) 207 (Int32.toNatClampNeg (mset (mset (mset Mx 204 F kind) 205 F p) 206 F m 49 13)) n = mset (mset (mset (mset Mx 204 F kind) 205 F p) 206 F m) 207 F n := by rw [r3, nI_clamp (by omega)]
  simp only [s4]
  have r4 : mset (mset (mset (mset Mx 204 F kind) 205 F p) 206 F m) 207 F n 49 13 = nI F := by rw [mset_row (by decide)]; exact r3
  rw [h13, r1, r2, r3, r4, nI_1, mset_eq, nI_pred]
  exact ⟨v1, v1, v1, v1, hQ⟩
theorem sdL_fr2 {M M' : Mem} {p m : Nat} : ∀ f, (∀ g, g < f → M' 205 g = M 205 g ∧ M' 206 g = M 206 g) → sdL M' f p m = sdL M f p m
  | 0, _ => rfl
  | f + 1, h => by rw [sdL, sdL, (h f (by omega)).1, (h f (by omega)).2, sdL_fr2 f (fun g hg => h g (by omega))]
theorem Inv.form' {M M' : Mem} (h : Inv M) {F p m nn : Nat} {kind : Int32} {f : Nat → Int32} (hF : cF M = F) (hF40 : F < 40) (hp : p < cP M) (hm : m < 6) (hk : vp_in kind 3) (hn : nn ≤ 8) (hf : ∀ k, k < nn → vp_in (f k) 16)
    (hR : ∀ i, i ∉ sB → i ≠ 7 → i ≠ 50 + F → i ≠ 100 + F → i ≠ 150 + F → ¬ (204 ≤ i ∧ i < 209) → M' i = M i) (e0 : ∀ k, k ∈ [15, 17, 18] → M' 0 k = M 0 k) (e16 : M' 0 16 = nI (F + 1)) (e49 : ∀ k, k ∈ [1, 11, 22, 34, 44] → M' 49 k = M 49 k) (e13 : M' 49 13 = nI (F + 1)) (ef : M' 49 0 = M' 0 19)
    (s1 : M' 7 (6 * p + m) = nI F) (s2 : ∀ j, j ≠ 6 * p + m → M' 7 j = M 7 j) (x1 : M' (150 + F) 1 = kind) (x2 : M' (150 + F) 2 = nI p) (x3 : M' (150 + F) 3 = nI m) (x4 : M' (50 + F) 1 = nI nn) (x5 : ∀ k, k < nn → M' (100 + F) k = f k)
    (m1 : M' 204 F = kind) (m2 : M' 205 F = nI p) (m3 : M' 206 F = nI m) (m4 : M' 207 F = nI nn) (m5 : ∀ k, k < nn → M' 208 (8 * F + k) = f k) (m6 : ∀ g, g < F → M' 204 g = M 204 g ∧ M' 205 g = M 205 g ∧ M' 206 g = M 206 g ∧ M' 207 g = M 207 g) (m7 : ∀ j, j < 8 * F → M' 208 j = M 208 j) : Inv M' := by
  have h0 := h.1
  have eP : cP M' = cP M := by unfold cP; rw [e0 15 (by decide)]
  have eF : cF M' = F + 1 := by unfold cF; rw [e16, nI_clamp (by omega)]
  have sc : ∀ i, 13 ≤ i → i < 15 → True := fun _ _ _ => trivial
  have h9 : M' 9 = M 9 := hR 9 (by decide) (by decide) (by omega) (by omega) (by omega) (by omega)
  have h13 : M' 13 = M 13 := hR 13 (by decide) (by decide) (by omega) (by omega) (by omega) (by omega)
  have eL : cL M' = cL M := by unfold cL; rw [h9]
  have c8 := h0.1.2.1
  have kr : 0 ≤ kind ∧ kind ≤ 2 := by
    rw [vp_in_iff] at hk
    rw [Int32.le_iff_toInt_le, Int32.le_iff_toInt_le, show (2 : Int32).toInt = 2 from rfl, show (0 : Int32).toInt = 0 from rfl]
    omega
  refine h.step (fun i => decide (i ∈ sB) || decide (i = 7) || (decide (50 ≤ i) && decide (i < 90)) || (decide (100 ≤ i) && decide (i < 140)) || (decide (150 ≤ i) && decide (i < 190)) || (decide (204 ≤ i) && decide (i < 209))) (fun i hi => ?_) ?_ (by omega) (Or.inr (by decide +kernel)) (Or.inr (by decide +kernel)) (Or.inr (by decide +kernel)) (Or.inl ?_) (Or.inl ?_) (Or.inr ⟨e0 17 (by decide), by decide +kernel⟩) (Or.inr ⟨eL, fun l hl => ?_, by decide +kernel⟩) (Or.inr (by decide +kernel))
  · simp at hi
    exact hR i hi.1.1.1.1.1 (by omega) (by omega) (by omega) (by omega) (by omega)
  · refine ⟨⟨by rw [eP, e0 15 (by decide)]; exact h0.1.1, by omega, by rw [e49 11 (by decide), e0 15 (by decide)]; exact h0.1.2.2⟩, ⟨by rw [eF, e16], by omega, by rw [e13, e16]⟩, ⟨by rw [eL, h9]; exact h0.2.2.1.1, by rw [eL]; exact h0.2.2.1.2.1, by rw [e49 22 (by decide), h9]; exact h0.2.2.1.2.2⟩, ?_, ?_, ?_, ef⟩
    · rw [e49 34 (by decide), h13]; exact h0.2.2.2.1
    · rw [e49 44 (by decide), h13]; exact h0.2.2.2.2.1
    · rw [e49 1 (by decide), e0 18 (by decide)]; exact h0.2.2.2.2.2.1
  · intro g hg
    rw [eF] at hg
    by_cases hgF : g = F
    · subst hgF
      refine ⟨⟨by rw [m1, x1], by rw [x1]; exact kr.1, by rw [x1]; exact kr.2⟩, ⟨p, by omega, x2, m2⟩, ⟨m, hm, x3, m3⟩, nn, hn, x4, m4, fun k hk => ⟨by rw [m5 k hk, x5 k hk], ?_⟩⟩
      obtain ⟨z, hz, ez, -⟩ := vp_nI (hf k hk) (by decide)
      exact ⟨z, hz, by rw [x5 k hk]; exact ez⟩
    · have hgl : g < F := by omega
      have q : ∀ g, g < 40 → 50 + g ∉ sB ∧ 100 + g ∉ sB ∧ 150 + g ∉ sB := by decide
      obtain ⟨q1, q2, q3⟩ := q g (by omega)
      obtain ⟨w1, w2, w3, w4⟩ := m6 g hgl
      rw [w1, w2, w3, w4, hR (50 + g) q1 (by omega) (by omega) (by omega) (by omega) (by omega), hR (100 + g) q2 (by omega) (by omega) (by omega) (by omega) (by omega), hR (150 + g) q3 (by omega) (by omega) (by omega) (by omega) (by omega), eP]
      obtain ⟨b1, b2, b3, n2, b4, b5, b6, b7⟩ := h.2.2.2.2.1 g (by omega)
      exact ⟨b1, b2, b3, n2, b4, b5, b6, fun k hk => by rw [m7 _ (by omega)]; exact b7 k hk⟩
  · intro p' hp' m' hm'
    rw [eF, sdL, m2, m3]
    have e1 : sdL M' F p' m' = sdL M F p' m' := sdL_fr2 F (fun g hg => ⟨(m6 g hg).2.1, (m6 g hg).2.2.1⟩)
    rw [e1]
    by_cases hc : p' = p ∧ m' = m
    · obtain ⟨rfl, rfl⟩ := hc
      rw [if_pos ⟨rfl, rfl⟩, s1]
    · rw [if_neg (by rw [nI_eq (by omega) (by omega), nI_eq (by omega) (by omega)]; omega), s2 _ (by omega), ← hF]
      exact h.2.2.2.2.2.1 p' hp' m' hm'
  · have := h.1.2.2.1.2.1
    have q : ∀ l, l < 8 → 32 + l ∉ sB := by decide
    exact hR _ (q l (by omega)) (by omega) (by omega) (by omega) (by omega) (by omega)
