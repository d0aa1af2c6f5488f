/-! the cost between two places' forms of a meaning -/
theorem sdL_c {M : Mem} {p m : Nat} : ∀ F, sdL M F p m = -9 ∨ ∃ f, f < F ∧ sdL M F p m = nI f := by
  intro F
  induction F with
  | zero => exact Or.inl rfl
  | succ F ih =>
    rw [sdL]
    split
    · exact Or.inr ⟨F, by omega, rfl⟩
    · rcases ih with q | ⟨f, h1, h2⟩
      · exact Or.inl q
      · exact Or.inr ⟨f, by omega, h2⟩
def cstN (M : Mem) (f1 f2 : Nat) : Nat := ctR (fun i j => dfF (M 2) (M 3) ((M (100 + f1) i).toNatClampNeg % 16) ((M (100 + f2) j).toNatClampNeg % 16)) (M 13 2).toNatClampNeg (M (50 + f1) 1).toNatClampNeg (M (50 + f2) 1).toNatClampNeg (M (50 + f1) 1).toNatClampNeg (M (50 + f2) 1).toNatClampNeg
theorem I4.row2 {M : Mem} (h4 : I4 M) {f : Nat} (hf : f < cF M) : ∃ n, n ≤ 8 ∧ (M (50 + f) 1).toNatClampNeg = n ∧ M (50 + f) 1 = nI n ∧ M 207 f = nI n ∧ ∀ k, k < n → M (100 + f) k = nI ((M (100 + f) k).toNatClampNeg % 16) ∧ M 208 (8 * f + k) = nI ((M (100 + f) k).toNatClampNeg % 16) := by
  obtain ⟨-, -, -, n, h8, h1, h2, h3⟩ := h4 f hf
  refine ⟨n, h8, by rw [h1, nI_clamp (by omega)], h1, h2, fun k hk => ?_⟩
  obtain ⟨h5, s, hs, h6⟩ := h3 k hk
  rw [h5, h6, nI_clamp (by omega), Nat.mod_eq_of_lt hs]
  exact ⟨rfl, rfl⟩
theorem I0.gp {M : Mem} (h0 : I0 M) : ∃ g : Nat, g ≤ 20 ∧ (M 13 2).toNatClampNeg = g ∧ M 13 2 = nI g ∧ M 49 34 = nI g := by
  obtain ⟨-, -, -, ⟨w0, w1, w2⟩, -⟩ := h0
  obtain ⟨g, b1, b2⟩ := nI_of2 (x := M 13 2) (M := 20) (n := 20) (by decide) (Int32.not_lt.mpr (Int32.le_trans (by decide) w1)) w2
  exact ⟨g, b1, by rw [b2, nI_clamp (by omega)], b2, w0.trans b2⟩
/-- the class's cost of two forms -/
theorem e_cst {M Mx : Mem} (hI : Inv M) {f1 f2 : Nat} {Q : Int32 → Mem → Prop} (hf1 : f1 < cF M) (hf2 : f2 < cF M) (fr : ∀ r, r ≠ 14 → Mx r = M r) (hQ : ∀ M', (∀ r, r ≠ 14 → M' r = M r) → Q (nI (cstN M f1 f2)) M') : wX6_leastCost (50 + f1) (50 + f2) Mx Q := by
  have hF40 := hI.1.2.1.2.1
  obtain ⟨A, hA8, eA, hA, mA, sA⟩ := hI.2.2.2.2.1.row2 hf1
  obtain ⟨B, hB8, eB, hB, mB, sB'⟩ := hI.2.2.2.2.1.row2 hf2
  obtain ⟨g, hg1, eg, hg, mg⟩ := hI.1.gp
  unfold cstN at hQ
  rw [eA, eB, eg] at hQ
  refine e_least (fa := fun i => (M (100 + f1) i).toNatClampNeg % 16) (fb := fun j => (M (100 + f2) j).toNatClampNeg % 16) ⟨by omega, by omega⟩ ⟨by omega, by omega⟩ (by rw [fr _ (by omega)]; exact hA) (by rw [fr _ (by omega)]; exact hB) hA8 hB8 (by rw [fr _ (by decide)]; exact hg) hg1 (by rw [fr 2 (by decide), fr 3 (by decide)]; exact (Sn_I1 hI.2.1).1) (fun k hk => ⟨by rw [fr _ (by omega), show 50 + f1 + 50 = 100 + f1 by omega]; exact (sA k hk).1, Nat.mod_lt _ (by decide)⟩) (fun k hk => ⟨by rw [fr _ (by omega), show 50 + f2 + 50 = 100 + f2 by omega]; exact (sB' k hk).1, Nat.mod_lt _ (by decide)⟩) (fun M1 b1 _ => ?_)
  rw [fr 2 (by decide), fr 3 (by decide)]
  exact hQ M1 (fun r hr => by rw [b1 r hr, fr r hr])
/-- the reference's -/
theorem m_cst {M Mx : Mem} (hI : Inv M) {f1 f2 : Nat} {Q : Int32 → Mem → Prop} (hf1 : f1 < cF M) (hf2 : f2 < cF M) (fr : ∀ r, r ≠ 14 → r ≠ 225 → r ≠ 226 → r ≠ 227 → Mx r = M r) (hQ : ∀ M', (∀ r, r ≠ 14 → r ≠ 225 → r ≠ 226 → r ≠ 227 → M' r = M r) → Q (nI (cstN M f1 f2)) M') : wX11_costOf (nI f1) (nI f2) Mx Q := by
  have hF40 := hI.1.2.1.2.1
  obtain ⟨A, hA8, eA, hA, mA, sA⟩ := hI.2.2.2.2.1.row2 hf1
  obtain ⟨B, hB8, eB, hB, mB, sB'⟩ := hI.2.2.2.2.1.row2 hf2
  obtain ⟨g, hg1, eg, hg, mg⟩ := hI.1.gp
  have f' : ∀ r, 190 ≤ r → r < 225 → Mx r = M r := fun r w1 w2 => fr r (by omega) (by omega) (by omega) (by omega)
  unfold cstN at hQ
  rw [eA, eB, eg] at hQ
  exact m_costOf (fa := fun i => (M (100 + f1) i).toNatClampNeg % 16) (fb := fun j => (M (100 + f2) j).toNatClampNeg % 16) hI.2.1 (by omega) (by omega) (f' 195 (by decide) (by decide)) (f' 196 (by decide) (by decide)) (by rw [f' 207 (by decide) (by decide)]; exact mA) (by rw [f' 207 (by decide) (by decide)]; exact mB) hA8 hB8 (by rw [fr 49 (by decide) (by decide) (by decide) (by decide)]; exact mg) hg1 (fun _ => Nat.mod_lt _ (by decide)) (fun _ => Nat.mod_lt _ (by decide)) (fun k hk => by rw [f' 208 (by decide) (by decide)]; exact (sA k hk).2) (fun k hk => by rw [f' 208 (by decide) (by decide)]; exact (sB' k hk).2) (fun M2 g1 _ _ _ => hQ M2 (fun r w1 w2 w3 w4 => by rw [g1 r w2 w3 w4, fr r w1 w2 w3 w4]))
