/-- both places say the meaning, and their forms lie further apart than the limit -/
def sd2 (M : Mem) (p q m : Nat) : Prop := ∃ f1 f2, f1 < cF M ∧ f2 < cF M ∧ sdL M (cF M) p m = nI f1 ∧ sdL M (cF M) q m = nI f2
def mo (M : Mem) (p q m : Nat) : Prop := ∃ f1 f2, f1 < cF M ∧ f2 < cF M ∧ sdL M (cF M) p m = nI f1 ∧ sdL M (cF M) q m = nI f2 ∧ M 13 3 < nI (cstN M f1 f2)
theorem n9v {n : Nat} : ¬ vp_in (-9) n := fun h => h (Or.inl (by decide))
theorem e_between {M Mx : Mem} (hI : Inv M) {p q m : Nat} {Q : Int32 → Mem → Prop} (hp : p < 8) (hq : q < 8) (hm : m < 6) (fr : ∀ r, r ≠ 14 → Mx r = M r) (hQ : ∀ M' v, (∀ r, r ≠ 14 → M' r = M r) → (M 13 3 < v ↔ mo M p q m) → Q v M') : wX10_costBetween (nI p) (nI q) (nI m) Mx Q := by
  have hF40 := hI.1.2.1.2.1
  have h5 := hI.2.2.2.2.2.1
  have i1 : nI p * 6 + nI m = nI (6 * p + m) := by rw [show (6 : Int32) = nI 6 by decide, pk_mul, nI_add, Nat.mul_comm]
  have i2 : nI q * 6 + nI m = nI (6 * q + m) := by rw [show (6 : Int32) = nI 6 by decide, pk_mul, nI_add, Nat.mul_comm]
  have lim : ¬ M 13 3 < -9 := Int32.not_lt.mpr (Int32.le_trans (by decide) hI.1.2.2.2.2.1.2.1)
  have c16 : Mx 0 16 = nI (cF M) := by rw [fr 0 (by decide)]; exact hI.1.2.1.1
  unfold wX10_costBetween
  rw [i1, i2, nI_clamp (by omega), nI_clamp (by omega), fr 7 (by decide), h5 p hp m hm, h5 q hq m hm, e_isFormN c16 (by omega)]
  refine ⟨vp_in_nI (by omega) (by decide), vp_in_nI (by omega) (by decide), ?_⟩
  rcases sdL_c (M := M) (p := p) (m := m) (cF M) with w1 | ⟨f1, l1, w1⟩
  · rw [w1, bI_f n9v]
    refine ⟨fun _ => hQ Mx (-9) fr ⟨fun z => absurd z lim, fun ⟨f1, f2, z1, z2, z3, _⟩ => ?_⟩, fun z => absurd rfl z⟩
    rw [w1] at z3
    exact absurd z3.symm (n9 (by omega))
  · rw [w1, bI_t (vp_in_nI l1 (by omega)), e_isFormN c16 (by omega)]
    refine ⟨fun z => absurd z (by decide), fun _ => ?_⟩
    rcases sdL_c (M := M) (p := q) (m := m) (cF M) with w2 | ⟨f2, l2, w2⟩
    · rw [w2, bI_f n9v]
      refine ⟨fun _ => hQ Mx (-9) fr ⟨fun z => absurd z lim, fun ⟨f1, f2, z1, z2, z3, z4, _⟩ => ?_⟩, fun z => absurd rfl z⟩
      rw [w2] at z4
      exact absurd z4.symm (n9 (by omega))
    · rw [w2, bI_t (vp_in_nI l2 (by omega)), nI_clamp (by omega), nI_clamp (by omega), show 150 + f1 - 100 = 50 + f1 by omega, show 150 + f2 - 100 = 50 + f2 by omega]
      refine ⟨fun z => absurd z (by decide), fun _ => ⟨vp_in_nI (by omega) (by decide), vp_in_nI (by omega) (by decide), e_cst hI l1 l2 fr (fun M' b => hQ M' _ b ⟨fun z => ⟨f1, f2, l1, l2, w1, w2, z⟩, fun ⟨g1, g2, z1, z2, z3, z4, z5⟩ => ?_⟩)⟩⟩
      rw [w1, nI_eq (by omega) (by omega)] at z3
      rw [w2, nI_eq (by omega) (by omega)] at z4
      rw [z3, z4]
      exact z5
theorem m_areSaid {M Mx : Mem} (hI : Inv M) {p q m : Nat} {Q : Int32 → Mem → Prop} (fr : ∀ r, r ≠ 14 → r ≠ 225 → r ≠ 226 → r ≠ 227 → Mx r = M r) (hQ : Q (bI (sd2 M p q m)) Mx) : wX11_areSaid (nI m) (nI p) (nI q) Mx Q := by
  have hF40 := hI.1.2.1.2.1
  have c13 : Mx 49 13 = nI (cF M) := by rw [fr 49 (by decide) (by decide) (by decide) (by decide)]; exact hI.1.2.1.2.2.trans hI.1.2.1.1
  have sf : ∀ p, sdL Mx (cF M) p m = sdL M (cF M) p m := fun p => sdL_fr (fr 205 (by decide) (by decide) (by decide) (by decide)) (fr 206 (by decide) (by decide) (by decide) (by decide)) _ p m
  unfold wX11_areSaid
  refine m_saidAt c13 hF40 ?_
  rw [sf]
  rcases sdL_c (M := M) (p := p) (m := m) (cF M) with w1 | ⟨f1, l1, w1⟩
  · rw [bI_f (fun ⟨f1, f2, z1, z2, z3, _⟩ => by rw [w1] at z3; exact absurd z3.symm (n9 (by omega)))] at hQ
    rw [w1]
    exact ⟨fun _ => hQ, fun z => absurd rfl z⟩
  · rw [w1]
    refine ⟨fun z => absurd z (n9 (by omega)), fun _ => m_saidAt c13 hF40 ?_⟩
    rw [sf]
    rcases sdL_c (M := M) (p := q) (m := m) (cF M) with w2 | ⟨f2, l2, w2⟩
    · rw [bI_f (fun ⟨f1, f2, z1, z2, z3, z4⟩ => by rw [w2] at z4; exact absurd z4.symm (n9 (by omega)))] at hQ
      rw [w2]
      exact ⟨fun _ => hQ, fun z => absurd rfl z⟩
    · rw [bI_t ⟨f1, f2, l1, l2, w1, w2⟩] at hQ
      rw [w2]
      exact ⟨fun z => absurd z (n9 (by omega)), fun _ => hQ⟩
theorem m_areLike {M Mx : Mem} (hI : Inv M) {p q m : Nat} {Q : Int32 → Mem → Prop} (fr : ∀ r, r ≠ 14 → r ≠ 225 → r ≠ 226 → r ≠ 227 → Mx r = M r) (hQ : ∀ M', (∀ r, r ≠ 14 → r ≠ 225 → r ≠ 226 → r ≠ 227 → M' r = M r) → Q (bI (sd2 M p q m ∧ ¬ mo M p q m)) M') : wX11_areLike (nI m) (nI p) (nI q) Mx Q := by
  have hF40 := hI.1.2.1.2.1
  have c13 : Mx 49 13 = nI (cF M) := by rw [fr 49 (by decide) (by decide) (by decide) (by decide)]; exact hI.1.2.1.2.2.trans hI.1.2.1.1
  have sf : ∀ p, sdL Mx (cF M) p m = sdL M (cF M) p m := fun p => sdL_fr (fr 205 (by decide) (by decide) (by decide) (by decide)) (fr 206 (by decide) (by decide) (by decide) (by decide)) _ p m
  unfold wX11_areLike
  refine m_areSaid hI fr ?_
  by_cases hs : sd2 M p q m
  · rw [bI_t hs]
    refine ⟨fun z => absurd z (by decide), fun _ => m_saidAt (p := p) (m := m) c13 hF40 (m_saidAt (p := q) (m := m) c13 hF40 ?_)⟩
    obtain ⟨f1, f2, l1, l2, w1, w2⟩ := hs
    rw [sf, sf, w1, w2]
    refine m_cst hI l1 l2 fr (fun M' b => ?_)
    have e44 : M' 49 44 = M 13 3 := by rw [b 49 (by decide) (by decide) (by decide) (by decide)]; exact hI.1.2.2.2.2.1.1
    have h := hQ M' b
    rw [e44]
    refine ⟨fun z => ?_, fun z => ?_⟩
    · rw [bI_f (fun y => y.2 ⟨f1, f2, l1, l2, w1, w2, z⟩)] at h
      exact h
    · have nm : ¬ mo M p q m := fun ⟨g1, g2, z1, z2, z3, z4, z5⟩ => z (by
        rw [w1, nI_eq (by omega) (by omega)] at z3
        rw [w2, nI_eq (by omega) (by omega)] at z4
        rw [z3, z4]
        exact z5)
      rw [bI_t ⟨⟨f1, f2, l1, l2, w1, w2⟩, nm⟩] at h
      exact h
  · rw [bI_f hs]
    have h := hQ Mx fr
    rw [bI_f (fun y => hs y.1)] at h
    exact ⟨fun _ => h, fun z => absurd rfl z⟩
