/-! what a root's derived forms cost -/
theorem gd_all {A : List Nat} (h : okL A) (i : Nat) : A.getD i 0 < 16 := by
  rcases Nat.lt_or_ge i A.length with q | q
  · exact h.2 i q
  · rw [List.getD_eq_getElem?_getD, List.getElem?_eq_none q]; decide
def cstL (M : Mem) (A B : List Nat) : Nat := ctR (fun i j => dfF (M 2) (M 3) (A.getD i 0) (B.getD j 0)) (M 13 2).toNatClampNeg A.length B.length A.length B.length
theorem cstL_le {M : Mem} (hI : Inv M) {A B : List Nat} (hA : okL A) (hB : okL B) : cstL M A B ≤ 320 := by
  obtain ⟨g, hg1, eg, -⟩ := hI.1.gp
  unfold cstL
  rw [eg]
  exact ct_b hA.1 hB.1 hg1
theorem e_cstL {M Mx : Mem} (hI : Inv M) {f : Nat} {A : List Nat} {Q : Int32 → Mem → Prop} (hf : f < cF M) (hA : rwX Mx 97 A) (ok : okL A) (fq : Fq M Mx) (hQ : ∀ M', Fq M M' → (∀ r, r ≠ 14 → M' r = Mx r) → Q (nI (cstL M A (rowL M (50 + f)))) M') : wX6_leastCost 97 (50 + f) Mx Q := by
  have hF40 := hI.1.2.1.2.1
  obtain ⟨okF, rF, -⟩ := hI.2.2.2.2.1.rl hf
  obtain ⟨g, hg1, eg, hg, -⟩ := hI.1.gp
  have rF' := rw_fr (by omega) rF fq
  refine e_least (g := g) (fa := fun k => A.getD k 0) (fb := fun k => (rowL M (50 + f)).getD k 0) (by decide) ⟨by omega, by omega⟩ hA.1 rF'.1 ok.1 okF.1 (by rw [fq.1 13 (by decide)]; exact hg) hg1 (by rw [fq.1 2 (by decide), fq.1 3 (by decide)]; exact (Sn_I1 hI.2.1).1) (fun k hk => ⟨hA.2 k hk, ok.2 k hk⟩) (fun k hk => ⟨rF'.2 k hk, okF.2 k hk⟩) (fun M1 b1 _ => ?_)
  have := hQ M1 (fq.b1 (i := 14) (by decide) b1) b1
  unfold cstL at this
  rw [eg] at this
  rw [fq.1 2 (by decide), fq.1 3 (by decide)]
  exact this
theorem m_costFrom {M Mx : Mem} (hI : Inv M) {f : Nat} {A : List Nat} {Q : Int32 → Mem → Prop} (hf : f < cF M) (hA : rwM Mx A) (ok : okL A) (fq : Fq M Mx) (hQ : ∀ M', Fq M M' → (∀ r, r ≠ 225 → r ≠ 226 → r ≠ 227 → M' r = Mx r) → Q (nI (cstL M A (rowL M (50 + f)))) M') : wX11_costFrom (nI f) Mx Q := by
  have hF40 := hI.1.2.1.2.1
  obtain ⟨okF, -, e207, e208⟩ := hI.2.2.2.2.1.rl hf
  obtain ⟨g, hg1, eg, -, mg⟩ := hI.1.gp
  obtain ⟨B, hB⟩ : ∃ B, B = rowL M (50 + f) := ⟨_, rfl⟩
  rw [← hB] at okF e207 e208 hQ
  have c207 : Mx 207 f = nI B.length := by rw [fq.1 207 (by decide)]; exact e207
  have c208 : ∀ k, k < B.length → Mx 208 (8 * f + k) = nI (B.getD k 0) := fun k hk => by rw [fq.1 208 (by decide)]; exact e208 k hk
  have a8 := ok.1
  have b8 := okF.1
  unfold wX11_costFrom
  refine ⟨A.length + 1, lq1_ind (fun d x M' => d ≤ A.length ∧ x = nI (A.length - d) ∧ (∀ r, r ≠ 226 → M' r = Mx r) ∧ ∀ k, k < A.length - d → M' 226 k = nI (A.getD k 0)) ?_ ?_ A.length 0 Mx ⟨Nat.le_refl _, by rw [Nat.sub_self, nI_0], fun _ _ => rfl, fun k hk => by omega⟩⟩
  · rintro R x M' ⟨-, rfl, g1, g2⟩
    rw [Nat.sub_zero] at g2 ⊢
    rw [g1 49 (by decide), hA.1]
    refine ⟨fun _ => ?_, fun q => absurd (Int32.le_refl _) q⟩
    refine ⟨B.length + 1, lq1_ind (fun d x M2 => d ≤ B.length ∧ x = nI (B.length - d) ∧ (∀ r, r ≠ 227 → M2 r = M' r) ∧ ∀ k, k < B.length - d → M2 227 k = nI (B.getD k 0)) ?_ ?_ B.length 0 M' ⟨Nat.le_refl _, by rw [Nat.sub_self, nI_0], fun _ _ => rfl, fun k hk => by omega⟩⟩
    · rintro R x M2 ⟨-, rfl, g3, g4⟩
      rw [Nat.sub_zero] at g4 ⊢
      rw [nI_clamp (n := f) (by omega), g3 207 (by decide), g1 207 (by decide), c207, g3 49 (by decide), g1 49 (by decide), hA.1]
      have r0 : ∀ r, r ≠ 226 → r ≠ 227 → M2 r = Mx r := fun r w1 w2 => by rw [g3 r w2, g1 r w1]
      have rM : ∀ r, r ∉ 49 :: sQ → M2 r = M r := fun r hr => by rw [r0 r (fun z => hr (by rw [z]; decide)) (fun z => hr (by rw [z]; decide)), fq.1 r hr]
      have eD : (fun i j => dfF (M2 195) (M2 196) (A.getD i 0) (B.getD j 0)) = fun i j => dfF (M 2) (M 3) (A.getD i 0) (B.getD j 0) := by
        funext i j
        rw [rM 195 (by decide), rM 196 (by decide), dfF_eq hI.2.1 (gd_all ok i) (gd_all okF j)]
      refine ⟨vp_in_nI (by omega) (by decide), fun _ => m_least (g := g) (fa := fun k => A.getD k 0) (fb := fun k => B.getD k 0) a8 b8 (by rw [r0 49 (by decide) (by decide), fq.2 34 (by decide) (by decide) (by decide)]; exact mg) hg1 (by rw [rM 195 (by decide), rM 196 (by decide)]; exact (Sn_I1 hI.2.1).2) (fun k hk => ⟨by rw [g3 226 (by decide)]; exact g2 k hk, ok.2 k hk⟩) (fun k hk => ⟨g4 k hk, okF.2 k hk⟩) (fun M3 b1 _ => ?_), fun q => absurd (Int32.le_refl _) q⟩
      rw [eD]
      have r3 : ∀ r, r ≠ 225 → r ≠ 226 → r ≠ 227 → M3 r = Mx r := fun r w0 w1 w2 => by rw [b1 r w0, r0 r w1 w2]
      have := hQ M3 (fq.of [225, 226, 227] (by decide) (fun r hr => r3 r (fun z => hr (by rw [z]; decide)) (fun z => hr (by rw [z]; decide)) (fun z => hr (by rw [z]; decide)))) r3
      unfold cstL at this
      rw [eg] at this
      exact this
    · rintro d R x M2 ⟨hd, rfl, g3, g4⟩ hR
      obtain ⟨k, hk0⟩ : ∃ k, k = B.length - (d + 1) := ⟨_, rfl⟩
      rw [← hk0] at g4 ⊢
      have i2 : (8 : Int32) * nI f + nI k = nI (8 * f + k) := by rw [show (8 : Int32) = nI 8 by decide, pk_mul, nI_add]
      rw [nI_clamp (n := f) (by omega), g3 207 (by decide), g1 207 (by decide), c207, i2, nI_clamp (n := k) (by omega), nI_clamp (n := 8 * f + k) (by omega), g3 208 (by decide), g1 208 (by decide), c208 k (by omega)]
      refine ⟨vp_in_nI (by omega) (by decide), fun q => absurd q (nI_ge (by omega) (by omega)), fun _ => ⟨vp_in_nI (by omega) (by decide), vp_in_nI (by omega) (by decide), fun N hN => hR _ _ ⟨by omega, by rw [nI_1]; congr 1; omega, fun r hr => by rw [hN, mset_row hr, g3 r hr], fun j hj => ?_⟩⟩⟩
      by_cases w : j = k
      · rw [hN, w, mset_eq]
      · rw [hN, mset_ne (by omega)]; exact g4 j (by omega)
  · rintro d R x M2 ⟨hd, rfl, g3, g4⟩ hR
    obtain ⟨k, hk0⟩ : ∃ k, k = A.length - (d + 1) := ⟨_, rfl⟩
    rw [← hk0] at g4 ⊢
    rw [g3 49 (by decide), hA.1, nI_clamp (n := k) (by omega), g3 221 (by decide), hA.2 k (by omega)]
    refine ⟨fun q => absurd q (nI_ge (by omega) (by omega)), fun _ => ⟨vp_in_nI (by omega) (by decide), fun N hN => hR _ _ ⟨by omega, by rw [nI_1]; congr 1; omega, fun r hr => by rw [hN, mset_row hr, g3 r hr], fun j hj => ?_⟩⟩⟩
    by_cases w : j = k
    · rw [hN, w, mset_eq]
    · rw [hN, mset_ne (by omega)]; exact g4 j (by omega)
theorem dv_ok {M : Mem} (hI : Inv M) {p : Nat} : ∀ d l c v L, l + d ≤ cL M → okL L → okL (dv M p d l c v L).2 := by
  intro d
  induction d with
  | zero => intro l c v L _ h; exact h
  | succ d ih =>
    intro l c v L hl h
    rw [dv]
    split
    · exact h
    · split
      · exact ih _ _ _ _ (by omega) (ldo_okL hI (by omega) h)
      · exact ih _ _ _ _ (by omega) h
theorem dvC_ok {M : Mem} (hI : Inv M) {p : Nat} {L : List Nat} (h : okL L) : okL (dvC M p L) := dv_ok hI _ _ _ _ _ (by omega) h
def sayP (M : Mem) (p m : Nat) : Prop := ¬ sdL M (cF M) p m = -9
theorem sayP_c {M : Mem} (hF : cF M ≤ 40) {p m : Nat} : (¬ sayP M p m ∧ sdL M (cF M) p m = -9) ∨ (sayP M p m ∧ ∃ f, f < cF M ∧ sdL M (cF M) p m = nI f ∧ (sdL M (cF M) p m).toNatClampNeg = f) := by
  rcases sdL_c (M := M) (p := p) (m := m) (cF M) with w | ⟨f, l, w⟩
  · exact Or.inl ⟨fun h => h w, w⟩
  · refine Or.inr ⟨fun h => ?_, f, l, w, by rw [w, nI_clamp (by omega)]⟩
    rw [w] at h
    exact n9 (by omega) h
noncomputable def csm (M : Mem) (m : Nat) (L : List Nat) : Nat → Nat
  | 0 => 0
  | p + 1 => csm M m L p + @ite Nat (sayP M p m) (Classical.propDecidable _) (cstL M (dvC M p L) (rowL M (50 + (sdL M (cF M) p m).toNatClampNeg))) 0
theorem csm_le {M : Mem} (hI : Inv M) {m : Nat} {L : List Nat} (h : okL L) : ∀ p, csm M m L p ≤ 320 * p := by
  intro p
  induction p with
  | zero => exact Nat.le_refl _
  | succ p ih =>
    rw [csm]
    by_cases hs : sayP M p m
    · rw [if_pos hs]
      rcases sayP_c (p := p) (m := m) hI.1.2.1.2.1 with ⟨a, -⟩ | ⟨-, f, hf, -, e⟩
      · exact absurd hs a
      · rw [e]
        have := cstL_le hI (dvC_ok hI (p := p) h) (hI.2.2.2.2.1.rl hf).1
        omega
    · rw [if_neg hs]
      omega
theorem csm_m {M : Mem} {m p : Nat} {L : List Nat} : ∀ d, csm M m L p ≤ csm M m L (p + d) := by
  intro d
  induction d with
  | zero => exact Nat.le_refl _
  | succ d ih => rw [← Nat.add_assoc, csm]; omega
theorem i6 {p m : Nat} : nI p * 6 + nI m = nI (6 * p + m) := by rw [show (6 : Int32) = nI 6 by decide, pk_mul, nI_add, Nat.mul_comm]
theorem e_costs {M Mx : Mem} (hI : Inv M) {m E : Nat} {L : List Nat} {Q : Int32 → Mem → Prop} (hm : m < 6) (hE : E < 2 ^ 31) (ok : okL L) (hL : rwX Mx 98 L) (fq : Fq M Mx)
    (hQ : ∀ v M', Fq M M' → (∀ r, r ≠ 97 → r ≠ 147 → r ≠ 96 → r ≠ 146 → r ≠ 14 → M' r = Mx r) → v ≤ csm M m L (cP M) → (v = csm M m L (cP M) ∨ E ≤ v) → Q (nI v) M') : wX10_costsOfTrial (nI m) (nI E) Mx Q := by
  have hF40 := hI.1.2.1.2.1
  have hP8 := hI.1.1.2.1
  have c15 := hI.1.1.1
  have c16 := hI.1.2.1.1
  have h5 := hI.2.2.2.2.2.1
  obtain ⟨P, hP⟩ : ∃ P, P = cP M := ⟨_, rfl⟩
  rw [← hP] at hP8 c15 hQ
  unfold wX10_costsOfTrial
  refine ⟨P + 1, lq2_ind (fun d x y M' => d ≤ P ∧ x = nI (csm M m L (P - d)) ∧ y = nI (P - d) ∧ Fq M M' ∧ (∀ r, r ≠ 97 → r ≠ 147 → r ≠ 96 → r ≠ 146 → r ≠ 14 → M' r = Mx r)) ?_ ?_ P 0 0 Mx ⟨Nat.le_refl _, by rw [Nat.sub_self]; rfl, by rw [Nat.sub_self]; rfl, fq, fun _ _ _ _ _ _ => rfl⟩⟩
  · rintro R x y M' ⟨-, rfl, rfl, g1, g2⟩
    rw [g1.1 0 (by decide), c15, Nat.sub_zero]
    exact ⟨fun _ => hQ _ M' g1 g2 (Nat.le_refl _) (Or.inl rfl), fun z => absurd (Int32.le_refl _) z⟩
  · rintro d R x y M' ⟨hd, rfl, rfl, g1, g2⟩ hR
    obtain ⟨p, hp⟩ : ∃ p, p = P - (d + 1) := ⟨_, rfl⟩
    rw [← hp]
    have e1 : P - d = p + 1 := by omega
    have le := csm_le hI (m := m) ok p
    rw [g1.1 0 (by decide), c15, nI_leI hE (by omega), i6, nI_clamp (by omega), g1.1 7 (by decide), h5 p (by omega) m hm]
    refine ⟨fun z => absurd z (nI_ge (by omega) (by omega)), fun _ => ⟨fun z => hQ _ M' g1 g2 ?_ (Or.inr z), fun z => ⟨vp_in_nI (by omega) (by decide), ?_⟩⟩⟩
    · have := csm_m (M := M) (m := m) (p := p) (L := L) (P - p)
      rw [show p + (P - p) = P by omega] at this
      exact this
    · rw [e_isFormN (n := cF M) (by rw [g1.1 0 (by decide)]; exact c16) (by omega)]
      rcases sayP_c (p := p) (m := m) hF40 with ⟨ns, w⟩ | ⟨s, f, hf, w, t⟩
      · rw [w, bI_f n9v]
        exact ⟨fun z => absurd rfl z, fun _ => hR _ _ _ ⟨by omega, by rw [e1, csm, if_neg ns]; rfl, by rw [nI_1, e1], g1, g2⟩⟩
      · rw [w, bI_t (vp_in_nI hf (by omega)), nI_clamp (n := f) (by omega)]
        refine ⟨fun _ => e_bec (by decide) (by decide) (by decide) (L := L) ⟨by rw [g2 98 (by decide) (by decide) (by decide) (by decide) (by decide)]; exact hL.1, fun k hk => by rw [g2 148 (by decide) (by decide) (by decide) (by decide) (by decide)]; exact hL.2 k hk⟩ ok.1 (fun M1 b1 b2 => ?_), fun z => absurd z (by decide)⟩
        refine e_dvC hI ok b2 (g1.b97 b1) (fun v M2 f2 k2 r2 o2 => ⟨vp_in_nI (by omega) (by decide), ?_⟩)
        rw [fr150]
        refine e_cstL hI hf r2 o2 f2 (fun M3 f3 k3 => hR _ _ _ ⟨by omega, ?_, by rw [nI_1, e1], f3, fun r w1 w2 w3 w4 w5 => by rw [k3 r w5, k2 r w1 w2 w3 w4, b1 r w1 w2, g2 r w1 w2 w3 w4 w5]⟩)
        rw [e1, csm, if_pos s, t, nI_add]
theorem m_costs {M Mx : Mem} (hI : Inv M) {m : Nat} {L : List Nat} {Q : Int32 → Mem → Prop} (hm : m < 6) (ok : okL L) (h3 : L.length ≤ 3) (c39 : Mx 49 39 = nI L.length) (c228 : ∀ k, k < L.length → Mx 228 k = nI (L.getD k 0)) (fq : Fq M Mx)
    (hQ : ∀ M', Fq M M' → (∀ r, r ≠ 49 → r ≠ 221 → r ≠ 223 → r ≠ 225 → r ≠ 226 → r ≠ 227 → M' r = Mx r) → (∀ k, k ≠ 32 → M' 49 k = Mx 49 k) → Q (nI (csm M m L (cP M))) M') : wX11_costsOf (nI m) Mx Q := by
  have hF40 := hI.1.2.1.2.1
  have hP8 := hI.1.1.2.1
  have c11 : M 49 11 = nI (cP M) := hI.1.1.2.2.trans hI.1.1.1
  have c13 : M 49 13 = nI (cF M) := hI.1.2.1.2.2.trans hI.1.2.1.1
  obtain ⟨P, hP⟩ : ∃ P, P = cP M := ⟨_, rfl⟩
  rw [← hP] at hP8 c11 hQ
  unfold wX11_costsOf
  refine ⟨P + 1, lq2_ind (fun d x y M' => d ≤ P ∧ x = nI (csm M m L (P - d)) ∧ y = nI (P - d) ∧ Fq M M' ∧ (∀ r, r ≠ 49 → r ≠ 221 → r ≠ 223 → r ≠ 225 → r ≠ 226 → r ≠ 227 → M' r = Mx r) ∧ (∀ k, k ≠ 32 → M' 49 k = Mx 49 k)) ?_ ?_ P 0 0 Mx ⟨Nat.le_refl _, by rw [Nat.sub_self]; rfl, by rw [Nat.sub_self]; rfl, fq, fun _ _ _ _ _ _ _ => rfl, fun _ _ => rfl⟩⟩
  · rintro R x y M' ⟨-, rfl, rfl, g1, g2, g3⟩
    rw [g1.2 11 (by decide) (by decide) (by decide), c11, Nat.sub_zero]
    exact ⟨fun _ => hQ M' g1 g2 g3, fun z => absurd (Int32.le_refl _) z⟩
  · rintro d R x y M' ⟨hd, rfl, rfl, g1, g2, g3⟩ hR
    obtain ⟨p, hp⟩ : ∃ p, p = P - (d + 1) := ⟨_, rfl⟩
    rw [← hp]
    have e1 : P - d = p + 1 := by omega
    rw [g1.2 11 (by decide) (by decide) (by decide), c11]
    refine ⟨fun z => absurd z (nI_ge (by omega) (by omega)), fun _ => m_saidAt (by rw [g1.2 13 (by decide) (by decide) (by decide)]; exact c13) hF40 ?_⟩
    rw [sdL_fr (g1.1 205 (by decide)) (g1.1 206 (by decide))]
    rcases sayP_c (p := p) (m := m) hF40 with ⟨ns, w⟩ | ⟨s, f, hf, w, t⟩
    · rw [w]
      exact ⟨fun _ => hR _ _ _ ⟨by omega, by rw [e1, csm, if_neg ns]; rfl, by rw [nI_1, e1], g1, g2, g3⟩, fun z => absurd rfl z⟩
    · rw [w]
      refine ⟨fun z => absurd z (n9 (by omega)), fun _ => m_dvC hI ok h3 (by rw [g3 39 (by decide)]; exact c39) (fun k hk => by rw [g2 228 (by decide) (by decide) (by decide) (by decide) (by decide) (by decide)]; exact c228 k hk) g1 (fun M2 f2 k2 k3 r2 o2 => m_costFrom hI hf r2 o2 f2 (fun M3 f3 k4 => hR _ _ _ ⟨by omega, ?_, by rw [nI_1, e1], f3, fun r w1 w2 w3 w4 w5 w6 => by rw [k4 r w4 w5 w6, k2 r w1 w2 w3, g2 r w1 w2 w3 w4 w5 w6], fun k hk => by rw [k4 49 (by decide) (by decide) (by decide), k3 k hk, g3 k hk]⟩))⟩
      rw [e1, csm, if_pos s, t, nI_add]
