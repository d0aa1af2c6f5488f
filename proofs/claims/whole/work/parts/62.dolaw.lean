/-! a law done on a row -/
def nxO (L : List Nat) (k : Nat) : Option Nat := if k + 1 < L.length then some (L.getD (k + 1) 0) else none
def pvO (L : List Nat) (k : Nat) : Option Nat := if k = 0 then none else some (L.getD (k - 1) 0)
def mtP (M : Mem) (l : Nat) (L : List Nat) (k : Nat) : Prop := pmS M (M (32 + l) 1) (L.getD k 0) ∧ pmO M (M (32 + l) 3) (pvO L k) ∧ pmO M (M (32 + l) 4) (nxO L k)
noncomputable def ldo (M : Mem) (l : Nat) (L : List Nat) : Nat → List Nat
  | 0 => []
  | k + 1 => @ite (List Nat) (mtP M l L k) (Classical.propDecidable _) (if M (32 + l) 2 = -2 then ldo M l L k else ldo M l L k ++ [(M (32 + l) 2).toNatClampNeg]) (ldo M l L k ++ [L.getD k 0])
def lch (M : Mem) (l : Nat) (L : List Nat) : Nat → Prop
  | 0 => False
  | k + 1 => lch M l L k ∨ (mtP M l L k ∧ ¬ M (32 + l) 2 = nI (L.getD k 0))
theorem ldo_ok {M : Mem} (hI : Inv M) {l : Nat} (hl : l < cL M) {L : List Nat} (hok : okL L) : ∀ k, k ≤ L.length → (ldo M l L k).length ≤ k ∧ ∀ j, j < (ldo M l L k).length → (ldo M l L k).getD j 0 < 16 := by
  intro k
  induction k with
  | zero => intro _; exact ⟨Nat.le_refl _, fun j hj => absurd hj (Nat.not_lt_zero _)⟩
  | succ k ih =>
    intro hk
    obtain ⟨i1, i2⟩ := ih (by omega)
    have app : ∀ s, s < 16 → (ldo M l L k ++ [s]).length ≤ k + 1 ∧ ∀ j, j < (ldo M l L k ++ [s]).length → (ldo M l L k ++ [s]).getD j 0 < 16 := fun s hs => by
      rw [ln_a]
      refine ⟨by omega, fun j hj => ?_⟩
      by_cases w : j = (ldo M l L k).length
      · rw [w, gd_r]; exact hs
      · rw [gd_l (by omega)]; exact i2 j (by omega)
    rw [ldo]
    by_cases hm : mtP M l L k
    · rw [if_pos hm]
      obtain ⟨-, -, -, hr, -⟩ := hI.2.2.2.2.2.2.2.1 l hl
      rcases hr with ⟨s, hs, e, -⟩ | ⟨e, -⟩
      · rw [if_neg (by rw [e]; exact fun q => absurd (q ▸ nI_pos (n := s) (by omega)) (by decide)), e, nI_clamp (by omega)]
        exact app s hs
      · rw [if_pos e]
        exact ⟨by omega, i2⟩
    · rw [if_neg hm]
      exact app _ (hok.2 k (by omega))
theorem ldo_okL {M : Mem} (hI : Inv M) {l : Nat} (hl : l < cL M) {L : List Nat} (hok : okL L) : okL (ldo M l L L.length) := by
  obtain ⟨a, b⟩ := ldo_ok hI hl hok L.length (Nat.le_refl _)
  exact ⟨by have := hok.1; omega, b⟩
theorem n2 {s : Nat} (h : s < 16) : ¬ nI s = -2 := fun q => absurd (q ▸ nI_pos (n := s) (by omega)) (by decide)
theorem e_doLaw {M Mx : Mem} (hI : Inv M) {l : Nat} {L : List Nat} {Q : Int32 → Mem → Prop} (hl : l < cL M) (hok : okL L) (hrw : rwX Mx 97 L) (fr2 : Mx 2 = M 2) (fr3 : Mx 3 = M 3) (frl : Mx (32 + l) = M (32 + l))
    (hQ : ∀ M', (∀ r, r ≠ 97 → r ≠ 147 → r ≠ 96 → r ≠ 146 → M' r = Mx r) → rwX M' 97 (ldo M l L L.length) → Q (bI (lch M l L L.length)) M') : wX4_doLaw (32 + l) 97 Mx Q := by
  have hl8 := hI.1.2.2.1.2.1
  obtain ⟨h8, h16⟩ := hok
  obtain ⟨n, hn⟩ : ∃ n, n = L.length := ⟨_, rfl⟩
  rw [← hn] at h8 h16 hQ
  unfold wX4_doLaw
  refine ⟨⟨by omega, by omega⟩, by decide, e_become (r := 96) (r2 := 97) (n := n) (by decide) (by decide) (by decide) (by rw [hrw.1, hn]) h8 (fun M1 b1 b2 b3 => ⟨by decide, fun N hN => ?_⟩)⟩
  subst hN
  have c146 : ∀ k, k < n → M1 146 k = nI (L.getD k 0) := fun k hk => by rw [b3 k hk]; exact hrw.2 k (by omega)
  refine ⟨n + 1, lq2_ind (fun d x y M' => d ≤ n ∧ x = bI (lch M l L (n - d)) ∧ y = nI (n - d) ∧ (∀ r, r ≠ 97 → r ≠ 147 → M' r = M1 r) ∧ rwX M' 97 (ldo M l L (n - d))) ?_ ?_ n 0 0 _ ⟨Nat.le_refl _, ?_, by rw [Nat.sub_self]; rfl, fun r w1 w2 => by rw [mset_row w1], ?_⟩⟩
  · rintro R x y M2 ⟨-, rfl, rfl, g1, g2⟩
    rw [Nat.sub_zero] at g2 ⊢
    rw [g1 96 (by decide) (by decide), b2]
    refine ⟨fun _ => ⟨by rw [isB_bI]; trivial, hQ M2 (fun r w1 w2 w3 w4 => by rw [g1 r w1 w2, b1 r w3 w4]) g2⟩, fun z => absurd (Int32.le_refl _) z⟩
  · rintro d R x y M2 ⟨hd, rfl, rfl, g1, g2⟩ hR
    obtain ⟨k, hk⟩ : ∃ k, k = n - (d + 1) := ⟨_, rfl⟩
    rw [← hk] at g2 ⊢
    have c96 : M2 96 1 = nI n := by rw [g1 96 (by decide) (by decide), b2]
    have at0 : ∀ (P : Int32 → Mem → Prop), P (nI (L.getD k 0)) M2 → wX7_at 96 (nI k) M2 P := fun P hP => e_at (by decide) c96 h8 ⟨fun _ => by rw [nI_clamp (by omega), g1 146 (by decide) (by decide), c146 k (by omega)]; exact hP, fun q => absurd (vp_in_nI (by omega) (by omega)) q⟩
    have r2 : M2 2 = M 2 := by rw [g1 2 (by decide) (by decide), b1 2 (by decide) (by decide), fr2]
    have r3 : M2 3 = M 3 := by rw [g1 3 (by decide) (by decide), b1 3 (by decide) (by decide), fr3]
    have rl : M2 (32 + l) = M (32 + l) := by rw [g1 _ (by omega) (by omega), b1 _ (by omega) (by omega), frl]
    rw [c96]
    refine ⟨fun q => absurd q (nI_ge (by omega) (by omega)), fun _ => at0 _ ?_⟩
    rw [rl]
    refine e_isOfS (M := M) (h16 k (by omega)) r2 r3 ?_
    have rest : ∀ (b : Int32) M3, (∀ r, r ≠ 97 → r ≠ 147 → M3 r = M1 r) → rwX M3 97 (ldo M l L (k + 1)) → (lch M l L (k + 1) ↔ lch M l L k ∨ ¬ b = nI (L.getD k 0)) → ((¬ bI (lch M l L k) = 0 → R 1 (nI k + 1) M3) ∧ (bI (lch M l L k) = 0 → ((b = nI (L.getD k 0) → R 0 (nI k + 1) M3) ∧ (¬ b = nI (L.getD k 0) → R 1 (nI k + 1) M3)))) := fun b M3 f1 f2 f3 => by
      have e1 : n - d = k + 1 := by omega
      have go : ∀ p : Prop, (p ↔ lch M l L (k + 1)) → R (bI p) (nI k + 1) M3 := fun p hp => hR _ _ _ ⟨by omega, by rw [e1, propext hp], by rw [nI_1, e1], f1, by rw [e1]; exact f2⟩
      rw [bI_0]
      refine ⟨fun z => ?_, fun z => ⟨fun z2 => ?_, fun z2 => ?_⟩⟩
      · have := go True ⟨fun _ => f3.mpr (Or.inl (Classical.not_not.mp z)), fun _ => trivial⟩
        rw [bI_t trivial] at this; exact this
      · have := go False ⟨fun h => h.elim, fun h => (f3.mp h).elim z (fun y => y z2)⟩
        rw [bI_f (fun h => h)] at this; exact this
      · have := go True ⟨fun _ => f3.mpr (Or.inr z2), fun _ => trivial⟩
        rw [bI_t trivial] at this; exact this
    have addQ : ∀ (s : Nat) (P : Mem → Prop), (∀ M3, (∀ r, r ≠ 97 → r ≠ 147 → M3 r = M1 r) → rwX M3 97 (ldo M l L k ++ [s]) → P M3) → wX7_add 97 (nI s) M2 P := fun s P hP => by
      have := (ldo_ok hI hl (⟨hn ▸ h8, hn ▸ h16⟩ : okL L) k (by omega)).1
      exact e_add (by decide) g2.1 (by omega) (fun M3 a1 a2 a3 a4 => hP M3 (fun r w1 w2 => by rw [a1 r w1 w2, g1 r w1 w2]) (rw_add g2 a2 a3 a4))
    refine jn1_i (fun y M' => M' = M2 ∧ y = bI (mtP M l L k)) ?_ ?_
    · rintro y _ ⟨rfl, rfl⟩
      simp only [jn0, jn1, jn2, jn3, rl]
      by_cases hm : mtP M l L k
      · rw [bI_t hm]
        refine ⟨fun z => absurd z (by decide), fun _ => ?_⟩
        obtain ⟨-, -, -, hr, -⟩ := hI.2.2.2.2.2.2.2.1 l hl
        rcases hr with ⟨s, hs, e, -⟩ | ⟨e, -⟩
        · have e1 : ldo M l L (k + 1) = ldo M l L k ++ [s] := by rw [ldo, if_pos hm, if_neg (by rw [e]; exact n2 hs), e, nI_clamp (by omega)]
          rw [e]
          refine ⟨fun z => absurd z (n2 hs), fun _ => addQ s _ (fun M3 f1 f2 => rest _ M3 f1 (by rw [e1]; exact f2) ?_)⟩
          rw [lch, e]
          exact ⟨fun h => h.elim Or.inl (fun y => Or.inr y.2), fun h => h.elim Or.inl (fun y => Or.inr ⟨hm, y⟩)⟩
        · have e1 : ldo M l L (k + 1) = ldo M l L k := by rw [ldo, if_pos hm, if_pos e]
          rw [e]
          refine ⟨fun _ => rest _ _ g1 (by rw [e1]; exact g2) ?_, fun z => absurd rfl z⟩
          rw [lch, e]
          exact ⟨fun h => h.elim Or.inl (fun y => Or.inr y.2), fun h => h.elim Or.inl (fun y => Or.inr ⟨hm, y⟩)⟩
      · rw [bI_f hm]
        refine ⟨fun _ => ?_, fun z => absurd rfl z⟩
        have e1 : ldo M l L (k + 1) = ldo M l L k ++ [L.getD k 0] := by rw [ldo, if_neg hm]
        refine ⟨fun z => absurd z (n2 (h16 k (by omega))), fun _ => addQ _ _ (fun M3 f1 f2 => ?_)⟩
        have r := rest (nI (L.getD k 0)) M3 f1 (by rw [e1]; exact f2) (by
          rw [lch]
          exact ⟨fun h => h.elim Or.inl (fun y => absurd y.1 hm), fun h => h.elim Or.inl (fun y => absurd rfl y)⟩)
        exact ⟨r.1, fun z => ⟨fun _ => (r.2 z).1 rfl, fun y => absurd trivial y⟩⟩
    · intro J hJ
      by_cases h1 : pmS M (M (32 + l) 1) (L.getD k 0)
      · rw [bI_t h1]
        refine ⟨fun z => absurd z (by decide), fun _ => ?_⟩
        have atL : ∀ (P : Int32 → Mem → Prop), P (bI (pmO M (M (32 + l) 3) (pvO L k))) M2 → wX7_at 96 (nI k - 1) M2 (fun v68 M68 => wX9_isOf v68 (M68 (32 + l) 3) M68 P) := fun P hP => by
          by_cases hk0 : k = 0
          · rw [pvO, if_pos hk0] at hP
            refine e_at (by decide) c96 h8 ⟨fun q => absurd q (by rw [hk0]; exact fun h => h (Or.inl (by decide))), fun _ => e_isOfN (by rw [rl]; exact hP)⟩
          · rw [pvO, if_neg hk0] at hP
            rw [show nI k - 1 = nI (k - 1) by rw [show (1 : Int32) = nI 1 by decide, pk_sub (by omega)]]
            refine e_at (by decide) c96 h8 ⟨fun _ => ?_, fun q => absurd (vp_in_nI (by omega) (by omega)) q⟩
            rw [nI_clamp (by omega), g1 146 (by decide) (by decide), c146 _ (by omega), rl]
            exact e_isOfS (h16 _ (by omega)) r2 r3 hP
        have atR : ∀ (P : Int32 → Mem → Prop), P (bI (pmO M (M (32 + l) 4) (nxO L k))) M2 → wX7_at 96 (nI k + 1) M2 (fun v68 M68 => wX9_isOf v68 (M68 (32 + l) 4) M68 P) := fun P hP => by
          rw [nI_1]
          by_cases hk0 : k + 1 < n
          · rw [nxO, if_pos (by omega)] at hP
            refine e_at (by decide) c96 h8 ⟨fun _ => ?_, fun q => absurd (vp_in_nI (by omega) (by omega)) q⟩
            rw [nI_clamp (by omega), g1 146 (by decide) (by decide), c146 _ (by omega), rl]
            exact e_isOfS (h16 _ (by omega)) r2 r3 hP
          · rw [nxO, if_neg (by omega)] at hP
            refine e_at (by decide) c96 h8 ⟨fun q => ?_, fun _ => e_isOfN (by rw [rl]; exact hP)⟩
            have := vp_lt q
            rw [nI_clamp (by omega)] at this
            omega
        refine atL _ ?_
        by_cases h2 : pmO M (M (32 + l) 3) (pvO L k)
        · rw [bI_t h2]
          refine ⟨fun z => absurd z (by decide), fun _ => atR _ ?_⟩
          by_cases h3 : pmO M (M (32 + l) 4) (nxO L k)
          · rw [bI_t h3]
            exact ⟨fun z => absurd z (by decide), fun _ => hJ _ _ ⟨rfl, by rw [bI_t ⟨h1, h2, h3⟩]⟩⟩
          · rw [bI_f h3]
            exact ⟨fun _ => hJ _ _ ⟨rfl, by rw [bI_f (fun h => h3 h.2.2)]⟩, fun z => absurd rfl z⟩
        · rw [bI_f h2]
          exact ⟨fun _ => hJ _ _ ⟨rfl, by rw [bI_f (fun h => h2 h.2.1)]⟩, fun z => absurd rfl z⟩
      · rw [bI_f h1]
        exact ⟨fun _ => hJ _ _ ⟨rfl, by rw [bI_f (fun h => h1 h.1)]⟩, fun z => absurd rfl z⟩
  · rw [Nat.sub_self, lch, bI_f (fun h => h)]
  · rw [Nat.sub_self]
    exact ⟨mset_eq, fun k hk => absurd hk (Nat.not_lt_zero _)⟩
