/-! orders of the laws in force at a place -/
noncomputable def ols (M : Mem) (p : Nat) : Nat → List Nat
  | 0 => []
  | l + 1 => @ite (List Nat) (hb (M (32 + l) 0) (nI p)) (Classical.propDecidable _) (ols M p l ++ [l]) (ols M p l)
theorem ols_n {M : Mem} {p : Nat} : ∀ l, (ols M p l).length ≤ l := by
  intro l
  induction l with
  | zero => exact Nat.le_refl _
  | succ l ih =>
    rw [ols]
    split
    · rw [ln_a]; omega
    · omega
theorem ols_b {M : Mem} {p : Nat} : ∀ l k, k < (ols M p l).length → (ols M p l).getD k 0 < l := by
  intro l
  induction l with
  | zero => intro k hk; exact absurd hk (Nat.not_lt_zero _)
  | succ l ih =>
    intro k hk
    rw [ols] at hk ⊢
    by_cases h : hb (M (32 + l) 0) (nI p)
    · rw [if_pos h] at hk ⊢
      rw [ln_a] at hk
      by_cases w : k = (ols M p l).length
      · rw [w, gd_r]; omega
      · rw [gd_l (by omega)]; have := ih k (by omega); omega
    · rw [if_neg h] at hk ⊢
      have := ih k hk
      omega
theorem ols_s {M : Mem} {p : Nat} : ∀ l i j, i < j → j < (ols M p l).length → (ols M p l).getD i 0 < (ols M p l).getD j 0 := by
  intro l
  induction l with
  | zero => intro i j _ hj; exact absurd hj (Nat.not_lt_zero _)
  | succ l ih =>
    intro i j hij hj
    rw [ols] at hj ⊢
    by_cases h : hb (M (32 + l) 0) (nI p)
    · rw [if_pos h] at hj ⊢
      rw [ln_a] at hj
      by_cases w : j = (ols M p l).length
      · rw [w, gd_r, gd_l (by omega)]
        exact ols_b l i (by omega)
      · rw [gd_l (by omega), gd_l (by omega)]
        exact ih i j hij (by omega)
    · rw [if_neg h] at hj ⊢
      exact ih i j hij hj
theorem ols_m {M : Mem} {p l : Nat} : ∀ i j, i < (ols M p l).length → j < (ols M p l).length → ((ols M p l).getD i 0 < (ols M p l).getD j 0 ↔ i < j) := by
  intro i j hi hj
  constructor
  · intro h
    rcases Nat.lt_trichotomy i j with q | q | q
    · exact q
    · rw [q] at h; omega
    · have := ols_s (M := M) (p := p) l j i q hi
      omega
  · intro h
    exact ols_s l i j h hj
theorem ols_mono {M : Mem} {p l : Nat} : ∀ d, (ols M p l).length ≤ (ols M p (l + d)).length := by
  intro d
  induction d with
  | zero => exact Nat.le_refl _
  | succ d ih =>
    rw [← Nat.add_assoc, ols]
    split
    · rw [ln_a]; omega
    · exact ih
theorem e_collect {M Mx : Mem} (hI : Inv M) {p : Nat} {Q : Mem → Prop} (fq : Fq M Mx) (hQ : ∀ M', (∀ r, r ≠ 98 → r ≠ 148 → M' r = Mx r) → rwX M' 98 (ols M p (cL M)) → Q M') : wX4_collectAt (nI p) 98 Mx Q := by
  have hl8 := hI.1.2.2.1.2.1
  have c4 := hI.1.2.2.1.1
  obtain ⟨N, hN⟩ : ∃ N, N = cL M := ⟨_, rfl⟩
  rw [← hN] at hQ hl8 c4
  unfold wX4_collectAt
  refine ⟨by decide, by decide, fun N0 h0 => ?_⟩
  subst h0
  refine ⟨N + 1, lq1_ind (fun d y M' => d ≤ N ∧ y = nI (N - d) ∧ (∀ r, r ≠ 98 → r ≠ 148 → M' r = Mx r) ∧ rwX M' 98 (ols M p (N - d))) ?_ ?_ N 0 _ ⟨Nat.le_refl _, by rw [Nat.sub_self]; rfl, fun r w1 _ => mset_row w1, by rw [Nat.sub_self]; exact ⟨mset_eq, fun k hk => absurd hk (Nat.not_lt_zero _)⟩⟩⟩
  · rintro R y M' ⟨-, rfl, g1, g2⟩
    rw [g1 9 (by decide) (by decide), fq.1 9 (by decide), c4]
    rw [Nat.sub_zero] at g2 ⊢
    exact ⟨fun _ => hQ M' g1 g2, fun z => absurd (Int32.le_refl _) z⟩
  · rintro d R y M' ⟨hd, rfl, g1, g2⟩ hR
    obtain ⟨l, hl⟩ : ∃ l, l = N - (d + 1) := ⟨_, rfl⟩
    rw [← hl] at g2 ⊢
    have e1 : N - d = l + 1 := by omega
    have ln := ols_n (M := M) (p := p) l
    rw [g1 9 (by decide) (by decide), fq.1 9 (by decide), c4, nI_clamp (n := l) (by omega), g1 _ (by omega) (by omega), fq.1 _ (n2X _ (by omega) (by omega)), e_isIn, bI_0]
    refine ⟨fun z => absurd z (nI_ge (by omega) (by omega)), fun _ => ⟨vp_in_nI (by omega) (by decide), fun z => hR _ _ ⟨by omega, by rw [nI_1, e1], g1, by rw [e1, ols, if_neg z]; exact g2⟩, fun z => e_add (by decide) g2.1 (by omega) (fun M2 a1 a2 a3 a4 => hR _ _ ⟨by omega, by rw [nI_1, e1], fun r w1 w2 => by rw [a1 r w1 w2, g1 r w1 w2], ?_⟩)⟩⟩
    rw [e1, ols, if_pos (Classical.not_not.mp z)]
    exact rw_add g2 a2 a3 a4
noncomputable def dvK (M : Mem) (T L : List Nat) : Nat → List Nat
  | 0 => L
  | k + 1 => ldo M (T.getD k 0) (dvK M T L k) (dvK M T L k).length
theorem dvK_ok {M : Mem} (hI : Inv M) {T L : List Nat} (hT : ∀ k, k < T.length → T.getD k 0 < cL M) (h : okL L) : ∀ k, k ≤ T.length → okL (dvK M T L k) := by
  intro k
  induction k with
  | zero => intro _; exact h
  | succ k ih => intro hk; rw [dvK]; exact ldo_okL hI (hT k (by omega)) (ih (by omega))
theorem e_deriveBy {M Mx : Mem} (hI : Inv M) {T L : List Nat} {Q : Mem → Prop} (hT : ∀ k, k < T.length → T.getD k 0 < cL M) (h8 : T.length ≤ 8) (ok : okL L) (r8 : rwX Mx 98 T) (r7 : rwX Mx 97 L) (fq : Fq M Mx) (hQ : ∀ M', Fq M M' → (∀ r, r ≠ 97 → r ≠ 147 → r ≠ 96 → r ≠ 146 → M' r = Mx r) → rwX M' 97 (dvK M T L T.length) → Q M') : wX4_deriveBy 98 97 Mx Q := by
  have hl8 := hI.1.2.2.1.2.1
  have c4 := hI.1.2.2.1.1
  obtain ⟨n, hn⟩ : ∃ n, n = T.length := ⟨_, rfl⟩
  rw [← hn] at hQ hT h8
  unfold wX4_deriveBy
  refine ⟨by decide, by decide, n + 1, lq1_ind (fun d y M' => d ≤ n ∧ y = nI (n - d) ∧ Fq M M' ∧ (∀ r, r ≠ 97 → r ≠ 147 → r ≠ 96 → r ≠ 146 → M' r = Mx r) ∧ rwX M' 97 (dvK M T L (n - d))) ?_ ?_ n 0 Mx ⟨Nat.le_refl _, by rw [Nat.sub_self]; rfl, fq, fun _ _ _ _ _ => rfl, by rw [Nat.sub_self]; exact r7⟩⟩
  · rintro R y M' ⟨-, rfl, g0, g1, g2⟩
    rw [g1 98 (by decide) (by decide) (by decide) (by decide), r8.1, ← hn]
    rw [Nat.sub_zero] at g2 ⊢
    exact ⟨fun _ => hQ M' g0 g1 g2, fun z => absurd (Int32.le_refl _) z⟩
  · rintro d R y M' ⟨hd, rfl, g0, g1, g2⟩ hR
    obtain ⟨k, hk⟩ : ∃ k, k = n - (d + 1) := ⟨_, rfl⟩
    rw [← hk] at g2 ⊢
    have e1 : n - d = k + 1 := by omega
    have c98 : M' 98 1 = nI n := by rw [g1 98 (by decide) (by decide) (by decide) (by decide), r8.1, hn]
    have tk := hT k (by omega)
    rw [c98]
    refine ⟨fun z => absurd z (nI_ge (by omega) (by omega)), fun _ => e_at (by decide) c98 h8 ⟨fun _ => ?_, fun z => absurd (vp_in_nI (by omega) (by omega)) z⟩⟩
    rw [nI_clamp (n := k) (by omega), g1 148 (by decide) (by decide) (by decide) (by decide), r8.2 k (by omega), g0.1 9 (by decide), c4, e_isBelow, vp_iff (by omega), bI_t (vp_in_nI tk (by omega)), nI_clamp (by omega)]
    refine ⟨fun z => absurd z (by decide), fun _ => ⟨vp_in_nI (by omega) (by decide), e_doLaw hI tk (dvK_ok hI (fun j hj => hT j (by omega)) ok k (by omega)) g2 (g0.1 2 (by decide)) (g0.1 3 (by decide)) (g0.1 _ (n2X _ (by omega) (by omega))) (fun M2 f1 f2 => hR _ _ ⟨by omega, by rw [nI_1, e1], g0.d97 f1, fun r w1 w2 w3 w4 => by rw [f1 r w1 w2 w3 w4, g1 r w1 w2 w3 w4], by rw [e1, dvK]; exact f2⟩)⟩⟩
def rgP (M : Mem) (p m : Nat) (T : List Nat) : Prop := sayP M p m ∧ hb (M 0 17) (nI m) ∧ dvK M T (rowL M (90 + m)) T.length = rowL M (50 + (sdL M (cF M) p m).toNatClampNeg)
noncomputable def rgc (M : Mem) (p : Nat) (T : List Nat) : Nat → Nat
  | 0 => 0
  | m + 1 => @ite Nat (rgP M p m T) (Classical.propDecidable _) (rgc M p T m + 1) (rgc M p T m)
theorem rgc_le {M : Mem} {p : Nat} {T : List Nat} : ∀ m, rgc M p T m ≤ m := by
  intro m
  induction m with
  | zero => exact Nat.le_refl _
  | succ m ih => rw [rgc]; split <;> omega
theorem n90 : ∀ m, m < 6 → 90 + m ∉ 49 :: sQ ∧ 90 + m + 50 ∉ 49 :: sQ := by decide
theorem e_regT {M Mx : Mem} (hI : Inv M) {p : Nat} {T : List Nat} {Q : Int32 → Mem → Prop} (hp : p < cP M) (hT : ∀ k, k < T.length → T.getD k 0 < cL M) (h8 : T.length ≤ 8) (r8 : rwX Mx 98 T) (fq : Fq M Mx) (hQ : ∀ M', Fq M M' → (∀ r, r ≠ 97 → r ≠ 147 → r ≠ 96 → r ≠ 146 → M' r = Mx r) → Q (nI (rgc M p T 6)) M') : wX10_regularByTrial (nI p) Mx Q := by
  have hF40 := hI.1.2.1.2.1
  have hP8 := hI.1.1.2.1
  have c16 := hI.1.2.1.1
  have h5 := hI.2.2.2.2.2.1
  unfold wX10_regularByTrial
  refine ⟨7, lq2_ind (fun d x y M' => d ≤ 6 ∧ x = nI (rgc M p T (6 - d)) ∧ y = nI (6 - d) ∧ Fq M M' ∧ (∀ r, r ≠ 97 → r ≠ 147 → r ≠ 96 → r ≠ 146 → M' r = Mx r)) ?_ ?_ 6 0 0 Mx ⟨by omega, rfl, rfl, fq, fun _ _ _ _ _ => rfl⟩⟩
  · rintro R x y M' ⟨-, rfl, rfl, g1, g2⟩
    exact ⟨fun _ => hQ M' g1 g2, fun z => absurd (by decide) z⟩
  · rintro d R x y M' ⟨hd, rfl, rfl, g1, g2⟩ hR
    obtain ⟨m, hm⟩ : ∃ m, m = 6 - (d + 1) := ⟨_, rfl⟩
    rw [← hm]
    have e1 : 6 - d = m + 1 := by omega
    have no : ∀ M2, Fq M M2 → (∀ r, r ≠ 97 → r ≠ 147 → r ≠ 96 → r ≠ 146 → M2 r = Mx r) → ¬ rgP M p m T → R (nI (rgc M p T m)) (nI m + 1) M2 := fun M2 k1 k2 h => hR _ _ _ ⟨by omega, by rw [e1, rgc, if_neg h], by rw [nI_1, e1], k1, k2⟩
    rw [i6, nI_clamp (by omega), g1.1 7 (by decide), h5 p (by omega) m (by omega), e_isFormN (n := cF M) (by rw [g1.1 0 (by decide)]; exact c16) (by omega), nI_clamp (n := m) (by omega)]
    refine ⟨fun z => absurd z (nI_ge (b := 6) (by omega) (by decide)), fun _ => ⟨vp_in_nI (by omega) (by decide), ?_⟩⟩
    rcases sayP_c (p := p) (m := m) hF40 with ⟨ns, w⟩ | ⟨s, f, hf, w, t⟩
    · rw [w, bI_f n9v]
      exact ⟨fun _ => no M' g1 g2 (fun h => ns h.1), fun z => absurd rfl z⟩
    · rw [w, bI_t (vp_in_nI hf (by omega)), nI_clamp (n := f) (by omega), g1.1 0 (by decide), e_isIn]
      refine ⟨fun z => absurd z (by decide), fun _ => ?_⟩
      rcases hI.2.2.2.2.2.2.1.rl (show m < 6 by omega) with ⟨nr, -⟩ | ⟨hr, -, ok, rx, -⟩
      · rw [bI_f nr]
        exact ⟨fun z => absurd rfl z, fun _ => no M' g1 g2 (fun h => nr h.2.1)⟩
      · rw [bI_t hr]
        obtain ⟨okF, rF, -⟩ := hI.2.2.2.2.1.rl hf
        refine ⟨fun _ => ⟨vp_in_nI (by omega) (by decide), ?_⟩, fun z => absurd z (by decide)⟩
        refine e_bec (by decide) ⟨by omega, by omega⟩ (by omega) (L := rowL M (90 + m)) ⟨by rw [g1.1 _ (n90 m (by omega)).1]; exact rx.1, fun k hk => by rw [g1.1 _ (n90 m (by omega)).2]; exact rx.2 k hk⟩ ok.1 (fun M1 b1 b2 => ?_)
        have f1 := g1.b97 b1
        refine e_deriveBy hI hT h8 ok ⟨by rw [b1 98 (by decide) (by decide), g2 98 (by decide) (by decide) (by decide) (by decide)]; exact r8.1, fun k hk => by rw [b1 148 (by decide) (by decide), g2 148 (by decide) (by decide) (by decide) (by decide)]; exact r8.2 k hk⟩ b2 f1 (fun M2 f2 k2 r2 => ⟨vp_in_nI (by omega) (by decide), ?_⟩)
        have k3 : ∀ r, r ≠ 97 → r ≠ 147 → r ≠ 96 → r ≠ 146 → M2 r = Mx r := fun r w1 w2 w3 w4 => by rw [k2 r w1 w2 w3 w4, b1 r w1 w2, g2 r w1 w2 w3 w4]
        rw [fr150]
        refine e_same ⟨by omega, by omega⟩ r2 (rw_fr (by omega) rF f2) (dvK_ok hI hT ok _ (Nat.le_refl _)) okF ?_
        rw [bI_0]
        refine ⟨fun z => no M2 f2 k3 (fun h => z (by rw [← t]; exact h.2.2)), fun z => hR _ _ _ ⟨by omega, ?_, by rw [nI_1, e1], f2, k3⟩⟩
        rw [e1, rgc, if_pos ⟨s, hr, by rw [t]; exact Classical.not_not.mp z⟩, nI_1]
theorem m_regT {M Mx : Mem} (hI : Inv M) {p : Nat} {T : List Nat} {Q : Int32 → Mem → Prop} (hT : ∀ k, k < T.length → T.getD k 0 < cL M) (h6 : T.length ≤ 6) (r8 : trM Mx T) (fq : Fq M Mx) (hQ : ∀ M', Fq M M' → (∀ r, r ≠ 49 → r ≠ 221 → r ≠ 223 → M' r = Mx r) → Q (nI (rgc M p T 6)) M') : wX11_regulars (nI p) (nI T.length) Mx Q := by
  have hF40 := hI.1.2.1.2.1
  have hl8 := hI.1.2.2.1.2.1
  have c13 : M 49 13 = nI (cF M) := hI.1.2.1.2.2.trans hI.1.2.1.1
  unfold wX11_regulars
  refine ⟨7, lq2_ind (fun d x y M' => d ≤ 6 ∧ x = nI (rgc M p T (6 - d)) ∧ y = nI (6 - d) ∧ Fq M M' ∧ (∀ r, r ≠ 49 → r ≠ 221 → r ≠ 223 → M' r = Mx r)) ?_ ?_ 6 0 0 Mx ⟨by omega, rfl, rfl, fq, fun _ _ _ _ => rfl⟩⟩
  · rintro R x y M' ⟨-, rfl, rfl, g1, g2⟩
    exact ⟨fun _ => hQ M' g1 g2, fun z => absurd (by decide) z⟩
  · rintro d R x y M' ⟨hd, rfl, rfl, g1, g2⟩ hR
    obtain ⟨m, hm⟩ : ∃ m, m = 6 - (d + 1) := ⟨_, rfl⟩
    rw [← hm]
    have e1 : 6 - d = m + 1 := by omega
    have no : ∀ M2, Fq M M2 → (∀ r, r ≠ 49 → r ≠ 221 → r ≠ 223 → M2 r = Mx r) → ¬ rgP M p m T → R (nI (rgc M p T m)) (nI m + 1) M2 := fun M2 k1 k2 h => hR _ _ _ ⟨by omega, by rw [e1, rgc, if_neg h], by rw [nI_1, e1], k1, k2⟩
    refine ⟨fun z => absurd z (nI_ge (b := 6) (by omega) (by decide)), fun _ => m_saidAt (by rw [g1.2 13 (by decide) (by decide) (by decide)]; exact c13) hF40 ?_⟩
    rw [sdL_fr (g1.1 205 (by decide)) (g1.1 206 (by decide)), nI_clamp (n := m) (by omega), g1.1 210 (by decide)]
    rcases sayP_c (p := p) (m := m) hF40 with ⟨ns, w⟩ | ⟨s, f, hf, w, t⟩
    · rw [w]
      exact ⟨fun _ => no M' g1 g2 (fun h => ns h.1), fun z => absurd rfl z⟩
    · rw [w]
      refine ⟨fun z => absurd z (n9 (by omega)), fun _ => ⟨vp_in_nI (by omega) (by decide), ?_⟩⟩
      rcases hI.2.2.2.2.2.2.1.rl (show m < 6 by omega) with ⟨nr, nr2⟩ | ⟨hr, hr2, ok, -, e210, e211⟩
      · exact ⟨fun z => absurd nr2 z, fun _ => no M' g1 g2 (fun h => nr h.2.1)⟩
      · refine ⟨fun _ => m_takeRoot (A := (rowL M (90 + m)).length) (by omega) (by rw [g1.1 210 (by decide)]; exact e210) ok.1 (fun M1 b1 b2 b3 b4 => ?_), fun z => absurd z hr2⟩
        have f1 : Fq M M1 := g1.dm (fun r w1 w2 w3 => b1 r w1 w2) b2
        have k1 : ∀ r, r ≠ 49 → r ≠ 221 → r ≠ 223 → M1 r = Mx r := fun r w1 w2 w3 => by rw [b1 r w1 w2, g2 r w1 w2 w3]
        have r1 : rwM M1 (rowL M (90 + m)) := ⟨b3, fun k hk => by rw [b4 k hk, g1.1 211 (by decide)]; exact e211 k hk⟩
        obtain ⟨n, hn⟩ : ∃ n, n = T.length := ⟨_, rfl⟩
        rw [← hn]
        refine ⟨n + 1, lq1_ind (fun d y M' => d ≤ n ∧ y = nI (n - d) ∧ Fq M M' ∧ (∀ r, r ≠ 49 → r ≠ 221 → r ≠ 223 → M' r = Mx r) ∧ rwM M' (dvK M T (rowL M (90 + m)) (n - d))) ?_ ?_ n 0 M1 ⟨Nat.le_refl _, by rw [Nat.sub_self]; rfl, f1, k1, by rw [Nat.sub_self]; exact r1⟩⟩
        · rintro R2 y M2 ⟨-, rfl, f2, k2, r2⟩
          rw [Nat.sub_zero, hn] at r2
          rw [Nat.sub_zero]
          refine ⟨fun _ => m_isForms hI hf r2 (dvK_ok hI hT ok _ (Nat.le_refl _)) (f2.1 207 (by decide)) (f2.1 208 (by decide)) ?_, fun z => absurd (Int32.le_refl _) z⟩
          rw [bI_0]
          refine ⟨fun z => ?_, fun z => hR _ _ _ ⟨by omega, ?_, by rw [nI_1, e1], f2, k2⟩⟩
          · rw [Int32.add_zero]
            exact no M2 f2 k2 (fun h => z (by rw [← t]; exact h.2.2))
          · rw [e1, rgc, if_pos ⟨s, hr, by rw [t]; exact Classical.not_not.mp z⟩, nI_1]
        · rintro d2 R2 y M2 ⟨hd2, rfl, f2, k2, r2⟩ hR2
          obtain ⟨k, hk⟩ : ∃ k, k = n - (d2 + 1) := ⟨_, rfl⟩
          rw [← hk] at r2 ⊢
          have e2 : n - d2 = k + 1 := by omega
          have tk := hT k (by omega)
          rw [nI_clamp (n := k) (by omega), k2 232 (by decide) (by decide) (by decide), r8 k (by omega)]
          exact ⟨fun z => absurd z (nI_ge (by omega) (by omega)), fun _ => ⟨vp_in_nI (by omega) (by decide), m_doLaw hI tk (dvK_ok hI hT ok k (by omega)) r2 (fun r h => f2.1 r (n2M r (by omega) (by omega))) (fun M3 c1 c2 c3 => hR2 _ _ ⟨by omega, by rw [nI_1, e2], f2.dm c1 c2, fun r w1 w2 w3 => by rw [c1 r w1 w2 w3, k2 r w1 w2 w3], by rw [e2, dvK]; exact c3⟩)⟩⟩
