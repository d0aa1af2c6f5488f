theorem e_areTaken {b n : Nat} {M : Mem} {Q : Int32 → Mem → Prop} (hb : b < 2 ^ 31) (hn : n ≤ 60) (hQ : Q (bI (∀ k, k < n → vp_in (M 18 k) b)) M) : wX10_areTakenBelow (nI b) (nI n) M Q := by
  refine ⟨n + 1, lq1_ind (fun d x M' => M' = M ∧ d ≤ n ∧ x = nI (n - d) ∧ ∀ k, k < n - d → vp_in (M 18 k) b) ?_ ?_ n 0 M ⟨rfl, Nat.le_refl _, by rw [Nat.sub_self, nI_0], fun k hk => by omega⟩⟩
  · rintro R x M' ⟨rfl, -, rfl, hk⟩
    rw [Nat.sub_zero] at hk ⊢
    rw [bI_t hk] at hQ
    exact ⟨fun _ => hQ, fun q => absurd (Int32.le_refl _) q⟩
  · rintro d R x M' ⟨rfl, hd, rfl, hk⟩ hR
    obtain ⟨k, hk0⟩ : ∃ k, k = n - (d + 1) := ⟨_, rfl⟩
    rw [← hk0] at hk ⊢
    refine ⟨fun q => absurd q (nI_ge (by omega) (by omega)), fun _ => ⟨vp_in_nI (by omega) (by decide), ?_⟩⟩
    rw [nI_clamp (by omega), vp_below rfl hb]
    by_cases hc : vp_in (M' 18 k) b
    · simp only [bI_t hc, i10, i01, bI_0, bI_1, isB_bI, Classical.not_not, not_false_eq_true, not_true_eq_false, true_implies, false_implies, and_true, true_and, and_self, forall_eq, ne_eq]
      refine hR _ _ ⟨rfl, by omega, by rw [nI_1]; congr 1; omega, fun j hj => ?_⟩
      by_cases e : j = k
      · rw [e]; exact hc
      · exact hk j (by omega)
    · simp only [bI_f hc, i10, i01, bI_0, bI_1, isB_bI, Classical.not_not, not_false_eq_true, not_true_eq_false, true_implies, false_implies, and_true, true_and, and_self, forall_eq, ne_eq]
      rw [bI_f (fun h => hc (h k (by omega)))] at hQ
      exact hQ
theorem m_areCells {fr n : Nat} {lo hi : Int32} {M : Mem} {Q : Int32 → Mem → Prop} (hf : fr + n ≤ 240) (hQ : Q (bI (∀ k, k < n → ¬ M 194 (fr + k) < lo ∧ ¬ hi < M 194 (fr + k))) M) : wX11_areCells (nI fr) (nI n) lo hi M Q := by
  refine ⟨n + 1, lq1_ind (fun d x M' => M' = M ∧ d ≤ n ∧ x = nI (n - d) ∧ ∀ k, k < n - d → ¬ M 194 (fr + k) < lo ∧ ¬ hi < M 194 (fr + k)) ?_ ?_ n 0 M ⟨rfl, Nat.le_refl _, by rw [Nat.sub_self, nI_0], fun k hk => by omega⟩⟩
  · rintro R x M' ⟨rfl, -, rfl, hk⟩
    rw [Nat.sub_zero] at hk ⊢
    rw [bI_t hk] at hQ
    exact ⟨fun _ => hQ, fun q => absurd (Int32.le_refl _) q⟩
  · rintro d R x M' ⟨rfl, hd, rfl, hk⟩ hR
    obtain ⟨k, hk0⟩ : ∃ k, k = n - (d + 1) := ⟨_, rfl⟩
    rw [← hk0] at hk ⊢
    rw [nI_add]
    refine ⟨fun q => absurd q (nI_ge (by omega) (by omega)), fun _ => ⟨vp_in_nI (by omega) (by decide), ?_⟩⟩
    rw [nI_clamp (by omega), e_within]
    by_cases hc : ¬ M' 194 (fr + k) < lo ∧ ¬ hi < M' 194 (fr + k)
    · simp only [bI_t hc, i10, i01, bI_0, bI_1, isB_bI, Classical.not_not, not_false_eq_true, not_true_eq_false, true_implies, false_implies, and_true, true_and, and_self, forall_eq, ne_eq]
      refine hR _ _ ⟨rfl, by omega, by rw [nI_1]; congr 1; omega, fun j hj => ?_⟩
      by_cases e : j = k
      · rw [e]; exact hc
      · exact hk j (by omega)
    · simp only [bI_f hc, i10, i01, bI_0, bI_1, isB_bI, Classical.not_not, not_false_eq_true, not_true_eq_false, true_implies, false_implies, and_true, true_and, and_self, forall_eq, ne_eq]
      rw [bI_f (fun h => hc (h k (by omega)))] at hQ
      exact hQ
theorem ftv_cases (M : Mem) (s : Nat) (lane i n : Int32) : ftv M s lane i n = 0 ∨ ftv M s lane i n = 1 ∨ ftv M s lane i n = 2 ∨ ftv M s lane i n = 3 ∨ ftv M s lane i n = 4 := by
  unfold ftv
  split
  · exact Or.inr (Or.inl rfl)
  · split
    · exact Or.inr (Or.inr (Or.inl rfl))
    · split
      · exact Or.inr (Or.inr (Or.inr (Or.inr rfl)))
      · split
        · exact Or.inr (Or.inr (Or.inr (Or.inl rfl)))
        · exact Or.inl rfl
theorem ftv_ne {M : Mem} {s : Nat} {lane i n : Int32} (h : ¬ ftv M s lane i n = 0) : ¬ (-10) - ftv M s lane i n = 0 := by
  rcases ftv_cases M s lane i n with q | q | q | q | q
  · exact absurd q h
  all_goals rw [q]; decide
/-- takeSounds: a fault, or too many, or no sound, or all of them taken -/
theorem e_takeS {M Mx : Mem} (h8 : I8 M) {s : Nat} (hs : s < 4) {lane i n : Int32} {Q : Int32 → Mem → Prop} (r1 : Mx (41 + s) = M (41 + s)) (r2 : Mx (41 + s + 4) = M (41 + s + 4))
    (hQ1 : ¬ ftv M s lane i n = 0 → Q ((-10) - ftv M s lane i n) (mset Mx 0 19 (ftv M s lane i n)))
    (hQ0 : ftv M s lane i n = 0 → ∀ ni nn : Nat, i = nI ni → n = nI nn → ni + nn ≤ 60 → ∀ M', (∀ a, a ≠ 18 → M' a = Mx a) → (∀ k, k < nn → M' 18 k = M 194 (60 * s + ni + k)) →
      (¬ nn ≤ 8 → Q (-2) M') ∧ (nn ≤ 8 → (¬ (∀ k, k < nn → vp_in (M 194 (60 * s + ni + k)) 16) → Q (-1) M') ∧ ((∀ k, k < nn → vp_in (M 194 (60 * s + ni + k)) 16) → Q 0 M'))) : wX10_takeSounds (nI s) lane i n Mx Q := by
  unfold wX10_takeSounds
  refine e_take h8 hs r1 (fun q => ?_) (fun q ni nn e1 e2 e3 M' f1 f2 => ?_)
  · have := ftv_ne q
    simp only [this, i10, i01, bI_0, bI_1, isB_bI, Classical.not_not, not_false_eq_true, not_true_eq_false, true_implies, false_implies, and_true, true_and, and_self, forall_eq, ne_eq]
    exact hQ1 q
  · have f3 : ∀ k, k < nn → M' 18 k = M 194 (60 * s + ni + k) := fun k hk => by
      rw [f2 k hk, r2, ← (h8 s hs).2 (ni + k) (by omega)]
      congr 1
      omega
    obtain ⟨g1, g2⟩ := hQ0 q ni nn e1 e2 e3 M' f1 f3
    subst e2
    simp only [i10, i01, bI_0, bI_1, isB_bI, Classical.not_not, not_false_eq_true, not_true_eq_false, true_implies, false_implies, and_true, true_and, and_self, forall_eq, ne_eq]
    refine ⟨fun q => ?_, fun q => ?_⟩
    · have hnn : nn ≤ 8 := by
        rcases Nat.lt_or_ge 8 nn with z | z
        · exact absurd q (nI_ge (a := 8) z (by omega))
        · exact z
      obtain ⟨g3, g4⟩ := g2 hnn
      have ea : (∀ k, k < nn → vp_in (M' 18 k) 16) = ∀ k, k < nn → vp_in (M 194 (60 * s + ni + k)) 16 := by
        apply propext
        exact ⟨fun h k hk => by rw [← f3 k hk]; exact h k hk, fun h k hk => by rw [f3 k hk]; exact h k hk⟩
      refine e_areTaken (b := 16) (by decide) (by omega) ?_
      rw [ea]
      simp only [i10, i01, bI_0, bI_1, isB_bI, Classical.not_not, not_false_eq_true, not_true_eq_false, true_implies, false_implies, and_true, true_and, and_self, forall_eq, ne_eq]
      exact ⟨g3, g4⟩
    · refine g1 (fun z => q (nI_le z (by decide)))
theorem e_add {r n : Nat} {v : Int32} {M : Mem} {Q : Mem → Prop} (hr : 50 ≤ r ∧ r < 100) (hn : M r 1 = nI n) (h8 : n < 8) (hQ : ∀ M', (∀ a, a ≠ r → a ≠ r + 50 → M' a = M a) → M' r 1 = nI (n + 1) → M' (r + 50) n = v → (∀ k, k ≠ n → M' (r + 50) k = M (r + 50) k) → Q M') : wX7_add r v M Q := by
  unfold wX7_add
  rw [hn]
  refine ⟨hr, fun q => absurd q (nI_ge (b := 8) h8 (by decide)), fun _ => ⟨vp_in_nI h8 (by decide), fun N1 e1 N2 e2 => ?_⟩⟩
  rw [nI_clamp (by omega)] at e1
  subst e1; subst e2
  refine hQ _ (fun a g1 g2 => by rw [mset_row g1, mset_row g2]) ?_ ?_ (fun k hk => ?_)
  · rw [mset_eq, mset_row (by omega), hn, nI_1]
  · rw [mset_row (by omega), mset_eq]
  · rw [mset_row (by omega), mset_ne (by omega)]
theorem e_cells {r n : Nat} {M : Mem} {Q : Mem → Prop} (hr : 50 ≤ r ∧ r < 100) (h8 : n ≤ 8) (hQ : ∀ M', (∀ a, a ≠ r → a ≠ r + 50 → M' a = M a) → M' r 1 = nI n → (∀ k, k < n → M' (r + 50) k = M 18 k) → Q M') : wX7_becomeCells r 18 (nI n) M Q := by
  unfold wX7_becomeCells wX7_clear
  refine ⟨hr, rfl, hr, fun M1 e1 => ⟨n + 1, lq1_ind (fun d x M' => d ≤ n ∧ x = nI (n - d) ∧ (∀ a, a ≠ r → a ≠ r + 50 → M' a = M a) ∧ M' r 1 = nI (n - d) ∧ ∀ k, k < n - d → M' (r + 50) k = M 18 k) ?_ ?_ n 0 M1 ⟨Nat.le_refl _, by rw [Nat.sub_self, nI_0], fun a g1 g2 => by rw [e1, mset_row g1], by rw [e1, mset_eq, Nat.sub_self, nI_0], fun k hk => by omega⟩⟩⟩
  · rintro R x M' ⟨-, rfl, f1, f2, f3⟩
    rw [Nat.sub_zero] at *
    exact ⟨fun _ => hQ M' f1 f2 f3, fun q => absurd (Int32.le_refl _) q⟩
  · rintro d R x M' ⟨hd, rfl, f1, f2, f3⟩ hR
    obtain ⟨k, hk0⟩ : ∃ k, k = n - (d + 1) := ⟨_, rfl⟩
    rw [← hk0] at f2 f3 ⊢
    refine ⟨fun q => absurd q (nI_ge (by omega) (by omega)), fun _ => ⟨vp_in_nI (show k < ln 18 by show k < 60; omega) (by decide), ?_⟩⟩
    rw [nI_clamp (by omega), f1 18 (by omega) (by omega)]
    refine e_add hr f2 (by omega) (fun M2 b1 b2 b3 b4 => hR _ _ ⟨by omega, by rw [nI_1]; congr 1; omega, fun a g1 g2 => by rw [b1 a g1 g2, f1 a g1 g2], by rw [b2]; congr 1; omega, fun j hj => ?_⟩)
    by_cases e : j = k
    · rw [e, b3]
    · rw [b4 j e]; exact f3 j (by omega)
theorem rb_or : ∀ v, v < 64 → ∀ m, m < 6 → nI v ||| ((1 : Int32) <<< (nI m &&& 31)) = nI (v ||| 2 ^ m) := by decide +kernel
