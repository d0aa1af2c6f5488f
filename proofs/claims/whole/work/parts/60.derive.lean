/-! deriving: the root's sounds taken -/
theorem m_takeRoot {Mx : Mem} {m A : Nat} {Q : Mem → Prop} (hm : m < 6) (hA : Mx 210 m = nI A) (hA8 : A ≤ 8)
    (hQ : ∀ M', (∀ r, r ≠ 49 → r ≠ 221 → M' r = Mx r) → (∀ k, k ≠ 32 → M' 49 k = Mx 49 k) → M' 49 32 = nI A → (∀ k, k < A → M' 221 k = Mx 211 (8 * m + k)) → Q M') : wX11_takeRoot (nI m) Mx Q := by
  unfold wX11_takeRoot
  refine ⟨vp_in_nI hm (by decide), fun N hN => ?_⟩
  subst hN
  rw [nI_clamp (by omega), hA]
  refine ⟨A + 1, lq1_ind (fun d x M' => d ≤ A ∧ x = nI (A - d) ∧ (∀ r, r ≠ 221 → M' r = mset Mx 49 32 (nI A) r) ∧ ∀ k, k < A - d → M' 221 k = Mx 211 (8 * m + k)) ?_ ?_ A 0 _ ⟨Nat.le_refl _, by rw [Nat.sub_self, nI_0], fun _ _ => rfl, fun k hk => by omega⟩⟩
  · rintro R x M' ⟨-, rfl, g1, g2⟩
    rw [Nat.sub_zero] at g2 ⊢
    rw [g1 49 (by decide), mset_eq]
    exact ⟨fun _ => hQ M' (fun r w1 w2 => by rw [g1 r w2, mset_row w1]) (fun k hk => by rw [g1 49 (by decide), mset_ne (by omega)]) (by rw [g1 49 (by decide), mset_eq]) g2, fun q => absurd (Int32.le_refl _) q⟩
  · rintro d R x M2 ⟨hd, rfl, g3, g4⟩ hR
    obtain ⟨k, hk0⟩ : ∃ k, k = A - (d + 1) := ⟨_, rfl⟩
    rw [← hk0] at g4 ⊢
    have i2 : (8 : Int32) * nI m + nI k = nI (8 * m + k) := by rw [show (8 : Int32) = nI 8 by decide, pk_mul, nI_add]
    rw [i2, g3 49 (by decide), mset_eq, nI_clamp (n := k) (by omega), nI_clamp (n := 8 * m + k) (by omega), g3 211 (by decide), mset_row (by decide)]
    refine ⟨fun q => absurd q (nI_ge (by omega) (by omega)), fun _ => ⟨vp_in_nI (by omega) (by decide), vp_in_nI (by omega) (by decide), fun N hN => hR _ _ ⟨by omega, by rw [nI_1]; congr 1; omega, fun r hr => by rw [hN, mset_row hr, g3 r hr], fun j hj => ?_⟩⟩⟩
    by_cases w : j = k
    · rw [hN, w, mset_eq]
    · rw [hN, mset_ne (by omega)]; exact g4 j (by omega)
