theorem bI_or0 {p : Prop} : bI p ||| 0 = bI p := by
  by_cases h : p
  · rw [bI_t h]; decide
  · rw [bI_f h]; decide
theorem bI_or1 {p : Prop} : bI p ||| 1 = 1 := by
  by_cases h : p
  · rw [bI_t h]; decide
  · rw [bI_f h]; decide
theorem m_doLaw {M Mx : Mem} (hI : Inv M) {l : Nat} {L : List Nat} {Q : Int32 → Mem → Prop} (hl : l < cL M) (hok : okL L) (hrw : rwM Mx L) (fr : ∀ r, r = 195 ∨ r = 196 ∨ (214 ≤ r ∧ r < 218) → Mx r = M r)
    (hQ : ∀ M', (∀ r, r ≠ 49 → r ≠ 221 → r ≠ 223 → M' r = Mx r) → (∀ k, k ≠ 32 → M' 49 k = Mx 49 k) → rwM M' (ldo M l L L.length) → Q (bI (lch M l L L.length)) M') : wX11_doLaw (nI l) Mx Q := by
  have hl8 := hI.1.2.2.1.2.1
  obtain ⟨h8, h16⟩ := hok
  obtain ⟨n, hn⟩ : ∃ n, n = L.length := ⟨_, rfl⟩
  rw [← hn] at h8 h16 hQ
  obtain ⟨-, -, tr, rr, sl, sr⟩ := hI.2.2.2.2.2.2.2.1 l hl
  unfold wX11_doLaw
  rw [hrw.1, ← hn]
  refine ⟨n + 1, lq1_ind (fun d x M' => d ≤ n ∧ x = nI (n - d) ∧ (∀ r, r ≠ 223 → M' r = Mx r) ∧ ∀ k, k < n - d → M' 223 k = nI (L.getD k 0)) ?_ ?_ n 0 Mx ⟨Nat.le_refl _, by rw [Nat.sub_self, nI_0], fun _ _ => rfl, fun k hk => by omega⟩⟩
  · rintro R0 x M1 ⟨-, rfl, b1, b2⟩
    rw [Nat.sub_zero] at b2 ⊢
    refine ⟨fun _ N hN => ?_, fun z => absurd (Int32.le_refl _) z⟩
    subst hN
    clear R0
    refine ⟨n + 1, lq2_ind (fun d x y M' => d ≤ n ∧ x = bI (lch M l L (n - d)) ∧ y = nI (n - d) ∧ (∀ r, r ≠ 49 → r ≠ 221 → M' r = M1 r) ∧ (∀ k, k ≠ 32 → M' 49 k = M1 49 k) ∧ rwM M' (ldo M l L (n - d))) ?_ ?_ n 0 0 _ ⟨Nat.le_refl _, ?_, by rw [Nat.sub_self]; rfl, fun r w1 w2 => by rw [mset_row w1], fun k hk => by rw [mset_ne (by omega)], ?_⟩⟩
    · rintro R x y M2 ⟨-, rfl, rfl, g1, g3, g2⟩
      rw [Nat.sub_zero] at g2 ⊢
      refine ⟨fun _ => ⟨by rw [isB_bI]; trivial, hQ M2 (fun r w1 w2 w3 => by rw [g1 r w1 w2, b1 r w3]) (fun k hk => by rw [g3 k hk, b1 49 (by decide)]) g2⟩, fun z => absurd (Int32.le_refl _) z⟩
    · rintro d R x y M2 ⟨hd, rfl, rfl, g1, g3, g2⟩ hR
      obtain ⟨k, hk⟩ : ∃ k, k = n - (d + 1) := ⟨_, rfl⟩
      rw [← hk] at g2 ⊢
      have hln := (ldo_ok hI hl (⟨hn ▸ h8, hn ▸ h16⟩ : okL L) k (by omega)).1
      have ck : (nI k).toNatClampNeg = k := nI_clamp (by omega)
      have cl : (nI l).toNatClampNeg = l := nI_clamp (by omega)
      have rM : ∀ r, r = 195 ∨ r = 196 ∨ (214 ≤ r ∧ r < 218) → M2 r = M r := fun r h => by rw [g1 r (by omega) (by omega), b1 r (by omega), fr r h]
      have c223 : ∀ j, j < n → M2 223 j = nI (L.getD j 0) := fun j hj => by rw [g1 223 (by decide) (by decide)]; exact b2 j hj
      have e1 : n - d = k + 1 := by omega
      have go : ∀ (v : Int32) M3, v = bI (lch M l L (k + 1)) → (∀ r, r ≠ 49 → r ≠ 221 → M3 r = M1 r) → (∀ j, j ≠ 32 → M3 49 j = M1 49 j) → rwM M3 (ldo M l L (k + 1)) → R v (nI k + 1) M3 := fun v M3 f0 f1 f2 f3 => hR _ _ _ ⟨by omega, by rw [e1, f0], by rw [nI_1, e1], f1, f2, by rw [e1]; exact f3⟩
      simp only [ck, cl, c223 k (by omega), rM 214 (by omega), rM 215 (by omega), rM 216 (by omega), rM 217 (by omega)]
      refine ⟨fun q => absurd q (nI_ge (by omega) (by omega)), fun _ => ⟨vp_in_nI (by omega) (by decide), vp_in_nI (by omega) (by decide), m_isOf hI.2.1 (h16 k (by omega)) tr (rM 195 (by omega)) (rM 196 (by omega)) ?_⟩⟩
      have wr : ∀ (b : Int32) (s : Nat), b = nI s → ldo M l L (k + 1) = ldo M l L k ++ [s] → (lch M l L (k + 1) ↔ lch M l L k ∨ ¬ b = nI (L.getD k 0)) → vp_in (M2 49 32) 8 ∧ ∀ N190, N190 = mset M2 221 (M2 49 32).toNatClampNeg b → vp_in (N190 49 32) 8 ∧ (N190 221 (N190 49 32).toNatClampNeg = N190 223 k → ∀ N225, N225 = mset N190 49 32 (N190 49 32 + 1) → R (bI (lch M l L k) ||| 0) (nI k + 1) N225) ∧ (¬ N190 221 (N190 49 32).toNatClampNeg = N190 223 k → ∀ N225, N225 = mset N190 49 32 (N190 49 32 + 1) → R (bI (lch M l L k) ||| 1) (nI k + 1) N225) := fun b s hb hl1 hl2 => by
        rw [g2.1]
        refine ⟨vp_in_nI (by omega) (by decide), fun N hN => ?_⟩
        subst hN
        rw [nI_clamp (by omega), mset_row (i := 221) (a := 49) (by decide), mset_row (i := 221) (a := 223) (by decide), g2.1, nI_clamp (by omega), mset_eq, c223 k (by omega), nI_1, bI_or0, bI_or1]
        have fin : ∀ v N, v = bI (lch M l L (k + 1)) → N = mset (mset M2 221 (ldo M l L k).length b) 49 32 (nI ((ldo M l L k).length + 1)) → R v (nI k + 1) N := fun v N hv hN => go v N hv (fun r w1 w2 => by rw [hN, mset_row w1, mset_row w2, g1 r w1 w2]) (fun j hj => by rw [hN, mset_ne (by omega), mset_row (by decide), g3 j hj]) (by
          rw [hl1]
          refine ⟨by rw [hN, mset_eq, ln_a], fun j hj => ?_⟩
          rw [ln_a] at hj
          rw [hN, mset_row (by decide)]
          by_cases w : j = (ldo M l L k).length
          · rw [w, mset_eq, gd_r, hb]
          · rw [mset_ne (by omega), g2.2 j (by omega), gd_l (by omega)])
        refine ⟨vp_in_nI (by omega) (by decide), fun z N hN => fin _ N ?_ hN, fun z N hN => fin _ N ?_ hN⟩
        · congr 1
          exact propext ⟨fun h => hl2.mpr (Or.inl h), fun h => (hl2.mp h).elim id (fun y => absurd z y)⟩
        · rw [bI_t (hl2.mpr (Or.inr z))]
      refine jn1_i (fun y M' => M' = M2 ∧ y = bI (mtP M l L k)) ?_ ?_
      · rintro y _ ⟨rfl, rfl⟩
        simp only [jn0, jn1, jn2, jn3, ck, cl, c223 k (by omega), rM 215 (by omega)]
        by_cases hm : mtP M l L k
        · rw [bI_t hm]
          refine ⟨fun z => absurd z (by decide), fun _ => ?_⟩
          rcases rr with ⟨s, hs, e, e'⟩ | ⟨e, e'⟩
          · rw [e']
            refine ⟨fun _ => ⟨fun z => absurd z (by decide), fun _ => wr _ s rfl ?_ ?_⟩, fun z => ?_⟩
            · rw [ldo, if_pos hm, if_neg (by rw [e]; exact n2 hs), e, nI_clamp (by omega)]
            · rw [lch, e]
              exact ⟨fun h => h.elim Or.inl (fun y => Or.inr y.2), fun h => h.elim Or.inl (fun y => Or.inr ⟨hm, y⟩)⟩
            · have := (nI_eq (b := 42) (by omega) (by decide)).mp z
              omega
          · rw [e']
            refine ⟨fun z => absurd rfl z, fun _ => go _ _ ?_ g1 g3 ?_⟩
            · rw [bI_t]
              rw [lch]
              exact Or.inr ⟨hm, by rw [e]; exact fun q => n2 (h16 k (by omega)) q.symm⟩
            · rw [ldo, if_pos hm, if_pos e]
              exact g2
        · rw [bI_f hm]
          refine ⟨fun _ => ⟨fun _ => wr _ _ rfl ?_ ?_, fun z => absurd rfl z⟩, fun z => absurd rfl z⟩
          · rw [ldo, if_neg hm]
          · rw [lch]
            exact ⟨fun h => h.elim Or.inl (fun y => absurd y.1 hm), fun h => h.elim Or.inl (fun y => absurd rfl y)⟩
      · intro J hJ
        by_cases h1 : pmS M (M (32 + l) 1) (L.getD k 0)
        · rw [bI_t h1]
          refine ⟨fun z => absurd z (by decide), fun _ => ?_⟩
          simp only [jn1, ck, cl, rM 216 (by omega), rM 217 (by omega)]
          have right : ((¬ nI k = nI n - 1 → vp_in (nI k + 1) 8 ∧ wX11_holds (M2 223 (nI k + 1).toNatClampNeg) (M 217 l) M2 (fun v127 M127 => ((v127 = 0 → J 0 M127) ∧ (¬ v127 = 0 → J (bI (pmS M (M (32 + l) 1) (L.getD k 0) ∧ pmO M (M (32 + l) 3) (pvO L k))) M127)))) ∧ (nI k = nI n - 1 → wX11_holds (-9) (M 217 l) M2 (fun v127 M127 => ((v127 = 0 → J 0 M127) ∧ (¬ v127 = 0 → J (bI (pmS M (M (32 + l) 1) (L.getD k 0) ∧ pmO M (M (32 + l) 3) (pvO L k))) M127))))) := by
            have fin : ∀ p, (p ↔ pmO M (M (32 + l) 4) (nxO L k)) → (bI p = 0 → J 0 M2) ∧ (¬ bI p = 0 → J (bI (pmS M (M (32 + l) 1) (L.getD k 0) ∧ pmO M (M (32 + l) 3) (pvO L k))) M2) := fun p hp => by
              rw [bI_0]
              refine ⟨fun z => hJ _ _ ⟨rfl, by rw [bI_f (fun h => z (hp.mpr h.2.2))]⟩, fun z => hJ _ _ ⟨rfl, ?_⟩⟩
              congr 1
              exact propext ⟨fun h => ⟨h.1, h.2, hp.mp (Classical.not_not.mp z)⟩, fun h => ⟨h.1, h.2.1⟩⟩
            rw [show nI n - 1 = nI (n - 1) by rw [show (1 : Int32) = nI 1 by decide, pk_sub (by omega)], nI_eq (by omega) (by omega), nI_1]
            refine ⟨fun z => ⟨vp_in_nI (by omega) (by decide), ?_⟩, fun z => m_holdsN sr (fin _ ?_)⟩
            · rw [nI_clamp (by omega), c223 _ (by omega)]
              refine m_holdsS hI.2.1 (h16 _ (by omega)) sr (rM 195 (by omega)) (rM 196 (by omega)) (fin _ ?_)
              rw [nxO, if_pos (by omega)]
              exact Iff.rfl
            · rw [nxO, if_neg (by omega)]
              exact Iff.rfl
          have fin : ∀ p, (p ↔ pmO M (M (32 + l) 3) (pvO L k)) → (bI p = 0 → J 0 M2) ∧ (¬ bI p = 0 → ((¬ nI k = nI n - 1 → vp_in (nI k + 1) 8 ∧ wX11_holds (M2 223 (nI k + 1).toNatClampNeg) (M 217 l) M2 (fun v127 M127 => ((v127 = 0 → J 0 M127) ∧ (¬ v127 = 0 → J 1 M127)))) ∧ (nI k = nI n - 1 → wX11_holds (-9) (M 217 l) M2 (fun v127 M127 => ((v127 = 0 → J 0 M127) ∧ (¬ v127 = 0 → J 1 M127)))))) := fun p hp => by
            rw [bI_0]
            refine ⟨fun z => hJ _ _ ⟨rfl, by rw [bI_f (fun h => z (hp.mpr h.2.1))]⟩, fun z => ?_⟩
            rw [bI_t ⟨h1, hp.mp (Classical.not_not.mp z)⟩] at right
            exact right
          refine ⟨fun z => ?_, fun z => ?_⟩
          · have hk0 : ¬ k = 0 := fun h => z (by rw [h]; rfl)
            rw [show nI k - 1 = nI (k - 1) by rw [show (1 : Int32) = nI 1 by decide, pk_sub (by omega)], nI_clamp (by omega), c223 _ (by omega)]
            refine ⟨vp_in_nI (by omega) (by decide), m_holdsS hI.2.1 (h16 _ (by omega)) sl (rM 195 (by omega)) (rM 196 (by omega)) (by rw [rM 217 (by omega)]; exact fin _ (by rw [pvO, if_neg hk0]; exact Iff.rfl))⟩
          · have hk0 : k = 0 := (nI_eq (b := 0) (by omega) (by decide)).mp z
            exact m_holdsN sl (by rw [rM 217 (by omega)]; exact fin _ (by rw [pvO, if_pos hk0]; exact Iff.rfl))
        · rw [bI_f h1]
          exact ⟨fun _ => hJ _ _ ⟨rfl, by rw [bI_f (fun h => h1 h.1)]⟩, fun z => absurd rfl z⟩
    · rw [Nat.sub_self, lch, bI_f (fun h => h)]
    · rw [Nat.sub_self]
      exact ⟨mset_eq, fun k hk => absurd hk (Nat.not_lt_zero _)⟩
  · rintro d R x M2 ⟨hd, rfl, g3, g4⟩ hR
    obtain ⟨k, hk0⟩ : ∃ k, k = n - (d + 1) := ⟨_, rfl⟩
    rw [← hk0] at g4 ⊢
    rw [nI_clamp (n := k) (by omega)]
    refine ⟨fun q => absurd q (nI_ge (by omega) (by omega)), fun _ => ⟨vp_in_nI (by omega) (by decide), fun N hN => hR _ _ ⟨by omega, by rw [nI_1]; congr 1; omega, fun r hr => by rw [hN, mset_row hr, g3 r hr], fun j hj => ?_⟩⟩⟩
    by_cases w : j = k
    · rw [hN, w, mset_eq, g3 221 (by decide)]
      exact hrw.2 k (by omega)
    · rw [hN, mset_ne (by omega)]; exact g4 j (by omega)
