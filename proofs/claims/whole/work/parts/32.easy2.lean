theorem lq1_ind {A : Type} {F : (A → Mem → Prop) → A → Mem → Prop} (I : Nat → A → Mem → Prop) (h0 : ∀ R x M, I 0 x M → F R x M) (hs : ∀ d R x M, I (d + 1) x M → (∀ x' M', I d x' M' → R x' M') → F R x M) : ∀ d x M, I d x M → lq1 F (d + 1) x M := by
  intro d
  induction d with
  | zero => intro x M h; exact h0 _ x M h
  | succ d ih => intro x M h; exact hs d _ x M h ih
theorem lq2_ind {A B : Type} {F : (A → B → Mem → Prop) → A → B → Mem → Prop} (I : Nat → A → B → Mem → Prop) (h0 : ∀ R x y M, I 0 x y M → F R x y M) (hs : ∀ d R x y M, I (d + 1) x y M → (∀ x' y' M', I d x' y' M' → R x' y' M') → F R x y M) : ∀ d x y M, I d x y M → lq2 F (d + 1) x y M := by
  intro d
  induction d with
  | zero => intro x y M h; exact h0 _ x y M h
  | succ d ih => intro x y M h; exact hs d _ x y M h ih
theorem lq3_ind {A B D : Type} {F : (A → B → D → Mem → Prop) → A → B → D → Mem → Prop} (I : Nat → A → B → D → Mem → Prop) (h0 : ∀ R x y z M, I 0 x y z M → F R x y z M) (hs : ∀ d R x y z M, I (d + 1) x y z M → (∀ x' y' z' M', I d x' y' z' M' → R x' y' z' M') → F R x y z M) : ∀ d x y z M, I d x y z M → lq3 F (d + 1) x y z M := by
  intro d
  induction d with
  | zero => intro x y z M h; exact h0 _ x y z M h
  | succ d ih => intro x y z M h; exact hs d _ x y z M h ih
theorem fr150 (n : Nat) : 150 + n - 100 = 50 + n := by omega
theorem fr50 (n : Nat) : 50 + n + 50 = 100 + n := by omega
theorem fr90 (n : Nat) : 90 + n + 50 = 140 + n := by omega
theorem vp_nI {a : Int32} {n : Nat} (h : vp_in a n) (hn : n < 2 ^ 31) : ∃ k, k < n ∧ a = nI k ∧ a.toNatClampNeg = k := by
  obtain ⟨j, h1, h2⟩ := vp_in_of h hn
  exact ⟨j, h1, h2, by rw [h2, nI_clamp (by omega)]⟩
theorem m_saidAt {M : Mem} {Q : Int32 → Mem → Prop} {F p m : Nat} (h : M 49 13 = nI F) (hF : F ≤ 40) (hQ : Q (sdL M F p m) M) : wX11_saidAt (nI p) (nI m) M Q := by
  refine ⟨F + 1, lq2_ind (fun d x y M' => M' = M ∧ d ≤ F ∧ y = nI (F - d) ∧ x = sdL M (F - d) p m) ?_ ?_ F (-9) 0 M ⟨rfl, Nat.le_refl _, by rw [Nat.sub_self, nI_0], by rw [Nat.sub_self]; rfl⟩⟩
  · rintro R x y M' ⟨rfl, -, hy, hx⟩
    rw [Nat.sub_zero] at hx hy
    rw [hx, hy, h]
    exact ⟨fun _ => hQ, fun q => absurd (Int32.le_refl _) q⟩
  · rintro d R x y M' ⟨rfl, hd, hy, hx⟩ hR
    have hlt : F - (d + 1) < F := by omega
    rw [hx, hy, h]
    refine ⟨fun q => absurd q (nI_ge hlt (by omega)), fun _ => ⟨vp_in_nI (by omega) (by decide), ?_⟩⟩
    rw [nI_clamp (by omega)]
    have e : F - d = F - (d + 1) + 1 := by omega
    have e2 : sdL M' (F - d) p m = if M' 205 (F - (d + 1)) = nI p ∧ M' 206 (F - (d + 1)) = nI m then nI (F - (d + 1)) else sdL M' (F - (d + 1)) p m := by rw [e]; rfl
    have e3 : nI (F - (d + 1)) + 1 = nI (F - d) := by rw [nI_1, e]
    rw [e3]
    refine ⟨fun q => hR _ _ _ ⟨rfl, by omega, rfl, by rw [e2, if_neg (fun z => q z.1)]⟩, fun q => ⟨fun q2 => hR _ _ _ ⟨rfl, by omega, rfl, by rw [e2, if_neg (fun z => q2 z.2)]⟩, fun q2 => hR _ _ _ ⟨rfl, by omega, rfl, by rw [e2, if_pos ⟨q, q2⟩]⟩⟩⟩
theorem st_said {M : Mem} (hI : Inv M) (a1 a2 : Int32) : wX10_said a1 a2 M (fun r M1 => wX11_said a1 a2 M1 (fun r' M2 => r = r' ∧ Inv M2)) := by
  have h0 := hI.1
  by_cases h1 : vp_in a1 (cP M)
  · by_cases h2 : vp_in a2 6
    · obtain ⟨p, hp, ep, -⟩ := vp_nI h1 (by have := h0.1.2.1; omega)
      obtain ⟨m, hm, em, -⟩ := vp_nI h2 (by decide)
      have h8 := h0.1.2.1
      have e6 : nI p * 6 + nI m = nI (6 * p + m) := by rw [show (6 : Int32) = nI 6 by decide, pk_mul, nI_add, Nat.mul_comm]
      simp only [wX10_said, wX11_said, e_isPlace h0, m_isPlace h0, bI_t h1, bI_t h2, e_b16, e_b6, e_b4, e_b3, e_w2, e_isMeaning, e_isIn, e_m15, e_m5, e_m3, e_m2, e_m63, m_isMeaning, m_isSound, m_isSheet, m_isLane, m_isCollector, e_has, i10, i01, bI_0, bI_1, isB_bI, Classical.not_not, not_false_eq_true, not_true_eq_false, true_implies, false_implies, and_true, true_and, and_self, forall_eq, ne_eq]
      rw [ep, em, e6, nI_clamp (by omega)]
      refine ⟨vp_in_nI (by omega) (by decide), m_saidAt (h0.2.1.2.2.trans h0.2.1.1) h0.2.1.2.1 ⟨hI.2.2.2.2.2.1 p (by omega) m hm, hI⟩⟩
    · simp only [wX10_said, wX11_said, e_isPlace h0, m_isPlace h0, bI_t h1, bI_f h2, e_b16, e_b6, e_b4, e_b3, e_w2, e_isMeaning, e_isIn, e_m15, e_m5, e_m3, e_m2, e_m63, m_isMeaning, m_isSound, m_isSheet, m_isLane, m_isCollector, e_has, i10, i01, bI_0, bI_1, isB_bI, Classical.not_not, not_false_eq_true, not_true_eq_false, true_implies, false_implies, and_true, true_and, and_self, forall_eq, ne_eq]
      exact hI
  · simp only [wX10_said, wX11_said, e_isPlace h0, m_isPlace h0, bI_f h1, i10, i01, bI_0, bI_1, isB_bI, Classical.not_not, not_false_eq_true, not_true_eq_false, true_implies, false_implies, and_true, true_and, and_self, forall_eq, ne_eq]
    exact hI
theorem st_feature {M : Mem} (hI : Inv M) (a1 a2 : Int32) : wX10_feature a1 a2 M (fun r M1 => wX11_feature a1 a2 M1 (fun r' M2 => r = r' ∧ Inv M2)) := by
  by_cases h1 : vp_in a1 16
  · by_cases h2 : vp_in a2 6
    · obtain ⟨e1, e2, -⟩ := hI.2.1 _ (vp_lt h1)
      simp only [wX10_feature, wX11_feature, bI_t h1, bI_t h2, e_b16, e_b6, e_b4, e_b3, e_w2, e_isMeaning, e_isIn, e_m15, e_m5, e_m3, e_m2, e_m63, m_isMeaning, m_isSound, m_isSheet, m_isLane, m_isCollector, e_has, i10, i01, bI_0, bI_1, isB_bI, Classical.not_not, not_false_eq_true, not_true_eq_false, true_implies, false_implies, and_true, true_and, and_self, forall_eq, ne_eq, h1, e1, e2]
      by_cases g1 : hb (M 2 (Int32.toNatClampNeg a1)) a2
      · simp [g1, hI]
      · by_cases g2 : hb (M 3 (Int32.toNatClampNeg a1)) a2
        · simp [g1, g2, hI]
        · simp [g1, g2, hI]
    · simp only [wX10_feature, wX11_feature, bI_t h1, bI_f h2, e_b16, e_b6, e_b4, e_b3, e_w2, e_isMeaning, e_isIn, e_m15, e_m5, e_m3, e_m2, e_m63, m_isMeaning, m_isSound, m_isSheet, m_isLane, m_isCollector, e_has, i10, i01, bI_0, bI_1, isB_bI, Classical.not_not, not_false_eq_true, not_true_eq_false, true_implies, false_implies, and_true, true_and, and_self, forall_eq, ne_eq]
      exact hI
  · simp only [wX10_feature, wX11_feature, bI_f h1, e_b16, e_b6, e_b4, e_b3, e_w2, e_isMeaning, e_isIn, e_m15, e_m5, e_m3, e_m2, e_m63, m_isMeaning, m_isSound, m_isSheet, m_isLane, m_isCollector, e_has, i10, i01, bI_0, bI_1, isB_bI, Classical.not_not, not_false_eq_true, not_true_eq_false, true_implies, false_implies, and_true, true_and, and_self, forall_eq, ne_eq]
    exact hI
theorem st_tell {M : Mem} (hI : Inv M) (a1 : Int32) : wX10_tell a1 M (fun r M1 => wX11_tell a1 M1 (fun r' M2 => r = r' ∧ Inv M2)) := by
  have h0 := hI.1
  have c13 : M 49 13 = nI (cF M) := h0.2.1.2.2.trans h0.2.1.1
  have c40 := h0.2.1.2.1
  by_cases h : vp_in a1 (cF M)
  · obtain ⟨⟨hk, -⟩, -, -, n, -, hn1, hn2, -⟩ := hI.2.2.2.2.1 _ (vp_lt h)
    have h40 := vp_mono h c40
    have hlt := vp_lt h40
    obtain ⟨t, ht⟩ : ∃ t, t = Int32.toNatClampNeg a1 := ⟨_, rfl⟩
    rw [← ht] at hk hn1 hn2 hlt
    have r0 : ∀ (v : Int32) (Mx : Mem) (k j : Nat), mset Mx 0 k v (50 + t) j = Mx (50 + t) j := fun v Mx k j => by rw [mset_row (by omega)]
    by_cases k1 : M (150 + t) 1 = 1
    · have k3 : M 204 t = 1 := hk.trans k1
      simp only [wX10_tell, e_isForm h0, bI_t h, i10, i01, bI_0, bI_1, isB_bI, Classical.not_not, not_false_eq_true, not_true_eq_false, true_implies, false_implies, and_true, true_and, and_self, forall_eq, ne_eq, h40, ← ht, k1, wX10_tellLoan, wX10_tellForm, e_leave, fr150, r0, show ((1 : Int32) = 2) = False from by decide]
      refine ⟨⟨by omega, by omega⟩, ⟨by omega, by omega⟩, ?_⟩
      rw [wX11_tell, m_isFormN (n := cF M) (by simp [mset_row, c13]) (by omega)]
      simp only [bI_t h, i10, i01, bI_0, bI_1, isB_bI, Classical.not_not, not_false_eq_true, not_true_eq_false, true_implies, false_implies, and_true, true_and, and_self, forall_eq, ne_eq, h40, ← ht, m_begins]
      simp [mset_row, k3, show ((1 : Int32) = 2) = False from by decide, hn1, hn2]
      exact hI.ft (fun i k g1 g2 g3 g4 => by rw [mset_ne g4, mset_ne g4, mset_ne g2, mset_ne g2]) (by simp [mset, h0.2.2.2.2.2.2]) (by simp [mset, h0.2.2.2.2.2.1])
    · by_cases k2 : M (150 + t) 1 = 2
      · have k3 : M 204 t = 2 := hk.trans k2
        simp only [wX10_tell, e_isForm h0, bI_t h, i10, i01, bI_0, bI_1, isB_bI, Classical.not_not, not_false_eq_true, not_true_eq_false, true_implies, false_implies, and_true, true_and, and_self, forall_eq, ne_eq, h40, ← ht, k2, wX10_tellGuess, wX10_tellLoan, wX10_tellForm, e_leave, fr150, r0, show ((2 : Int32) = 1) = False from by decide]
        refine ⟨⟨by omega, by omega⟩, ⟨by omega, by omega⟩, ⟨by omega, by omega⟩, ⟨by omega, by omega⟩, ?_⟩
        rw [wX11_tell, m_isFormN (n := cF M) (by simp [mset_row, c13]) (by omega)]
        simp only [bI_t h, i10, i01, bI_0, bI_1, isB_bI, Classical.not_not, not_false_eq_true, not_true_eq_false, true_implies, false_implies, and_true, true_and, and_self, forall_eq, ne_eq, h40, ← ht, m_begins]
        simp [mset_row, k3, show ((2 : Int32) = 1) = False from by decide, hn1, hn2]
        refine ⟨?_, hI.ft (fun i k g1 g2 g3 g4 => by rw [mset_ne g4, mset_ne g4, mset_ne g4, mset_ne g4, mset_ne g2, mset_ne g2, mset_ne g2, mset_ne g2]) (by simp [mset, h0.2.2.2.2.2.2]) (by simp [mset, h0.2.2.2.2.2.1])⟩
        rw [show (10 : Int32) = nI 10 by decide, show (2 : Int32) = nI 2 by decide, pk_mul, nI_add, nI_add, nI_add]
        congr 1
        omega
      · have k3 : ¬ M 204 t = 1 := by rw [hk]; exact k1
        have k4 : ¬ M 204 t = 2 := by rw [hk]; exact k2
        simp only [wX10_tell, e_isForm h0, bI_t h, i10, i01, bI_0, bI_1, isB_bI, Classical.not_not, not_false_eq_true, not_true_eq_false, true_implies, false_implies, and_true, true_and, and_self, forall_eq, ne_eq, h40, ← ht, k1, k2, wX10_tellForm, e_leave, fr150, r0]
        refine ⟨⟨by omega, by omega⟩, ?_⟩
        rw [wX11_tell, m_isFormN (n := cF M) (by simp [mset_row, c13]) (by omega)]
        simp only [bI_t h, i10, i01, bI_0, bI_1, isB_bI, Classical.not_not, not_false_eq_true, not_true_eq_false, true_implies, false_implies, and_true, true_and, and_self, forall_eq, ne_eq, h40, ← ht, m_begins]
        simp [mset_row, k3, k4, hn1, hn2]
        exact hI.ft (fun i k g1 g2 g3 g4 => by rw [mset_ne g4, mset_ne g2]) (by simp [mset, h0.2.2.2.2.2.2]) (by simp [mset, h0.2.2.2.2.2.1])
  · simp only [wX10_tell, wX11_tell, e_isForm h0, m_isForm h0, bI_f h, i10, i01, bI_0, bI_1, isB_bI, Classical.not_not, not_false_eq_true, not_true_eq_false, true_implies, false_implies, and_true, true_and, and_self, forall_eq, ne_eq]
    exact hI
theorem e_fail {a : Int32} {M : Mem} {Q : Int32 → Mem → Prop} : wX10_failBy a M Q = Q ((-10) - a) (mset M 0 19 a) := by simp only [wX10_failBy, forall_eq]
theorem m_fail {a : Int32} {M : Mem} {Q : Int32 → Mem → Prop} : wX11_fails a M Q = Q ((-10) - a) (mset M 49 0 a) := by simp only [wX11_fails, forall_eq]
theorem Inv.f2 {M : Mem} (hI : Inv M) (a : Int32) : Inv (mset (mset M 0 19 a) 49 0 a) := hI.ft (fun i k g1 g2 g3 g4 => by rw [mset_ne g3, mset_ne g1]) (by simp [mset]) (by simp [mset, hI.1.2.2.2.2.2.1])
theorem Inv.f4 {M : Mem} (hI : Inv M) (a b : Int32) : Inv (mset (mset (mset (mset M 0 19 b) 0 19 a) 49 0 b) 49 0 a) := hI.ft (fun i k g1 g2 g3 g4 => by rw [mset_ne g3, mset_ne g3, mset_ne g1, mset_ne g1]) (by simp [mset]) (by simp [mset, hI.1.2.2.2.2.2.1])
theorem st_as {M : Mem} (hI : Inv M) (a1 a2 : Int32) : wX10_as a1 a2 M (fun r M1 => wX11_as a1 a2 M1 (fun r' M2 => r = r' ∧ Inv M2)) := by
  have h0 := hI.1
  have c13 : M 49 13 = nI (cF M) := h0.2.1.2.2.trans h0.2.1.1
  have c16 : M 0 16 = nI (cF M) := h0.2.1.1
  have c40 := h0.2.1.2.1
  simp only [wX10_as, wX11_as, forall_eq]
  rw [e_isFormN (n := cF M) (by simp [mset, c16]) (by omega)]
  by_cases h : vp_in a1 (cF M)
  · have hk := (hI.2.2.2.2.1 _ (vp_lt h)).1.1
    have h40 := vp_mono h c40
    have hlt := vp_lt h40
    obtain ⟨t, ht⟩ : ∃ t, t = Int32.toNatClampNeg a1 := ⟨_, rfl⟩
    rw [← ht] at hk hlt
    have r0 : ∀ (v : Int32) (Mx : Mem) (k j : Nat), mset Mx 0 k v (150 + t) j = Mx (150 + t) j := fun v Mx k j => by rw [mset_row (by omega)]
    by_cases h2 : vp_in a2 3
    · by_cases h3 : M (150 + t) 1 < a2
      · simp only [bI_t h, bI_t h2, i10, i01, bI_0, bI_1, isB_bI, Classical.not_not, not_false_eq_true, not_true_eq_false, true_implies, false_implies, and_true, true_and, and_self, forall_eq, ne_eq, e_b16, e_b6, e_b4, e_b3, e_w2, e_isMeaning, e_isIn, h40, ← ht, r0, h3, e_fail]
        rw [m_isFormN (n := cF M) (by simp [mset, c13]) (by omega)]
        simp only [bI_t h, bI_t h2, i10, i01, bI_0, bI_1, isB_bI, Classical.not_not, not_false_eq_true, not_true_eq_false, true_implies, false_implies, and_true, true_and, and_self, forall_eq, ne_eq, e_m15, e_m5, e_m3, e_m2, e_m63, m_isMeaning, m_isSound, m_isSheet, m_isLane, m_isCollector, e_has, h40, m_fail]
        simp [mset_row, hk, h3]
        exact hI.f4 2 0
      · simp only [bI_t h, bI_t h2, i10, i01, bI_0, bI_1, isB_bI, Classical.not_not, not_false_eq_true, not_true_eq_false, true_implies, false_implies, and_true, true_and, and_self, forall_eq, ne_eq, e_b16, e_b6, e_b4, e_b3, e_w2, e_isMeaning, e_isIn, h40, ← ht, r0, h3]
        rw [m_isFormN (n := cF M) (by simp [mset, c13]) (by omega)]
        simp only [bI_t h, bI_t h2, i10, i01, bI_0, bI_1, isB_bI, Classical.not_not, not_false_eq_true, not_true_eq_false, true_implies, false_implies, and_true, true_and, and_self, forall_eq, ne_eq, e_m15, e_m5, e_m3, e_m2, e_m63, m_isMeaning, m_isSound, m_isSheet, m_isLane, m_isCollector, e_has, h40, m_fail]
        simp [mset_row, hk, h3]
        exact hI.f2 0
    · simp only [bI_t h, bI_f h2, i10, i01, bI_0, bI_1, isB_bI, Classical.not_not, not_false_eq_true, not_true_eq_false, true_implies, false_implies, and_true, true_and, and_self, forall_eq, ne_eq, e_b16, e_b6, e_b4, e_b3, e_w2, e_isMeaning, e_isIn]
      rw [m_isFormN (n := cF M) (by simp [mset, c13]) (by omega)]
      simp only [bI_t h, bI_f h2, i10, i01, bI_0, bI_1, isB_bI, Classical.not_not, not_false_eq_true, not_true_eq_false, true_implies, false_implies, and_true, true_and, and_self, forall_eq, ne_eq, e_m15, e_m5, e_m3, e_m2, e_m63, m_isMeaning, m_isSound, m_isSheet, m_isLane, m_isCollector, e_has]
      exact hI.f2 0
  · simp only [bI_f h, i10, i01, bI_0, bI_1, isB_bI, Classical.not_not, not_false_eq_true, not_true_eq_false, true_implies, false_implies, and_true, true_and, and_self, forall_eq, ne_eq]
    rw [m_isFormN (n := cF M) (by simp [mset, c13]) (by omega)]
    simp only [bI_f h, i10, i01, bI_0, bI_1, isB_bI, Classical.not_not, not_false_eq_true, not_true_eq_false, true_implies, false_implies, and_true, true_and, and_self, forall_eq, ne_eq]
    exact hI.f2 0
