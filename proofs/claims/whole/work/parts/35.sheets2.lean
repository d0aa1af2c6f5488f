/-- row a from place o on, n places, becomes v -/
def mfl (M : Mem) (a o n : Nat) (v : Int32) : Mem := fun i k => if i = a ∧ o ≤ k ∧ k < o + n then v else M i k
theorem mfl_0 {M : Mem} {a o : Nat} {v : Int32} : mfl M a o 0 v = M := by funext i k; rw [mfl, if_neg (by omega)]
theorem mfl_s {M : Mem} {a o n : Nat} {v : Int32} : mset (mfl M a o n v) a (o + n) v = mfl M a o (n + 1) v := by
  funext i k
  simp only [mset, mfl]
  by_cases h : i = a ∧ k = o + n
  · rw [if_pos h, if_pos (by omega)]
  · rw [if_neg h]
    by_cases h2 : i = a ∧ o ≤ k ∧ k < o + n
    · rw [if_pos h2, if_pos (by omega)]
    · rw [if_neg h2, if_neg (by omega)]
theorem mfl_row {M : Mem} {a o n i : Nat} {v : Int32} (h : i ≠ a) : mfl M a o n v i = M i := by funext k; rw [mfl, if_neg (by omega)]
theorem mfl_in {M : Mem} {a o n k : Nat} {v : Int32} (h1 : o ≤ k) (h2 : k < o + n) : mfl M a o n v a k = v := by rw [mfl, if_pos ⟨rfl, h1, h2⟩]
theorem mfl_out {M : Mem} {a o n k : Nat} {v : Int32} (h : ¬ (o ≤ k ∧ k < o + n)) : mfl M a o n v a k = M a k := by rw [mfl, if_neg (by omega)]
theorem e_fill {a N : Nat} {v : Int32} {M : Mem} {Q : Mem → Prop} (hk : kd a = 20) (hN : ln a = N) (hn : N < 2 ^ 31) (hQ : Q (mfl M a 0 N v)) : wJ7_fill_53178 a v M Q := by
  unfold wJ7_fill_53178
  rw [hN]
  refine ⟨hk, N + 1, lq1_ind (fun d x M' => d ≤ N ∧ x = nI (N - d) ∧ M' = mfl M a 0 (N - d) v) ?_ ?_ N 0 M ⟨Nat.le_refl _, by rw [Nat.sub_self, nI_0], by rw [Nat.sub_self, mfl_0]⟩⟩
  · rintro R x M' ⟨-, hx, hM⟩
    rw [Nat.sub_zero] at hx hM
    subst hx; subst hM
    exact ⟨fun _ => hQ, fun q => absurd (Int32.le_refl _) q⟩
  · rintro d R x M' ⟨hd, hx, hM⟩ hR
    have hlt : N - (d + 1) < N := by omega
    subst hx; subst hM
    refine ⟨fun q => absurd q (nI_ge hlt hn), fun _ => ⟨vp_in_nI hlt hn, fun N1 e1 => ?_⟩⟩
    refine hR _ _ ⟨by omega, by rw [nI_1]; congr 1; omega, ?_⟩
    rw [e1, nI_clamp (by omega)]
    have := mfl_s (M := M) (a := a) (o := 0) (n := N - (d + 1)) (v := v)
    rw [Nat.zero_add] at this
    rw [this]
    congr 1
    omega
theorem Inv.renew {M M' : Mem} (h : Inv M) {s n : Nat} {l : Int32} (hs : s < 4) (hn : n ≤ 60) (hl : l = 0 ∨ l = 1 ∨ l = 2) (he : M' = mfl (mset (mset (mset (mset (mset (mset (mfl (mset M 0 19 0) (41 + s + 4) 0 60 0) (41 + s) 1 1) (41 + s) 2 l) (41 + s) 3 (nI n)) 49 0 0) 192 s l) 193 s (nI n)) 194 (60 * s) 60 0) : Inv M' := by
  subst he
  refine h.but8f (fun j b1 b2 b3 b4 b5 b6 => by rw [mfl_row b4, mset_row b3, mset_row b2, mset_row b6, mset_row (by omega), mset_row (by omega), mset_row (by omega), mfl_row (by omega), mset_row b5]) (fun k hk => by rw [mfl_row (by decide), mset_row (by decide), mset_row (by decide), mset_row (by decide), mset_row (by omega), mset_row (by omega), mset_row (by omega), mfl_row (by omega), mset_ne (by omega)]) (fun k hk => by rw [mfl_row (by decide), mset_row (by decide), mset_row (by decide), mset_ne (by omega), mset_row (by omega), mset_row (by omega), mset_row (by omega), mfl_row (by omega), mset_row (by decide)]) ?_ (fun t ht => ?_)
  · rw [mfl_row (by decide), mset_row (by decide), mset_row (by decide), mset_eq, mfl_row (by decide), mset_row (by decide), mset_row (by decide), mset_row (by decide), mset_row (by omega), mset_row (by omega), mset_row (by omega), mfl_row (by omega), mset_eq]
  · obtain ⟨g8, g8c⟩ := h.2.2.2.2.2.2.2.2 t ht
    by_cases hts : t = s
    · subst hts
      refine ⟨Or.inr ⟨?_, ?_, ?_, n, hn, ?_, ?_⟩, fun i hi => ?_⟩
      · rw [mfl_row (by omega), mset_row (by omega), mset_row (by omega), mset_row (by omega), mset_ne (by omega), mset_ne (by omega), mset_eq]
      · rw [mfl_row (by decide), mset_row (by decide), mset_eq, mfl_row (by omega), mset_row (by omega), mset_row (by omega), mset_row (by omega), mset_ne (by omega), mset_eq]
      · rw [mfl_row (by omega), mset_row (by omega), mset_row (by omega), mset_row (by omega), mset_ne (by omega), mset_eq]
        exact hl
      · rw [mfl_row (by omega), mset_row (by omega), mset_row (by omega), mset_row (by omega), mset_eq]
      · rw [mfl_row (by decide), mset_eq]
      · rw [mfl_in (by omega) (by omega), mfl_row (by omega), mset_row (by omega), mset_row (by omega), mset_row (by omega), mset_row (by omega), mset_row (by omega), mset_row (by omega), mfl_in (by omega) (by omega)]
    · have r1 : ∀ j, (mfl (mset (mset (mset (mset (mset (mset (mfl (mset M 0 19 0) (41 + s + 4) 0 60 0) (41 + s) 1 1) (41 + s) 2 l) (41 + s) 3 (nI n)) 49 0 0) 192 s l) 193 s (nI n)) 194 (60 * s) 60 0) (41 + t) j = M (41 + t) j := fun j => by
        rw [mfl_row (by omega), mset_row (by omega), mset_row (by omega), mset_row (by omega), mset_row (by omega), mset_row (by omega), mset_row (by omega), mfl_row (by omega), mset_row (by omega)]
      have r2 : (mfl (mset (mset (mset (mset (mset (mset (mfl (mset M 0 19 0) (41 + s + 4) 0 60 0) (41 + s) 1 1) (41 + s) 2 l) (41 + s) 3 (nI n)) 49 0 0) 192 s l) 193 s (nI n)) 194 (60 * s) 60 0) 192 t = M 192 t := by
        rw [mfl_row (by omega), mset_row (by omega), mset_ne (by omega), mset_row (by omega), mset_row (by omega), mset_row (by omega), mset_row (by omega), mfl_row (by omega), mset_row (by omega)]
      have r3 : (mfl (mset (mset (mset (mset (mset (mset (mfl (mset M 0 19 0) (41 + s + 4) 0 60 0) (41 + s) 1 1) (41 + s) 2 l) (41 + s) 3 (nI n)) 49 0 0) 192 s l) 193 s (nI n)) 194 (60 * s) 60 0) 193 t = M 193 t := by
        rw [mfl_row (by omega), mset_ne (by omega), mset_row (by omega), mset_row (by omega), mset_row (by omega), mset_row (by omega), mset_row (by omega), mfl_row (by omega), mset_row (by omega)]
      rw [r1, r1, r1, r2, r3]
      refine ⟨g8, fun i hi => ?_⟩
      rw [mfl_out (by omega), mset_row (by omega), mset_row (by omega), mset_row (by omega), mset_row (by omega), mset_row (by omega), mset_row (by omega), mfl_row (by omega), mset_row (by omega)]
      rw [mfl_row (by omega), mset_row (by omega), mset_row (by omega), mset_row (by omega), mset_row (by omega), mset_row (by omega), mset_row (by omega), mfl_row (by omega), mset_row (by omega)]
      exact g8c i hi
theorem st_sheet {M : Mem} (hI : Inv M) (a1 a2 a3 : Int32) : wX10_sheet a1 a2 a3 M (fun r M1 => wX11_sheet a1 a2 a3 M1 (fun r' M2 => r = r' ∧ Inv M2)) := by
  simp only [wX10_sheet, wX11_sheet, forall_eq]
  by_cases h1 : vp_in a1 4
  · by_cases h2 : vp_in a2 3
    · by_cases h3 : a3 ≤ 60
      · by_cases h4 : 0 ≤ a3
        · obtain ⟨s, hs, e1, es⟩ := vp_nI h1 (by decide)
          obtain ⟨n, hn, en⟩ := nI_of2 (x := a3) (M := 60) (n := 60) (by decide) (Int32.not_lt.mpr h4) h3
          have hl : a2 = 0 ∨ a2 = 1 ∨ a2 = 2 := by
            obtain ⟨l, hl, el, -⟩ := vp_nI h2 (by decide)
            have : l = 0 ∨ l = 1 ∨ l = 2 := by omega
            rcases this with rfl | rfl | rfl
            · exact Or.inl el
            · exact Or.inr (Or.inl el)
            · exact Or.inr (Or.inr el)
          simp only [bI_t h1, bI_t h2, e_b16, e_b6, e_b4, e_b3, e_w2, e_isMeaning, e_isIn, e_m15, e_m5, e_m3, e_m2, e_m63, m_isMeaning, m_isSound, m_isSheet, m_isLane, m_isCollector, e_has, i10, i01, bI_0, bI_1, isB_bI, Classical.not_not, not_false_eq_true, not_true_eq_false, true_implies, false_implies, and_true, true_and, and_self, forall_eq, ne_eq, h1, h3, h4, es, wX8_renew]
          refine ⟨⟨by omega, by omega⟩, e_fill (N := 60) (kd_cel (by omega)) (ln_cel (by omega)) (by decide) ?_⟩
          refine ⟨61, lq1_ind (fun d x M' => d ≤ 60 ∧ x = nI (60 - d) ∧ M' = mfl (mset (mset (mset (mset (mset (mset (mfl (mset M 0 19 0) (41 + s + 4) 0 60 0) (41 + s) 1 1) (41 + s) 2 a2) (41 + s) 3 a3) 49 0 0) 192 s a2) 193 s a3) 194 (60 * s) (60 - d) 0) ?_ ?_ 60 0 _ ⟨Nat.le_refl _, rfl, by rw [Nat.sub_self, mfl_0]⟩⟩
          · rintro R x M' ⟨-, hx, hM⟩
            rw [Nat.sub_zero] at hx hM
            subst hx
            exact ⟨fun _ => hI.renew hs hn hl (by rw [hM, en]), fun q => absurd (by decide) q⟩
          · rintro d R x M' ⟨hd, hx, hM⟩ hR
            subst hx; subst hM
            have ix : 60 * a1 + nI (60 - (d + 1)) = nI (60 * s + (60 - (d + 1))) := by rw [e1, show (60 : Int32) = nI 60 by decide, pk_mul, nI_add]
            rw [ix]
            refine ⟨fun q => absurd q (nI_ge (b := 60) (by omega) (by decide)), fun _ => ⟨vp_in_nI (by omega) (by decide), hR _ _ ⟨by omega, by rw [nI_1]; congr 1; omega, ?_⟩⟩⟩
            rw [nI_clamp (by omega), mfl_s]
            congr 1
            omega
        · simp only [bI_t h1, bI_t h2, e_b16, e_b6, e_b4, e_b3, e_w2, e_isMeaning, e_isIn, e_m15, e_m5, e_m3, e_m2, e_m63, m_isMeaning, m_isSound, m_isSheet, m_isLane, m_isCollector, e_has, i10, i01, bI_0, bI_1, isB_bI, Classical.not_not, not_false_eq_true, not_true_eq_false, true_implies, false_implies, and_true, true_and, and_self, forall_eq, ne_eq, h3, h4, e_fail, m_fail]
          exact hI.f4 4 0
      · simp only [bI_t h1, bI_t h2, e_b16, e_b6, e_b4, e_b3, e_w2, e_isMeaning, e_isIn, e_m15, e_m5, e_m3, e_m2, e_m63, m_isMeaning, m_isSound, m_isSheet, m_isLane, m_isCollector, e_has, i10, i01, bI_0, bI_1, isB_bI, Classical.not_not, not_false_eq_true, not_true_eq_false, true_implies, false_implies, and_true, true_and, and_self, forall_eq, ne_eq, h3]
        exact hI.f2 0
    · simp only [bI_t h1, bI_f h2, e_b16, e_b6, e_b4, e_b3, e_w2, e_isMeaning, e_isIn, e_m15, e_m5, e_m3, e_m2, e_m63, m_isMeaning, m_isSound, m_isSheet, m_isLane, m_isCollector, e_has, i10, i01, bI_0, bI_1, isB_bI, Classical.not_not, not_false_eq_true, not_true_eq_false, true_implies, false_implies, and_true, true_and, and_self, forall_eq, ne_eq]
      exact hI.f2 0
  · simp only [bI_f h1, e_b16, e_b6, e_b4, e_b3, e_w2, e_isMeaning, e_isIn, e_m15, e_m5, e_m3, e_m2, e_m63, m_isMeaning, m_isSound, m_isSheet, m_isLane, m_isCollector, e_has, i10, i01, bI_0, bI_1, isB_bI, Classical.not_not, not_false_eq_true, not_true_eq_false, true_implies, false_implies, and_true, true_and, and_self, forall_eq, ne_eq]
    exact hI.f2 0
