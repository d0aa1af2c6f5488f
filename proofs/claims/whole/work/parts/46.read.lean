/-! read: the longest entry that stands at a position -/
def sdP (c : Nat → Int32) (nn p z : Nat) (t : Nat → Int32) : Prop := z ≤ nn - p ∧ ∀ k, k < z → c (p + k) = t k
noncomputable def lg (c : Nat → Int32) (nn p : Nat) (z : Nat → Nat) (t : Nat → Nat → Int32) : Nat → Option Nat
  | 0 => none
  | e + 1 => @ite _ (sdP c nn p (z e) (t e) ∧ ∀ b, lg c nn p z t e = some b → z b ≤ z e) (Classical.propDecidable _) (some e) (lg c nn p z t e)
def oI (o : Nat) : Option Nat → Int32
  | none => -9
  | some e => nI (o + e)
theorem lg_lt {c : Nat → Int32} {nn p : Nat} {z : Nat → Nat} {t : Nat → Nat → Int32} {b : Nat} : ∀ e, lg c nn p z t e = some b → b < e ∧ sdP c nn p (z b) (t b) := by
  intro e
  induction e with
  | zero => intro h; cases h
  | succ e ih =>
    intro h
    rw [lg] at h
    split at h
    · rename_i q
      cases h
      exact ⟨by omega, q.1⟩
    · exact ⟨by have := (ih h).1; omega, (ih h).2⟩
theorem e_stands {Mx : Mem} {col e p nn z : Nat} {c t : Nat → Int32} {Q : Int32 → Mem → Prop} (hc : col < 3) (he : e < 10) (hz : Mx (20 + col + 6) e = nI z) (hz3 : z ≤ 3) (hp : p ≤ nn) (hn : nn ≤ 60) (h18 : ∀ k, k < nn → Mx 18 k = c k) (ht : ∀ k, k < z → Mx (20 + col + 3) (3 * e + k) = t k) (hQ : Q (bI (sdP c nn p z t)) Mx) : wX1_stands (20 + col) (nI e) 18 (nI p) (nI nn) Mx Q := by
  unfold wX1_stands
  rw [nI_clamp (by omega), pk_sub hp, hz]
  refine ⟨⟨by omega, by omega⟩, by decide, vp_in_nI he (by decide), fun q => ?_, fun q => ?_⟩
  · rw [nI_leI (by omega) (by omega)] at q
    refine ⟨z + 1, lq1_ind (fun d x M' => M' = Mx ∧ d ≤ z ∧ x = nI (z - d) ∧ ∀ k, k < z - d → c (p + k) = t k) ?_ ?_ z 0 Mx ⟨rfl, Nat.le_refl _, by rw [Nat.sub_self, nI_0], fun k hk => by omega⟩⟩
    · rintro R x M' ⟨rfl, -, rfl, hk⟩
      rw [Nat.sub_zero] at hk ⊢
      rw [bI_t ⟨q, hk⟩] at hQ
      rw [hz]
      exact ⟨fun _ => hQ, fun y => absurd (Int32.le_refl _) y⟩
    · rintro d R x M' ⟨rfl, hd, rfl, hk⟩ hR
      obtain ⟨k, hk0⟩ : ∃ k, k = z - (d + 1) := ⟨_, rfl⟩
      rw [← hk0] at hk ⊢
      have i2 : nI e * 3 + nI k = nI (3 * e + k) := by rw [show (3 : Int32) = nI 3 by decide, pk_mul, nI_add, Nat.mul_comm]
      rw [hz, nI_add, i2, nI_clamp (by omega), nI_clamp (by omega), h18 _ (by omega), ht k (by omega)]
      refine ⟨fun y => absurd y (nI_ge (by omega) (by omega)), fun _ => ⟨vp_in_nI (by show p + k < 60; omega) (by decide), vp_in_nI (by omega) (by decide), fun y => hR _ _ ⟨rfl, by omega, by rw [nI_1]; congr 1; omega, fun j hj => ?_⟩, fun y => ?_⟩⟩
      · by_cases w : j = k
        · rw [w]; exact y
        · exact hk j (by omega)
      · rw [bI_f (fun h => y (h.2 k (by omega)))] at hQ
        exact hQ
  · rw [nI_leI (by omega) (by omega)] at q
    rw [bI_f (fun h => q h.1)] at hQ
    exact hQ
theorem m_stands {Mx : Mem} {o e p nn z : Nat} {c t : Nat → Int32} {Q : Int32 → Mem → Prop} (he : e < 30) (hz : Mx 199 e = nI z) (hz3 : z ≤ 3) (hp : p ≤ nn) (hn : o + nn ≤ 240) (h18 : ∀ k, k < nn → Mx 194 (o + k) = c k) (ht : ∀ k, k < z → Mx 200 (3 * e + k) = t k) (hQ : Q (bI (sdP c nn p z t)) Mx) : wX11_stands (nI e) (nI (o + p)) (nI (o + nn)) Mx Q := by
  unfold wX11_stands
  rw [nI_clamp (by omega), pk_sub (by omega), hz, show o + nn - (o + p) = nn - p by omega]
  refine ⟨vp_in_nI he (by decide), fun q => ?_, fun q => ?_⟩
  · rw [nI_leI (by omega) (by omega)] at q
    refine ⟨z + 1, lq1_ind (fun d x M' => M' = Mx ∧ d ≤ z ∧ x = nI (z - d) ∧ ∀ k, k < z - d → c (p + k) = t k) ?_ ?_ z 0 Mx ⟨rfl, Nat.le_refl _, by rw [Nat.sub_self, nI_0], fun k hk => by omega⟩⟩
    · rintro R x M' ⟨rfl, -, rfl, hk⟩
      rw [Nat.sub_zero] at hk ⊢
      rw [bI_t ⟨q, hk⟩] at hQ
      rw [hz]
      exact ⟨fun _ => hQ, fun y => absurd (Int32.le_refl _) y⟩
    · rintro d R x M' ⟨rfl, hd, rfl, hk⟩ hR
      obtain ⟨k, hk0⟩ : ∃ k, k = z - (d + 1) := ⟨_, rfl⟩
      rw [← hk0] at hk ⊢
      have i2 : (3 : Int32) * nI e + nI k = nI (3 * e + k) := by rw [show (3 : Int32) = nI 3 by decide, pk_mul, nI_add]
      rw [hz, nI_add, i2, nI_clamp (by omega), nI_clamp (by omega), Nat.add_assoc, h18 _ (by omega), ht k (by omega)]
      refine ⟨fun y => absurd y (nI_ge (by omega) (by omega)), fun _ => ⟨vp_in_nI (by omega) (by decide), vp_in_nI (by omega) (by decide), fun y => hR _ _ ⟨rfl, by omega, by rw [nI_1]; congr 1; omega, fun j hj => ?_⟩, fun y => ?_⟩⟩
      · by_cases w : j = k
        · rw [w]; exact y
        · exact hk j (by omega)
      · rw [bI_f (fun h => y (h.2 k (by omega)))] at hQ
        exact hQ
  · rw [nI_leI (by omega) (by omega)] at q
    rw [bI_f (fun h => q h.1)] at hQ
    exact hQ
theorem e_longest {Mx : Mem} {col n p nn : Nat} {z : Nat → Nat} {c : Nat → Int32} {t : Nat → Nat → Int32} {Q : Int32 → Mem → Prop} (hc : col < 3) (hn10 : n ≤ 10) (hcn : Mx (20 + col) 3 = nI n) (hz : ∀ e, e < n → Mx (20 + col + 6) e = nI (z e)) (hz3 : ∀ e, e < n → z e ≤ 3) (hp : p ≤ nn) (hn : nn ≤ 60) (h18 : ∀ k, k < nn → Mx 18 k = c k) (ht : ∀ e, e < n → ∀ k, k < z e → Mx (20 + col + 3) (3 * e + k) = t e k) (hQ : Q (oI 0 (lg c nn p z t n)) Mx) : wX1_longestAt (20 + col) 18 (nI p) (nI nn) Mx Q := by
  refine ⟨⟨by omega, by omega⟩, by decide, n + 1, lq2_ind (fun d x y M' => M' = Mx ∧ d ≤ n ∧ x = oI 0 (lg c nn p z t (n - d)) ∧ y = nI (n - d)) ?_ ?_ n (-9) 0 Mx ⟨rfl, Nat.le_refl _, by rw [Nat.sub_self]; rfl, by rw [Nat.sub_self, nI_0]⟩⟩
  · rintro R x y M' ⟨rfl, -, rfl, rfl⟩
    rw [Nat.sub_zero, hcn]
    exact ⟨fun _ => hQ, fun y => absurd (Int32.le_refl _) y⟩
  · rintro d R x y M' ⟨rfl, hd, rfl, rfl⟩ hR
    obtain ⟨e, he⟩ : ∃ e, e = n - (d + 1) := ⟨_, rfl⟩
    rw [← he, hcn]
    have hR' := hR (oI 0 (lg c nn p z t (e + 1))) (nI (e + 1)) M' ⟨rfl, by omega, by rw [show n - d = e + 1 by omega], by rw [show n - d = e + 1 by omega]⟩
    refine ⟨fun y => absurd y (nI_ge (by omega) (by omega)), fun _ => ?_⟩
    rw [nI_1]
    have step : (∀ b, lg c nn p z t e = some b → z b ≤ z e) → wX1_stands (20 + col) (nI e) 18 (nI p) (nI nn) M' (fun v58 M58 => ((v58 = 0 → R (oI 0 (lg c nn p z t e)) (nI (e + 1)) M58) ∧ (¬ v58 = 0 → R (nI e) (nI (e + 1)) M58))) := fun hb => by
      refine e_stands hc (by omega) (hz e (by omega)) (hz3 e (by omega)) hp hn h18 (ht e (by omega)) ?_
      by_cases w : sdP c nn p (z e) (t e)
      · rw [lg, if_pos ⟨w, hb⟩, oI, Nat.zero_add] at hR'
        simp only [bI_t w, i10, i01, bI_0, bI_1, isB_bI, Classical.not_not, not_false_eq_true, not_true_eq_false, true_implies, false_implies, and_true, true_and, and_self, forall_eq, ne_eq]
        exact hR'
      · rw [lg, if_neg (fun h => w h.1)] at hR'
        simp only [bI_f w, i10, i01, bI_0, bI_1, isB_bI, Classical.not_not, not_false_eq_true, not_true_eq_false, true_implies, false_implies, and_true, true_and, and_self, forall_eq, ne_eq]
        exact hR'
    cases hl : lg c nn p z t e with
    | none =>
      rw [hl] at step
      simp only [jn0, jn1, jn2, jn3, oI, i10, i01, bI_0, bI_1, isB_bI, Classical.not_not, not_false_eq_true, not_true_eq_false, true_implies, false_implies, and_true, true_and, and_self, forall_eq, ne_eq] at step ⊢
      exact step (fun b hb => by cases hb)
    | some b =>
      have hb := (lg_lt e hl).1
      rw [hl] at step
      simp only [jn0, jn1, jn2, jn3, oI, i10, i01, bI_0, bI_1, isB_bI, Classical.not_not, not_false_eq_true, not_true_eq_false, true_implies, false_implies, and_true, true_and, and_self, forall_eq, ne_eq, Nat.zero_add, n9 (n := b) (by omega)] at step ⊢
      rw [nI_clamp (by omega), nI_clamp (by omega), hz e (by omega), hz b (by omega)]
      refine ⟨vp_in_nI (by omega) (by decide), vp_in_nI (by omega) (by decide), fun q => ?_, fun q => ?_⟩
      · rw [nI_ltI (by have := hz3 e (by omega); omega) (by have := hz3 b (by omega); omega)] at q
        rw [lg, if_neg (fun h => by have := h.2 b hl; omega), hl, oI, Nat.zero_add] at hR'
        exact hR'
      · rw [nI_ltI (by have := hz3 e (by omega); omega) (by have := hz3 b (by omega); omega)] at q
        exact step (fun b' hb' => by cases hb'; omega)
