theorem m_entryAt {Mx : Mem} {col n p nn o : Nat} {z : Nat → Nat} {c : Nat → Int32} {t : Nat → Nat → Int32} {Q : Int32 → Mem → Prop} (hc : col < 3) (hn10 : n ≤ 10) (hcn : Mx 197 col = nI n) (hz : ∀ e, e < n → Mx 199 (10 * col + e) = nI (z e)) (hz3 : ∀ e, e < n → z e ≤ 3) (hp : p ≤ nn) (hn : o + nn ≤ 240) (h18 : ∀ k, k < nn → Mx 194 (o + k) = c k) (ht : ∀ e, e < n → ∀ k, k < z e → Mx 200 (3 * (10 * col + e) + k) = t e k) (hQ : Q (oI (10 * col) (lg c nn p z t n)) Mx) : wX11_entryAt (nI col) (nI (o + p)) (nI (o + nn)) Mx Q := by
  have i0 : (10 : Int32) * nI col = nI (10 * col) := by rw [show (10 : Int32) = nI 10 by decide, pk_mul]
  unfold wX11_entryAt
  rw [i0, nI_clamp (by omega)]
  refine ⟨n + 1, lq2_ind (fun d x y M' => M' = Mx ∧ d ≤ n ∧ x = oI (10 * col) (lg c nn p z t (n - d)) ∧ y = nI (10 * col + (n - d))) ?_ ?_ n (-9) _ Mx ⟨rfl, Nat.le_refl _, by rw [Nat.sub_self]; rfl, by rw [Nat.sub_self, Nat.add_zero]⟩⟩
  · rintro R x y M' ⟨rfl, -, rfl, rfl⟩
    rw [Nat.sub_zero, hcn, nI_add]
    exact ⟨vp_in_nI hc (by decide), fun _ => hQ, fun y => absurd (Int32.le_refl _) y⟩
  · rintro d R x y M' ⟨rfl, hd, rfl, rfl⟩ hR
    obtain ⟨e, he⟩ : ∃ e, e = n - (d + 1) := ⟨_, rfl⟩
    rw [← he, hcn, nI_add]
    have hR' := hR (oI (10 * col) (lg c nn p z t (e + 1))) (nI (10 * col + e + 1)) M' ⟨rfl, by omega, by rw [show n - d = e + 1 by omega], by rw [show n - d = e + 1 by omega]; rfl⟩
    refine ⟨vp_in_nI hc (by decide), fun y => absurd y (nI_ge (by omega) (by omega)), fun _ => ?_⟩
    rw [nI_1]
    refine m_stands (c := c) (t := t e) (by omega) (hz e (by omega)) (hz3 e (by omega)) hp hn h18 (ht e (by omega)) ?_
    by_cases w : sdP c nn p (z e) (t e)
    · simp only [bI_t w, i10, i01, bI_0, bI_1, isB_bI, Classical.not_not, not_false_eq_true, not_true_eq_false, true_implies, false_implies, and_true, true_and, and_self, forall_eq, ne_eq]
      cases hl : lg c nn p z t e with
      | none =>
        rw [lg, if_pos ⟨w, fun b hb => by rw [hl] at hb; cases hb⟩] at hR'
        simp only [oI, i10, i01, bI_0, bI_1, isB_bI, Classical.not_not, not_false_eq_true, not_true_eq_false, true_implies, false_implies, and_true, true_and, and_self, forall_eq, ne_eq]
        exact hR'
      | some b =>
        have hb := (lg_lt e hl).1
        simp only [oI, i10, i01, bI_0, bI_1, isB_bI, Classical.not_not, not_false_eq_true, not_true_eq_false, true_implies, false_implies, and_true, true_and, and_self, forall_eq, ne_eq, n9 (n := 10 * col + b) (by omega)]
        rw [nI_clamp (by omega), nI_clamp (by omega), hz e (by omega), hz b (by omega)]
        refine ⟨vp_in_nI (by omega) (by decide), vp_in_nI (by omega) (by decide), fun q => ?_, fun q => ?_⟩
        · rw [nI_ltI (by have := hz3 e (by omega); omega) (by have := hz3 b (by omega); omega)] at q
          rw [lg, if_neg (fun h => by have := h.2 b hl; omega), hl] at hR'
          exact hR'
        · rw [nI_ltI (by have := hz3 e (by omega); omega) (by have := hz3 b (by omega); omega)] at q
          rw [lg, if_pos ⟨w, fun b' hb' => by rw [hl] at hb'; cases hb'; omega⟩] at hR'
          exact hR'
    · simp only [bI_f w, i10, i01, bI_0, bI_1, isB_bI, Classical.not_not, not_false_eq_true, not_true_eq_false, true_implies, false_implies, and_true, true_and, and_self, forall_eq, ne_eq]
      rw [lg, if_neg (fun h => w h.1)] at hR'
      exact hR'
/-- the reading: where it stops, how many sounds, which -/
def rdO (L : Nat → Option Nat) (z : Nat → Nat) (v : Nat → Int32) (nn : Nat) : Nat → Nat → Nat → (Nat → Int32) → Option Nat × Nat × (Nat → Int32)
  | 0, p, j, f => (some p, j, f)
  | d + 1, p, j, f => if nn ≤ p then (none, j, f) else match L p with
    | none => (some p, j, f)
    | some b => if j = 8 then (some p, j, f) else rdO L z v nn d (p + z b) (j + 1) (fun k => if k = j then v b else f k)
theorem rdO_le {L : Nat → Option Nat} {z : Nat → Nat} {v : Nat → Int32} {nn n : Nat} (hL : ∀ p b, L p = some b → b < n) (hv : ∀ b, b < n → vp_in (v b) 16) : ∀ d p j f, j ≤ 8 → (∀ k, k < j → vp_in (f k) 16) → (rdO L z v nn d p j f).2.1 ≤ 8 ∧ ∀ k, k < (rdO L z v nn d p j f).2.1 → vp_in ((rdO L z v nn d p j f).2.2 k) 16 := by
  intro d
  induction d with
  | zero => intro p j f hj hf; exact ⟨hj, hf⟩
  | succ d ih =>
    intro p j f hj hf
    rw [rdO]
    split
    · exact ⟨hj, hf⟩
    · split
      · exact ⟨hj, hf⟩
      · rename_i b hb
        split
        · exact ⟨hj, hf⟩
        · refine ih _ _ _ (by omega) (fun k hk => ?_)
          by_cases w : k = j
          · rw [if_pos w]; exact hv b (hL _ b hb)
          · rw [if_neg w]; exact hf k (by omega)
theorem e_readInto {Mx : Mem} {col n nn : Nat} {z : Nat → Nat} {c v : Nat → Int32} {t : Nat → Nat → Int32} {Q : Int32 → Mem → Prop} (hc : col < 3) (hn10 : n ≤ 10) (hcn : Mx (20 + col) 3 = nI n) (hz : ∀ e, e < n → Mx (20 + col + 6) e = nI (z e)) (hz3 : ∀ e, e < n → z e ≤ 3) (hn : nn ≤ 60) (h18 : ∀ k, k < nn → Mx 18 k = c k) (ht : ∀ e, e < n → ∀ k, k < z e → Mx (20 + col + 3) (3 * e + k) = t e k) (hv : ∀ e, e < n → Mx (20 + col + 9) e = v e) {res : Option Nat × Nat × (Nat → Int32)} (hres : rdO (fun p => lg c nn p z t n) z v nn 9 0 0 (fun _ => 0) = res)
    (hQ : ∀ M', (∀ a, a ≠ 97 → a ≠ 147 → M' a = Mx a) → M' 97 1 = nI res.2.1 → (∀ k, k < res.2.1 → M' 147 k = res.2.2 k) → Q (oI 0 res.1) M') : wX1_readInto (20 + col) 97 18 (nI nn) Mx Q := by
  unfold wX1_readInto wX7_clear
  simp only [forall_eq]
  refine ⟨⟨by omega, by omega⟩, ⟨by decide, by decide⟩, by decide, ⟨by decide, by decide⟩, 10, lq2_ind (fun d x y M' => ∃ p j f, x = nI p ∧ y = nI j ∧ j + d = 9 ∧ j ≤ 8 ∧ p ≤ nn ∧ (∀ a, a ≠ 97 → a ≠ 147 → M' a = Mx a) ∧ M' 97 1 = nI j ∧ (∀ k, k < j → M' 147 k = f k) ∧ rdO (fun p => lg c nn p z t n) z v nn d p j f = res) ?_ ?_ 9 0 0 _ ⟨0, 0, fun _ => 0, nI_0.symm, nI_0.symm, by omega, by omega, by omega, fun a w1 w2 => mset_row w1, by rw [mset_eq, nI_0], fun k hk => by omega, hres⟩⟩
  · rintro R x y M' ⟨p, j, f, -, -, h1, h2, -⟩
    omega
  · rintro d R x y M' ⟨p, j, f, rfl, rfl, h1, h2, h3, h4, h5, h6, h7⟩ hR
    refine ⟨fun q => absurd q (nI_nlt (a := 8) (b := j) h2 (by decide)), fun _ => ⟨fun q => ?_, fun q => ?_⟩⟩
    · rw [nI_leI (by omega) (by omega)] at q
      rw [rdO, if_pos q] at h7
      subst h7
      exact hQ M' h4 h5 h6
    · rw [nI_leI (by omega) (by omega)] at q
      rw [rdO, if_neg q] at h7
      refine e_longest (c := c) (t := t) (z := z) hc hn10 (by rw [h4 _ (by omega) (by omega)]; exact hcn) (fun e he => by rw [h4 _ (by omega) (by omega)]; exact hz e he) hz3 h3 hn (fun k hk => by rw [h4 _ (by omega) (by omega)]; exact h18 k hk) (fun e he k hk => by rw [h4 _ (by omega) (by omega)]; exact ht e he k hk) ?_
      cases hl : lg c nn p z t n with
      | none =>
        simp only [hl] at h7
        subst h7
        simp only [oI, i10, i01, bI_0, bI_1, isB_bI, Classical.not_not, not_false_eq_true, not_true_eq_false, true_implies, false_implies, and_true, true_and, and_self, forall_eq, ne_eq]
        have := hQ M' h4 h5 h6
        simp only [oI, Nat.zero_add] at this
        exact this
      | some b =>
        obtain ⟨hb, hs⟩ := lg_lt n hl
        simp only [hl] at h7
        simp only [oI, i10, i01, bI_0, bI_1, isB_bI, Classical.not_not, not_false_eq_true, not_true_eq_false, true_implies, false_implies, and_true, true_and, and_self, forall_eq, ne_eq, Nat.zero_add, n9 (n := b) (by omega)]
        refine ⟨fun q2 => ?_, fun q2 => ?_⟩
        · have hj : ¬ j = 8 := fun w => q2 (by rw [w]; rfl)
          rw [if_neg hj] at h7
          rw [nI_clamp (by omega)]
          refine ⟨vp_in_nI (by omega) (by decide), e_add ⟨by decide, by decide⟩ h5 (by omega) (fun M2 b1 b2 b3 b4 => ?_)⟩
          rw [b1 (20 + col + 6) (by omega) (by omega), h4 (20 + col + 6) (by omega) (by omega), hz b hb, nI_add, nI_1]
          have hz1 := hs.1
          refine hR _ _ _ ⟨p + z b, j + 1, _, rfl, rfl, by omega, by omega, by omega, fun a w1 w2 => by rw [b1 a w1 w2, h4 a w1 w2], b2, fun k hk => ?_, h7⟩
          show M2 (97 + 50) k = _
          by_cases w : k = j
          · rw [if_pos w, w, b3, h4 _ (by omega) (by omega), hv b hb]
          · rw [if_neg w, b4 k w]; exact h6 k (by omega)
        · have hj : j = 8 := (nI_eq (by omega) (by decide)).mp q2
          rw [if_pos hj] at h7
          subst h7
          have := hQ M' h4 h5 h6
          simp only [oI, Nat.zero_add] at this
          exact this
