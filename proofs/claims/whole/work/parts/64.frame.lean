/-! what a question may leave changed -/
def sQ : List Nat := [14, 15, 16, 19, 96, 97, 98, 99, 146, 147, 148, 149, 209, 221, 223, 225, 226, 227, 228, 230, 232, 233, 235]
def Fq (M Mx : Mem) : Prop := (∀ i, i ∉ 49 :: sQ → Mx i = M i) ∧ ∀ k, k ≠ 32 → k ≠ 39 → k ≠ 41 → Mx 49 k = M 49 k
theorem Fq.rf {M : Mem} : Fq M M := ⟨fun _ _ => rfl, fun _ _ _ _ => rfl⟩
theorem Fq.fin {M M2 : Mem} (hI : Inv M) (h : Fq M M2) : Inv M2 := by
  have sub : ∀ i, i ∈ 49 :: sQ → i ∈ sB := by decide
  have h49 : ∀ k, k ∈ [1, 11, 13, 22, 34, 44] → M2 49 k = M 49 k := fun k hk => by
    simp at hk
    exact h.2 k (by omega) (by omega) (by omega)
  exact hI.scr (fun i hi => h.1 i (fun q => hi (sub i q))) (fun k _ => by rw [h.1 0 (by decide)]) h49 (by rw [h.2 0 (by decide) (by decide) (by decide), h.1 0 (by decide)]; exact hI.1.2.2.2.2.2.2)
theorem Fq.of {M Mx M' : Mem} (h : Fq M Mx) (T : List Nat) (hT : ∀ i, i ∈ T → i ∈ sQ) (hf : ∀ r, r ∉ T → M' r = Mx r) : Fq M M' := by
  refine ⟨fun i hi => ?_, fun k a b c => ?_⟩
  · rw [hf i (fun q => hi (List.mem_cons_of_mem _ (hT i q))), h.1 i hi]
  · rw [hf 49 (fun q => absurd (hT 49 q) (by decide)), h.2 k a b c]
theorem Fq.d97 {M Mx M' : Mem} (h : Fq M Mx) (hf : ∀ r, r ≠ 97 → r ≠ 147 → r ≠ 96 → r ≠ 146 → M' r = Mx r) : Fq M M' :=
  h.of [97, 147, 96, 146] (by decide) (fun r hr => hf r (fun z => hr (by rw [z]; decide)) (fun z => hr (by rw [z]; decide)) (fun z => hr (by rw [z]; decide)) (fun z => hr (by rw [z]; decide)))
theorem Fq.b97 {M Mx M' : Mem} (h : Fq M Mx) (hf : ∀ r, r ≠ 97 → r ≠ 147 → M' r = Mx r) : Fq M M' := h.d97 (fun r a b _ _ => hf r a b)
theorem Fq.b98 {M Mx M' : Mem} (h : Fq M Mx) (hf : ∀ r, r ≠ 98 → r ≠ 148 → M' r = Mx r) : Fq M M' :=
  h.of [98, 148] (by decide) (fun r hr => hf r (fun z => hr (by rw [z]; decide)) (fun z => hr (by rw [z]; decide)))
theorem Fq.b99 {M Mx M' : Mem} (h : Fq M Mx) (hf : ∀ r, r ≠ 99 → r ≠ 149 → M' r = Mx r) : Fq M M' :=
  h.of [99, 149] (by decide) (fun r hr => hf r (fun z => hr (by rw [z]; decide)) (fun z => hr (by rw [z]; decide)))
theorem Fq.b1 {M Mx M' : Mem} (h : Fq M Mx) {i : Nat} (hi : i ∈ sQ) (hf : ∀ r, r ≠ i → M' r = Mx r) : Fq M M' :=
  h.of [i] (fun j hj => by rw [List.mem_singleton.mp hj]; exact hi) (fun r hr => hf r (fun z => hr (by rw [z]; exact List.mem_cons_self)))
theorem Fq.dm {M Mx M' : Mem} (h : Fq M Mx) (hf : ∀ r, r ≠ 49 → r ≠ 221 → r ≠ 223 → M' r = Mx r) (hk : ∀ k, k ≠ 32 → M' 49 k = Mx 49 k) : Fq M M' := by
  refine ⟨fun i hi => ?_, fun k a b c => ?_⟩
  · rw [hf i (fun z => hi (by rw [z]; decide)) (fun z => hi (by rw [z]; decide)) (fun z => hi (by rw [z]; decide)), h.1 i hi]
  · rw [hk k a, h.2 k a b c]
/-! the rows of forms and roots as lists -/
def rowL (M : Mem) (a : Nat) : List Nat := (List.range (M a 1).toNatClampNeg).map (fun k => (M (a + 50) k).toNatClampNeg)
theorem rowL_n {M : Mem} {a n : Nat} (h : M a 1 = nI n) (hn : n ≤ 8) : (rowL M a).length = n := by rw [rowL, List.length_map, List.length_range, h, nI_clamp (by omega)]
theorem rowL_k {M : Mem} {a n k : Nat} (h : M a 1 = nI n) (hn : n ≤ 8) (hk : k < n) : (rowL M a).getD k 0 = (M (a + 50) k).toNatClampNeg := by
  rw [rowL, List.getD_eq_getElem?_getD, List.getElem?_map, List.getElem?_range (by rw [h, nI_clamp (by omega)]; exact hk)]
  rfl
theorem I4.rl {M : Mem} (h4 : I4 M) {f : Nat} (hf : f < cF M) : okL (rowL M (50 + f)) ∧ rwX M (50 + f) (rowL M (50 + f)) ∧ M 207 f = nI (rowL M (50 + f)).length ∧ ∀ k, k < (rowL M (50 + f)).length → M 208 (8 * f + k) = nI ((rowL M (50 + f)).getD k 0) := by
  obtain ⟨-, -, -, n, h8, h1, h2, h3⟩ := h4 f hf
  have hn := rowL_n h1 h8
  have hk := fun k (hk : k < n) => rowL_k (k := k) h1 h8 hk
  rw [fr50] at hk
  have hv : ∀ k, k < n → M (100 + f) k = nI ((rowL M (50 + f)).getD k 0) ∧ (rowL M (50 + f)).getD k 0 < 16 := fun k hk' => by
    obtain ⟨-, s, hs, e⟩ := h3 k hk'
    rw [hk k hk', e, nI_clamp (by omega)]
    exact ⟨rfl, hs⟩
  refine ⟨⟨by omega, fun k q => (hv k (by omega)).2⟩, ⟨by rw [hn]; exact h1, fun k q => ?_⟩, by rw [hn]; exact h2, fun k q => ?_⟩
  · rw [fr50]; exact (hv k (by omega)).1
  · rw [(h3 k (by omega)).1]; exact (hv k (by omega)).1
theorem I6.rl {M : Mem} (h6 : I6 M) {m : Nat} (hm : m < 6) : (¬ hb (M 0 17) (nI m) ∧ M 210 m = -9) ∨ (hb (M 0 17) (nI m) ∧ ¬ M 210 m = -9 ∧ okL (rowL M (90 + m)) ∧ rwX M (90 + m) (rowL M (90 + m)) ∧ M 210 m = nI (rowL M (90 + m)).length ∧ ∀ k, k < (rowL M (90 + m)).length → M 211 (8 * m + k) = nI ((rowL M (90 + m)).getD k 0)) := by
  obtain ⟨rb, hrb, e17, h⟩ := h6
  have hb' : hb (M 0 17) (nI m) = (rb.testBit m = true) := by rw [e17, hb_nI (by omega) (by omega)]
  rcases h m hm with ⟨q1, q2⟩ | ⟨q1, n, h8, h1, h2, h3⟩
  · exact Or.inl ⟨by rw [hb', q1]; decide, q2⟩
  · have hn := rowL_n h1 h8
    have hk := fun k (hk : k < n) => rowL_k (k := k) h1 h8 hk
    rw [fr90] at hk
    have hv : ∀ k, k < n → M (140 + m) k = nI ((rowL M (90 + m)).getD k 0) ∧ (rowL M (90 + m)).getD k 0 < 16 := fun k hk' => by
      obtain ⟨-, s, hs, e⟩ := h3 k hk'
      rw [hk k hk', e, nI_clamp (by omega)]
      exact ⟨rfl, hs⟩
    refine Or.inr ⟨by rw [hb', q1], by rw [h2]; exact n9 (by omega), ⟨by omega, fun k q => (hv k (by omega)).2⟩, ⟨by rw [hn]; exact h1, fun k q => ?_⟩, by rw [hn]; exact h2, fun k q => ?_⟩
    · rw [fr90]; exact (hv k (by omega)).1
    · rw [(h3 k (by omega)).1]; exact (hv k (by omega)).1
theorem gd_ext {A B : List Nat} (h : A.length = B.length) (hk : ∀ k, k < A.length → A.getD k 0 = B.getD k 0) : A = B := by
  apply List.ext_getElem h
  intro k h1 h2
  have := hk k h1
  rw [List.getD_eq_getElem?_getD, List.getD_eq_getElem?_getD, List.getElem?_eq_getElem h1, List.getElem?_eq_getElem h2] at this
  exact this
theorem e_bec {Mx : Mem} {r r2 : Nat} {L : List Nat} {Q : Mem → Prop} (hr : 50 ≤ r ∧ r < 100) (hr2 : 50 ≤ r2 ∧ r2 < 100) (hne : r ≠ r2) (h : rwX Mx r2 L) (h8 : L.length ≤ 8) (hQ : ∀ M', (∀ a, a ≠ r → a ≠ r + 50 → M' a = Mx a) → rwX M' r L → Q M') : wX7_become r r2 Mx Q :=
  e_become hr hr2 hne h.1 h8 (fun M' b1 b2 b3 => hQ M' b1 ⟨b2, fun k hk => by rw [b3 k hk]; exact h.2 k hk⟩)
theorem e_same {Mx : Mem} {b : Nat} {A B : List Nat} {Q : Int32 → Mem → Prop} (hb : 50 ≤ b ∧ b < 100) (hA : rwX Mx 97 A) (hB : rwX Mx b B) (okA : okL A) (okB : okL B) (hQ : Q (bI (A = B)) Mx) : wX7_isSame 97 b Mx Q := by
  have a8 := okA.1
  have b8 := okB.1
  unfold wX7_isSame
  rw [hA.1, hB.1, nI_eq (by omega) (by omega)]
  refine ⟨by decide, hb, fun q => ?_, fun q => ?_⟩
  · refine ⟨A.length + 1, lq1_ind (fun d x M' => M' = Mx ∧ d ≤ A.length ∧ x = nI (A.length - d) ∧ ∀ k, k < A.length - d → A.getD k 0 = B.getD k 0) ?_ ?_ A.length 0 Mx ⟨rfl, Nat.le_refl _, by rw [Nat.sub_self, nI_0], fun k hk => by omega⟩⟩
    · rintro R x _ ⟨rfl, -, rfl, h⟩
      rw [Nat.sub_zero] at h ⊢
      rw [bI_t (gd_ext q h)] at hQ
      rw [hA.1]
      exact ⟨fun _ => hQ, fun z => absurd (Int32.le_refl _) z⟩
    · rintro d R x _ ⟨rfl, hd, rfl, h⟩ hR
      obtain ⟨k, hk⟩ : ∃ k, k = A.length - (d + 1) := ⟨_, rfl⟩
      rw [← hk] at h ⊢
      have e1 := okA.2 k (by omega)
      have e2 := okB.2 k (by omega)
      rw [hA.1, nI_clamp (n := k) (by omega), hA.2 k (by omega), hB.2 k (by omega), nI_eq (by omega) (by omega)]
      refine ⟨fun z => absurd z (nI_ge (by omega) (by omega)), fun _ => ⟨vp_in_nI (by omega) (by decide), fun z => hR _ _ ⟨rfl, by omega, by rw [nI_1]; congr 1; omega, fun j hj => ?_⟩, fun z => ?_⟩⟩
      · by_cases w : j = k
        · rw [w]; exact z
        · exact h j (by omega)
      · rw [bI_f (fun y => z (by rw [y]))] at hQ
        exact hQ
  · rw [bI_f (fun y => q (by rw [y]))] at hQ
    exact hQ
theorem m_isForms {M Mx : Mem} (hI : Inv M) {f : Nat} {A : List Nat} {Q : Int32 → Mem → Prop} (hf : f < cF M) (hA : rwM Mx A) (okA : okL A) (r7 : Mx 207 = M 207) (r8 : Mx 208 = M 208) (hQ : Q (bI (A = rowL M (50 + f))) Mx) : wX11_isForms (nI f) Mx Q := by
  have hF := hI.1.2.1.2.1
  obtain ⟨okB, -, b1, b2⟩ := hI.2.2.2.2.1.rl hf
  obtain ⟨B, hB⟩ : ∃ B, B = rowL M (50 + f) := ⟨_, rfl⟩
  rw [← hB] at okB b1 b2 hQ
  have a8 := okA.1
  have b8 := okB.1
  unfold wX11_isForms
  rw [hA.1, nI_clamp (n := f) (by omega), r7, b1, nI_eq (by omega) (by omega)]
  refine ⟨vp_in_nI (by omega) (by decide), fun q => ?_, fun q => ?_⟩
  · refine ⟨A.length + 1, lq1_ind (fun d x M' => M' = Mx ∧ d ≤ A.length ∧ x = nI (A.length - d) ∧ ∀ k, k < A.length - d → A.getD k 0 = B.getD k 0) ?_ ?_ A.length 0 Mx ⟨rfl, Nat.le_refl _, by rw [Nat.sub_self, nI_0], fun k hk => by omega⟩⟩
    · rintro R x _ ⟨rfl, -, rfl, h⟩
      rw [Nat.sub_zero] at h ⊢
      rw [bI_t (gd_ext q h)] at hQ
      rw [hA.1]
      exact ⟨fun _ => hQ, fun z => absurd (Int32.le_refl _) z⟩
    · rintro d R x _ ⟨rfl, hd, rfl, h⟩ hR
      obtain ⟨k, hk⟩ : ∃ k, k = A.length - (d + 1) := ⟨_, rfl⟩
      rw [← hk] at h ⊢
      have e1 := okA.2 k (by omega)
      have e2 := okB.2 k (by omega)
      have i2 : (8 : Int32) * nI f + nI k = nI (8 * f + k) := by rw [show (8 : Int32) = nI 8 by decide, pk_mul, nI_add]
      rw [i2, hA.1, nI_clamp (n := k) (by omega), nI_clamp (n := 8 * f + k) (by omega), hA.2 k (by omega), r8, b2 k (by omega), nI_eq (by omega) (by omega)]
      refine ⟨fun z => absurd z (nI_ge (by omega) (by omega)), fun _ => ⟨vp_in_nI (by omega) (by decide), vp_in_nI (by omega) (by decide), fun z => hR _ _ ⟨rfl, by omega, by rw [nI_1]; congr 1; omega, fun j hj => ?_⟩, fun z => ?_⟩⟩
      · by_cases w : j = k
        · rw [w]; exact z
        · exact h j (by omega)
      · rw [bI_f (fun y => z (by rw [y]))] at hQ
        exact hQ
  · rw [bI_f (fun y => q (by rw [y]))] at hQ
    exact hQ
/-- how many, or the sound at a place, or none -/
noncomputable def soA (L : List Nat) (a : Int32) : Int32 := if a = -1 then nI L.length else @ite Int32 (vp_in a L.length) (Classical.propDecidable _) (nI (L.getD a.toNatClampNeg 0)) (-9)
theorem e_soA {Mx : Mem} {r : Nat} {L : List Nat} {a : Int32} {Q : Int32 → Mem → Prop} (hr : 50 ≤ r ∧ r < 100) (h : rwX Mx r L) (h8 : L.length ≤ 8) (hQ : Q (soA L a) Mx) : wX7_sizeOrAt r a Mx Q := by
  unfold wX7_sizeOrAt
  unfold soA at hQ
  refine ⟨hr, fun q => ?_, fun q => ?_⟩
  · rw [if_neg q] at hQ
    refine e_at hr h.1 h8 ⟨fun z => ?_, fun z => ?_⟩
    · rw [if_pos z] at hQ
      rw [h.2 _ (vp_lt z)]
      exact hQ
    · rw [if_neg z] at hQ
      exact hQ
  · rw [if_pos q] at hQ
    rw [h.1]
    exact hQ
theorem m_soA {Mx : Mem} {t N : Nat} {v : Int32} {L : List Nat} {a : Int32} {Q : Int32 → Mem → Prop} (hv : v = nI L.length) (hL : L.length ≤ N) (hN : N ≤ 8) (hk : ∀ k, k < L.length → Mx t k = nI (L.getD k 0)) (ha : ¬ a < -1) (hQ : Q (soA L a) Mx) :
    (¬ a = -1 → ((v ≤ a → Q (-9) Mx) ∧ (¬ v ≤ a → vp_in a N ∧ Q (Mx t a.toNatClampNeg) Mx))) ∧ (a = -1 → Q v Mx) := by
  unfold soA at hQ
  refine ⟨fun q => ?_, fun q => ?_⟩
  · rw [if_neg q] at hQ
    have h0 : ¬ a < 0 := fun z => q (by
      rw [Int32.lt_iff_toInt_lt] at ha z
      apply Int32.toInt_inj.mp
      have e1 : (-1 : Int32).toInt = -1 := rfl
      have e0 : (0 : Int32).toInt = 0 := rfl
      rw [e1] at ha ⊢
      rw [e0] at z
      omega)
    have e : vp_in a L.length = ¬ v ≤ a := by rw [← vp_iff (by omega), hv]; simp [h0]
    refine ⟨fun z => ?_, fun z => ?_⟩
    · rw [if_neg (by rw [e]; exact fun y => y z)] at hQ
      exact hQ
    · have z' : vp_in a L.length := by rw [e]; exact z
      rw [if_pos z'] at hQ
      rw [hk _ (vp_lt z')]
      exact ⟨vp_mono z' hL, hQ⟩
  · rw [if_pos q] at hQ
    rw [hv]
    exact hQ
