def szl (c : Nat) : Nat → Nat → Nat → Nat → Nat × Nat
  | 0, left, _, size => (size, left)
  | d + 1, left, of, size => if left < of then (size, left) else szl c d (left - of) (of * c) (size + 1)
def dgt (S : List Nat) : Nat → Nat → List Nat
  | 0, _ => []
  | k + 1, left => dgt S k (left / S.length) ++ [S.getD (left % S.length) 0]
def cnd (S : List Nat) (num : Nat) : List Nat := dgt S (szl S.length 3 num 1 0).1 (szl S.length 3 num 1 0).2
theorem dgt_n {S : List Nat} : ∀ k left, (dgt S k left).length = k := by
  intro k
  induction k with
  | zero => intro _; rfl
  | succ k ih => intro left; rw [dgt, ln_a, ih]
theorem dgt_b {S : List Nat} (hS : 1 ≤ S.length) (h16 : ∀ k, k < S.length → S.getD k 0 < 16) : ∀ k left j, j < k → (dgt S k left).getD j 0 < 16 := by
  intro k
  induction k with
  | zero => intro left j hj; exact absurd hj (Nat.not_lt_zero _)
  | succ k ih =>
    intro left j hj
    have l := dgt_n (S := S) k (left / S.length)
    rw [dgt]
    by_cases w : j = k
    · have := gd_r (L := dgt S k (left / S.length)) (s := S.getD (left % S.length) 0)
      rw [l] at this
      rw [w, this]
      exact h16 _ (Nat.mod_lt _ (by omega))
    · rw [gd_l (by omega)]
      exact ih _ j (by omega)
theorem szl_b {c : Nat} : ∀ d left of size, (szl c d left of size).1 ≤ size + d ∧ (szl c d left of size).2 ≤ left := by
  intro d
  induction d with
  | zero => intro left of size; exact ⟨Nat.le_refl _, Nat.le_refl _⟩
  | succ d ih =>
    intro left of size
    rw [szl]
    split
    · exact ⟨by show size ≤ _; omega, Nat.le_refl _⟩
    · have := ih (left - of) (of * c) (size + 1)
      omega
theorem cnd_n {S : List Nat} {num : Nat} : (cnd S num).length = (szl S.length 3 num 1 0).1 ∧ (cnd S num).length ≤ 3 := by
  have := (szl_b (c := S.length) 3 num 1 0).1
  unfold cnd
  rw [dgt_n]
  omega
theorem cnd_ok {S : List Nat} {num : Nat} (hS : 1 ≤ S.length) (h16 : ∀ k, k < S.length → S.getD k 0 < 16) : okL (cnd S num) := by
  have l := cnd_n (S := S) (num := num)
  refine ⟨by omega, fun k hk => ?_⟩
  rw [l.1] at hk
  exact dgt_b hS h16 _ _ k hk
theorem app_c {A T : List Nat} {x : Nat} : (A ++ [x]) ++ T = A ++ (x :: T) := by rw [List.append_assoc]; rfl
theorem gd_c0 {T : List Nat} {x : Nat} : (x :: T).getD 0 0 = x := rfl
theorem gd_cs {T : List Nat} {x j : Nat} : (x :: T).getD (j + 1) 0 = T.getD j 0 := rfl
/-- the digits of a row, from behind: in both alike -/
theorem dig {ci cj B t u : Nat} {S : List Nat} {Q : Mem → Prop} {k left : Nat} {Mx : Mem} (ht : t ≠ ci) (ht2 : t ≠ u) (hS : 1 ≤ S.length) (hS5 : S.length ≤ 5) (hc : Mx ci cj = nI S.length) (su : ∀ k, k < S.length → Mx u k = nI (S.getD k 0)) (hk : k ≤ 3) (hB : 3 ≤ B) (hB2 : B ≤ 8) (hl : left < 2 ^ 31)
    (hQ : ∀ M', (∀ r, r ≠ t → M' r = Mx r) → (∀ j, j < k → M' t j = nI ((dgt S k left).getD j 0)) → Q M') :
    ∃ n, lq2 (fun R x y (M : Mem) => ((y < 0 → Q M) ∧ (¬ y < 0 → ¬ (M ci cj) = 0 ∧ vp_in (x - x / (M ci cj) * (M ci cj)) 5 ∧ vp_in y B ∧ (∀ N, N = mset M t (Int32.toNatClampNeg y) (M u (Int32.toNatClampNeg (x - x / (M ci cj) * (M ci cj)))) → ¬ (N ci cj) = 0 ∧ R (x / (N ci cj)) (y + (-1)) N)))) n (nI left) (dI k) Mx := by
  refine ⟨k + 1, lq2_ind (fun d x y M' => d ≤ k ∧ y = dI d ∧ (∀ r, r ≠ t → M' r = Mx r) ∧ ∃ (l' : Nat) (T : List Nat), x = nI l' ∧ l' < 2 ^ 31 ∧ dgt S d l' ++ T = dgt S k left ∧ T.length = k - d ∧ ∀ j, j < T.length → M' t (d + j) = nI (T.getD j 0)) ?_ ?_ k _ _ Mx ⟨Nat.le_refl _, rfl, fun _ _ => rfl, left, [], rfl, hl, List.append_nil _, by rw [Nat.sub_self]; rfl, fun j hj => absurd hj (Nat.not_lt_zero _)⟩⟩
  · rintro R x y M' ⟨-, rfl, g1, l', T, rfl, -, g2, g3, g4⟩
    refine ⟨fun _ => hQ M' g1 (fun j hj => ?_), fun z => absurd dI_0 z⟩
    rw [dgt, List.nil_append] at g2
    have := g4 j (by omega)
    rw [Nat.zero_add] at this
    rw [← g2]
    exact this
  · rintro d R x y M' ⟨hd, rfl, g1, l', T, rfl, hl', g2, g3, g4⟩ hR
    have c0 : M' ci cj = nI S.length := by rw [g1 ci (fun e => ht e.symm)]; exact hc
    have nz : ¬ nI S.length = 0 := nI_ne0 (by omega) (by omega)
    have lm : l' % S.length < S.length := Nat.mod_lt _ (by omega)
    have ld : l' / S.length ≤ l' := Nat.div_le_self _ _
    rw [show dI (d + 1) = nI d from rfl, c0, pk_rem hl' (by omega) (by omega), nI_clamp (n := d) (by omega), nI_clamp (by omega), g1 u (fun e => ht2 e.symm), su _ lm]
    refine ⟨fun z => absurd z (nI_pos (by omega)), fun _ => ⟨nz, vp_in_nI (by omega) (by decide), vp_in_nI (by omega) (by omega), fun N hN => ?_⟩⟩
    have c1 : N ci cj = nI S.length := by rw [hN, mset_row (fun e => ht e.symm), c0]
    rw [c1, pk_div hl' (by omega) (by omega), dI_s]
    refine ⟨nz, hR _ _ _ ⟨by omega, rfl, fun r hr => by rw [hN, mset_row hr, g1 r hr], l' / S.length, S.getD (l' % S.length) 0 :: T, rfl, by omega, ?_, ?_, fun j hj => ?_⟩⟩
    · rw [← app_c]
      exact g2
    · rw [List.length_cons]
      omega
    · rw [hN]
      cases j with
      | zero => rw [gd_c0, Nat.add_zero, mset_eq]
      | succ j =>
        rw [gd_cs, mset_ne (by omega), show d + (j + 1) = d + 1 + j by omega]
        exact g4 j (by rw [List.length_cons] at hj; omega)
theorem e_write {r num : Nat} {S : List Nat} {Mx : Mem} {Q : Mem → Prop} (hr : r = 97 ∨ r = 98) (hS : 1 ≤ S.length) (hS5 : S.length ≤ 5) (hc : CdX Mx S) (hnum : num < 2 ^ 30) (hQ : ∀ M', (∀ a, a ≠ r → a ≠ r + 50 → M' a = Mx a) → rwX M' r (cnd S num) → Q M') : wX0_writeTo r (nI num) Mx Q := by
  unfold wX0_writeTo
  refine ⟨by omega, by omega, fun N hN => ?_⟩
  subst hN
  have c1 : ∀ M' : Mem, (∀ a, a ≠ r → M' a = Mx a) → M' 15 1 = nI S.length := fun M' g => by rw [g 15 (by omega)]; exact hc.1
  have g0 : ∀ a, a ≠ r → mset Mx r 1 0 a = Mx a := fun a ha => mset_row ha
  refine ⟨fun _ => ?_, fun z => ?_⟩
  · have fin : ∀ (M2 : Mem) (size left : Nat), (∀ a, a ≠ r → M2 a = Mx a) → M2 r 1 = nI size → (size, left) = szl S.length 3 num 1 0 → left < 2 ^ 31 → (∃ n, lq2 (fun R67 (x67_3 : Int32) (x67_5 : Int32) (M67 : Mem) => ((x67_5 < 0 → Q M67) ∧ (¬ x67_5 < 0 → ¬ (M67 15 1) = 0 ∧ vp_in (x67_3 - x67_3 / (M67 15 1) * (M67 15 1)) 5 ∧ vp_in x67_5 8 ∧ (∀ N89, N89 = mset M67 (r + 50) (Int32.toNatClampNeg x67_5) (M67 16 (Int32.toNatClampNeg (x67_3 - x67_3 / (M67 15 1) * (M67 15 1)))) → ¬ (N89 15 1) = 0 ∧ R67 (x67_3 / (N89 15 1)) (x67_5 + (-1)) N89)))) n (nI left) ((M2 r 1) - 1) M2) := fun M2 size left g1 g2 g3 g4 => by
      have es : cnd S num = dgt S size left := by rw [cnd, ← g3]
      have sz := (szl_b (c := S.length) 3 num 1 0).1
      rw [← g3] at sz
      have sz : size ≤ 3 := sz
      rw [g2, Int32.sub_eq_add_neg, dI_s]
      refine dig (ci := 15) (cj := 1) (t := r + 50) (u := 16) (by omega) (by omega) hS hS5 (c1 M2 g1) (fun k hk => by rw [g1 16 (by omega)]; exact hc.2.1 k hk) sz (by decide) (by decide) g4 (fun M' f1 f2 => hQ M' (fun a w1 w2 => by rw [f1 a w2, g1 a w1]) ⟨?_, fun k hk => ?_⟩)
      · rw [f1 r (by omega), g2, es, dgt_n]
      · rw [es, dgt_n] at hk
        rw [es]
        exact f2 k hk
    refine ⟨3 + 1, lq2_ind (fun d x y M2 => ∃ left of size, x = nI left ∧ y = nI of ∧ left ≤ num ∧ of ≤ 5 ^ size ∧ size + d = 3 ∧ (∀ a, a ≠ r → M2 a = Mx a) ∧ M2 r 1 = nI size ∧ szl S.length d left of size = szl S.length 3 num 1 0) ?_ ?_ 3 _ _ _ ⟨num, 1, 0, rfl, rfl, Nat.le_refl _, Nat.le_refl _, rfl, g0, mset_eq, rfl⟩⟩
    · rintro R x y M2 ⟨left, of, size, rfl, rfl, h1, h2, h3, h4, h5, h6⟩
      unfold jn0
      rw [h5, show (3 : Int32) ≤ nI size ↔ 3 ≤ size from nI_leI (a := 3) (by decide) (by omega)]
      refine ⟨fun _ => ?_, fun z => by omega⟩
      exact fin M2 size left h4 h5 h6 (by omega)
    · rintro d R x y M2 ⟨left, of, size, rfl, rfl, h1, h2, h3, h4, h5, h6⟩ hR
      have p5 : 5 ^ size ≤ 5 ^ 3 := Nat.pow_le_pow_right (by decide) (by omega)
      rw [show (5 : Nat) ^ 3 = 125 by decide] at p5
      unfold jn0
      rw [h5, show (3 : Int32) ≤ nI size ↔ 3 ≤ size from nI_leI (a := 3) (by decide) (by omega), nI_ltI (by omega) (by omega)]
      rw [szl] at h6
      refine ⟨fun z => by omega, fun _ => ⟨fun z => ?_, fun z N hN => ?_⟩⟩
      · rw [if_pos z] at h6
        exact fin M2 size left h4 h5 h6 (by omega)
      · rw [if_neg z] at h6
        rw [c1 M2 h4, pk_sub (by omega), pk_mul]
        refine hR _ _ _ ⟨left - of, of * S.length, size + 1, rfl, rfl, by omega, ?_, by omega, fun a ha => by rw [hN, mset_row ha, h4 a ha], by rw [hN, mset_eq, nI_1], h6⟩
        exact Nat.mul_le_mul h2 hS5
  · rw [c1 _ g0] at z
    exact absurd (nI_le (a := 1) (by omega) (by omega)) z
def ttl (c : Nat) : Nat → Nat → Nat
  | 0, of => of
  | d + 1, of => of + ttl c d (of * c)
theorem tt_tot : ∀ c, c ≤ 5 → ttl c 3 1 = tot c ∧ tot c ≤ 156 ∧ 1 + c + c * c + c * c * c = tot c := by decide
theorem m_layC {num : Nat} {S : List Nat} {Mx : Mem} {Q : Mem → Prop} (hS : 1 ≤ S.length) (hS5 : S.length ≤ 5) (hc : CdM Mx S) (hnum : num < tot S.length) (hQ : ∀ M', (∀ a, a ≠ 49 → a ≠ 228 → M' a = Mx a) → (∀ k, k ≠ 39 → M' 49 k = Mx 49 k) → M' 49 39 = nI (cnd S num).length → (∀ k, k < (cnd S num).length → M' 228 k = nI ((cnd S num).getD k 0)) → Q M') : wX11_layCandidate (nI num) Mx Q := by
  obtain ⟨t1, t2, -⟩ := tt_tot _ hS5
  unfold wX11_layCandidate
  intro N hN
  subst hN
  refine ⟨3 + 1, lq2_ind (fun d x y M2 => ∃ left of size, x = nI left ∧ y = nI of ∧ left ≤ num ∧ of ≤ 5 ^ size ∧ size + d = 3 ∧ (∀ a, a ≠ 49 → M2 a = Mx a) ∧ (∀ k, k ≠ 39 → M2 49 k = Mx 49 k) ∧ M2 49 39 = nI size ∧ left < ttl S.length d of ∧ szl S.length d left of size = szl S.length 3 num 1 0) ?_ ?_ 3 _ _ _ ⟨num, 1, 0, rfl, rfl, Nat.le_refl _, Nat.le_refl _, rfl, fun a ha => mset_row ha, fun k hk => mset_ne (by omega), mset_eq, by omega, rfl⟩⟩
  · rintro R x y M2 ⟨left, of, size, rfl, rfl, h1, h2, h3, h4, h7, h5, h8, h6⟩
    have p5 : 5 ^ size ≤ 5 ^ 3 := Nat.pow_le_pow_right (by decide) (by omega)
    rw [show (5 : Nat) ^ 3 = 125 by decide] at p5
    rw [ttl] at h8
    rw [szl] at h6
    have es : cnd S num = dgt S size left := by rw [cnd, ← h6]
    refine ⟨fun _ => ?_, fun z => absurd (nI_lt h8 (by omega)) z⟩
    rw [h5, Int32.sub_eq_add_neg, dI_s]
    refine dig (ci := 49) (cj := 41) (t := 228) (u := 230) (by decide) (by decide) hS hS5 (by rw [h7 41 (by decide)]; exact hc.1) (fun k hk => by rw [h4 230 (by decide)]; exact hc.2 k hk) (by omega) (by decide) (by decide) (by omega) (fun M' f1 f2 => hQ M' (fun a w1 w2 => by rw [f1 a w2, h4 a w1]) (fun k hk => by rw [f1 49 (by decide), h7 k hk]) ?_ (fun k hk => ?_))
    · rw [f1 49 (by decide), h5, es, dgt_n]
    · rw [es, dgt_n] at hk
      rw [es]
      exact f2 k hk
  · rintro d R x y M2 ⟨left, of, size, rfl, rfl, h1, h2, h3, h4, h7, h5, h8, h6⟩ hR
    have p5 : 5 ^ size ≤ 5 ^ 3 := Nat.pow_le_pow_right (by decide) (by omega)
    rw [show (5 : Nat) ^ 3 = 125 by decide] at p5
    rw [ttl] at h8
    rw [szl] at h6
    rw [nI_ltI (by omega) (by omega)]
    refine ⟨fun z => ?_, fun z N hN => ?_⟩
    · rw [if_pos z] at h6
      have es : cnd S num = dgt S size left := by rw [cnd, ← h6]
      rw [h5, Int32.sub_eq_add_neg, dI_s]
      refine dig (ci := 49) (cj := 41) (t := 228) (u := 230) (by decide) (by decide) hS hS5 (by rw [h7 41 (by decide)]; exact hc.1) (fun k hk => by rw [h4 230 (by decide)]; exact hc.2 k hk) (by omega) (by decide) (by decide) (by omega) (fun M' f1 f2 => hQ M' (fun a w1 w2 => by rw [f1 a w2, h4 a w1]) (fun k hk => by rw [f1 49 (by decide), h7 k hk]) ?_ (fun k hk => ?_))
      · rw [f1 49 (by decide), h5, es, dgt_n]
      · rw [es, dgt_n] at hk
        rw [es]
        exact f2 k hk
    · rw [if_neg z] at h6
      rw [h7 41 (by decide), hc.1, pk_sub (by omega), pk_mul]
      refine hR _ _ _ ⟨left - of, of * S.length, size + 1, rfl, rfl, by omega, Nat.mul_le_mul h2 hS5, by omega, fun a ha => by rw [hN, mset_row ha, h4 a ha], fun k hk => by rw [hN, mset_ne (by omega), h7 k hk], by rw [hN, mset_eq, h5, nI_1], by omega, h6⟩
