/-! the members of a set and the rows made of them -/
def smL (s : Nat) : Nat → List Nat
  | 0 => []
  | x + 1 => if s.testBit x = true then smL s x ++ [x] else smL s x
theorem smL_n {s : Nat} : ∀ x, (smL s x).length = bct s x := by
  intro x
  induction x with
  | zero => rfl
  | succ x ih =>
    rw [smL, bct]
    cases h : s.testBit x
    · rw [if_neg (by decide), ih]; rfl
    · rw [if_pos rfl, ln_a, ih]; rfl
theorem smL_b {s : Nat} : ∀ x k, k < (smL s x).length → (smL s x).getD k 0 < x := by
  intro x
  induction x with
  | zero => intro k hk; exact absurd hk (Nat.not_lt_zero _)
  | succ x ih =>
    intro k hk
    rw [smL] at hk ⊢
    by_cases h : s.testBit x = true
    · rw [if_pos h] at hk ⊢
      rw [ln_a] at hk
      by_cases w : k = (smL s x).length
      · rw [w, gd_r]; omega
      · rw [gd_l (by omega)]; have := ih k (by omega); omega
    · rw [if_neg h] at hk ⊢
      have := ih k hk
      omega
theorem bct_m {s i : Nat} : ∀ d, bct s i ≤ bct s (i + d) := by
  intro d
  induction d with
  | zero => exact Nat.le_refl _
  | succ d ih => rw [← Nat.add_assoc, bct]; omega
theorem smL_e {s i : Nat} : ∀ d, bct s (i + d) ≤ bct s i → smL s (i + d) = smL s i := by
  intro d
  induction d with
  | zero => intro _; rfl
  | succ d ih =>
    intro h
    have m := bct_m (s := s) (i := i) d
    rw [← Nat.add_assoc, bct] at h
    rw [← Nat.add_assoc, smL]
    cases hb : s.testBit (i + d)
    · rw [if_neg (by decide)]
      exact ih (by omega)
    · rw [hb] at h
      have : (true).toNat = 1 := rfl
      omega
def okS (a : Int32) : Prop := ∃ s, s < 65536 ∧ a = nI s ∧ 1 ≤ bct s 16 ∧ bct s 16 ≤ 5
theorem bct_le {s : Nat} : ∀ i, bct s i ≤ i := by
  intro i
  induction i with
  | zero => exact Nat.le_refl _
  | succ i ih =>
    rw [bct]
    have : (s.testBit i).toNat ≤ 1 := by cases s.testBit i <;> decide
    omega
theorem bct_0 : bct 0 16 = 0 := by decide
theorem bct_1 {s : Nat} (h : s < 65536) (h0 : 1 ≤ s) : 1 ≤ bct s 16 := by
  rcases Nat.eq_zero_or_pos (bct s 16) with q | q
  · exfalso
    have all : ∀ i, i < 16 → s.testBit i = false := fun i hi => by
      have m := bct_m (s := s) (i := i + 1) (16 - (i + 1))
      rw [show i + 1 + (16 - (i + 1)) = 16 by omega, q, bct] at m
      cases hb : s.testBit i
      · rfl
      · rw [hb] at m
        have : (true).toNat = 1 := rfl
        omega
    have : s = 0 := by
      apply Nat.eq_of_testBit_eq
      intro i
      rw [Nat.zero_testBit]
      rcases Nat.lt_or_ge i 16 with w | w
      · exact all i w
      · exact Nat.testBit_lt_two_pow (Nat.lt_of_lt_of_le h (Nat.pow_le_pow_right (n := 2) (by decide) w))
    omega
  · exact q
theorem e_isSought {a : Int32} {M : Mem} {Q : Int32 → Mem → Prop} (hQ : Q (bI (okS a)) M) : wX10_isSoughtSet a M Q := by
  unfold wX10_isSoughtSet
  rw [e_set16]
  by_cases h : vp_in a 65536
  · obtain ⟨s, hs, e, -⟩ := vp_nI h (by decide)
    have bl := bct_le (s := s) 16
    rw [bI_t h]
    refine ⟨fun z => absurd z (by decide), fun _ => ?_⟩
    rw [e]
    refine e_bc16 hs ?_
    rw [e_isWithin, show nI (bct s 16) < 1 ↔ bct s 16 < 1 from nI_ltI (b := 1) (by omega) (by decide), show 5 < nI (bct s 16) ↔ 5 < bct s 16 from nI_ltI (a := 5) (by decide) (by omega), bI_0]
    refine ⟨fun z => ?_, fun z => ?_⟩
    · rw [bI_f (fun ⟨t, ht, et, t1, t2⟩ => z (by
        rw [e, nI_eq (by omega) (by omega)] at et
        rw [et]
        exact ⟨by omega, by omega⟩))] at hQ
      exact hQ
    · have z := Classical.not_not.mp z
      rw [bI_t ⟨s, hs, e, by omega, by omega⟩] at hQ
      exact hQ
  · rw [bI_f h]
    rw [bI_f (fun ⟨t, ht, et, _⟩ => h (by rw [et]; exact vp_in_nI ht (by decide)))] at hQ
    exact ⟨fun _ => hQ, fun z => absurd rfl z⟩
def tot (c : Nat) : Nat := 1 + c * (1 + c * (1 + c))
def CdX (M : Mem) (S : List Nat) : Prop := M 15 1 = nI S.length ∧ (∀ k, k < S.length → M 16 k = nI (S.getD k 0)) ∧ M 15 2 = nI (tot S.length)
def CdM (M : Mem) (S : List Nat) : Prop := M 49 41 = nI S.length ∧ ∀ k, k < S.length → M 230 k = nI (S.getD k 0)
theorem e_begin {s : Nat} {Mx : Mem} {Q : Mem → Prop} (hs : s < 65536) (h5 : bct s 16 ≤ 5) (hQ : ∀ M', (∀ r, r ≠ 15 → r ≠ 16 → M' r = Mx r) → CdX M' (smL s 16) → Q M') : wX0_begin (nI s) Mx Q := by
  unfold wX0_begin
  intro N hN
  subst hN
  have fin : ∀ M2 : Mem, (∀ r, r ≠ 15 → r ≠ 16 → M2 r = Mx r) → M2 15 1 = nI (smL s 16).length → (∀ k, k < (smL s 16).length → M2 16 k = nI ((smL s 16).getD k 0)) → ∀ N76, N76 = mset M2 15 2 (1 + ((M2 15 1) * (1 + ((M2 15 1) * (1 + (M2 15 1)))))) → Q N76 := fun M2 g1 g2 g3 N hN => by
    refine hQ N (fun r w1 w2 => by rw [hN, mset_row w1, g1 r w1 w2]) ⟨by rw [hN, mset_ne (by omega), g2], fun k hk => by rw [hN, mset_row (by decide), g3 k hk], ?_⟩
    rw [hN, mset_eq, g2, show (1 : Int32) = nI 1 by decide, nI_add, pk_mul, nI_add, pk_mul, nI_add]
    rfl
  refine ⟨16 + 1, lq1_ind (fun d x M2 => d ≤ 16 ∧ x = nI (16 - d) ∧ (∀ r, r ≠ 15 → r ≠ 16 → M2 r = Mx r) ∧ M2 15 1 = nI (smL s (16 - d)).length ∧ ∀ k, k < (smL s (16 - d)).length → M2 16 k = nI ((smL s (16 - d)).getD k 0)) ?_ ?_ 16 0 _ ⟨Nat.le_refl _, rfl, fun r w1 w2 => by rw [mset_row w1], by rw [mset_eq]; rfl, fun k hk => absurd hk (Nat.not_lt_zero _)⟩⟩
  · rintro R x M2 ⟨-, rfl, g1, g2, g3⟩
    unfold jn0
    exact ⟨fun _ => fin M2 g1 g2 g3, fun z => absurd (by decide) z⟩
  · rintro d R x M2 ⟨hd, rfl, g1, g2, g3⟩ hR
    obtain ⟨i, hi⟩ : ∃ i, i = 16 - (d + 1) := ⟨_, rfl⟩
    rw [← hi] at g2 g3 ⊢
    have e1 : 16 - d = i + 1 := by omega
    have len := smL_n (s := s) i
    have m16 := bct_m (s := s) (i := i) (16 - i)
    rw [show i + (16 - i) = 16 by omega] at m16
    unfold jn0
    rw [g2, show 5 ≤ nI (smL s i).length ↔ 5 ≤ (smL s i).length from nI_leI (a := 5) (by decide) (by omega)]
    refine ⟨fun z => absurd z (nI_ge (b := 16) (by omega) (by decide)), fun _ => ⟨fun z => ?_, fun z => ?_⟩⟩
    · have e := smL_e (s := s) (i := i) (16 - i) (by rw [show i + (16 - i) = 16 by omega]; omega)
      rw [show i + (16 - i) = 16 by omega] at e
      exact fin M2 g1 (by rw [e]; exact g2) (by rw [e]; exact g3)
    · rw [e_isIn, hb_nI (by omega) (by omega), bI_0]
      refine ⟨fun z2 => hR _ _ ⟨by omega, by rw [nI_1, e1], g1, ?_, ?_⟩, fun z2 => ⟨by rw [g2]; exact vp_in_nI (by omega) (by decide), fun N1 h1 N2 h2 => hR _ _ ⟨by omega, by rw [nI_1, e1], ?_, ?_, ?_⟩⟩⟩
      · rw [e1, smL, if_neg z2]; exact g2
      · rw [e1, smL, if_neg z2]; exact g3
      · intro r w1 w2
        rw [h2, mset_row w1, h1, mset_row w2, g1 r w1 w2]
      · rw [e1, smL, if_pos (Classical.not_not.mp z2), ln_a, h2, mset_eq, h1, mset_row (by decide), g2, nI_1]
      · intro k hk
        rw [e1, smL, if_pos (Classical.not_not.mp z2)] at hk ⊢
        rw [ln_a] at hk
        rw [h2, mset_row (by decide), h1, g2, nI_clamp (by omega)]
        by_cases w : k = (smL s i).length
        · rw [w, mset_eq, gd_r]
        · rw [mset_ne (by omega), g3 k (by omega), gd_l (by omega)]
theorem m_laySet {a : Int32} {Mx : Mem} {Q : Int32 → Mem → Prop} (hQ0 : ¬ okS a → ∀ M', (∀ r, r ≠ 49 → r ≠ 230 → M' r = Mx r) → (∀ k, k ≠ 41 → M' 49 k = Mx 49 k) → Q 0 M')
    (hQ1 : ∀ s, s < 65536 → a = nI s → 1 ≤ bct s 16 → bct s 16 ≤ 5 → ∀ M', (∀ r, r ≠ 49 → r ≠ 230 → M' r = Mx r) → (∀ k, k ≠ 41 → M' 49 k = Mx 49 k) → CdM M' (smL s 16) → Q 1 M') : wX11_laySet a Mx Q := by
  unfold wX11_laySet
  intro N hN
  subst hN
  have f1 : ∀ r, r ≠ 49 → r ≠ 230 → mset Mx 49 41 0 r = Mx r := fun r w1 w2 => by rw [mset_row w1]
  have f2 : ∀ k, k ≠ 41 → mset Mx 49 41 0 49 k = Mx 49 k := fun k hk => by rw [mset_ne (by omega)]
  refine ⟨fun z => hQ0 (fun ⟨s, hs, e, t1, t2⟩ => ?_) _ f1 f2, fun z1 => ⟨fun z2 => ?_, fun z => hQ0 (fun ⟨s, hs, e, t1, t2⟩ => ?_) _ f1 f2⟩⟩
  · rw [e, show nI s < 1 ↔ s < 1 from nI_ltI (b := 1) (by omega) (by decide)] at z
    rw [show s = 0 by omega, bct_0] at t1
    omega
  · obtain ⟨s, hs, e⟩ := nI_of2 (x := a) (M := 65535) (n := 65535) (by decide) (fun y => z1 (Int32.lt_trans y (by decide))) z2
    rw [e, show nI s < 1 ↔ s < 1 from nI_ltI (b := 1) (by omega) (by decide)] at z1
    have b1 := bct_1 (s := s) (by omega) (by omega)
    rw [e]
    refine ⟨16 + 1, lq1_ind (fun d x M2 => d ≤ 16 ∧ x = nI (16 - d) ∧ (∀ r, r ≠ 49 → r ≠ 230 → M2 r = Mx r) ∧ (∀ k, k ≠ 41 → M2 49 k = Mx 49 k) ∧ CdM M2 (smL s (16 - d)) ∧ bct s (16 - d) ≤ 5) ?_ ?_ 16 0 _ ⟨Nat.le_refl _, rfl, f1, f2, ⟨by rw [mset_eq]; rfl, fun k hk => absurd hk (Nat.not_lt_zero _)⟩, Nat.zero_le _⟩⟩
    · rintro R x M2 ⟨-, rfl, g1, g4, g2, g3⟩
      exact ⟨fun _ => hQ1 s (by omega) e b1 g3 M2 g1 g4 g2, fun z => absurd (by decide) z⟩
    · rintro d R x M2 ⟨hd, rfl, g1, g4, g2, g3⟩ hR
      obtain ⟨i, hi⟩ : ∃ i, i = 16 - (d + 1) := ⟨_, rfl⟩
      rw [← hi] at g2 g3 ⊢
      have e1 : 16 - d = i + 1 := by omega
      have len := smL_n (s := s) i
      have m16 := bct_m (s := s) (i := i + 1) (16 - (i + 1))
      rw [show i + 1 + (16 - (i + 1)) = 16 by omega, bct] at m16
      rw [e_has, hb_nI (by omega) (by omega), bI_0]
      refine ⟨fun z => absurd z (nI_ge (b := 16) (by omega) (by decide)), fun _ => ⟨fun z => hR _ _ ⟨by omega, by rw [nI_1, e1], g1, g4, by rw [e1, smL, if_neg z]; exact g2, by
        rw [e1, bct]
        cases hb : s.testBit i
        · exact g3
        · exact absurd hb z⟩, fun z => ?_⟩⟩
      have z := Classical.not_not.mp z
      rw [z] at m16
      have tt : (true).toNat = 1 := rfl
      rw [g2.1, show nI (smL s i).length = 5 ↔ (smL s i).length = 5 from nI_eq (b := 5) (by omega) (by decide)]
      refine ⟨fun w => ⟨vp_in_nI (by omega) (by decide), fun N1 h1 N2 h2 => hR _ _ ⟨by omega, by rw [nI_1, e1], ?_, ?_, ⟨?_, ?_⟩, ?_⟩⟩, fun w => hQ0 (fun ⟨t, ht, et, t1, t2⟩ => ?_) M2 g1 g4⟩
      · intro r w1 w2
        rw [h2, mset_row w1, h1, mset_row w2, g1 r w1 w2]
      · intro k hk
        rw [h2, mset_ne (by omega), h1, mset_row (by decide), g4 k hk]
      · rw [e1, smL, if_pos z, ln_a, h2, mset_eq, h1, mset_row (by decide), g2.1, nI_1]
      · intro k hk
        rw [e1, smL, if_pos z] at hk ⊢
        rw [ln_a] at hk
        rw [h2, mset_row (by decide), h1, nI_clamp (by omega)]
        by_cases w : k = (smL s i).length
        · rw [w, mset_eq, gd_r]
        · rw [mset_ne (by omega), g2.2 k (by omega), gd_l (by omega)]
      · rw [e1, bct, z]
        omega
      · rw [e, nI_eq (by omega) (by omega)] at et
        rw [← et] at t2
        omega
  · rw [e] at z
    exact z (nI_le (b := 65535) (by omega) (by decide))
