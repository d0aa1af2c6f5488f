/-! the next order of a row's numbers -/
def pkN (T : List Nat) : Nat → Nat
  | 0 => 0
  | k + 1 => if T.getD (k + 1) 0 < T.getD k 0 then pkN T k else k + 1
def pqN (T : List Nat) (k : Nat) : Nat → Nat
  | 0 => 0
  | q + 1 => if q + 1 ≤ k + 1 then q + 1 else if T.getD (q + 1) 0 < T.getD k 0 then pqN T k q else q + 1
def swp (T : List Nat) (a b : Nat) : List Nat := (T.set a (T.getD b 0)).set b (T.getD a 0)
def rvl : Nat → List Nat → Nat → Nat → List Nat
  | 0, T, _, _ => T
  | d + 1, T, lo, hi => if hi ≤ lo then T else rvl d (swp T lo hi) (lo + 1) (hi - 1)
def nxt (T : List Nat) : Option (List Nat) := if pkN T (T.length - 1) = 0 then none else some (rvl T.length (swp T (pkN T (T.length - 1) - 1) (pqN T (pkN T (T.length - 1) - 1) (T.length - 1))) (pkN T (T.length - 1)) (T.length - 1))
theorem swp_n {T : List Nat} {a b : Nat} : (swp T a b).length = T.length := by unfold swp; rw [List.length_set, List.length_set]
theorem swp_gd {T : List Nat} {a b j : Nat} (ha : a < T.length) (hb : b < T.length) : (swp T a b).getD j 0 = if j = b then T.getD a 0 else if j = a then T.getD b 0 else T.getD j 0 := by
  unfold swp
  rw [List.getD_eq_getElem?_getD, List.getElem?_set, List.getElem?_set, List.length_set]
  by_cases h1 : j = b
  · rw [if_pos h1.symm, if_pos hb, if_pos h1]; rfl
  · rw [if_neg (fun e => h1 e.symm), if_neg h1]
    by_cases h2 : j = a
    · rw [if_pos h2.symm, if_pos ha, if_pos h2]; rfl
    · rw [if_neg (fun e => h2 e.symm), if_neg h2, ← List.getD_eq_getElem?_getD]
theorem pkN_le {T : List Nat} : ∀ k, pkN T k ≤ k := by
  intro k
  induction k with
  | zero => exact Nat.le_refl _
  | succ k ih => rw [pkN]; split <;> omega
theorem dI_2 {n : Nat} (h : 1 ≤ n) : nI n - 2 = dI (n - 1) := by
  obtain ⟨m, rfl⟩ : ∃ m, n = m + 1 := ⟨n - 1, by omega⟩
  rw [nI_succ, Int32.sub_eq_add_neg, Int32.add_assoc, show (1 : Int32) + -2 = -1 by decide, dI_s]
  rfl
theorem dI_p {i : Nat} : nI i - 1 = dI i := by rw [Int32.sub_eq_add_neg]; exact dI_s
theorem dI_ne {i : Nat} (h : i < 2 ^ 31) : 0 ≤ dI (i + 1) := nI_pos' h
theorem dI_m {i : Nat} : dI (i + 1) + (-1) = dI i := dI_s
theorem n0le : ¬ (0 : Int32) ≤ dI 0 := by decide
theorem nI_m1 {i : Nat} (h : 1 ≤ i) : nI i + (-1) = nI (i - 1) := by
  obtain ⟨m, rfl⟩ : ∃ m, i = m + 1 := ⟨i - 1, by omega⟩
  exact pk_m1 m
theorem e_swap {Mx : Mem} {T : List Nat} {a b : Nat} {Q : Mem → Prop} (ha : a < T.length) (hb : b < T.length) (h8 : T.length ≤ 8) (h : rwX Mx 98 T) (hQ : ∀ M', (∀ r, r ≠ 148 → M' r = Mx r) → rwX M' 98 (swp T a b) → Q M') : wX7_swap 98 (nI a) (nI b) Mx Q := by
  unfold wX7_swap
  rw [nI_clamp (by omega), nI_clamp (by omega)]
  refine ⟨by decide, vp_in_nI (by omega) (by decide), vp_in_nI (by omega) (by decide), fun N1 h1 N2 h2 => hQ N2 (fun r hr => by rw [h2, mset_row hr, h1, mset_row hr]) ⟨by rw [h2, mset_row (by decide), h1, mset_row (by decide), swp_n]; exact h.1, fun k hk => ?_⟩⟩
  rw [swp_n] at hk
  rw [swp_gd ha hb, h2]
  by_cases w1 : k = b
  · rw [if_pos w1, w1, mset_eq]; exact h.2 a ha
  · rw [if_neg w1, mset_ne (by omega), h1]
    by_cases w2 : k = a
    · rw [if_pos w2, w2, mset_eq]; exact h.2 b hb
    · rw [if_neg w2, mset_ne (by omega)]; exact h.2 k hk
theorem e_step {Mx : Mem} {T : List Nat} {Q : Int32 → Mem → Prop} (h8 : T.length ≤ 6) (hv : ∀ k, k < T.length → T.getD k 0 < 16) (h : rwX Mx 98 T) (hQ0 : nxt T = none → Q 0 Mx) (hQ1 : ∀ T', nxt T = some T' → ∀ M', (∀ r, r ≠ 148 → M' r = Mx r) → rwX M' 98 T' → Q 1 M') : wX7_stepOrder 98 Mx Q := by
  unfold wX7_stepOrder
  refine ⟨by decide, ?_⟩
  rw [h.1]
  obtain ⟨n, hn⟩ : ∃ n, n = T.length := ⟨_, rfl⟩
  rw [← hn] at h8 hv ⊢
  by_cases n0 : n = 0
  · refine ⟨1, ?_⟩
    rw [n0]
    unfold lq1 jn0
    refine ⟨fun _ => ⟨fun z => absurd z (by decide), fun _ => hQ0 ?_⟩, fun z => absurd (by decide) z⟩
    unfold nxt
    rw [← hn, n0, if_pos (show pkN T (0 - 1) = 0 from rfl)]
  rw [dI_2 (by omega)]
  refine ⟨n - 1 + 1, lq1_ind (fun d x M' => d ≤ n - 1 ∧ x = dI d ∧ M' = Mx ∧ pkN T d = pkN T (n - 1)) ?_ ?_ (n - 1) _ Mx ⟨Nat.le_refl _, rfl, rfl, rfl⟩⟩
  · rintro R x Mx ⟨-, rfl, rfl, hp⟩
    unfold jn0
    refine ⟨fun _ => ⟨fun z => absurd z n0le, fun _ => hQ0 ?_⟩, fun z => absurd dI_0 z⟩
    unfold nxt
    rw [← hn, ← hp, if_pos (show pkN T 0 = 0 from rfl)]
  · rintro k R x Mx ⟨hk, rfl, rfl, hp⟩ hR
    have e1 := hv k (by omega)
    have e2 := hv (k + 1) (by omega)
    unfold jn0
    rw [show dI (k + 1) = nI k from rfl]
    simp only [h.1]
    rw [← hn, nI_1, nI_clamp (by omega), nI_clamp (by omega), h.2 k (by omega), h.2 (k + 1) (by omega), nI_leI (by omega) (by omega)]
    refine ⟨fun z => absurd z (nI_pos (by omega)), fun _ => ⟨vp_in_nI (by omega) (by decide), vp_in_nI (by omega) (by decide), fun z => ⟨fun _ => ?_, fun w => absurd (nI_pos' (by omega)) w⟩, fun z => hR _ _ ⟨by omega, dI_s, rfl, by rw [pkN, if_pos (by omega)] at hp; exact hp⟩⟩⟩
    rw [pkN, if_neg (by omega)] at hp
    have nx : nxt T = some (rvl n (swp T k (pqN T k (n - 1))) (k + 1) (n - 1)) := by
      unfold nxt
      rw [← hn, ← hp, if_neg (by omega), Nat.add_sub_cancel]
    have hQ1 := hQ1 _ nx
    rw [dI_p, show dI n = nI (n - 1) by rw [show n = (n - 1) + 1 by omega]; rfl]
    have fin : ∀ q, k + 1 ≤ q → q ≤ n - 1 → pqN T k q = pqN T k (n - 1) → q = pqN T k q → wX7_swap 98 (nI k) (nI q) Mx (fun M78 => (∃ n, lq2 (fun R93 (x93_3 : Int32) (x93_4 : Int32) (M93 : Mem) => ((x93_4 ≤ x93_3 → Q 1 M93) ∧ (¬ x93_4 ≤ x93_3 → wX7_swap 98 x93_3 x93_4 M93 (fun M103 => R93 (x93_3 + 1) (x93_4 + (-1)) M103)))) n (nI (k + 1)) ((M78 98 1) - 1) M78)) := fun q q1 q2 q3 q4 => by
      rw [← q3, ← q4] at hQ1
      refine e_swap (by omega) (by omega) (by omega) h (fun M1 b1 b2 => ?_)
      rw [b2.1, swp_n, ← hn, dI_p, show dI n = nI (n - 1) by rw [show n = (n - 1) + 1 by omega]; rfl]
      refine ⟨n + 1, lq2_ind (fun d x y M' => ∃ lo hi T', x = nI lo ∧ y = nI hi ∧ T'.length = n ∧ lo ≤ n ∧ hi < n ∧ hi < lo + d ∧ (∀ r, r ≠ 148 → M' r = Mx r) ∧ rwX M' 98 T' ∧ rvl d T' lo hi = rvl n (swp T k q) (k + 1) (n - 1)) ?_ ?_ n _ _ M1 ⟨k + 1, n - 1, swp T k q, rfl, rfl, by rw [swp_n, hn], by omega, by omega, by omega, b1, b2, rfl⟩⟩
      · rintro R x y M' ⟨lo, hi, T', rfl, rfl, t1, t2, t3, t4, t5, t6, t7⟩
        rw [rvl] at t7
        exact ⟨fun _ => hQ1 M' t5 (by rw [← t7]; exact t6), fun z => absurd (nI_le (by omega) (by omega)) z⟩
      · rintro d R x y M' ⟨lo, hi, T', rfl, rfl, t1, t2, t3, t4, t5, t6, t7⟩ hR
        rw [rvl] at t7
        rw [nI_leI (by omega) (by omega)]
        refine ⟨fun z => ?_, fun z => ?_⟩
        · rw [if_pos z] at t7
          exact hQ1 M' t5 (by rw [← t7]; exact t6)
        · rw [if_neg z] at t7
          rw [nI_1, nI_m1 (by omega)]
          exact e_swap (by omega) (by omega) (by omega) t6 (fun M2 c1 c2 => hR _ _ _ ⟨lo + 1, hi - 1, _, rfl, rfl, by rw [swp_n]; exact t1, by omega, by omega, by omega, fun r hr => by rw [c1 r hr, t5 r hr], c2, t7⟩)
    refine ⟨n - 1 + 1, lq1_ind (fun d x M' => d ≤ n - 1 ∧ x = nI d ∧ M' = Mx ∧ k + 1 ≤ d ∧ pqN T k d = pqN T k (n - 1)) ?_ ?_ (n - 1) _ Mx ⟨Nat.le_refl _, rfl, rfl, by omega, rfl⟩⟩
    · rintro R2 x Mx ⟨-, rfl, rfl, w, -⟩
      omega
    · rintro q R2 x Mx ⟨hq, rfl, rfl, w, hpq⟩ hR2
      have e3 := hv (q + 1) (by omega)
      rw [nI_clamp (by omega), h.2 k (by omega), h.2 (q + 1) (by omega), nI_leI (by omega) (by omega), nI_leI (by omega) (by omega)]
      have hpq' := hpq
      rw [pqN] at hpq'
      refine ⟨fun z => fin (q + 1) w hq hpq (by rw [pqN, if_pos z]), fun z => ⟨vp_in_nI (by omega) (by decide), vp_in_nI (by omega) (by decide), fun z2 => fin (q + 1) w hq hpq (by rw [pqN, if_neg z, if_neg (by omega)]), fun z2 => hR2 _ _ ⟨by omega, pk_m1 q, rfl, by omega, ?_⟩⟩⟩
      rw [if_neg z, if_pos (by omega)] at hpq'
      exact hpq'
