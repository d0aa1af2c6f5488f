def trM (M : Mem) (T : List Nat) : Prop := ∀ k, k < T.length → M 232 k = nI (T.getD k 0)
theorem trM_sw {M N1 N2 : Mem} {T : List Nat} {a b : Nat} (h : trM M T) (ha : a < T.length) (hb : b < T.length) (h1 : N1 = mset M 232 a (M 232 b)) (h2 : N2 = mset N1 232 b (M 232 a)) : (∀ r, r ≠ 232 → N2 r = M r) ∧ trM N2 (swp T a b) := by
  refine ⟨fun r hr => by rw [h2, mset_row hr, h1, mset_row hr], fun k hk => ?_⟩
  rw [swp_n] at hk
  rw [swp_gd ha hb, h2]
  by_cases w1 : k = b
  · rw [if_pos w1, w1, mset_eq]; exact h a ha
  · rw [if_neg w1, mset_ne (by omega), h1]
    by_cases w2 : k = a
    · rw [if_pos w2, w2, mset_eq]; exact h b hb
    · rw [if_neg w2, mset_ne (by omega)]; exact h k hk
theorem m_next {Mx : Mem} {T : List Nat} {Q : Int32 → Mem → Prop} (h8 : T.length ≤ 6) (hv : ∀ k, k < T.length → T.getD k 0 < 16) (h : trM Mx T) (hQ0 : nxt T = none → Q 0 Mx) (hQ1 : ∀ T', nxt T = some T' → ∀ M', (∀ r, r ≠ 232 → M' r = Mx r) → trM M' T' → Q 1 M') : wX11_nextTurn (nI T.length) Mx Q := by
  unfold wX11_nextTurn
  obtain ⟨n, hn⟩ : ∃ n, n = T.length := ⟨_, rfl⟩
  rw [← hn] at h8 hv ⊢
  by_cases n0 : n = 0
  · refine ⟨1, ?_⟩
    rw [n0]
    unfold lq1 jn0
    refine ⟨fun _ => ⟨fun z => absurd z (by decide), fun _ => hQ0 ?_⟩, fun z => absurd (by decide) z⟩
    unfold nxt
    rw [← hn, n0, if_pos (show pkN T (0 - 1) = 0 from rfl)]
  rw [dI_2 (by omega)]
  refine ⟨n - 1 + 1, lq1_ind (fun d x M' => d ≤ n - 1 ∧ x = dI d ∧ M' = Mx ∧ pkN T d = pkN T (n - 1)) ?_ ?_ (n - 1) _ Mx ⟨Nat.le_refl _, rfl, rfl, rfl⟩⟩
  · rintro R x Mx ⟨-, rfl, rfl, hp⟩
    unfold jn0
    refine ⟨fun _ => ⟨fun z => absurd z n0le, fun _ => hQ0 ?_⟩, fun z => absurd dI_0 z⟩
    unfold nxt
    rw [← hn, ← hp, if_pos (show pkN T 0 = 0 from rfl)]
  · rintro k R x Mx ⟨hk, rfl, rfl, hp⟩ hR
    have e1 := hv k (by omega)
    have e2 := hv (k + 1) (by omega)
    have ck : (nI k).toNatClampNeg = k := nI_clamp (by omega)
    unfold jn0
    rw [show dI (k + 1) = nI k from rfl]
    simp only [ck, nI_1]
    rw [nI_clamp (n := k + 1) (by omega), h k (by omega), h (k + 1) (by omega), nI_leI (by omega) (by omega)]
    refine ⟨fun z => absurd z (nI_pos (by omega)), fun _ => ⟨vp_in_nI (by omega) (by decide), vp_in_nI (by omega) (by decide), fun z => ⟨fun _ => ?_, fun w => absurd (nI_pos' (by omega)) w⟩, fun z => hR _ _ ⟨by omega, dI_s, rfl, by rw [pkN, if_pos (by omega)] at hp; exact hp⟩⟩⟩
    rw [pkN, if_neg (by omega)] at hp
    have nx : nxt T = some (rvl n (swp T k (pqN T k (n - 1))) (k + 1) (n - 1)) := by
      unfold nxt
      rw [← hn, ← hp, if_neg (by omega), Nat.add_sub_cancel]
    have hQ1 := hQ1 _ nx
    rw [dI_p, show dI n = nI (n - 1) by rw [show n = (n - 1) + 1 by omega]; rfl]
    refine ⟨n - 1 + 1, lq1_ind (fun d x M' => d ≤ n - 1 ∧ x = nI d ∧ M' = Mx ∧ k + 1 ≤ d ∧ pqN T k d = pqN T k (n - 1)) ?_ ?_ (n - 1) _ Mx ⟨Nat.le_refl _, rfl, rfl, by omega, rfl⟩⟩
    · rintro R2 x Mx ⟨-, rfl, rfl, w, -⟩
      omega
    · rintro q R2 x Mx ⟨hq, rfl, rfl, w, hpq⟩ hR2
      have e3 := hv (q + 1) (by omega)
      have hpq' := hpq
      rw [pqN] at hpq'
      rw [nI_clamp (n := q + 1) (by omega), h k (by omega), h (q + 1) (by omega), nI_leI (by omega) (by omega)]
      refine ⟨vp_in_nI (by omega) (by decide), vp_in_nI (by omega) (by decide), fun z => ?_, fun z => ?_⟩
      · have eq : q + 1 = pqN T k (n - 1) := by
          by_cases w2 : q + 1 ≤ k + 1
          · rw [if_pos w2] at hpq'; exact hpq'
          · rw [if_neg w2, if_neg (by omega)] at hpq'; exact hpq'
        rw [← eq] at hQ1
        intro N1 h1 N2 h2
        obtain ⟨b1, b2⟩ := trM_sw (N1 := N1) (N2 := N2) h (a := k) (b := q + 1) (by omega) (by omega) (by rw [h (q + 1) (by omega)]; exact h1) (by rw [h k (by omega)]; exact h2)
        refine ⟨n + 1, lq2_ind (fun d x y M' => ∃ lo hi T', x = nI lo ∧ y = nI hi ∧ T'.length = n ∧ lo ≤ n ∧ hi < n ∧ hi < lo + d ∧ (∀ r, r ≠ 232 → M' r = Mx r) ∧ trM M' T' ∧ rvl d T' lo hi = rvl n (swp T k (q + 1)) (k + 1) (n - 1)) ?_ ?_ n _ _ N2 ⟨k + 1, n - 1, swp T k (q + 1), rfl, rfl, by rw [swp_n, hn], by omega, by omega, by omega, b1, b2, rfl⟩⟩
        · rintro R x y M' ⟨lo, hi, T', rfl, rfl, t1, t2, t3, t4, t5, t6, t7⟩
          rw [rvl] at t7
          exact ⟨fun _ => hQ1 M' t5 (by rw [← t7]; exact t6), fun z => absurd (nI_le (by omega) (by omega)) z⟩
        · rintro d R x y M' ⟨lo, hi, T', rfl, rfl, t1, t2, t3, t4, t5, t6, t7⟩ hR
          rw [rvl] at t7
          rw [nI_leI (by omega) (by omega)]
          refine ⟨fun z => ?_, fun z => ?_⟩
          · rw [if_pos z] at t7
            exact hQ1 M' t5 (by rw [← t7]; exact t6)
          · rw [if_neg z] at t7
            rw [nI_1, nI_m1 (by omega), nI_clamp (n := lo) (by omega), nI_clamp (n := hi) (by omega)]
            refine ⟨vp_in_nI (by omega) (by decide), vp_in_nI (by omega) (by decide), fun N3 h3 N4 h4 => ?_⟩
            obtain ⟨c1, c2⟩ := trM_sw t6 (a := lo) (b := hi) (by omega) (by omega) h3 h4
            exact hR _ _ _ ⟨lo + 1, hi - 1, _, rfl, rfl, by rw [swp_n]; exact t1, by omega, by omega, by omega, fun r hr => by rw [c1 r hr, t5 r hr], c2, t7⟩
      · have w2 : ¬ q + 1 ≤ k + 1 := fun w2 => by
          have : q = k := by omega
          rw [this] at z
          omega
        rw [if_neg w2, if_pos (by omega)] at hpq'
        exact hR2 _ _ ⟨by omega, pk_m1 q, rfl, by omega, hpq'⟩
/-! the same orders of other numbers -/
theorem gd_map {σ : Nat → Nat} {a : List Nat} {k : Nat} (h : k < a.length) : (a.map σ).getD k 0 = σ (a.getD k 0) := by
  rw [List.getD_eq_getElem?_getD, List.getD_eq_getElem?_getD, List.getElem?_map, List.getElem?_eq_getElem h]
  rfl
section MAPS
variable {σ : Nat → Nat} {a : List Nat} {n : Nat}
theorem pkN_map (hm : ∀ i j, i < n → j < n → (σ i < σ j ↔ i < j)) (hv : ∀ k, k < a.length → a.getD k 0 < n) : ∀ k, k < a.length → pkN (a.map σ) k = pkN a k := by
  intro k
  induction k with
  | zero => intro _; rfl
  | succ k ih =>
    intro hk
    rw [pkN, pkN, gd_map hk, gd_map (by omega), ih (by omega)]
    have := hm _ _ (hv (k + 1) hk) (hv k (by omega))
    by_cases w : a.getD (k + 1) 0 < a.getD k 0
    · rw [if_pos w, if_pos (this.mpr w)]
    · rw [if_neg w, if_neg (fun y => w (this.mp y))]
theorem pqN_map (hm : ∀ i j, i < n → j < n → (σ i < σ j ↔ i < j)) (hv : ∀ k, k < a.length → a.getD k 0 < n) {k : Nat} (hk : k < a.length) : ∀ q, q < a.length → pqN (a.map σ) k q = pqN a k q := by
  intro q
  induction q with
  | zero => intro _; rfl
  | succ q ih =>
    intro hq
    rw [pqN, pqN, gd_map hq, gd_map hk, ih (by omega)]
    have := hm _ _ (hv (q + 1) hq) (hv k hk)
    by_cases w0 : q + 1 ≤ k + 1
    · rw [if_pos w0, if_pos w0]
    · rw [if_neg w0, if_neg w0]
      by_cases w : a.getD (q + 1) 0 < a.getD k 0
      · rw [if_pos w, if_pos (this.mpr w)]
      · rw [if_neg w, if_neg (fun y => w (this.mp y))]
theorem swp_map {x y : Nat} (hx : x < a.length) (hy : y < a.length) : swp (a.map σ) x y = (swp a x y).map σ := by
  unfold swp
  rw [List.map_set, List.map_set, gd_map hx, gd_map hy]
end MAPS
theorem rvl_map {σ : Nat → Nat} : ∀ (d : Nat) (a : List Nat) (lo hi : Nat), lo ≤ a.length → hi < a.length → rvl d (a.map σ) lo hi = (rvl d a lo hi).map σ := by
  intro d
  induction d with
  | zero => intro a lo hi _ _; rfl
  | succ d ih =>
    intro a lo hi h1 h2
    rw [rvl, rvl]
    by_cases w : hi ≤ lo
    · rw [if_pos w, if_pos w]
    · rw [if_neg w, if_neg w, swp_map (by omega) h2]
      exact ih _ _ _ (by rw [swp_n]; omega) (by rw [swp_n]; omega)
theorem pqN_b {a : List Nat} {k : Nat} : ∀ q, pqN a k q ≤ q := by
  intro q
  induction q with
  | zero => exact Nat.le_refl _
  | succ q ih =>
    rw [pqN]
    split
    · exact Nat.le_refl _
    · split <;> omega
theorem nxt_map {σ : Nat → Nat} {a : List Nat} {n : Nat} (hm : ∀ i j, i < n → j < n → (σ i < σ j ↔ i < j)) (hv : ∀ k, k < a.length → a.getD k 0 < n) : nxt (a.map σ) = (nxt a).map (List.map σ) := by
  unfold nxt
  rw [List.length_map]
  rcases Nat.eq_zero_or_pos a.length with h0 | h0
  · rw [h0]
    rw [if_pos (show pkN (a.map σ) (0 - 1) = 0 from rfl), if_pos (show pkN a (0 - 1) = 0 from rfl)]
    rfl
  · have pl := pkN_le (T := a) (a.length - 1)
    rw [pkN_map hm hv _ (by omega)]
    by_cases w : pkN a (a.length - 1) = 0
    · rw [if_pos w, if_pos w]; rfl
    · rw [if_neg w, if_neg w, pqN_map hm hv (by omega) _ (by omega)]
      have ql := pqN_b (a := a) (k := pkN a (a.length - 1) - 1) (a.length - 1)
      rw [swp_map (by omega) (by omega), rvl_map _ _ _ _ (by rw [swp_n]; omega) (by rw [swp_n]; omega)]
      rfl
