def cnJ (A : Nat → Nat) (mem : Nat) : Nat → Nat
  | 0 => 0
  | q + 1 => if mem.testBit q = true ∧ tz (jnd A mem q) = q then cnJ A mem q + 1 else cnJ A mem q
theorem tz_lt {z : Nat} : tz z < 8 := by
  unfold tz
  repeat' split
  all_goals omega
theorem e_countOrLeast {Mx : Mem} {A : Nat → Nat} {mem t : Nat} {a2 : Int32} {Q : Int32 → Mem → Prop} (ht : kd t = 20) (htl : ln t = 8) (hm : mem < 256) (hA : ∀ q, q < 8 → Mx t q = nI (A q)) (ha : a2 = -1 ∨ ∃ p, p < 8 ∧ a2 = nI p)
    (hQ1 : a2 = -1 → Q (nI (cnJ A mem 8)) Mx) (hQ2 : ∀ p, p < 8 → a2 = nI p → Q (if mem.testBit p = true then nI (tz (jnd A mem p)) else -9) Mx) : wX10_countOrLeast (nI mem) t a2 Mx Q := by
  unfold wX10_countOrLeast
  refine ⟨ht, fun h => ?_, fun h => ?_⟩
  · have hQ := hQ1 h
    refine ⟨8 + 1, lq2_ind (fun d x y M' => M' = Mx ∧ d ≤ 8 ∧ x = nI (cnJ A mem (8 - d)) ∧ y = nI (8 - d)) ?_ ?_ 8 _ _ Mx ⟨rfl, by omega, rfl, rfl⟩⟩
    · rintro R x y Mx ⟨rfl, -, rfl, rfl⟩
      exact ⟨fun _ => hQ, fun z => absurd (by decide) z⟩
    · rintro d R x y Mx ⟨rfl, hd, rfl, rfl⟩ hR
      obtain ⟨q, hq⟩ : ∃ q, q = 8 - (d + 1) := ⟨_, rfl⟩
      rw [← hq]
      have e1 : 8 - d = q + 1 := by omega
      have tl := tz_lt (z := jnd A mem q)
      rw [e_isIn, hb_nI (by omega) (by omega), bI_0]
      refine ⟨fun z => absurd z (nI_ge (b := 8) (by omega) (by decide)), fun _ => ⟨fun z => hR _ _ _ ⟨rfl, by omega, by rw [e1, cnJ, if_neg (fun y => z y.1)], by rw [nI_1, e1]⟩, fun z => e_leastJ ht htl hm (by omega) hA ?_⟩⟩
      rw [nI_eq (by omega) (by omega)]
      exact ⟨fun w => hR _ _ _ ⟨rfl, by omega, by rw [e1, cnJ, if_neg (fun y => w y.2)], by rw [nI_1, e1]⟩, fun w => hR _ _ _ ⟨rfl, by omega, by rw [e1, cnJ, if_pos ⟨Classical.not_not.mp z, w⟩, nI_1], by rw [nI_1, e1]⟩⟩
  · rcases ha with ha | ⟨p, hp, e⟩
    · exact absurd ha h
    · have hQ := hQ2 p hp e
      rw [e, e_isIn, hb_nI (by omega) (by omega), bI_0]
      refine ⟨fun z => ?_, fun z => e_leastJ ht htl hm hp hA ?_⟩
      · rw [if_neg z] at hQ; exact hQ
      · rw [if_pos (Classical.not_not.mp z)] at hQ; exact hQ
/-! the reference: the least of those that are joined, by labels -/
def LbI (M : Mem) (P mem : Nat) (E : Nat → Nat → Prop) (lb : Nat → Nat) : Prop := ∀ k, k < P → (mem.testBit k = true → M 235 k = nI (lb k) ∧ lb k ≤ k ∧ Rc E k (lb k)) ∧ (mem.testBit k = false → M 235 k = -9)
def jlb (lb : Nat → Nat) (a b : Nat) : Nat → Nat := fun k => if lb k = lb a ∨ lb k = lb b then min (lb a) (lb b) else lb k
theorem m_join {Mx : Mem} {P mem a b : Nat} {E : Nat → Nat → Prop} {lb : Nat → Nat} {Q : Mem → Prop} (hP : P ≤ 8) (c11 : Mx 49 11 = nI P) (hs : ∀ x y, E x y → E y x) (hL : LbI Mx P mem E lb) (ha : a < P) (hb : b < P) (ma : mem.testBit a = true) (mb : mem.testBit b = true) (he : E a b)
    (hQ : ∀ M', (∀ r, r ≠ 235 → M' r = Mx r) → LbI M' P mem E (jlb lb a b) → Q M') : wX11_join (nI a) (nI b) Mx Q := by
  obtain ⟨va, la, ra⟩ := (hL a ha).1 ma
  obtain ⟨vb, lb', rb⟩ := (hL b hb).1 mb
  unfold wX11_join
  rw [nI_clamp (n := a) (by omega), nI_clamp (n := b) (by omega), va, vb, nI_leI (by omega) (by omega)]
  refine ⟨vp_in_nI (by omega) (by decide), vp_in_nI (by omega) (by decide), jn1_i (fun y M' => M' = Mx ∧ y = nI (min (lb a) (lb b))) ?_ (fun J hJ => ⟨fun z => hJ _ _ ⟨rfl, by congr 1; omega⟩, fun z => hJ _ _ ⟨rfl, by congr 1; omega⟩⟩)⟩
  rintro y M' ⟨e1, e2⟩
  subst e1
  subst e2
  refine ⟨P + 1, lq1_ind (fun d x M2 => d ≤ P ∧ x = nI (P - d) ∧ (∀ r, r ≠ 235 → M2 r = M' r) ∧ (∀ k, P - d ≤ k → M2 235 k = M' 235 k) ∧ ∀ k, k < P - d → (mem.testBit k = true → M2 235 k = nI (jlb lb a b k)) ∧ (mem.testBit k = false → M2 235 k = -9)) ?_ ?_ P 0 M' ⟨Nat.le_refl _, by rw [Nat.sub_self]; rfl, fun _ _ => rfl, fun _ _ => rfl, fun k hk => by omega⟩⟩
  · rintro R x M2 ⟨-, rfl, g1, -, g3⟩
    rw [Nat.sub_zero] at g3 ⊢
    rw [g1 49 (by decide), c11]
    refine ⟨fun _ => hQ M2 g1 (fun k hk => ⟨fun mk => ⟨(g3 k hk).1 mk, ?_, ?_⟩, (g3 k hk).2⟩), fun z => absurd (Int32.le_refl _) z⟩
    · obtain ⟨-, lk, -⟩ := (hL k hk).1 mk
      unfold jlb
      split
      · omega
      · exact lk
    · obtain ⟨-, -, rk⟩ := (hL k hk).1 mk
      unfold jlb
      have ab : Rc E a b := Rc.rfl'.stp he
      split
      · rename_i h
        have toA : Rc E k a := by
          rcases h with h | h
          · rw [h] at rk
            exact rk.tr (ra.sy hs)
          · rw [h] at rk
            exact (rk.tr (rb.sy hs)).tr (ab.sy hs)
        rcases Nat.le_total (lb a) (lb b) with q | q
        · rw [Nat.min_eq_left q]
          exact toA.tr ra
        · rw [Nat.min_eq_right q]
          exact (toA.tr ab).tr rb
      · exact rk
  · rintro d R x M2 ⟨hd, rfl, g1, g2, g3⟩ hR
    obtain ⟨k, hk⟩ : ∃ k, k = P - (d + 1) := ⟨_, rfl⟩
    rw [← hk] at g2 g3 ⊢
    have e1 : P - d = k + 1 := by omega
    rw [g1 49 (by decide), c11, nI_clamp (n := k) (by omega), g2 k (Nat.le_refl _)]
    have go : ∀ N v, N = mset M2 235 k v → ((mem.testBit k = true → v = nI (jlb lb a b k)) ∧ (mem.testBit k = false → v = -9)) → R (nI k + 1) N := fun N v hN hv => hR _ _ ⟨by omega, by rw [nI_1, e1], fun r hr => by rw [hN, mset_row hr, g1 r hr], fun j hj => by rw [hN, mset_ne (by omega), g2 j (by omega)], fun j hj => by
      rw [hN]
      by_cases w : j = k
      · rw [w, mset_eq]; exact hv
      · rw [mset_ne (by omega)]; exact g3 j (by omega)⟩
    refine ⟨fun q => absurd q (nI_ge (by omega) (by omega)), fun _ => ⟨vp_in_nI (by omega) (by decide), ?_⟩⟩
    cases mk : mem.testBit k
    · have v9 := (hL k (by omega)).2 mk
      rw [v9]
      refine jn0_i (fun _ => False) (fun _ h => h.elim) (fun J hJ => ⟨fun z => absurd z.symm (n9 (by omega)), fun z => ⟨fun z2 N hN => ?_, fun z2 => absurd z2.symm (n9 (by omega))⟩⟩)
      exact go N (-9) hN ⟨fun h => by rw [mk] at h; exact absurd h (by decide), fun _ => rfl⟩
    · obtain ⟨vk, lk, -⟩ := (hL k (by omega)).1 mk
      rw [vk, nI_eq (by omega) (by omega), nI_eq (by omega) (by omega)]
      refine jn0_i (fun M3 => M3 = M2 ∧ (lb k = lb a ∨ lb k = lb b)) ?_ (fun J hJ => ⟨fun z => hJ _ ⟨rfl, Or.inl z⟩, fun z => ⟨fun z2 N hN => ?_, fun z2 => hJ _ ⟨rfl, Or.inr z2⟩⟩⟩)
      · rintro M3 ⟨rfl, h⟩ N hN
        exact go N _ hN ⟨fun _ => by unfold jlb; rw [if_pos h], fun h => by rw [mk] at h; exact absurd h (by decide)⟩
      · exact go N _ hN ⟨fun _ => by unfold jlb; rw [if_neg (fun h => h.elim z z2)], fun h => by rw [mk] at h; exact absurd h (by decide)⟩
/-- all pairs gone through -/
theorem m_pairs {M Mx : Mem} {P mem : Nat} {E : Nat → Nat → Prop} {lb0 : Nat → Nat} {F : Int32 → Int32 → Mem → (Mem → Prop) → Prop} {Q : Mem → Prop} (hP : P ≤ 8) (c11 : M 49 11 = nI P) (fq : Fq M Mx) (hL : LbI Mx P mem E lb0) (hE : ∀ x y, E x y → mem.testBit x = true ∧ mem.testBit y = true)
    (hF : ∀ a b M' lb (k : Mem → Prop), a < b → b < P → LbI M' P mem E lb → Fq M M' → (∀ M'' lb', Fq M M'' → LbI M'' P mem E lb' → ((lb' = lb ∧ ¬ E a b) ∨ lb' = jlb lb a b) → k M'') → F (nI a) (nI b) M' k)
    (hQ : ∀ M' lb, Fq M M' → LbI M' P mem E lb → (∀ x y, x < y → y < P → E x y → lb x = lb y) → Q M') :
    ∃ n, lq1 (fun R63 (x63_3 : Int32) (M63 : Mem) => (((M63 49 11) ≤ x63_3 → Q M63) ∧ (¬ (M63 49 11) ≤ x63_3 → (∃ n, lq1 (fun R76 (x76_4 : Int32) (M76 : Mem) => (((M76 49 11) ≤ x76_4 → R63 (x63_3 + 1) M76) ∧ (¬ (M76 49 11) ≤ x76_4 → F x63_3 x76_4 M76 (fun M100 => R76 (x76_4 + 1) M100)))) n (x63_3 + 1) M63)))) n 0 Mx := by
  have keep : ∀ (lb lb' : Nat → Nat) (a b x y : Nat), ((lb' = lb ∧ ¬ E a b) ∨ lb' = jlb lb a b) → lb x = lb y → lb' x = lb' y := fun lb lb' a b x y h e => by
    rcases h with ⟨h, -⟩ | h
    · rw [h]; exact e
    · rw [h]; unfold jlb; rw [e]
  refine ⟨P + 1, lq1_ind (fun d x M' => d ≤ P ∧ x = nI (P - d) ∧ Fq M M' ∧ ∃ lb, LbI M' P mem E lb ∧ ∀ x y, x < y → y < P → E x y → x < P - d → lb x = lb y) ?_ ?_ P 0 Mx ⟨Nat.le_refl _, by rw [Nat.sub_self]; rfl, fq, lb0, hL, fun x y _ _ _ h => by omega⟩⟩
  · rintro R x M' ⟨-, rfl, g1, lb, g2, g3⟩
    rw [g1.2 11 (by decide) (by decide) (by decide), c11, Nat.sub_zero]
    exact ⟨fun _ => hQ M' lb g1 g2 (fun x y h1 h2 h3 => g3 x y h1 h2 h3 (by omega)), fun z => absurd (Int32.le_refl _) z⟩
  · rintro d R x M' ⟨hd, rfl, g1, lb, g2, g3⟩ hR
    obtain ⟨a, ha⟩ : ∃ a, a = P - (d + 1) := ⟨_, rfl⟩
    rw [← ha] at g3 ⊢
    have e1 : P - d = a + 1 := by omega
    rw [g1.2 11 (by decide) (by decide) (by decide), c11]
    refine ⟨fun z => absurd z (nI_ge (by omega) (by omega)), fun _ => ?_⟩
    rw [nI_1]
    refine ⟨P - (a + 1) + 1, lq1_ind (fun e y M2 => e ≤ P - (a + 1) ∧ y = nI (P - e) ∧ Fq M M2 ∧ ∃ lb, LbI M2 P mem E lb ∧ ∀ x y, x < y → y < P → E x y → (x < a ∨ (x = a ∧ y < P - e)) → lb x = lb y) ?_ ?_ (P - (a + 1)) _ M' ⟨Nat.le_refl _, by rw [show P - (P - (a + 1)) = a + 1 by omega], g1, lb, g2, fun x y h1 h2 h3 h4 => g3 x y h1 h2 h3 (by omega)⟩⟩
    · rintro R2 y M2 ⟨-, rfl, k1, lb2, k2, k3⟩
      rw [k1.2 11 (by decide) (by decide) (by decide), c11, Nat.sub_zero]
      exact ⟨fun _ => hR _ _ ⟨by omega, by rw [e1], k1, lb2, k2, fun x y h1 h2 h3 h4 => k3 x y h1 h2 h3 (by omega)⟩, fun z => absurd (Int32.le_refl _) z⟩
    · rintro e R2 y M2 ⟨he, rfl, k1, lb2, k2, k3⟩ hR2
      obtain ⟨b, hb⟩ : ∃ b, b = P - (e + 1) := ⟨_, rfl⟩
      rw [← hb] at k3 ⊢
      have e2 : P - e = b + 1 := by omega
      rw [k1.2 11 (by decide) (by decide) (by decide), c11]
      refine ⟨fun z => absurd z (nI_ge (by omega) (by omega)), fun _ => hF a b M2 lb2 _ (by omega) (by omega) k2 k1 (fun M3 lb3 f3 l3 hn => hR2 _ _ ⟨by omega, by rw [nI_1, e2], f3, lb3, l3, fun x y h1 h2 h3 h4 => ?_⟩)⟩
      by_cases w : x = a ∧ y = b
      · rw [w.1, w.2] at h3 ⊢
        rcases hn with ⟨-, hn⟩ | hn
        · exact absurd h3 hn
        · rw [hn]
          unfold jlb
          rw [if_pos (Or.inl rfl), if_pos (Or.inr rfl)]
      · exact keep lb2 lb3 a b x y hn (k3 x y h1 h2 h3 (by omega))
theorem lb_LR {M : Mem} {P mem : Nat} {E : Nat → Nat → Prop} {lb : Nat → Nat} (hmP : ∀ x, mem.testBit x = true → x < P) (hs : ∀ x y, E x y → E y x) (hE : ∀ x y, E x y → mem.testBit x = true ∧ mem.testBit y = true) (hL : LbI M P mem E lb) (hc : ∀ x y, x < y → y < P → E x y → lb x = lb y) {k : Nat} (mk : mem.testBit k = true) : LR E k (lb k) := by
  refine ⟨((hL k (hmP k mk)).1 mk).2.2, fun r hr => ?_⟩
  have := hr (fun x => mem.testBit x = true ∧ lb x = lb k) ⟨mk, rfl⟩ (fun a b ha he => by
    obtain ⟨m1, m2⟩ := hE a b he
    refine ⟨m2, ?_⟩
    rcases Nat.lt_trichotomy a b with q | q | q
    · rw [← hc a b q (hmP b m2) he]; exact ha.2
    · rw [← q]; exact ha.2
    · rw [hc b a q (hmP a m1) (hs a b he)]; exact ha.2)
  have l2 := ((hL r (hmP r this.1)).1 this.1).2.1
  rw [← this.2]
  exact l2
theorem cnJ_e {A : Nat → Nat} {mem P : Nat} (hmP : ∀ x, mem.testBit x = true → x < P) : ∀ d, cnJ A mem (P + d) = cnJ A mem P := by
  intro d
  induction d with
  | zero => rfl
  | succ d ih =>
    rw [← Nat.add_assoc, cnJ, if_neg (fun h => ?_)]
    · exact ih
    · have := hmP _ h.1
      omega
theorem m_joinedOf {Mx : Mem} {A : Nat → Nat} {P mem : Nat} {a2 : Int32} {Q : Int32 → Mem → Prop} (hP : P ≤ 8) (c11 : Mx 49 11 = nI P) (hmP : ∀ x, mem.testBit x = true → x < P) (hL : ∀ k, k < P → (mem.testBit k = true → Mx 235 k = nI (tz (jnd A mem k))) ∧ (mem.testBit k = false → Mx 235 k = -9)) (ha : a2 = -1 ∨ ∃ p, p < P ∧ a2 = nI p)
    (hQ1 : a2 = -1 → Q (nI (cnJ A mem 8)) Mx) (hQ2 : ∀ p, p < P → a2 = nI p → Q (if mem.testBit p = true then nI (tz (jnd A mem p)) else -9) Mx) : wX11_joinedOf a2 Mx Q := by
  have ce := cnJ_e (A := A) hmP (8 - P)
  rw [show P + (8 - P) = 8 by omega] at ce
  unfold wX11_joinedOf
  rcases ha with ha | ⟨p, hp, e⟩
  · have hQ := hQ1 ha
    rw [ce] at hQ
    rw [ha]
    refine ⟨fun _ => ?_, fun z => absurd (by decide) z⟩
    refine ⟨P + 1, lq2_ind (fun d x y M' => M' = Mx ∧ d ≤ P ∧ x = nI (cnJ A mem (P - d)) ∧ y = nI (P - d)) ?_ ?_ P _ _ Mx ⟨rfl, Nat.le_refl _, by rw [Nat.sub_self]; rfl, by rw [Nat.sub_self]; rfl⟩⟩
    · rintro R x y Mx ⟨rfl, -, rfl, rfl⟩
      rw [c11, Nat.sub_zero]
      exact ⟨fun _ => hQ, fun z => absurd (Int32.le_refl _) z⟩
    · rintro d R x y Mx ⟨rfl, hd, rfl, rfl⟩ hR
      obtain ⟨k, hk⟩ : ∃ k, k = P - (d + 1) := ⟨_, rfl⟩
      rw [← hk]
      have e1 : P - d = k + 1 := by omega
      have tl := tz_lt (z := jnd A mem k)
      have iff : Mx 235 k = nI k ↔ mem.testBit k = true ∧ tz (jnd A mem k) = k := by
        cases mk : mem.testBit k
        · rw [(hL k (by omega)).2 mk]
          exact ⟨fun h => absurd h.symm (n9 (by omega)), fun h => absurd h.1 (by decide)⟩
        · rw [(hL k (by omega)).1 mk, nI_eq (by omega) (by omega)]
          exact ⟨fun h => ⟨rfl, h⟩, fun h => h.2⟩
      rw [c11, nI_clamp (n := k) (by omega), iff]
      exact ⟨fun z => absurd z (nI_ge (by omega) (by omega)), fun _ => ⟨vp_in_nI (by omega) (by decide), fun w => hR _ _ _ ⟨rfl, by omega, by rw [e1, cnJ, if_neg w, Int32.add_zero], by rw [nI_1, e1]⟩, fun w => hR _ _ _ ⟨rfl, by omega, by rw [e1, cnJ, if_pos w, nI_1], by rw [nI_1, e1]⟩⟩⟩
  · have hQ := hQ2 p hp e
    rw [e, nI_clamp (by omega)]
    refine ⟨fun z => absurd z (nI_pos (by omega)), fun _ => ⟨vp_in_nI (by omega) (by decide), ?_⟩⟩
    cases mk : mem.testBit p
    · rw [mk, if_neg (by decide)] at hQ
      rw [(hL p hp).2 mk]; exact hQ
    · rw [mk, if_pos rfl] at hQ
      rw [(hL p hp).1 mk]; exact hQ
