theorem st_area {M : Mem} (hI : Inv M) (a1 a2 : Int32) : wX10_area a1 a2 M (fun r M1 => wX11_area a1 a2 M1 (fun r' M2 => r = r' ∧ Inv M2)) := by
  have h0 := hI.1
  have hP8 := h0.1.2.1
  have hl8 := h0.2.2.1.2.1
  have c11 : M 49 11 = nI (cP M) := h0.1.2.2.trans h0.1.1
  by_cases q1 : vp_in a1 (cL M)
  · obtain ⟨l, hl, e1, t1⟩ := vp_nI q1 (by omega)
    obtain ⟨⟨v, hv, ev⟩, e213, -⟩ := hI.2.2.2.2.2.2.2.1 l hl
    by_cases q2 : a2 = -1 ∨ vp_in a2 (cP M)
    · obtain ⟨nb, n1, n2⟩ := hI.2.2.2.1
      have hv8 : v < 256 := Nat.lt_of_lt_of_le hv (Nat.pow_le_pow_right (n := 2) (j := 8) (by decide) hP8)
      have hmP : ∀ x, v.testBit x = true → x < cP M := fun x hx => by
        rcases Nat.lt_or_ge x (cP M) with q | q
        · exact q
        · rw [Nat.testBit_lt_two_pow (Nat.lt_of_lt_of_le hv (Nat.pow_le_pow_right (n := 2) (by decide) q))] at hx
          exact absurd hx (by decide)
      obtain ⟨P, hP⟩ : ∃ P, P = cP M := ⟨_, rfl⟩
      have ha : a2 = -1 ∨ ∃ p, p < P ∧ a2 = nI p := by
        rcases q2 with q | q
        · exact Or.inl q
        · obtain ⟨p, hp, e, -⟩ := vp_nI q (by omega)
          exact Or.inr ⟨p, by omega, e⟩
      rw [← hP] at hP8 c11 hmP
      obtain ⟨E, hE⟩ : ∃ E : Nat → Nat → Prop, E = fun x y => v.testBit x = true ∧ v.testBit y = true ∧ (nb x).testBit y = true := ⟨_, rfl⟩
      have hE' : ∀ x y, E x y ↔ (v.testBit x = true ∧ v.testBit y = true ∧ (nb x).testBit y = true) := fun x y => by rw [hE]
      have hs : ∀ x y, E x y → E y x := fun x y h => by
        obtain ⟨g1, g2, g3⟩ := (hE' x y).mp h
        exact (hE' y x).mpr ⟨g2, g1, by rw [n2 y (by have := hmP y g2; omega) x (by have := hmP x g1; omega)]; exact g3⟩
      have hEm : ∀ x y, E x y → v.testBit x = true ∧ v.testBit y = true := fun x y h => ⟨((hE' x y).mp h).1, ((hE' x y).mp h).2.1⟩
      have ref : ∀ w : Int32, (a2 = -1 → w = nI (cnJ nb v 8)) → (∀ p, p < P → a2 = nI p → w = (if v.testBit p = true then nI (tz (jnd nb v p)) else -9)) → wX11_area a1 a2 M (fun r' M2 => w = r' ∧ Inv M2) := fun w w1 w2 => by
        unfold wX11_area
        rw [m_isLaw h0, bI_t q1]
        refine ⟨fun z => absurd z (by decide), fun _ => jn0_i (fun M' => M' = M) ?_ (fun J hJ => ⟨fun z => hJ M rfl, fun z => ?_⟩)⟩
        · rintro M' e
          subst e
          rw [t1]
          refine ⟨P + 1, lq1_ind (fun d x M2 => d ≤ P ∧ x = nI (P - d) ∧ (∀ r, r ≠ 235 → M2 r = M' r) ∧ ∀ k, k < P - d → (v.testBit k = true → M2 235 k = nI k) ∧ (v.testBit k = false → M2 235 k = -9)) ?_ ?_ P 0 M' ⟨Nat.le_refl _, by rw [Nat.sub_self]; rfl, fun _ _ => rfl, fun k hk => by omega⟩⟩
          · rintro R x M2 ⟨-, rfl, g1, g2⟩
            rw [Nat.sub_zero] at g2 ⊢
            rw [g1 49 (by decide), c11]
            refine ⟨fun _ => ?_, fun z => absurd (Int32.le_refl _) z⟩
            have f2 : Fq M' M2 := Fq.rf.b1 (i := 235) (by decide) g1
            refine m_pairs (M := M') (P := P) (mem := v) (E := E) (lb0 := fun k => k) (F := fun a b M79 k => vp_in a 8 ∧ wX11_has (M79 202 (Int32.toNatClampNeg a)) b M79 (fun v96 M96 => ((v96 = 0 → k M96) ∧ (¬ v96 = 0 → (((M96 235 (Int32.toNatClampNeg a)) = (-9) → k M96) ∧ (¬ (M96 235 (Int32.toNatClampNeg a)) = (-9) → vp_in b 8 ∧ (((M96 235 (Int32.toNatClampNeg b)) = (-9) → k M96) ∧ (¬ (M96 235 (Int32.toNatClampNeg b)) = (-9) → wX11_join a b M96 (fun M129 => k M129))))))))) hP8 c11 f2 (fun k hk => ⟨fun mk => ⟨(g2 k hk).1 mk, Nat.le_refl _, Rc.rfl'⟩, (g2 k hk).2⟩) hEm ?_ ?_
            · intro a b M3 lb k hab hb l3 f3 hk
              have ca : (nI a).toNatClampNeg = a := nI_clamp (by omega)
              have cb : (nI b).toNatClampNeg = b := nI_clamp (by omega)
              simp only [ca, cb]
              obtain ⟨na1, na2, na3⟩ := n1 a (by omega)
              rw [f3.1 202 (by decide), na3, na1, e_has, hb_nI (by omega) (by omega), bI_0]
              refine ⟨vp_in_nI (by omega) (by decide), fun z => hk M3 lb f3 l3 (Or.inl ⟨rfl, fun h => z ((hE' a b).mp h).2.2⟩), fun z => ?_⟩
              cases ma : v.testBit a
              · rw [(l3 a (by omega)).2 ma]
                exact ⟨fun _ => hk M3 lb f3 l3 (Or.inl ⟨rfl, fun h => by have := ((hE' a b).mp h).1; rw [ma] at this; exact absurd this (by decide)⟩), fun z => absurd rfl z⟩
              · obtain ⟨va, la, -⟩ := (l3 a (by omega)).1 ma
                rw [va]
                refine ⟨fun z => absurd z (n9 (by omega)), fun _ => ⟨vp_in_nI (by omega) (by decide), ?_⟩⟩
                cases mb : v.testBit b
                · rw [(l3 b (by omega)).2 mb]
                  exact ⟨fun _ => hk M3 lb f3 l3 (Or.inl ⟨rfl, fun h => by have := ((hE' a b).mp h).2.1; rw [mb] at this; exact absurd this (by decide)⟩), fun z => absurd rfl z⟩
                · obtain ⟨vb, lb', -⟩ := (l3 b (by omega)).1 mb
                  rw [vb]
                  refine ⟨fun z => absurd z (n9 (by omega)), fun _ => m_join hP8 (by rw [f3.2 11 (by decide) (by decide) (by decide)]; exact c11) hs l3 (by omega) hb ma mb ((hE' a b).mpr ⟨ma, mb, Classical.not_not.mp z⟩) (fun M4 k4 l4 => hk M4 _ (f3.b1 (i := 235) (by decide) k4) l4 (Or.inr rfl))⟩
            · intro M3 lb f3 l3 hc
              refine m_joinedOf (A := nb) hP8 (by rw [f3.2 11 (by decide) (by decide) (by decide)]; exact c11) hmP (fun k hk => ⟨fun mk => ?_, (l3 k hk).2⟩) ha (fun e => ⟨w1 e, f3.fin hI⟩) (fun p hp e => ⟨w2 p hp e, f3.fin hI⟩)
              rw [((l3 k hk).1 mk).1, LR.un (lb_LR hmP hs hEm l3 hc mk) (jnd_LR hv8 (by omega) mk hE')]
          · rintro d R x M2 ⟨hd, rfl, g1, g2⟩ hR
            obtain ⟨k, hk⟩ : ∃ k, k = P - (d + 1) := ⟨_, rfl⟩
            rw [← hk] at g2 ⊢
            have ek : P - d = k + 1 := by omega
            rw [g1 49 (by decide), c11, g1 213 (by decide), e213, ev, e_has, hb_nI (by omega) (by omega), bI_0, nI_clamp (n := k) (by omega)]
            have go : ∀ N u, N = mset M2 235 k u → ((v.testBit k = true → u = nI k) ∧ (v.testBit k = false → u = -9)) → R (nI k + 1) N := fun N u hN hu => hR _ _ ⟨by omega, by rw [nI_1, ek], fun r hr => by rw [hN, mset_row hr, g1 r hr], fun j hj => by
              rw [hN]
              by_cases w : j = k
              · rw [w, mset_eq]; exact hu
              · rw [mset_ne (by omega)]; exact g2 j (by omega)⟩
            refine ⟨fun z => absurd z (nI_ge (by omega) (by omega)), fun _ => ⟨vp_mono q1 hl8, fun z => ⟨vp_in_nI (by omega) (by decide), fun N hN => go N _ hN ⟨fun y => absurd y z, fun _ => rfl⟩⟩, fun z => ⟨vp_in_nI (by omega) (by decide), fun N hN => go N _ hN ⟨fun _ => rfl, fun y => absurd (Classical.not_not.mp z) (by rw [y]; decide)⟩⟩⟩⟩
        · rw [m_isPlace h0, bI_t (q2.resolve_left z)]
          exact ⟨fun _ => hJ M rfl, fun z => absurd z (by decide)⟩
      unfold wX10_area
      rw [e_isLaw h0, bI_t q1]
      refine ⟨fun z => absurd z (by decide), fun _ => jn0_i (fun M' => M' = M) ?_ (fun J hJ => ⟨fun z => hJ M rfl, fun z => ?_⟩)⟩
      · rintro M' e
        subst e
        rw [t1, ev]
        refine ⟨vp_mono q1 (by omega), e_countOrLeast (A := nb) (by decide) (by decide) hv8 (fun q hq => (n1 q hq).1) (ha.elim Or.inl (fun ⟨p, hp, e⟩ => Or.inr ⟨p, by omega, e⟩)) (fun e => ref _ (fun _ => rfl) (fun p hp e2 => ?_)) (fun p hp e => ref _ (fun e2 => ?_) (fun p' hp' e2 => ?_))⟩
        · rw [e] at e2
          exact absurd e2.symm (fun h => absurd (h ▸ nI_pos (n := p) (by omega)) (by decide))
        · rw [e2] at e
          exact absurd e.symm (fun h => absurd (h ▸ nI_pos (n := p) (by omega)) (by decide))
        · rw [e, nI_eq (by omega) (by omega)] at e2
          rw [e2]
      · rw [e_isPlace h0, bI_t (q2.resolve_left z)]
        exact ⟨fun _ => hJ M rfl, fun z => absurd z (by decide)⟩
    · have w1 : ¬ a2 = -1 := fun h => q2 (Or.inl h)
      have w2 : ¬ vp_in a2 (cP M) := fun h => q2 (Or.inr h)
      simp only [wX10_area, wX11_area, e_isLaw h0, m_isLaw h0, e_isPlace h0, m_isPlace h0, bI_t q1, bI_f w2, w1, i10, i01, bI_0, bI_1, isB_bI, Classical.not_not, not_false_eq_true, not_true_eq_false, true_implies, false_implies, and_true, true_and, and_self, forall_eq, ne_eq, jn0, jn1, jn2, jn3]
      exact hI
  · simp only [wX10_area, wX11_area, e_isLaw h0, m_isLaw h0, bI_f q1, i10, i01, bI_0, bI_1, isB_bI, Classical.not_not, not_false_eq_true, not_true_eq_false, true_implies, false_implies, and_true, true_and, and_self, forall_eq, ne_eq]
    exact hI
