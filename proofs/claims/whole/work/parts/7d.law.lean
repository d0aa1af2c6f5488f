theorem SM_fr {M M' : Mem} {c : Nat → Int32} {fr n i : Nat} (h : SM M c fr n i) (h1 : M' 49 = M 49) (h2 : M' 194 = M 194) : SM M' c fr n i := by unfold SM; rw [h1, h2]; exact h
section PARM2
variable {Mx : Mem} {c : Nat → Int32} {fr n i : Nat} {Q : Int32 → Mem → Prop}
theorem m_left (h240 : fr + n ≤ 240) (hi : i ≤ n) (hS : SM Mx c fr n i) (hQ : ∀ M', (∀ r, r ≠ 49 → M' r = Mx r) → (∀ k, k ≠ 28 → M' 49 k = Mx 49 k) → SM M' c fr n (lft c n i).2 → Q (vM (lft c n i).1) M') : wX11_readsSide 95 Mx Q := by
  unfold lft at hQ
  refine m_side h240 hi hS (fun z => ?_) (fun z => ?_)
  · rw [if_pos z] at hQ
    exact hQ Mx (fun _ _ => rfl) (fun _ _ => rfl) hS
  · rw [if_neg z] at hQ
    exact hQ
theorem sid_9 (h : cdA c n i = -9) : sid c n i = (none, i) := by
  unfold sid tgt
  rw [h, if_neg (by decide), if_neg (by decide), if_neg (by decide), if_neg (fun y => y.1 (by decide))]
theorem m_reads (h240 : fr + n ≤ 240) (hS : SM Mx c fr n 0)
    (hQ0 : ∀ j, prs c n = .inl j → ∀ M', (∀ r, r ≠ 49 → r ≠ 220 → M' r = Mx r) → (∀ k, k ≠ 28 → M' 49 k = Mx 49 k) → M' 49 28 = nI (fr + j) → Q 0 M')
    (hQ1 : ∀ v : LC4, prs c n = .inr v → ∀ M', (∀ r, r ≠ 49 → r ≠ 220 → M' r = Mx r) → (∀ k, k ≠ 28 → M' 49 k = Mx 49 k) → M' 220 0 = v.1.2 → M' 220 1 = v.2.1.2 → M' 220 2 = v.2.2.1.2 → M' 220 3 = v.2.2.2.2 → Q 1 M') : wX11_readsLaw 220 Mx Q := by
  have t0 : Int32.toNatClampNeg 0 = 0 := rfl
  have t1 : Int32.toNatClampNeg 1 = 1 := by decide
  have t2 : Int32.toNatClampNeg 2 = 2 := by decide
  have t3 : Int32.toNatClampNeg 3 = 3 := by decide
  have v4 : ∀ k, k < 4 → vp_in (nI k) (ln 220) := fun k hk => vp_in_nI (by show k < 4; exact hk) (by decide)
  obtain ⟨p1, p2, p3⟩ := tgt_r (c := c) (n := n) (i := 0) (Nat.zero_le _)
  unfold wX11_readsLaw
  rw [t0, t1, t2, t3]
  refine ⟨by decide, m_target h240 (Nat.zero_le _) hS (fun M1 f1 k1 s1 => ⟨v4 0 (by decide), fun N6 h6 => ?_⟩)⟩
  have f6 : ∀ r, r ≠ 49 → r ≠ 220 → N6 r = Mx r := fun r w1 w2 => by rw [h6, mset_row w2, f1 r w1]
  have k6 : ∀ k, k ≠ 28 → N6 49 k = Mx 49 k := fun k hk => by rw [h6, mset_row (by decide), k1 k hk]
  have s6 : SM N6 c fr n (tgt c n 0).2 := SM_fr s1 (by rw [h6, mset_row (by decide)]) (by rw [h6, mset_row (by decide)])
  have a6 : N6 220 0 = vM (tgt c n 0).1 := by rw [h6, mset_eq]
  rw [a6]
  cases ht : (tgt c n 0).1 with
  | none => exact ⟨fun _ => hQ0 _ (by unfold prs; rw [ht]) N6 f6 k6 s6.1, fun w => absurd rfl w⟩
  | some t =>
    rw [ht] at a6
    have a6 : N6 220 0 = t.2 := a6
    refine ⟨fun w => absurd w (sRel_ne (Or.inl (p3 t ht))).2, fun _ => m_codeAt h240 p1 s6 ⟨fun z N33 h33 => ?_, fun z => hQ0 _ (by unfold prs; rw [ht]; show (if _ then _ else _) = _; rw [if_neg z]) N6 f6 k6 s6.1⟩⟩
    have l1 : (tgt c n 0).2 < n := cd_lt (by rw [z]; decide)
    obtain ⟨f33, k33, s33⟩ := SM_1 s6 rfl h33
    have f33' : ∀ r, r ≠ 49 → r ≠ 220 → N33 r = Mx r := fun r w1 w2 => by rw [f33 r w1, f6 r w1 w2]
    have k33' : ∀ k, k ≠ 28 → N33 49 k = Mx 49 k := fun k hk => by rw [k33 k hk, k6 k hk]
    refine m_codeAt h240 (by omega) s33 ?_
    refine jn0_i (fun M' => M' = N33 ∧ ∃ rv, rsP (cdA c n ((tgt c n 0).2 + 1)) = some rv) ?_ (fun J hJ => ⟨fun w => hJ _ ⟨rfl, (-2, 42), by unfold rsP; rw [if_pos w]⟩, fun w => ?_⟩)
    · rintro M' ⟨e, rv, hr⟩
      subst e
      have ep : prs c n = prs2 c n t rv ((tgt c n 0).2 + 2) := by
        unfold prs
        rw [ht]
        show (if _ then _ else _) = _
        rw [if_pos z, hr]
      have l2 : (tgt c n 0).2 + 1 < n := cd_lt (fun e => by
        rw [e] at hr
        unfold rsP at hr
        rw [if_neg (by decide), if_neg (fun y => y.1 (by decide))] at hr
        cases hr)
      refine jn1_i (fun y M2 => M2 = M' ∧ y = rv.2) ?_ (fun J hJ => ⟨fun w => hJ _ _ ⟨rfl, ?_⟩, fun w => hJ _ _ ⟨rfl, ?_⟩⟩)
      · rintro y M2 ⟨e, rfl⟩
        subst e
        refine ⟨v4 1 (by decide), fun N77 h77 => ⟨v4 2 (by decide), fun N82 h82 => ⟨v4 3 (by decide), fun N87 h87 N95 h95 => ?_⟩⟩⟩
        have s87 : SM N87 c fr n ((tgt c n 0).2 + 1) := SM_fr s33 (by rw [h87, mset_row (by decide), h82, mset_row (by decide), h77, mset_row (by decide)]) (by rw [h87, mset_row (by decide), h82, mset_row (by decide), h77, mset_row (by decide)])
        have f87 : ∀ r, r ≠ 49 → r ≠ 220 → N87 r = Mx r := fun r w1 w2 => by rw [h87, mset_row w2, h82, mset_row w2, h77, mset_row w2, f33' r w1 w2]
        have k87 : ∀ k, k ≠ 28 → N87 49 k = Mx 49 k := fun k hk => by rw [h87, mset_row (by decide), h82, mset_row (by decide), h77, mset_row (by decide), k33' k hk]
        obtain ⟨f95, k95, s95⟩ := SM_1 s87 rfl h95
        have f95' : ∀ r, r ≠ 49 → r ≠ 220 → N95 r = Mx r := fun r w1 w2 => by rw [f95 r w1, f87 r w1 w2]
        have k95' : ∀ k, k ≠ 28 → N95 49 k = Mx 49 k := fun k hk => by rw [k95 k hk, k87 k hk]
        have b0 : N95 220 0 = t.2 := by rw [f95 220 (by decide), h87, mset_ne (by omega), h82, mset_ne (by omega), h77, mset_ne (by omega), f33 220 (by decide), a6]
        have b1 : N95 220 1 = rv.2 := by rw [f95 220 (by decide), h87, mset_ne (by omega), h82, mset_ne (by omega), h77, mset_eq]
        have b2 : N95 220 2 = 40 := by rw [f95 220 (by decide), h87, mset_ne (by omega), h82, mset_eq]
        have b3 : N95 220 3 = 40 := by rw [f95 220 (by decide), h87, mset_eq]
        generalize hj : (tgt c n 0).2 + 2 = j at *
        rw [s95.1, s95.2.1, nI_eq (by omega) (by omega)]
        refine ⟨fun y => ?_, fun y => hQ1 (t, rv, (29, 40), (29, 40)) (by rw [ep]; unfold prs2; rw [if_pos (by omega)]) N95 f95' k95' b0 b1 b2 b3⟩
        have ep2 := ep
        unfold prs2 at ep2
        rw [if_neg (by omega)] at ep2
        refine m_codeAt h240 (by omega) s95 ⟨fun z2 N129 h129 => ?_, fun z2 => hQ0 _ (by rw [ep2, if_neg z2]) N95 f95' k95' s95.1⟩
        rw [if_pos z2] at ep2
        obtain ⟨f129, k129, s129⟩ := SM_1 s95 rfl h129
        obtain ⟨q1, q2, q3⟩ := lft_r (c := c) (n := n) (i := j + 1) (by omega)
        refine m_left h240 (by omega) s129 (fun M3 f3 k3 s3 N140 h140 => ?_)
        have f140 : ∀ r, r ≠ 49 → r ≠ 220 → N140 r = Mx r := fun r w1 w2 => by rw [h140, mset_row w2, f3 r w1, f129 r w1, f95' r w1 w2]
        have k140 : ∀ k, k ≠ 28 → N140 49 k = Mx 49 k := fun k hk => by rw [h140, mset_row (by decide), k3 k hk, k129 k hk, k95' k hk]
        have s140 : SM N140 c fr n (lft c n (j + 1)).2 := SM_fr s3 (by rw [h140, mset_row (by decide)]) (by rw [h140, mset_row (by decide)])
        have c2 : N140 220 2 = vM (lft c n (j + 1)).1 := by rw [h140, mset_eq]
        have c' : ∀ k, k ≠ 2 → N140 220 k = N95 220 k := fun k hk => by rw [h140, mset_ne (by omega), f3 220 (by decide), f129 220 (by decide)]
        rw [c2]
        cases hl : (lft c n (j + 1)).1 with
        | none => exact ⟨fun _ => hQ0 _ (by rw [ep2, hl]) N140 f140 k140 s140.1, fun w => absurd rfl w⟩
        | some lv =>
          rw [hl] at c2 ep2
          have c2 : N140 220 2 = lv.2 := c2
          have ep2 : prs c n = (if cdA c n (lft c n (j + 1)).2 = 95 then prs3 c n t rv lv ((lft c n (j + 1)).2 + 1) else .inl (lft c n (j + 1)).2) := ep2
          refine ⟨fun w => absurd w (sRel_ne (q3 lv hl)).2, fun _ => m_codeAt h240 q1 s140 ⟨fun z3 N167 h167 => ?_, fun z3 => hQ0 _ (by rw [ep2, if_neg z3]) N140 f140 k140 s140.1⟩⟩
          rw [if_pos z3] at ep2
          have l3 : (lft c n (j + 1)).2 < n := cd_lt (by rw [z3]; decide)
          obtain ⟨f167, k167, s167⟩ := SM_1 s140 rfl h167
          generalize hm : (lft c n (j + 1)).2 + 1 = m at *
          have f167' : ∀ r, r ≠ 49 → r ≠ 220 → N167 r = Mx r := fun r w1 w2 => by rw [f167 r w1, f140 r w1 w2]
          have k167' : ∀ k, k ≠ 28 → N167 49 k = Mx 49 k := fun k hk => by rw [k167 k hk, k140 k hk]
          obtain ⟨r1, r2, r3⟩ := sid_r (c := c) (n := n) (i := m) (by omega)
          unfold prs3 at ep2
          refine m_side h240 (by omega) s167 (fun z4 N178 h178 => ?_) (fun z4 M4 f4 k4 s4 N178 h178 => ?_)
          · have f178 : ∀ r, r ≠ 49 → r ≠ 220 → N178 r = Mx r := fun r w1 w2 => by rw [h178, mset_row w2, f167' r w1 w2]
            have k178 : ∀ k, k ≠ 28 → N178 49 k = Mx 49 k := fun k hk => by rw [h178, mset_row (by decide), k167' k hk]
            have s178 : SM N178 c fr n m := SM_fr s167 (by rw [h178, mset_row (by decide)]) (by rw [h178, mset_row (by decide)])
            have d3 : N178 220 3 = 40 := by rw [h178, mset_eq]
            have d' : ∀ k, k ≠ 3 → N178 220 k = N140 220 k := fun k hk => by rw [h178, mset_ne (by omega), f167 220 (by decide)]
            rw [d3, s178.1, s178.2.1, nI_eq (by omega) (by omega)]
            refine ⟨fun w => absurd w (by decide), fun _ => ⟨fun w => ?_, fun w => ?_⟩⟩
            · rw [if_neg (by omega), sid_9 z4] at ep2
              exact hQ0 m ep2 N178 f178 k178 s178.1
            · rw [if_pos (by omega)] at ep2
              exact hQ1 _ ep2 N178 f178 k178 (by rw [d' 0 (by decide), c' 0 (by decide), b0]) (by rw [d' 1 (by decide), c' 1 (by decide), b1]) (by rw [d' 2 (by decide), c2]) d3
          · have l4 : m < n := by
              rcases Nat.lt_or_ge m n with q | q
              · exact q
              · exact absurd (cd_end q) z4
            have f178 : ∀ r, r ≠ 49 → r ≠ 220 → N178 r = Mx r := fun r w1 w2 => by rw [h178, mset_row w2, f4 r w1, f167' r w1 w2]
            have k178 : ∀ k, k ≠ 28 → N178 49 k = Mx 49 k := fun k hk => by rw [h178, mset_row (by decide), k4 k hk, k167' k hk]
            have s178 : SM N178 c fr n (sid c n m).2 := SM_fr s4 (by rw [h178, mset_row (by decide)]) (by rw [h178, mset_row (by decide)])
            have d3 : N178 220 3 = vM (sid c n m).1 := by rw [h178, mset_eq]
            have d' : ∀ k, k ≠ 3 → N178 220 k = N140 220 k := fun k hk => by rw [h178, mset_ne (by omega), f4 220 (by decide), f167 220 (by decide)]
            rw [if_neg (by omega)] at ep2
            rw [d3, s178.1, s178.2.1, nI_eq (by omega) (by omega)]
            cases hs : (sid c n m).1 with
            | none =>
              rw [hs] at ep2
              exact ⟨fun _ => hQ0 _ ep2 N178 f178 k178 s178.1, fun w => absurd rfl w⟩
            | some sv =>
              rw [hs] at ep2 d3
              have ep2 : prs c n = (if (sid c n m).2 = n then .inr (t, rv, lv, sv) else .inl (sid c n m).2) := ep2
              refine ⟨fun w => absurd w (sRel_ne (r3 sv hs)).2, fun _ => ⟨fun w => ?_, fun w => ?_⟩⟩
              · rw [if_neg (by omega)] at ep2
                exact hQ0 _ ep2 N178 f178 k178 s178.1
              · rw [if_pos (by omega)] at ep2
                exact hQ1 _ ep2 N178 f178 k178 (by rw [d' 0 (by decide), c' 0 (by decide), b0]) (by rw [d' 1 (by decide), c' 1 (by decide), b1]) (by rw [d' 2 (by decide), c2]) d3
      · unfold rsP at hr
        rw [if_neg w] at hr
        by_cases w2 : inR (cdA c n ((tgt c n 0).2 + 1)) 97 112
        · rw [if_pos w2] at hr
          rw [← Option.some.inj hr]
        · rw [if_neg w2] at hr
          cases hr
      · unfold rsP at hr
        rw [if_pos w] at hr
        rw [← Option.some.inj hr]
    · rw [e_within, bI_0]
      refine ⟨fun w2 => hJ _ ⟨rfl, (cdA c n ((tgt c n 0).2 + 1) - 97, cdA c n ((tgt c n 0).2 + 1) - 97), ?_⟩, fun w2 => hQ0 _ ?_ N33 f33' k33' s33.1⟩
      · unfold rsP
        rw [if_neg w, if_pos (show inR _ 97 112 from Classical.not_not.mp w2)]
      · unfold prs
        rw [ht]
        show (if _ then _ else _) = _
        rw [if_pos z]
        have : rsP (cdA c n ((tgt c n 0).2 + 1)) = none := by
          unfold rsP
          rw [if_neg w, if_neg (show ¬ inR _ 97 112 from w2)]
        rw [this]
end PARM2
