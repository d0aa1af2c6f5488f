abbrev LC4 : Type := (Int32 × Int32) × (Int32 × Int32) × (Int32 × Int32) × (Int32 × Int32)
noncomputable def rsP (x : Int32) : Option (Int32 × Int32) := if x = 48 then some (-2, 42) else @ite _ (inR x 97 112) (Classical.propDecidable _) (some (x - 97, x - 97)) none
noncomputable def prs3 (c : Nat → Int32) (n : Nat) (t r l : Int32 × Int32) (i : Nat) : Nat ⊕ LC4 :=
  if n ≤ i then .inr (t, r, l, (29, 40)) else match (sid c n i).1 with
    | none => .inl (sid c n i).2
    | some s => if (sid c n i).2 = n then .inr (t, r, l, s) else .inl (sid c n i).2
noncomputable def prs2 (c : Nat → Int32) (n : Nat) (t r : Int32 × Int32) (i : Nat) : Nat ⊕ LC4 :=
  if n ≤ i then .inr (t, r, (29, 40), (29, 40)) else if cdA c n i = 47 then (match (lft c n (i + 1)).1 with
    | none => .inl (lft c n (i + 1)).2
    | some l => if cdA c n (lft c n (i + 1)).2 = 95 then prs3 c n t r l ((lft c n (i + 1)).2 + 1) else .inl (lft c n (i + 1)).2) else .inl i
noncomputable def prs (c : Nat → Int32) (n : Nat) : Nat ⊕ LC4 :=
  match (tgt c n 0).1 with
  | none => .inl (tgt c n 0).2
  | some t => if cdA c n (tgt c n 0).2 = 62 then (match rsP (cdA c n ((tgt c n 0).2 + 1)) with
    | none => .inl ((tgt c n 0).2 + 1)
    | some r => prs2 c n t r ((tgt c n 0).2 + 2)) else .inl (tgt c n 0).2
theorem rsP_r {x : Int32} {v : Int32 × Int32} (h : rsP x = some v) : rRel v.1 v.2 := by
  unfold rsP at h
  by_cases h1 : x = 48
  · rw [if_pos h1] at h
    rw [← Option.some.inj h]
    exact Or.inr ⟨rfl, rfl⟩
  · rw [if_neg h1] at h
    by_cases h2 : inR x 97 112
    · rw [if_pos h2] at h
      rw [← Option.some.inj h]
      obtain ⟨s, g1, -, e⟩ := inR_n (lo := 97) (hi := 112) (by decide) (by decide) h2
      have e2 : x - 97 = nI s := by rw [e, show (97 : Int32) = nI 97 by decide, pk_sub (by omega)]; congr 1; omega
      exact Or.inl ⟨s, by omega, e2, e2⟩
    · rw [if_neg h2] at h
      cases h
/-- what is read well are patterns that both write as they do -/
def okC (v : LC4) : Prop := tRel v.1.1 v.1.2 ∧ rRel v.2.1.1 v.2.1.2 ∧ sRel v.2.2.1.1 v.2.2.1.2 ∧ sRel v.2.2.2.1 v.2.2.2.2
theorem s2940 : sRel 29 40 := Or.inr (Or.inr ⟨rfl, rfl⟩)
theorem prs_r {c : Nat → Int32} {n : Nat} {v : LC4} (h : prs c n = .inr v) : okC v := by
  obtain ⟨t1, -, t3⟩ := tgt_r (c := c) (n := n) (i := 0) (Nat.zero_le _)
  unfold prs at h
  cases ht : (tgt c n 0).1 with
  | none => rw [ht] at h; cases h
  | some t =>
    rw [ht] at h
    have h : (if cdA c n (tgt c n 0).2 = 62 then (match rsP (cdA c n ((tgt c n 0).2 + 1)) with | none => .inl ((tgt c n 0).2 + 1) | some r => prs2 c n t r ((tgt c n 0).2 + 2)) else .inl (tgt c n 0).2) = (Sum.inr v : Nat ⊕ LC4) := h
    by_cases h62 : cdA c n (tgt c n 0).2 = 62
    · rw [if_pos h62] at h
      cases hr : rsP (cdA c n ((tgt c n 0).2 + 1)) with
      | none => rw [hr] at h; cases h
      | some r =>
        rw [hr] at h
        have h : prs2 c n t r ((tgt c n 0).2 + 2) = .inr v := h
        have kt := t3 t ht
        have kr := rsP_r hr
        have li : (tgt c n 0).2 + 1 < n := cd_lt (fun e => by
          rw [e] at hr
          unfold rsP at hr
          rw [if_neg (by decide), if_neg (fun y => y.1 (by decide))] at hr
          cases hr)
        generalize (tgt c n 0).2 + 2 = i at h
        unfold prs2 at h
        by_cases hn : n ≤ i
        · rw [if_pos hn] at h
          rw [← Sum.inr.inj h]
          exact ⟨kt, kr, s2940, s2940⟩
        · rw [if_neg hn] at h
          by_cases h47 : cdA c n i = 47
          · rw [if_pos h47] at h
            obtain ⟨l1, -, l3⟩ := lft_r (c := c) (n := n) (i := i + 1) (by omega)
            cases hl : (lft c n (i + 1)).1 with
            | none => rw [hl] at h; cases h
            | some l =>
              rw [hl] at h
              have h : (if cdA c n (lft c n (i + 1)).2 = 95 then prs3 c n t r l ((lft c n (i + 1)).2 + 1) else .inl (lft c n (i + 1)).2) = (Sum.inr v : Nat ⊕ LC4) := h
              have kl := l3 l hl
              by_cases h95 : cdA c n (lft c n (i + 1)).2 = 95
              · rw [if_pos h95] at h
                generalize hj : (lft c n (i + 1)).2 + 1 = j at h
                unfold prs3 at h
                by_cases hn2 : n ≤ j
                · rw [if_pos hn2] at h
                  rw [← Sum.inr.inj h]
                  exact ⟨kt, kr, kl, s2940⟩
                · rw [if_neg hn2] at h
                  obtain ⟨s1, -, s3⟩ := sid_r (c := c) (n := n) (i := j) (by omega)
                  cases hs : (sid c n j).1 with
                  | none => rw [hs] at h; cases h
                  | some s =>
                    rw [hs] at h
                    have h : (if (sid c n j).2 = n then .inr (t, r, l, s) else .inl (sid c n j).2) = (Sum.inr v : Nat ⊕ LC4) := h
                    by_cases he : (sid c n j).2 = n
                    · rw [if_pos he] at h
                      rw [← Sum.inr.inj h]
                      exact ⟨kt, kr, kl, s3 s hs⟩
                    · rw [if_neg he] at h
                      cases h
              · rw [if_neg h95] at h
                cases h
          · rw [if_neg h47] at h
            cases h
    · rw [if_neg h62] at h
      cases h
theorem e_sides {Mx : Mem} {c : Nat → Int32} {n i a : Nat} {t r : Int32 × Int32} {Q : Int32 → Mem → Prop} (ha : 32 ≤ a ∧ a < 41) (h60 : n ≤ 60) (hi : i < n) (hS : SX Mx c n i)
    (hQ0 : ∀ j, prs2 c n t r i = .inl j → ∀ M', (∀ q, q ≠ 11 → q ≠ a → M' q = Mx q) → SX M' c n j → Q 0 M')
    (hQ1 : ∀ l s, prs2 c n t r i = .inr (t, r, l, s) → ∀ M', (∀ q, q ≠ 11 → q ≠ a → M' q = Mx q) → M' a 1 = Mx a 1 → M' a 2 = Mx a 2 → M' a 3 = l.1 → M' a 4 = s.1 → Q 1 M') : wX5_readSides a Mx Q := by
  unfold wX5_readSides
  unfold prs2 at hQ0 hQ1
  rw [if_neg (by omega)] at hQ0 hQ1
  refine ⟨ha, e_takes h60 (by omega) hS (by decide) (fun z l M1 f1 s1 => ⟨fun _ => ?_, fun w => absurd w (by decide)⟩) (fun z M1 f1 s1 => ⟨fun w => absurd rfl w, fun _ => ?_⟩)⟩
  · rw [if_pos z] at hQ0 hQ1
    obtain ⟨p1, p2, p3⟩ := lft_r (c := c) (n := n) (i := i + 1) (by omega)
    refine e_isAt h60 (by omega) s1 (by decide) ?_
    refine jn1_i (fun y M' => (∀ q, q ≠ 11 → M' q = Mx q) ∧ SX M' c n (lft c n (i + 1)).2 ∧ y = vX (lft c n (i + 1)).1) ?_ (fun J hJ => ?_)
    · rintro y M2 ⟨f2, s2, rfl⟩ N hN
      have fN : ∀ q, q ≠ 11 → q ≠ a → N q = Mx q := fun q w1 w2 => by rw [hN, mset_row w2, f2 q w1]
      have sN : SX N c n (lft c n (i + 1)).2 := SX_fr s2 (by rw [hN, mset_row (by omega)]) (by rw [hN, mset_row (by omega)])
      have aN : ∀ k, k ≠ 3 → N a k = Mx a k := fun k hk => by rw [hN, mset_ne (by omega), f2 a (by omega)]
      have a3 : N a 3 = vX (lft c n (i + 1)).1 := by rw [hN, mset_eq]
      rw [a3]
      cases hl : (lft c n (i + 1)).1 with
      | none =>
        rw [hl] at hQ0
        exact ⟨fun _ => hQ0 _ rfl N fN sN, fun w => absurd rfl w⟩
      | some lv =>
        rw [hl] at hQ0 hQ1 a3
        have hQ0 : ∀ j, (if cdA c n (lft c n (i + 1)).2 = 95 then prs3 c n t r lv ((lft c n (i + 1)).2 + 1) else .inl (lft c n (i + 1)).2) = (Sum.inl j : Nat ⊕ LC4) → _ := hQ0
        have hQ1 : ∀ l s, (if cdA c n (lft c n (i + 1)).2 = 95 then prs3 c n t r lv ((lft c n (i + 1)).2 + 1) else .inl (lft c n (i + 1)).2) = (Sum.inr (t, r, l, s) : Nat ⊕ LC4) → _ := hQ1
        have a3 : N a 3 = lv.1 := a3
        refine ⟨fun w => absurd w (sRel_ne (p3 lv hl)).1, fun _ => e_takes h60 p1 sN (by decide) (fun z2 l2 M3 f3 s3 => ⟨fun _ => ?_, fun w => absurd w (by decide)⟩) (fun z2 M3 f3 s3 => ⟨fun w => absurd rfl w, fun _ => ?_⟩)⟩
        · rw [if_pos z2] at hQ0 hQ1
          generalize hj : (lft c n (i + 1)).2 + 1 = j at hQ0 hQ1 s3
          have j1 : j ≤ n := by omega
          unfold prs3 at hQ0 hQ1
          have f3' : ∀ q, q ≠ 11 → q ≠ a → M3 q = Mx q := fun q w1 w2 => by rw [f3 q w1, fN q w1 w2]
          have a3' : ∀ k, M3 a k = N a k := fun k => by rw [f3 a (by omega)]
          refine e_atEnd h60 j1 s3 ?_
          rw [bI_0]
          by_cases hn : n ≤ j
          · rw [if_pos hn] at hQ1
            refine jn1_i (fun y M' => M' = M3 ∧ y = 29) ?_ (fun J hJ => ⟨fun w => absurd hn w, fun _ => hJ _ _ ⟨rfl, rfl⟩⟩)
            rintro y M4 ⟨rfl, rfl⟩ N4 h4
            have s4 : SX N4 c n j := SX_fr s3 (by rw [h4, mset_row (by omega)]) (by rw [h4, mset_row (by omega)])
            have a44 : N4 a 4 = 29 := by rw [h4, mset_eq]
            rw [a44]
            refine ⟨fun w => absurd w (by decide), fun _ => e_atEnd h60 j1 s4 ?_⟩
            rw [bI_t hn]
            refine ⟨fun w => absurd w (by decide), fun _ => hQ1 lv (29, 40) rfl N4 (fun q w1 w2 => by rw [h4, mset_row w2, f3' q w1 w2]) (by rw [h4, mset_ne (by omega), a3', aN 1 (by decide)]) (by rw [h4, mset_ne (by omega), a3', aN 2 (by decide)]) (by rw [h4, mset_ne (by omega), a3', a3]) a44⟩
          · rw [if_neg hn] at hQ0 hQ1
            obtain ⟨k1, k2, k3⟩ := sid_r (c := c) (n := n) (i := j) j1
            refine jn1_i (fun y M' => (∀ q, q ≠ 11 → M' q = M3 q) ∧ SX M' c n (sid c n j).2 ∧ y = vX (sid c n j).1) ?_ (fun J hJ => ⟨fun _ => e_side h60 j1 s3 (fun M4 f4 s4 => hJ _ _ ⟨f4, s4, rfl⟩), fun w => absurd hn w⟩)
            rintro y M4 ⟨f4, s4, rfl⟩ N4 h4
            have s5 : SX N4 c n (sid c n j).2 := SX_fr s4 (by rw [h4, mset_row (by omega)]) (by rw [h4, mset_row (by omega)])
            have f5 : ∀ q, q ≠ 11 → q ≠ a → N4 q = Mx q := fun q w1 w2 => by rw [h4, mset_row w2, f4 q w1, f3' q w1 w2]
            have a44 : N4 a 4 = vX (sid c n j).1 := by rw [h4, mset_eq]
            have a4' : ∀ k, k ≠ 4 → N4 a k = N a k := fun k hk => by rw [h4, mset_ne (by omega), f4 a (by omega), a3']
            rw [a44]
            cases hs : (sid c n j).1 with
            | none =>
              rw [hs] at hQ0
              exact ⟨fun _ => hQ0 _ rfl N4 f5 s5, fun w => absurd rfl w⟩
            | some sv =>
              rw [hs] at hQ0 hQ1 a44
              have hQ0 : ∀ q, (if (sid c n j).2 = n then .inr (t, r, lv, sv) else .inl (sid c n j).2) = (Sum.inl q : Nat ⊕ LC4) → _ := hQ0
              have hQ1 : ∀ l s, (if (sid c n j).2 = n then .inr (t, r, lv, sv) else .inl (sid c n j).2) = (Sum.inr (t, r, l, s) : Nat ⊕ LC4) → _ := hQ1
              refine ⟨fun w => absurd w (sRel_ne (k3 sv hs)).1, fun _ => e_atEnd h60 k1 s5 ?_⟩
              rw [bI_0]
              refine ⟨fun w => ?_, fun w => ?_⟩
              · rw [if_neg (by omega)] at hQ0
                exact hQ0 _ rfl N4 f5 s5
              · rw [if_pos (by omega)] at hQ1
                exact hQ1 lv sv rfl N4 f5 (by rw [a4' 1 (by decide), aN 1 (by decide)]) (by rw [a4' 2 (by decide), aN 2 (by decide)]) (by rw [a4' 3 (by decide), a3]) a44
        · rw [if_neg z2] at hQ0
          exact hQ0 _ rfl M3 (fun q w1 w2 => by rw [f3 q w1, fN q w1 w2]) s3
    · rw [bI_0]
      refine ⟨fun w => e_side h60 (by omega) s1 (fun M2 f2 s2 => hJ _ _ ⟨fun q hq => by rw [f2 q hq, f1 q hq], ?_, ?_⟩), fun w => hJ _ _ ⟨f1, ?_, ?_⟩⟩
      · unfold lft; rw [if_neg w]; exact s2
      · unfold lft; rw [if_neg w]
      · unfold lft; rw [if_pos (Classical.not_not.mp w)]; exact s1
      · unfold lft; rw [if_pos (Classical.not_not.mp w)]; rfl
  · rw [if_neg z] at hQ0
    exact hQ0 i rfl M1 (fun q w1 w2 => f1 q w1) s1
theorem e_readT {Mx : Mem} {c : Nat → Int32} {n i a : Nat} {Q : Int32 → Mem → Prop} (ha : 32 ≤ a ∧ a < 41) (h60 : n ≤ 60) (hi : i ≤ n) (hS : SX Mx c n i)
    (hQ0 : (tgt c n i).1 = none → ∀ M', (∀ q, q ≠ 11 → q ≠ a → M' q = Mx q) → SX M' c n (tgt c n i).2 → Q 0 M')
    (hQ1 : ∀ t, (tgt c n i).1 = some t → ∀ M', (∀ q, q ≠ 11 → q ≠ a → M' q = Mx q) → SX M' c n (tgt c n i).2 → M' a 1 = t.1 → (∀ k, k ≠ 1 → M' a k = Mx a k) → Q 1 M') : wX5_readTarget a Mx Q := by
  obtain ⟨p1, p2, p3⟩ := tgt_r (c := c) hi
  unfold wX5_readTarget
  refine ⟨ha, e_pattern h60 hi hS (fun M1 f1 s1 N6 h6 => ?_)⟩
  have a61 : N6 a 1 = vX (tgt c n i).1 := by rw [h6, mset_eq]
  have f6 : ∀ q, q ≠ 11 → q ≠ a → N6 q = Mx q := fun q w1 w3 => by rw [h6, mset_row w3, f1 q w1]
  have s6 : SX N6 c n (tgt c n i).2 := SX_fr s1 (by rw [h6, mset_row (by omega)]) (by rw [h6, mset_row (by omega)])
  rw [a61]
  cases ht : (tgt c n i).1 with
  | none => exact ⟨fun _ => hQ0 ht N6 f6 s6, fun w => absurd rfl w⟩
  | some t =>
    rw [ht] at a61
    exact ⟨fun w => absurd w (sRel_ne (Or.inl (p3 t ht))).1, fun _ => hQ1 t ht N6 f6 s6 a61 (fun k hk => by rw [h6, mset_ne (by omega), f1 a (by omega)])⟩
theorem e_readR {Mx : Mem} {c : Nat → Int32} {n i a : Nat} {Q : Int32 → Mem → Prop} (ha : 32 ≤ a ∧ a < 41) (h60 : n ≤ 60) (hi : i ≤ n) (hS : SX Mx c n i)
    (hQ0 : rsP (cdA c n i) = none → ∀ M', (∀ q, q ≠ 11 → q ≠ a → M' q = Mx q) → SX M' c n i → Q 0 M')
    (hQ1 : ∀ t, rsP (cdA c n i) = some t → i < n → ∀ M', (∀ q, q ≠ 11 → q ≠ a → M' q = Mx q) → SX M' c n (i + 1) → M' a 2 = t.1 → (∀ k, k ≠ 2 → M' a k = Mx a k) → Q 1 M') : wX5_readResult a Mx Q := by
  unfold wX5_readResult
  have J : ∀ (y : Int32) (M3 N : Mem), (∀ q, q ≠ 11 → M3 q = Mx q) → ((∃ rv, rsP (cdA c n i) = some rv ∧ y = rv.1 ∧ i < n ∧ SX M3 c n (i + 1)) ∨ (rsP (cdA c n i) = none ∧ y = -1 ∧ SX M3 c n i)) → N = mset M3 a 2 y → ((N a 2 = -1 → Q 0 N) ∧ (¬ N a 2 = -1 → Q 1 N)) := fun y M3 N f3 h hN => by
    have a2 : N a 2 = y := by rw [hN, mset_eq]
    have fN : ∀ q, q ≠ 11 → q ≠ a → N q = Mx q := fun q w1 w3 => by rw [hN, mset_row w3, f3 q w1]
    rw [a2]
    rcases h with ⟨rv, hr, e, l, s⟩ | ⟨hr, e, s⟩
    · have nr : ¬ rv.1 = -1 := by
        rcases rsP_r hr with ⟨s, hs, e, -⟩ | ⟨e, -⟩
        · rw [e]; exact fun q => absurd (q ▸ nI_pos (n := s) (by omega)) (by decide)
        · rw [e]; decide
      refine ⟨fun w => absurd (e ▸ w) nr, fun _ => hQ1 rv hr l N fN (SX_fr s (by rw [hN, mset_row (by omega)]) (by rw [hN, mset_row (by omega)])) (a2.trans e) (fun k hk => by rw [hN, mset_ne (by omega), f3 a (by omega)])⟩
    · exact ⟨fun _ => hQ0 hr N fN (SX_fr s (by rw [hN, mset_row (by omega)]) (by rw [hN, mset_row (by omega)])), fun w => absurd e w⟩
  refine ⟨ha, e_takes h60 hi hS (by decide) (fun z l M1 f1 s1 => ?_) (fun z M1 f1 s1 => ?_)⟩
  · refine jn1_i (fun y M' => M' = M1 ∧ y = -2) ?_ (fun J hJ => ⟨fun w => absurd w (by decide), fun _ => hJ _ _ ⟨rfl, rfl⟩⟩)
    rintro y M' ⟨rfl, rfl⟩ N hN
    exact J _ M' N f1 (Or.inl ⟨(-2, 42), by unfold rsP; rw [if_pos z], rfl, l, s1⟩) hN
  · refine jn1_i (fun y M3 => (∀ q, q ≠ 11 → M3 q = Mx q) ∧ ((∃ rv, rsP (cdA c n i) = some rv ∧ y = rv.1 ∧ i < n ∧ SX M3 c n (i + 1)) ∨ (rsP (cdA c n i) = none ∧ y = -1 ∧ SX M3 c n i))) ?_ (fun J hJ => ⟨fun _ => e_takeB h60 hi s1 (by decide) (fun w l M2 f2 s2 => hJ _ _ ⟨fun q hq => by rw [f2 q hq, f1 q hq], Or.inl ⟨(cdA c n i - 97, cdA c n i - 97), by unfold rsP; rw [if_neg z, if_pos w], by rw [Int32.zero_add], l, s2⟩⟩) (fun w => hJ _ _ ⟨f1, Or.inr ⟨by unfold rsP; rw [if_neg z, if_neg w], rfl, s1⟩⟩), fun w => absurd rfl w⟩)
    rintro y M' ⟨h1, h2⟩ N hN
    exact J _ M' N h1 h2 hN
theorem e_first {Mx : Mem} {c : Nat → Int32} {n a : Nat} {Q : Int32 → Mem → Prop} (ha : 32 ≤ a ∧ a < 41) (h60 : n ≤ 60) (hc : ∀ k, k < n → Mx 18 k = c k)
    (hQ0 : ∀ j, prs c n = .inl j → ∀ M', (∀ q, q ≠ 11 → q ≠ 12 → q ≠ a → M' q = Mx q) → Q (nI j) M')
    (hQ1 : ∀ v : LC4, prs c n = .inr v → ∀ M', (∀ q, q ≠ 11 → q ≠ 12 → q ≠ a → M' q = Mx q) → M' a 1 = v.1.1 → M' a 2 = v.2.1.1 → M' a 3 = v.2.2.1.1 → M' a 4 = v.2.2.2.1 → Q (-9) M') : wX5_firstFault 18 (nI n) a Mx Q := by
  unfold wX5_firstFault
  rw [nI_clamp (by omega), show Int32.toNatClampNeg 0 = 0 from rfl]
  refine ⟨by decide, ha, by decide, by decide, nI_pos (by omega), by show 0 + n ≤ 60; omega, by omega, fun N1 h1 N2 h2 N3 h3 N4 h4 N5 h5 => ?_⟩
  have f0 : ∀ q, q ≠ 11 → q ≠ 12 → q ≠ a → N5 q = Mx q := fun q w1 w2 w3 => by rw [h5, mset_row w3, h4, mset_row w3, h3, mset_row w1, h2, mset_row w1, h1, mcpy_ne w2]
  have s0 : SX N5 c n 0 := by
    refine ⟨?_, ?_, fun k hk => ?_⟩
    · rw [h5, mset_row (by omega), h4, mset_row (by omega), h3, mset_ne (by omega), h2, mset_eq]
    · rw [h5, mset_row (by omega), h4, mset_row (by omega), h3, mset_eq]; rfl
    · rw [h5, mset_row (by omega), h4, mset_row (by omega), h3, mset_row (by decide), h2, mset_row (by decide), h1, mcpy_in hk, Nat.zero_add]
      exact hc k hk
  have a0 : N5 a 3 = 29 ∧ N5 a 4 = 29 := ⟨by rw [h5, mset_ne (by omega), h4, mset_eq], by rw [h5, mset_eq]⟩
  obtain ⟨p1, p2, p3⟩ := tgt_r (c := c) (n := n) (i := 0) (Nat.zero_le _)
  have both : ∀ (v : Int32) (M1 : Mem) (B : (Int32 → Mem → Prop) → Prop), (∀ J : Int32 → Mem → Prop, (∀ j M', prs c n = .inl j → (∀ q, q ≠ 11 → q ≠ 12 → q ≠ a → M' q = Mx q) → SX M' c n j → J 0 M') → (∀ (v : LC4) M', prs c n = .inr v → (∀ q, q ≠ 11 → q ≠ 12 → q ≠ a → M' q = Mx q) → M' a 1 = v.1.1 → M' a 2 = v.2.1.1 → M' a 3 = v.2.2.1.1 → M' a 4 = v.2.2.2.1 → J 1 M') → B J) → jn1 (fun (y78_0 : Int32) (M78 : Mem) => ((y78_0 = 0 → Q (M78 11 2) M78) ∧ (¬ y78_0 = 0 → Q (-9) M78))) B := fun v M1 B hB =>
    hB _ (fun j M' h f s => ⟨fun _ => by rw [s.2.1]; exact hQ0 j h M' f, fun w => absurd rfl w⟩) (fun v M' h f b1 b2 b3 b4 => ⟨fun w => absurd w (by decide), fun _ => hQ1 v h M' f b1 b2 b3 b4⟩)
  refine e_readT ha h60 (Nat.zero_le _) s0 (fun ht M1 f1 s1 => both 0 M1 _ (fun J j0 j1 => ⟨fun _ => j0 _ M1 (by unfold prs; rw [ht]) (fun q w1 w2 w3 => by rw [f1 q w1 w3, f0 q w1 w2 w3]) s1, fun w => absurd rfl w⟩)) (fun t ht M1 f1 s1 a1 a1' => both 0 M1 _ (fun J j0 j1 => ⟨fun w => absurd w (by decide), fun _ => ?_⟩))
  have f1' : ∀ q, q ≠ 11 → q ≠ 12 → q ≠ a → M1 q = Mx q := fun q w1 w2 w3 => by rw [f1 q w1 w3, f0 q w1 w2 w3]
  refine e_takes h60 p1 s1 (by decide) (fun z l M2 f2 s2 => ⟨fun w => absurd w (by decide), fun _ => ?_⟩) (fun z M2 f2 s2 => ⟨fun _ => j0 _ M2 (by unfold prs; rw [ht]; show (if _ then _ else _) = _; rw [if_neg z]) (fun q w1 w2 w3 => by rw [f2 q w1, f1' q w1 w2 w3]) s2, fun w => absurd rfl w⟩)
  have f2' : ∀ q, q ≠ 11 → q ≠ 12 → q ≠ a → M2 q = Mx q := fun q w1 w2 w3 => by rw [f2 q w1, f1' q w1 w2 w3]
  refine e_readR ha h60 (by omega) s2 (fun hr M3 f3 s3 => ⟨fun _ => j0 _ M3 (by unfold prs; rw [ht]; show (if _ then _ else _) = _; rw [if_pos z, hr]) (fun q w1 w2 w3 => by rw [f3 q w1 w3, f2' q w1 w2 w3]) s3, fun w => absurd rfl w⟩) (fun rv hr l2 M3 f3 s3 a3 a3' => ⟨fun w => absurd w (by decide), fun _ => ?_⟩)
  have f3' : ∀ q, q ≠ 11 → q ≠ 12 → q ≠ a → M3 q = Mx q := fun q w1 w2 w3 => by rw [f3 q w1 w3, f2' q w1 w2 w3]
  have ep : prs c n = prs2 c n t rv ((tgt c n 0).2 + 2) := by
    unfold prs
    rw [ht]
    show (if _ then _ else _) = _
    rw [if_pos z, hr]
  have e1 : M3 a 1 = t.1 := by rw [a3' 1 (by decide), f2 a (by omega), a1]
  refine e_atEnd h60 (by omega) s3 ?_
  rw [bI_0]
  refine ⟨fun y => j1 (t, rv, (29, 40), (29, 40)) M3 (by rw [ep]; unfold prs2; rw [if_pos (Classical.not_not.mp y)]) f3' e1 a3 (by rw [a3' 3 (by decide), f2 a (by omega), a1' 3 (by decide), a0.1]) (by rw [a3' 4 (by decide), f2 a (by omega), a1' 4 (by decide), a0.2]), fun y => e_sides ha h60 (by omega) s3 (t := t) (r := rv) (fun q hq M4 f4 s4 => ⟨fun _ => j0 q M4 (by rw [ep]; exact hq) (fun q' w1 w2 w3 => by rw [f4 q' w1 w3, f3' q' w1 w2 w3]) s4, fun y => absurd rfl y⟩) (fun lv sv hq M4 f4 b1 b2 b3 b4 => ⟨fun y => absurd y (by decide), fun _ => j1 (t, rv, lv, sv) M4 (by rw [ep]; exact hq) (fun q' w1 w2 w3 => by rw [f4 q' w1 w3, f3' q' w1 w2 w3]) (by rw [b1, e1]) (by rw [b2, a3]) b3 b4⟩)⟩
