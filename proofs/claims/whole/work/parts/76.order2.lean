noncomputable def bo (M : Mem) (p n : Nat) (σ : Nat → Nat) : List Nat → Nat → List Nat → Nat × List Nat
  | [], mo, b => (mo, b)
  | c :: r, mo, b => if mo < rgc M p ((dec n c).map σ) 6 + 1 then bo M p n σ r (rgc M p ((dec n c).map σ) 6 + 1) ((dec n c).map σ) else bo M p n σ r mo b
theorem chk_c {n c : Nat} {r : List Nat} (h : chk n (c :: r) = true) : (dec n c).length = n ∧ (∀ k, k < (dec n c).length → (dec n c).getD k 0 < n) ∧ nxt (dec n c) = r.head?.map (dec n) ∧ chk n r = true := by
  rw [chk] at h
  simp only [Bool.and_eq_true, decide_eq_true_eq] at h
  obtain ⟨⟨⟨h1, h2⟩, h3⟩, h4⟩ := h
  refine ⟨h1, fun k hk => ?_, h3, h4⟩
  have := List.all_eq_true.mp h2 _ (List.getElem_mem hk)
  rw [List.getD_eq_getElem?_getD, List.getElem?_eq_getElem hk]
  exact of_decide_eq_true this
theorem le_dI {c mo : Nat} (hc : c < 2 ^ 31) (hm : mo < 2 ^ 31) : nI c ≤ dI mo ↔ c + 1 ≤ mo := by
  cases mo with
  | zero => exact ⟨fun h => absurd (Int32.le_trans (nI_pos' hc) h) (by decide), fun h => by omega⟩
  | succ k => show nI c ≤ nI k ↔ _; rw [nI_leI hc (by omega)]; omega
theorem tb_pos {n : Nat} (h : n ≤ 6) : ∃ c r, tb n = c :: r ∧ dec n c = List.range n := by
  obtain ⟨-, -, h3⟩ := tb_ok h
  cases e : tb n with
  | nil => rw [e] at h3; cases h3
  | cons c r =>
    rw [e] at h3
    exact ⟨c, r, rfl, Option.some.inj h3⟩
theorem map_range {L : List Nat} : (List.range L.length).map (fun i => L.getD i 0) = L := by
  apply gd_ext
  · rw [List.length_map, List.length_range]
  · intro k hk
    rw [List.length_map, List.length_range] at hk
    have e : (List.range L.length).getD k 0 = k := by rw [List.getD_eq_getElem?_getD, List.getElem?_range hk]; rfl
    rw [gd_map (by rw [List.length_range]; exact hk), e]
section ORD
variable {M : Mem} {p : Nat}
theorem st_fact (hI : Inv M) {c : Nat} {r : List Nat} (h : chk (ols M p (cL M)).length (c :: r) = true) : ((dec (ols M p (cL M)).length c).map (fun i => (ols M p (cL M)).getD i 0)).length = (ols M p (cL M)).length ∧ (∀ k, k < ((dec (ols M p (cL M)).length c).map (fun i => (ols M p (cL M)).getD i 0)).length → ((dec (ols M p (cL M)).length c).map (fun i => (ols M p (cL M)).getD i 0)).getD k 0 < cL M) ∧ nxt ((dec (ols M p (cL M)).length c).map (fun i => (ols M p (cL M)).getD i 0)) = r.head?.map (fun c => (dec (ols M p (cL M)).length c).map (fun i => (ols M p (cL M)).getD i 0)) ∧ chk (ols M p (cL M)).length r = true := by
  obtain ⟨h1, h2, h3, h4⟩ := chk_c h
  refine ⟨by rw [List.length_map, h1], fun k hk => ?_, ?_, h4⟩
  · rw [List.length_map] at hk
    rw [gd_map hk]
    exact ols_b _ _ (h2 k hk)
  · rw [nxt_map (n := (ols M p (cL M)).length) ols_m h2, h3]
    cases r <;> rfl
end ORD
theorem e_best {M Mx : Mem} (hI : Inv M) {p n : Nat} {σ : Nat → Nat} {Q : Int32 → Mem → Prop} (hp : p < cP M) (hn : n = (ols M p (cL M)).length) (h6 : n ≤ 6) (hσ : σ = fun i => (ols M p (cL M)).getD i 0) (r8 : rwX Mx 98 (ols M p (cL M))) (fq : Fq M Mx)
    (hQ : ∀ M', Fq M M' → rwX M' 99 (bo M p n σ (tb n) 0 []).2 → (bo M p n σ (tb n) 0 []).2.length = n → Q (dI (bo M p n σ (tb n) 0 []).1) M') : wX10_orderBest (nI p) Mx Q := by
  have hl8 := hI.1.2.2.1.2.1
  obtain ⟨t1, t2, -⟩ := tb_ok h6
  obtain ⟨c0, r0, t3, t4⟩ := tb_pos h6
  have fact : ∀ c r, chk n (c :: r) = true → ((dec n c).map σ).length = n ∧ (∀ k, k < ((dec n c).map σ).length → ((dec n c).map σ).getD k 0 < cL M) ∧ nxt ((dec n c).map σ) = r.head?.map (fun c => (dec n c).map σ) ∧ chk n r = true := fun c r h => by
    rw [hσ, hn]
    rw [hn] at h
    exact st_fact hI h
  have m0 : (dec n c0).map σ = ols M p (cL M) := by rw [t4, hσ, hn]; exact map_range
  obtain ⟨W, hW⟩ : ∃ W, W = (tb n).length := ⟨_, rfl⟩
  have W1 : 1 ≤ W := by rw [hW, t3]; exact Nat.succ_le_succ (Nat.zero_le _)
  rw [← hW] at t2
  unfold wX10_orderBest
  refine ⟨W + 1, lq3_ind (fun d x y z M' => ∃ (r : List Nat) (mo : Nat) (b : List Nat), r.length = d ∧ d ≤ W ∧ chk n r = true ∧ x = dI mo ∧ mo ≤ 7 ∧ y = bI (¬ d = 0) ∧ z = nI (W - d) ∧ Fq M M' ∧ (∀ c r', r = c :: r' → rwX M' 98 ((dec n c).map σ)) ∧ ((d = W ∧ mo = 0) ∨ (rwX M' 99 b ∧ b.length = n)) ∧ bo M p n σ r mo b = bo M p n σ (tb n) 0 []) ?_ ?_ W _ _ _ Mx ⟨tb n, 0, [], hW.symm, Nat.le_refl _, t1, rfl, by omega, by rw [bI_t (by omega)], by rw [Nat.sub_self]; rfl, fq, fun c r' h => ?_, Or.inl ⟨rfl, rfl⟩, rfl⟩⟩
  · rintro R x y z M' ⟨r, mo, b, hr, -, -, rfl, -, rfl, rfl, g1, -, g3, g4⟩
    have : r = [] := List.eq_nil_of_length_eq_zero hr
    rw [this, bo] at g4
    have fin : Q (dI mo) M' := by
      rcases g3 with q | ⟨q1, q2⟩
      · omega
      · have := hQ M' g1
        rw [← g4] at this
        exact this q1 q2
    exact ⟨fun _ => fin, fun _ => ⟨fun _ => fin, fun w => absurd (bI_f (fun y => y rfl)) w⟩⟩
  · rintro d R x y z M' ⟨r, mo, b, hr, hd, hc, rfl, hmo, rfl, rfl, g1, g2, g3, g4⟩ hR
    obtain ⟨c, r', rfl⟩ : ∃ c r', r = c :: r' := by
      cases r with
      | nil => cases hr
      | cons c r' => exact ⟨c, r', rfl⟩
    obtain ⟨T, hT⟩ : ∃ T, T = (dec n c).map σ := ⟨_, rfl⟩
    obtain ⟨k1, k2, k3, k4⟩ := fact c r' hc
    have rT := g2 c r' rfl
    rw [← hT] at k1 k2 k3 rT
    rw [bo, ← hT] at g4
    have lr : r'.length = d := by rw [List.length_cons] at hr; omega
    have rl := rgc_le (M := M) (p := p) (T := T) 6
    rw [bI_t (show ¬ d + 1 = 0 by omega)]
    refine ⟨fun z => absurd z (nI_ge (b := 720) (by omega) (by decide)), fun _ => ⟨fun z => absurd z (by decide), fun _ => e_regT hI hp k2 (by omega) rT g1 (fun M2 f2 q2 => ?_)⟩⟩
    rw [le_dI (by omega) (by omega)]
    have r8' : rwX M2 98 T := ⟨by rw [q2 98 (by decide) (by decide) (by decide) (by decide)]; exact rT.1, fun k hk => by rw [q2 148 (by decide) (by decide) (by decide) (by decide)]; exact rT.2 k hk⟩
    refine jn1_i (fun x M3 => ∃ mo' b', x = dI mo' ∧ mo' ≤ 7 ∧ Fq M M3 ∧ rwX M3 98 T ∧ rwX M3 99 b' ∧ b'.length = n ∧ bo M p n σ r' mo' b' = bo M p n σ (tb n) 0 []) ?_ ?_
    · rintro x M3 ⟨mo', b', rfl, hmo', f3, r3, r9, lb, g5⟩
      refine e_step (by omega) (fun k hk => by have := k2 k hk; omega) r3 (fun e => ?_) (fun T' e M4 q4 r4 => ?_)
      · rw [k3] at e
        have en : r' = [] := by
          cases r' with
          | nil => rfl
          | cons => cases e
        have d0 : d = 0 := by rw [← lr, en]; rfl
        exact hR _ _ _ _ ⟨r', mo', b', lr, by omega, k4, rfl, hmo', by rw [bI_f (fun y => y d0)], by rw [nI_1]; congr 1; omega, f3, fun c r'' h => (by rw [en] at h; cases h), Or.inr ⟨r9, lb⟩, g5⟩
      · rw [k3] at e
        have d0 : ¬ d = 0 := fun h => by
          have : r' = [] := List.eq_nil_of_length_eq_zero (lr.trans h)
          rw [this] at e
          cases e
        refine hR _ _ _ _ ⟨r', mo', b', lr, by omega, k4, rfl, hmo', by rw [bI_t d0], by rw [nI_1]; congr 1; omega, f3.b1 (i := 148) (by decide) q4, fun c r'' h => ?_, Or.inr ⟨⟨by rw [q4 99 (by decide)]; exact r9.1, fun k hk => by rw [q4 149 (by decide)]; exact r9.2 k hk⟩, lb⟩, g5⟩
        rw [h] at e
        rw [show (dec n c).map σ = T' from Option.some.inj e]
        exact r4
    · intro J hJ
      refine ⟨fun z => ?_, fun z => ?_⟩
      · rw [if_neg (by omega)] at g4
        rcases g3 with q | ⟨q1, q3⟩
        · omega
        · exact hJ _ _ ⟨mo, b, rfl, hmo, f2, r8', ⟨by rw [q2 99 (by decide) (by decide) (by decide) (by decide)]; exact q1.1, fun k hk => by rw [q2 149 (by decide) (by decide) (by decide) (by decide)]; exact q1.2 k hk⟩, q3, g4⟩
      · rw [if_pos (by omega)] at g4
        exact e_bec (by decide) (by decide) (by decide) r8' (by omega) (fun M3 q3 r3 => hJ _ _ ⟨rgc M p T 6 + 1, T, rfl, by omega, f2.b99 q3, ⟨by rw [q3 98 (by decide) (by decide)]; exact r8'.1, fun k hk => by rw [q3 148 (by decide) (by decide)]; exact r8'.2 k hk⟩, r3, k1, g4⟩)
  · rw [t3] at h
    have : c0 = c := by injection h
    rw [← this, m0]
    exact r8
theorem m_best {M Mx : Mem} (hI : Inv M) {p n : Nat} {σ : Nat → Nat} {a2 : Int32} {Q : Int32 → Mem → Prop} (hn : n = (ols M p (cL M)).length) (h6 : n ≤ 6) (hσ : σ = fun i => (ols M p (cL M)).getD i 0) (ha : ¬ a2 < -1) (r8 : trM Mx (ols M p (cL M))) (fq : Fq M Mx)
    (hQ : ∀ M', Fq M M' → Q (if a2 = -1 then dI (bo M p n σ (tb n) 0 []).1 else soA (bo M p n σ (tb n) 0 []).2 a2) M') :
    ∃ n', lq2 (fun R80 (x80_4 : Int32) (x80_5 : Int32) (M80 : Mem) => ((x80_5 = 0 → ((¬ a2 = (-1) → ((nI n ≤ a2 → Q (-9) M80) ∧ (¬ nI n ≤ a2 → vp_in a2 6 ∧ Q (M80 233 (Int32.toNatClampNeg a2)) M80))) ∧ (a2 = (-1) → Q x80_4 M80))) ∧ (¬ x80_5 = 0 → wX11_regulars (nI p) (nI n) M80 (fun v88 M88 => jn1 (fun (x133_4 : Int32) (M133 : Mem) => wX11_nextTurn (nI n) M133 (fun v135 M135 => R80 x133_4 v135 M135)) (fun J133 => ((v88 ≤ x80_4 → J133 x80_4 M88) ∧ (¬ v88 ≤ x80_4 → (∃ n', lq1 (fun R107 (x107_7 : Int32) (M107 : Mem) => ((nI n ≤ x107_7 → J133 v88 M107) ∧ (¬ nI n ≤ x107_7 → vp_in x107_7 6 ∧ (∀ N126, N126 = mset M107 233 (Int32.toNatClampNeg x107_7) (M107 232 (Int32.toNatClampNeg x107_7)) → R107 (x107_7 + 1) N126)))) n' 0 M88)))))))) n' (-1) 1 Mx := by
  have hl8 := hI.1.2.2.1.2.1
  obtain ⟨t1, t2, -⟩ := tb_ok h6
  obtain ⟨c0, r0, t3, t4⟩ := tb_pos h6
  have fact : ∀ c r, chk n (c :: r) = true → ((dec n c).map σ).length = n ∧ (∀ k, k < ((dec n c).map σ).length → ((dec n c).map σ).getD k 0 < cL M) ∧ nxt ((dec n c).map σ) = r.head?.map (fun c => (dec n c).map σ) ∧ chk n r = true := fun c r h => by
    rw [hσ, hn]
    rw [hn] at h
    exact st_fact hI h
  have m0 : (dec n c0).map σ = ols M p (cL M) := by rw [t4, hσ, hn]; exact map_range
  obtain ⟨W, hW⟩ : ∃ W, W = (tb n).length := ⟨_, rfl⟩
  have W1 : 1 ≤ W := by rw [hW, t3]; exact Nat.succ_le_succ (Nat.zero_le _)
  rw [← hW] at t2
  refine ⟨W + 1, lq2_ind (fun d x y M' => ∃ (r : List Nat) (mo : Nat) (b : List Nat), r.length = d ∧ d ≤ W ∧ chk n r = true ∧ x = dI mo ∧ mo ≤ 7 ∧ y = bI (¬ d = 0) ∧ Fq M M' ∧ (∀ c r', r = c :: r' → trM M' ((dec n c).map σ)) ∧ ((d = W ∧ mo = 0) ∨ ((∀ k, k < n → M' 233 k = nI (b.getD k 0)) ∧ b.length = n)) ∧ bo M p n σ r mo b = bo M p n σ (tb n) 0 []) ?_ ?_ W _ _ Mx ⟨tb n, 0, [], hW.symm, Nat.le_refl _, t1, rfl, by omega, by rw [bI_t (by omega)], fq, fun c r' h => ?_, Or.inl ⟨rfl, rfl⟩, rfl⟩⟩
  · rintro R x y M' ⟨r, mo, b, hr, -, -, rfl, -, rfl, g1, -, g3, g4⟩
    have : r = [] := List.eq_nil_of_length_eq_zero hr
    rw [this, bo] at g4
    refine ⟨fun _ => ?_, fun w => absurd (bI_f (fun y => y rfl)) w⟩
    rcases g3 with q | ⟨q1, q2⟩
    · omega
    · have hQ' := hQ M' g1
      rw [← g4] at hQ'
      refine ⟨fun w => ?_, fun w => ?_⟩
      · rw [if_neg w] at hQ'
        exact (m_soA (t := 233) (N := 6) (v := nI n) (L := b) (by rw [q2]) (by omega) (by decide) (fun k hk => q1 k (by omega)) ha hQ').1 w
      · rw [if_pos w] at hQ'
        exact hQ'
  · rintro d R x y M' ⟨r, mo, b, hr, hd, hc, rfl, hmo, rfl, g1, g2, g3, g4⟩ hR
    obtain ⟨c, r', rfl⟩ : ∃ c r', r = c :: r' := by
      cases r with
      | nil => cases hr
      | cons c r' => exact ⟨c, r', rfl⟩
    obtain ⟨T, hT⟩ : ∃ T, T = (dec n c).map σ := ⟨_, rfl⟩
    obtain ⟨k1, k2, k3, k4⟩ := fact c r' hc
    have rT := g2 c r' rfl
    rw [← hT] at k1 k2 k3 rT
    rw [bo, ← hT] at g4
    have lr : r'.length = d := by rw [List.length_cons] at hr; omega
    have rl := rgc_le (M := M) (p := p) (T := T) 6
    rw [bI_t (show ¬ d + 1 = 0 by omega)]
    refine ⟨fun z => absurd z (by decide), fun _ => ?_⟩
    have reg := fun Q hQ => m_regT (Q := Q) (p := p) hI k2 (by omega) rT g1 hQ
    rw [k1] at reg
    refine reg _ (fun M2 f2 q2 => ?_)
    rw [le_dI (by omega) (by omega)]
    have r8' : trM M2 T := fun k hk => by rw [q2 232 (by decide) (by decide) (by decide)]; exact rT k hk
    refine jn1_i (fun x M3 => ∃ mo' b', x = dI mo' ∧ mo' ≤ 7 ∧ Fq M M3 ∧ trM M3 T ∧ (∀ k, k < n → M3 233 k = nI (b'.getD k 0)) ∧ b'.length = n ∧ bo M p n σ r' mo' b' = bo M p n σ (tb n) 0 []) ?_ ?_
    · rintro x M3 ⟨mo', b', rfl, hmo', f3, r3, r9, lb, g5⟩
      have nx := fun Q h0 h1 => m_next (Q := Q) (by omega) (fun k hk => by have := k2 k hk; omega) r3 h0 h1
      rw [k1] at nx
      refine nx _ (fun e => ?_) (fun T' e M4 q4 r4 => ?_)
      · rw [k3] at e
        have en : r' = [] := by
          cases r' with
          | nil => rfl
          | cons => cases e
        have d0 : d = 0 := by rw [← lr, en]; rfl
        exact hR _ _ _ ⟨r', mo', b', lr, by omega, k4, rfl, hmo', by rw [bI_f (fun y => y d0)], f3, fun c r'' h => (by rw [en] at h; cases h), Or.inr ⟨r9, lb⟩, g5⟩
      · rw [k3] at e
        have d0 : ¬ d = 0 := fun h => by
          have : r' = [] := List.eq_nil_of_length_eq_zero (lr.trans h)
          rw [this] at e
          cases e
        refine hR _ _ _ ⟨r', mo', b', lr, by omega, k4, rfl, hmo', by rw [bI_t d0], f3.b1 (i := 232) (by decide) q4, fun c r'' h => ?_, Or.inr ⟨fun k hk => by rw [q4 233 (by decide)]; exact r9 k hk, lb⟩, g5⟩
        rw [h] at e
        rw [show (dec n c).map σ = T' from Option.some.inj e]
        exact r4
    · intro J hJ
      refine ⟨fun z => ?_, fun z => ?_⟩
      · rw [if_neg (by omega)] at g4
        rcases g3 with q | ⟨q1, q3⟩
        · omega
        · exact hJ _ _ ⟨mo, b, rfl, hmo, f2, r8', fun k hk => by rw [q2 233 (by decide) (by decide) (by decide)]; exact q1 k hk, q3, g4⟩
      · rw [if_pos (by omega)] at g4
        refine ⟨n + 1, lq1_ind (fun d x M' => d ≤ n ∧ x = nI (n - d) ∧ (∀ r, r ≠ 233 → M' r = M2 r) ∧ ∀ k, k < n - d → M' 233 k = nI (T.getD k 0)) ?_ ?_ n 0 M2 ⟨Nat.le_refl _, by rw [Nat.sub_self, nI_0], fun _ _ => rfl, fun k hk => by omega⟩⟩
        · rintro R2 x M3 ⟨-, rfl, c1, c2⟩
          rw [Nat.sub_zero] at c2 ⊢
          exact ⟨fun _ => hJ _ _ ⟨rgc M p T 6 + 1, T, rfl, by omega, f2.b1 (i := 233) (by decide) c1, fun k hk => by rw [c1 232 (by decide)]; exact r8' k hk, c2, k1, g4⟩, fun z => absurd (Int32.le_refl _) z⟩
        · rintro d2 R2 x M3 ⟨hd2, rfl, c1, c2⟩ hR2
          obtain ⟨k, hk0⟩ : ∃ k, k = n - (d2 + 1) := ⟨_, rfl⟩
          rw [← hk0] at c2 ⊢
          rw [nI_clamp (n := k) (by omega), c1 232 (by decide), r8' k (by omega)]
          refine ⟨fun q => absurd q (nI_ge (by omega) (by omega)), fun _ => ⟨vp_in_nI (by omega) (by decide), fun N hN => hR2 _ _ ⟨by omega, by rw [nI_1]; congr 1; omega, fun r hr => by rw [hN, mset_row hr, c1 r hr], fun j hj => ?_⟩⟩⟩
          by_cases w : j = k
          · rw [hN, w, mset_eq]
          · rw [hN, mset_ne (by omega)]; exact c2 j (by omega)
  · rw [t3] at h
    have : c0 = c := by injection h
    rw [← this, m0]
    exact r8
theorem st_order {M : Mem} (hI : Inv M) (a1 a2 : Int32) : wX10_order a1 a2 M (fun r M1 => wX11_order a1 a2 M1 (fun r' M2 => r = r' ∧ Inv M2)) := by
  have h0 := hI.1
  have hP8 := h0.1.2.1
  have hl8 := h0.2.2.1.2.1
  have c22 : M 49 22 = nI (cL M) := h0.2.2.1.2.2.trans h0.2.2.1.1
  have c11 : M 49 11 = nI (cP M) := h0.1.2.2.trans h0.1.1
  have eX : ∀ a Q, wX10_isPlace a M Q = Q (bI (vp_in a (cP M))) M := fun a Q => e_isPlaceN h0.1.1 (by omega)
  have eM : ∀ a M1 Q, M1 49 11 = M 49 11 → wX11_isPlace a M1 Q = Q (bI (vp_in a (cP M))) M1 := fun a M1 Q h => m_isPlaceN (h.trans c11) (by omega)
  by_cases q1 : vp_in a1 (cP M)
  · by_cases q2 : ¬ a2 < -1 ∧ ¬ 7 < a2
    · obtain ⟨p, hp, e1, -⟩ := vp_nI q1 (by omega)
      have ol := ols_n (M := M) (p := p) (cL M)
      simp only [wX10_order, eX, bI_t q1, i10, i01, bI_0, bI_1, isB_bI, Classical.not_not, not_false_eq_true, not_true_eq_false, true_implies, false_implies, and_true, true_and, and_self, forall_eq, ne_eq, e_isWithin, bI_t q2, q2.1, q2.2]
      rw [e1]
      refine e_collect hI Fq.rf (fun M1 b1 b2 => ?_)
      have f1 := Fq.rf.b98 b1
      rw [b2.1, show nI (ols M p (cL M)).length ≤ 6 ↔ (ols M p (cL M)).length ≤ 6 from nI_leI (b := 6) (by omega) (by decide)]
      have ref : ∀ (v : Int32) (M2 : Mem), Fq M M2 → (¬ (ols M p (cL M)).length ≤ 6 → v = -3) → ((ols M p (cL M)).length ≤ 6 → v = (if a2 = -1 then dI (bo M p (ols M p (cL M)).length (fun i => (ols M p (cL M)).getD i 0) (tb (ols M p (cL M)).length) 0 []).1 else soA (bo M p (ols M p (cL M)).length (fun i => (ols M p (cL M)).getD i 0) (tb (ols M p (cL M)).length) 0 []).2 a2)) → wX11_order (nI p) a2 M2 (fun r' M3 => v = r' ∧ Inv M3) := fun v M2 f2 v1 v2 => by
        unfold wX11_order
        rw [← e1, eM _ _ _ (f2.2 11 (by decide) (by decide) (by decide)), bI_t q1]
        refine ⟨fun z => absurd z (by decide), fun _ => ?_⟩
        rw [e_within, bI_t q2]
        refine ⟨fun _ => ?_, fun z => absurd z (by decide)⟩
        rw [e1]
        obtain ⟨N, hN⟩ : ∃ N, N = cL M := ⟨_, rfl⟩
        rw [← hN] at hl8 c22 v1 v2 ol
        refine ⟨N + 1, lq2_ind (fun d x y M' => d ≤ N ∧ x = nI (ols M p (N - d)).length ∧ y = nI (N - d) ∧ Fq M M' ∧ (ols M p (N - d)).length ≤ 6 ∧ trM M' (ols M p (N - d))) ?_ ?_ N 0 0 M2 ⟨Nat.le_refl _, by rw [Nat.sub_self]; rfl, by rw [Nat.sub_self]; rfl, f2, by rw [Nat.sub_self]; exact Nat.zero_le _, fun k hk => by rw [Nat.sub_self] at hk; exact absurd hk (Nat.not_lt_zero _)⟩⟩
        · rintro R x y M3 ⟨-, rfl, rfl, g1, g2, g3⟩
          rw [Nat.sub_zero] at g2 g3 ⊢
          rw [g1.2 22 (by decide) (by decide) (by decide), c22]
          refine ⟨fun _ => m_best (Q := fun r' M3 => v = r' ∧ Inv M3) hI (by rw [← hN]) g2 rfl q2.1 (by rw [← hN]; exact g3) g1 (fun M4 f4 => ⟨?_, f4.fin hI⟩), fun z => absurd (Int32.le_refl _) z⟩
          rw [v2 g2, ← hN]
        · rintro d R x y M3 ⟨hd, rfl, rfl, g1, g2, g3⟩ hR
          obtain ⟨l, hl⟩ : ∃ l, l = N - (d + 1) := ⟨_, rfl⟩
          rw [← hl] at g2 g3 ⊢
          have el : N - d = l + 1 := by omega
          have mono := ols_mono (M := M) (p := p) (l := l + 1) (N - (l + 1))
          rw [show l + 1 + (N - (l + 1)) = N by omega, ols] at mono
          rw [g1.2 22 (by decide) (by decide) (by decide), c22, nI_clamp (n := l) (by omega), g1.1 213 (by decide), (hI.2.2.2.2.2.2.2.1 l (by omega)).2.1, e_has, bI_0, show nI (ols M p l).length = 6 ↔ (ols M p l).length = 6 from nI_eq (b := 6) (by omega) (by decide)]
          refine ⟨fun z => absurd z (nI_ge (by omega) (by omega)), fun _ => ⟨vp_in_nI (by omega) (by decide), fun z => hR _ _ _ ⟨by omega, ?_, by rw [nI_1, el], g1, ?_, ?_⟩, fun z => ?_⟩⟩
          · rw [el, ols, if_neg z]
          · rw [el, ols, if_neg z]; exact g2
          · rw [el, ols, if_neg z]; exact g3
          · have z := Classical.not_not.mp z
            rw [if_pos z, ln_a] at mono
            refine ⟨fun w => ⟨vp_in_nI (by omega) (by decide), fun N1 h1 => hR _ _ _ ⟨by omega, ?_, by rw [nI_1, el], ?_, ?_, fun k hk => ?_⟩⟩, fun w => ⟨v1 (by omega), g1.fin hI⟩⟩
            · rw [el, ols, if_pos z, ln_a, nI_1]
            · exact g1.b1 (i := 232) (by decide) (fun r hr => by rw [h1, mset_row hr])
            · rw [el, ols, if_pos z, ln_a]; omega
            · rw [el, ols, if_pos z] at hk ⊢
              rw [ln_a] at hk
              rw [h1, nI_clamp (n := (ols M p l).length) (by omega)]
              by_cases w2 : k = (ols M p l).length
              · rw [w2, mset_eq, gd_r]
              · rw [mset_ne (by omega), gd_l (by omega)]
                exact g3 k (by omega)
      refine ⟨fun z => e_best hI hp rfl z rfl b2 f1 (fun M2 f2 r2 l2 => ⟨fun w => ?_, fun w => ?_⟩), fun z => ?_⟩
      · refine e_at (by decide) r2.1 (by omega) ⟨fun y => ?_, fun y => ?_⟩
        · rw [r2.2 _ (vp_lt y)]
          refine ref _ M2 f2 (fun y2 => absurd z y2) (fun _ => ?_)
          rw [if_neg w, soA, if_neg w, if_pos y]
        · refine ref _ M2 f2 (fun y2 => absurd z y2) (fun _ => ?_)
          rw [if_neg w, soA, if_neg w, if_neg y]
      · exact ref _ M2 f2 (fun y2 => absurd z y2) (fun _ => by rw [if_pos w])
      · exact ref _ M1 f1 (fun _ => rfl) (fun y => absurd y z)
    · simp only [wX10_order, wX11_order, eX, eM _ _ _ rfl, bI_t q1, i10, i01, bI_0, bI_1, isB_bI, Classical.not_not, not_false_eq_true, not_true_eq_false, true_implies, false_implies, and_true, true_and, and_self, forall_eq, ne_eq, e_isWithin, e_within, bI_f q2]
      exact hI
  · simp only [wX10_order, wX11_order, eX, eM _ _ _ rfl, bI_f q1, i10, i01, bI_0, bI_1, isB_bI, Classical.not_not, not_false_eq_true, not_true_eq_false, true_implies, false_implies, and_true, true_and, and_self, forall_eq, ne_eq]
    exact hI
