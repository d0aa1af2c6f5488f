noncomputable def spm (M : Mem) (m : Nat) : Nat → Nat
  | 0 => 0
  | p + 1 => @ite Nat (sayP M p m) (Classical.propDecidable _) (spm M m p ||| 2 ^ p) (spm M m p)
theorem spm_tb {M : Mem} {m : Nat} : ∀ n q, (spm M m n).testBit q = true ↔ q < n ∧ sayP M q m := by
  intro n
  induction n with
  | zero => intro q; rw [spm, Nat.zero_testBit]; exact ⟨fun h => absurd h (by decide), fun h => absurd h.1 (Nat.not_lt_zero _)⟩
  | succ n ih =>
    intro q
    rw [spm]
    by_cases hs : sayP M n m
    · rw [if_pos hs, Nat.testBit_or, Nat.testBit_two_pow, Bool.or_eq_true, decide_eq_true_eq, ih q]
      constructor
      · rintro (h | h)
        · exact ⟨by omega, h.2⟩
        · exact ⟨by omega, by rw [← h]; exact hs⟩
      · rintro ⟨h1, h2⟩
        by_cases w : n = q
        · exact Or.inr w
        · exact Or.inl ⟨by omega, h2⟩
    · rw [if_neg hs, ih q]
      constructor
      · rintro ⟨h1, h2⟩; exact ⟨by omega, h2⟩
      · rintro ⟨h1, h2⟩
        by_cases w : q = n
        · rw [w] at h2; exact absurd h2 hs
        · exact ⟨by omega, h2⟩
theorem spm_lt {M : Mem} {m : Nat} : ∀ n, n ≤ 8 → spm M m n < 256 := by
  intro n
  induction n with
  | zero => intro _; show 0 < 256; decide
  | succ n ih =>
    intro h
    rw [spm]
    split
    · exact Nat.or_lt_two_pow (n := 8) (ih (by omega)) (Nat.pow_lt_pow_right (by decide) (by omega))
    · exact ih (by omega)
theorem sh8 : ∀ q, q < 8 → (1 : Int32) <<< (nI q &&& 31) = nI (2 ^ q) := by decide
theorem e_saidPlaces {M Mx : Mem} (hI : Inv M) {m : Nat} {Q : Int32 → Mem → Prop} (hm : m < 6) (fq : Fq M Mx) (hQ : Q (nI (spm M m (cP M))) Mx) : wX10_saidPlaces (nI m) Mx Q := by
  have hF40 := hI.1.2.1.2.1
  have hP8 := hI.1.1.2.1
  have c15 := hI.1.1.1
  have c16 := hI.1.2.1.1
  have h5 := hI.2.2.2.2.2.1
  obtain ⟨P, hP⟩ : ∃ P, P = cP M := ⟨_, rfl⟩
  rw [← hP] at hP8 c15 hQ
  unfold wX10_saidPlaces
  refine ⟨P + 1, lq2_ind (fun d x y M' => d ≤ P ∧ x = nI (spm M m (P - d)) ∧ y = nI (P - d) ∧ M' = Mx) ?_ ?_ P 0 0 Mx ⟨Nat.le_refl _, by rw [Nat.sub_self]; rfl, by rw [Nat.sub_self]; rfl, rfl⟩⟩
  · rintro R x y _ ⟨-, rfl, rfl, rfl⟩
    rw [fq.1 0 (by decide), c15, Nat.sub_zero]
    exact ⟨fun _ => hQ, fun z => absurd (Int32.le_refl _) z⟩
  · rintro d R x y _ ⟨hd, rfl, rfl, rfl⟩ hR
    obtain ⟨p, hp⟩ : ∃ p, p = P - (d + 1) := ⟨_, rfl⟩
    rw [← hp]
    have e1 : P - d = p + 1 := by omega
    rw [fq.1 0 (by decide), c15, i6, nI_clamp (by omega), fq.1 7 (by decide), h5 p (by omega) m hm, e_isFormN (n := cF M) (by rw [fq.1 0 (by decide)]; exact c16) (by omega), sh8 p (by omega), nI_or]
    refine ⟨fun z => absurd z (nI_ge (by omega) (by omega)), fun _ => ⟨vp_in_nI (by omega) (by decide), ?_⟩⟩
    rcases sayP_c (p := p) (m := m) hF40 with ⟨ns, w⟩ | ⟨s, f, hf, w, t⟩
    · rw [w, bI_f n9v]
      exact ⟨fun _ => hR _ _ _ ⟨by omega, by rw [e1, spm, if_neg ns], by rw [nI_1, e1], rfl⟩, fun z => absurd rfl z⟩
    · rw [w, bI_t (vp_in_nI hf (by omega))]
      exact ⟨fun z => absurd z (by decide), fun _ => hR _ _ _ ⟨by omega, by rw [e1, spm, if_pos s], by rw [nI_1, e1], rfl⟩⟩
theorem m_isSaid {M Mx : Mem} (hI : Inv M) {m : Nat} {Q : Int32 → Mem → Prop} (fq : Fq M Mx) (hQ : Q (bI (∃ p, p < cP M ∧ sayP M p m)) Mx) : wX11_isSaid (nI m) Mx Q := by
  have hF40 := hI.1.2.1.2.1
  have hP8 := hI.1.1.2.1
  have c11 : M 49 11 = nI (cP M) := hI.1.1.2.2.trans hI.1.1.1
  have c13 : M 49 13 = nI (cF M) := hI.1.2.1.2.2.trans hI.1.2.1.1
  obtain ⟨P, hP⟩ : ∃ P, P = cP M := ⟨_, rfl⟩
  rw [← hP] at hP8 c11 hQ
  unfold wX11_isSaid
  refine ⟨P + 1, lq1_ind (fun d y M' => d ≤ P ∧ y = nI (P - d) ∧ M' = Mx ∧ ∀ p, p < P - d → ¬ sayP M p m) ?_ ?_ P 0 Mx ⟨Nat.le_refl _, by rw [Nat.sub_self]; rfl, rfl, fun p hp => by omega⟩⟩
  · rintro R y _ ⟨-, rfl, rfl, h⟩
    rw [fq.2 11 (by decide) (by decide) (by decide), c11]
    rw [Nat.sub_zero] at h ⊢
    rw [bI_f (fun ⟨p, h1, h2⟩ => h p h1 h2)] at hQ
    exact ⟨fun _ => hQ, fun z => absurd (Int32.le_refl _) z⟩
  · rintro d R y _ ⟨hd, rfl, rfl, h⟩ hR
    obtain ⟨p, hp⟩ : ∃ p, p = P - (d + 1) := ⟨_, rfl⟩
    rw [← hp] at h ⊢
    have e1 : P - d = p + 1 := by omega
    rw [fq.2 11 (by decide) (by decide) (by decide), c11]
    refine ⟨fun z => absurd z (nI_ge (by omega) (by omega)), fun _ => m_saidAt (by rw [fq.2 13 (by decide) (by decide) (by decide)]; exact c13) hF40 ?_⟩
    rw [sdL_fr (fq.1 205 (by decide)) (fq.1 206 (by decide))]
    refine ⟨fun z => hR _ _ ⟨by omega, by rw [nI_1, e1], rfl, fun q hq => ?_⟩, fun z => ?_⟩
    · rw [e1] at hq
      by_cases w : q = p
      · rw [w]; exact fun y => y z
      · exact h q (by omega)
    · rw [bI_t ⟨p, by omega, z⟩] at hQ
      exact hQ
theorem spm_0 {M : Mem} {m : Nat} (hI : Inv M) : nI (spm M m (cP M)) = 0 ↔ ¬ ∃ p, p < cP M ∧ sayP M p m := by
  have lt := spm_lt (M := M) (m := m) (cP M) hI.1.1.2.1
  rw [show nI (spm M m (cP M)) = 0 ↔ spm M m (cP M) = 0 from nI_eq (b := 0) (by omega) (by decide)]
  constructor
  · rintro h ⟨p, hp⟩
    have := (spm_tb (M := M) (m := m) (cP M) p).mpr hp
    rw [h, Nat.zero_testBit] at this
    exact absurd this (by decide)
  · intro h
    apply Nat.eq_of_testBit_eq
    intro q
    rw [Nat.zero_testBit]
    cases hb : (spm M m (cP M)).testBit q
    · rfl
    · exact absurd ⟨q, (spm_tb (M := M) (m := m) (cP M) q).mp hb⟩ h
/-! the best candidate -/
noncomputable def skn (M : Mem) (m : Nat) (S : List Nat) : Nat → Nat → Nat → Nat → Nat × Nat
  | 0, _, least, best => (least, best)
  | d + 1, j, least, best => if csm M m (cnd S j) (cP M) < least then skn M m S d (j + 1) (csm M m (cnd S j) (cP M)) j else skn M m S d (j + 1) least best
theorem skn_b {M : Mem} (m : Nat) (S : List Nat) : ∀ d j least best T, j + d = T → best < T → (skn M m S d j least best).2 < T := by
  intro d
  induction d with
  | zero => intro j least best T _ h; exact h
  | succ d ih =>
    intro j least best T h1 h2
    rw [skn]
    split
    · exact ih _ _ _ T (by omega) (by omega)
    · exact ih _ _ _ T (by omega) h2
theorem e_seek {M Mx : Mem} (hI : Inv M) {m s : Nat} {Q : Int32 → Mem → Prop} (hm : m < 6) (hs : s < 65536) (b1 : 1 ≤ bct s 16) (b5 : bct s 16 ≤ 5) (fq : Fq M Mx) (hQ : ∀ M', Fq M M' → rwX M' 99 (cnd (smL s 16) (skn M m (smL s 16) (tot (bct s 16)) 0 2147483647 0).2) → Q (nI (skn M m (smL s 16) (tot (bct s 16)) 0 2147483647 0).1) M') : wX10_seekBest (nI m) (nI s) Mx Q := by
  have hP8 := hI.1.1.2.1
  have sl := smL_n (s := s) 16
  unfold wX10_seekBest
  refine e_begin hs b5 (fun M1 k1 c1 => ?_)
  have f1 : Fq M M1 := fq.of [15, 16] (by decide) (fun r hr => k1 r (fun z => hr (by rw [z]; decide)) (fun z => hr (by rw [z]; decide)))
  obtain ⟨S, hS⟩ : ∃ S, S = smL s 16 := ⟨_, rfl⟩
  have h16 : ∀ k, k < S.length → S.getD k 0 < 16 := fun k hk => by rw [hS] at hk ⊢; exact smL_b 16 k hk
  rw [← hS] at c1 hQ sl
  rw [← sl] at b1 b5 hQ
  have t156 := (tt_tot _ b5).2.1
  have t1 : 1 ≤ tot S.length := by unfold tot; omega
  obtain ⟨T, hT⟩ : ∃ T, T = tot S.length := ⟨_, rfl⟩
  rw [← hT] at hQ t156 t1
  have c2 : ∀ M', CdX M' S → M' 15 2 = nI T := fun M' h => by rw [hT]; exact h.2.2
  refine ⟨T + 1, lq2_ind (fun d x y M' => d ≤ T ∧ y = nI (T - d) ∧ Fq M M' ∧ CdX M' S ∧ ∃ least best, x = nI least ∧ least < 2 ^ 31 ∧ ((d = T ∧ least = 2147483647) ∨ rwX M' 99 (cnd S best)) ∧ skn M m S d (T - d) least best = skn M m S T 0 2147483647 0) ?_ ?_ T _ 0 M1 ⟨Nat.le_refl _, by rw [Nat.sub_self]; rfl, f1, c1, 2147483647, 0, by decide, by decide, Or.inl ⟨rfl, rfl⟩, by rw [Nat.sub_self]⟩⟩
  · rintro R x y M' ⟨-, rfl, g1, g2, least, best, rfl, hl, g3, g4⟩
    rw [c2 M' g2, Nat.sub_zero]
    refine ⟨fun _ => ?_, fun z => absurd (Int32.le_refl _) z⟩
    rcases g3 with q | q
    · omega
    · have := hQ M' g1
      rw [← g4, skn] at this
      exact this q
  · rintro d R x y M' ⟨hd, rfl, g1, g2, least, best, rfl, hl, g3, g4⟩ hR
    obtain ⟨j, hj⟩ : ∃ j, j = T - (d + 1) := ⟨_, rfl⟩
    rw [← hj] at g4 ⊢
    have e1 : T - d = j + 1 := by omega
    rw [c2 M' g2]
    refine ⟨fun z => absurd z (nI_ge (by omega) (by omega)), fun _ => e_write (Or.inr rfl) b1 b5 g2 (by omega) (fun M2 k2 r2 => ?_)⟩
    have f2 := g1.b98 k2
    have okC := cnd_ok (num := j) b1 h16
    have cle := csm_le hI (m := m) okC (cP M)
    refine e_costs hI hm hl okC r2 f2 (fun v M3 f3 k3 hv1 hv2 => ?_)
    rw [nI_leI hl (by omega)]
    have C3 : CdX M3 S := by
      unfold CdX
      rw [k3 15 (by decide) (by decide) (by decide) (by decide) (by decide), k3 16 (by decide) (by decide) (by decide) (by decide) (by decide), k2 15 (by decide) (by decide), k2 16 (by decide) (by decide)]
      exact g2
    rw [skn] at g4
    refine ⟨fun z => ?_, fun z => ?_⟩
    · rw [if_neg (by omega)] at g4
      refine hR _ _ _ ⟨by omega, by rw [nI_1, e1], f3, C3, least, best, rfl, hl, Or.inr ?_, by rw [e1]; exact g4⟩
      rcases g3 with q | q
      · omega
      · unfold rwX
        rw [k3 99 (by decide) (by decide) (by decide) (by decide) (by decide), k3 149 (by decide) (by decide) (by decide) (by decide) (by decide), k2 99 (by decide) (by decide), k2 149 (by decide) (by decide)]
        exact q
    · have ev : v = csm M m (cnd S j) (cP M) := by omega
      rw [if_pos (by omega), ← ev] at g4
      refine e_bec (by decide) (by decide) (by decide) (L := cnd S j) ⟨by rw [k3 98 (by decide) (by decide) (by decide) (by decide) (by decide)]; exact r2.1, fun k hk => by rw [k3 148 (by decide) (by decide) (by decide) (by decide) (by decide)]; exact r2.2 k hk⟩ okC.1 (fun M4 k4 r4 => ?_)
      refine hR _ _ _ ⟨by omega, by rw [nI_1, e1], f3.b99 k4, ?_, v, j, rfl, by omega, Or.inr r4, by rw [e1]; exact g4⟩
      unfold CdX
      rw [k4 15 (by decide) (by decide), k4 16 (by decide) (by decide)]
      exact C3
theorem m_seek {M Mx : Mem} (hI : Inv M) {m : Nat} {a3 : Int32} {S : List Nat} {Q : Int32 → Mem → Prop} (hm : m < 6) (b1 : 1 ≤ S.length) (b5 : S.length ≤ 5) (h16 : ∀ k, k < S.length → S.getD k 0 < 16) (ha : ¬ a3 < -2) (fq : Fq M Mx) (hc : CdM Mx S)
    (hQ : ∀ M', Fq M M' → Q (if a3 = -2 then nI (skn M m S (tot S.length) 0 2147483647 0).1 else soA (cnd S (skn M m S (tot S.length) 0 2147483647 0).2) a3) M') :
    ∃ n, lq3 (fun R50 (x50_4 : Int32) (x50_5 : Int32) (x50_6 : Int32) (M50 : Mem) => wX11_manyCandidates M50 (fun v53 M53 => ((v53 ≤ x50_6 → wX11_layCandidate x50_4 M53 (fun M101 => ((¬ a3 = (-2) → ((¬ a3 = (-1) → (((M101 49 39) ≤ a3 → Q (-9) M101) ∧ (¬ (M101 49 39) ≤ a3 → vp_in a3 3 ∧ Q (M101 228 (Int32.toNatClampNeg a3)) M101))) ∧ (a3 = (-1) → Q (M101 49 39) M101))) ∧ (a3 = (-2) → Q x50_5 M101)))) ∧ (¬ v53 ≤ x50_6 → wX11_layCandidate x50_6 M53 (fun M62 => wX11_costsOf (nI m) M62 (fun v67 M67 => jn0 (fun (M84 : Mem) => R50 x50_6 v67 (x50_6 + 1) M84) (fun J84 => ((x50_6 = 0 → J84 M67) ∧ (¬ x50_6 = 0 → ((x50_5 ≤ v67 → R50 x50_4 x50_5 (x50_6 + 1) M67) ∧ (¬ x50_5 ≤ v67 → J84 M67))))))))))) n 0 0 0 Mx := by
  have hP8 := hI.1.1.2.1
  have t156 := (tt_tot _ b5).2.1
  have t1 : 1 ≤ tot S.length := by unfold tot; omega
  obtain ⟨T, hT⟩ : ∃ T, T = tot S.length := ⟨_, rfl⟩
  rw [← hT] at hQ t156 t1
  have cle : ∀ j, csm M m (cnd S j) (cP M) ≤ 2560 := fun j => Nat.le_trans (csm_le hI (m := m) (cnd_ok (num := j) b1 h16) (cP M)) (by omega)
  refine ⟨T + 1, lq3_ind (fun d x y z M' => d ≤ T ∧ z = nI (T - d) ∧ Fq M M' ∧ CdM M' S ∧ (d = T ∨ ∃ least best, x = nI best ∧ y = nI least ∧ least ≤ 2560 ∧ best < T ∧ skn M m S d (T - d) least best = skn M m S T 0 2147483647 0)) ?_ ?_ T 0 0 0 Mx ⟨Nat.le_refl _, by rw [Nat.sub_self]; rfl, fq, hc, Or.inl rfl⟩⟩
  · rintro R x y z M' ⟨-, rfl, g1, g2, g3⟩
    rcases g3 with q | ⟨least, best, rfl, rfl, hl, hb, g4⟩
    · omega
    refine m_many g2 b5 ?_
    rw [← hT, Nat.sub_zero]
    refine ⟨fun _ => m_layC b1 b5 g2 (by omega) (fun M1 k1 k2 c39 c228 => ?_), fun z => absurd (Int32.le_refl _) z⟩
    have hQ' := hQ M1 (g1.tr (Fq.lay k1 k2))
    rw [skn] at g4
    rw [← g4] at hQ'
    refine ⟨fun q => ?_, fun q => ?_⟩
    · rw [if_neg q] at hQ'
      have ha1 : ¬ a3 < -1 := fun z => q (by
        rw [Int32.lt_iff_toInt_lt] at ha z
        apply Int32.toInt_inj.mp
        have e1 : (-1 : Int32).toInt = -1 := rfl
        have e0 : (-2 : Int32).toInt = -2 := rfl
        rw [e0] at ha ⊢
        rw [e1] at z
        omega)
      exact m_soA (t := 228) (N := 3) c39 cnd_n.2 (by decide) c228 ha1 hQ'
    · rw [if_pos q] at hQ'
      exact hQ'
  · rintro d R x y z M' ⟨hd, rfl, g1, g2, g3⟩ hR
    obtain ⟨j, hj⟩ : ∃ j, j = T - (d + 1) := ⟨_, rfl⟩
    rw [← hj] at g3 ⊢
    have e1 : T - d = j + 1 := by omega
    refine m_many g2 b5 ?_
    rw [← hT]
    refine ⟨fun z => absurd z (nI_ge (by omega) (by omega)), fun _ => m_layC b1 b5 g2 (by omega) (fun M1 k1 k2 c39 c228 => ?_)⟩
    refine m_costs hI hm (cnd_ok (num := j) b1 h16) cnd_n.2 c39 c228 (g1.tr (Fq.lay k1 k2)) (fun M2 f2 k3 k4 => ?_)
    have C2 : CdM M2 S := by
      unfold CdM
      rw [k4 41 (by decide), k2 41 (by decide), k3 230 (by decide) (by decide) (by decide) (by decide) (by decide) (by decide), k1 230 (by decide) (by decide)]
      exact g2
    have cj := cle j
    have J : skn M m S d (j + 1) (csm M m (cnd S j) (cP M)) j = skn M m S T 0 2147483647 0 → R (nI j) (nI (csm M m (cnd S j) (cP M))) (nI j + 1) M2 := fun h => hR _ _ _ _ ⟨by omega, by rw [nI_1, e1], f2, C2, Or.inr ⟨_, j, rfl, rfl, cj, by omega, by rw [e1]; exact h⟩⟩
    unfold jn0
    rw [show nI j = 0 ↔ j = 0 from nI_eq (b := 0) (by omega) (by decide)]
    refine ⟨fun z => J ?_, fun z => ?_⟩
    · have ed : T = d + 1 := by omega
      have := cle 0
      rw [z, ed, skn, if_pos (by omega)]
    · rcases g3 with q | ⟨least, best, rfl, rfl, hl, hb, g4⟩
      · omega
      rw [skn] at g4
      rw [nI_leI (by omega) (by omega)]
      refine ⟨fun w => ?_, fun w => J ?_⟩
      · rw [if_neg (by omega)] at g4
        exact hR _ _ _ _ ⟨by omega, by rw [nI_1, e1], f2, C2, Or.inr ⟨least, best, rfl, rfl, hl, hb, by rw [e1]; exact g4⟩⟩
      · rw [if_pos (by omega)] at g4
        exact g4
theorem st_sought {M : Mem} (hI : Inv M) (a1 a2 a3 : Int32) : wX10_sought a1 a2 a3 M (fun r M1 => wX11_sought a1 a2 a3 M1 (fun r' M2 => r = r' ∧ Inv M2)) := by
  by_cases q1 : vp_in a1 6
  · by_cases q3 : ¬ a3 < -2 ∧ ¬ 2 < a3
    · obtain ⟨m, hm, e1, t1⟩ := vp_nI q1 (by decide)
      simp only [wX10_sought, e_b16, e_b6, e_b4, e_b3, e_w2, e_isMeaning, e_isIn, bI_t q1, q1, i10, i01, bI_0, bI_1, isB_bI, Classical.not_not, not_false_eq_true, not_true_eq_false, true_implies, false_implies, and_true, true_and, and_self, forall_eq, ne_eq, e_isWithin, bI_t q3, q3.1, q3.2]
      refine e_isSought ?_
      by_cases q2 : okS a2
      · have q2' := q2
        obtain ⟨s, hs, e2, b1, b5⟩ := q2'
        have sl := smL_n (s := s) 16
        rw [bI_t q2]
        refine ⟨fun _ => ?_, fun z => absurd z (by decide)⟩
        rw [e1, e2]
        refine e_saidPlaces hI hm Fq.rf ?_
        rw [spm_0 hI]
        have lay : ∀ (M1 : Mem) (Q : Int32 → Mem → Prop), (∀ M3, Fq M1 M3 → CdM M3 (smL s 16) → Q 1 M3) → wX11_laySet a2 M1 Q := fun M1 Q h => m_laySet (fun z => absurd q2 z) (fun s' hs' e2' b1' b5' M3 f3 k3 c3 => by
          have es : s' = s := by
            rw [e2, nI_eq (by omega) (by omega)] at e2'
            exact e2'.symm
          rw [es] at c3
          exact h M3 (Fq.set f3 k3) c3)
        refine ⟨fun z => e_seek hI hm hs b1 b5 Fq.rf (fun M1 f1 r1 => ?_), fun z => ?_⟩
        · obtain ⟨v, hv⟩ : ∃ v, v = (if a3 = -2 then nI (skn M m (smL s 16) (tot (bct s 16)) 0 2147483647 0).1 else soA (cnd (smL s 16) (skn M m (smL s 16) (tot (bct s 16)) 0 2147483647 0).2) a3) := ⟨_, rfl⟩
          have key : wX11_sought a1 a2 a3 M1 (fun r' M2 => v = r' ∧ Inv M2) := by
            simp only [wX11_sought, e_m15, e_m5, e_m3, e_m2, e_m63, m_isMeaning, m_isSound, m_isSheet, m_isLane, m_isCollector, e_has, bI_t q1, q1, i10, i01, bI_0, bI_1, isB_bI, Classical.not_not, not_false_eq_true, not_true_eq_false, true_implies, false_implies, and_true, true_and, and_self, forall_eq, ne_eq, e_within, bI_t q3, q3.1, q3.2]
            refine lay M1 _ (fun M3 f3 c3 => ⟨fun _ => ?_, fun z => absurd z (by decide)⟩)
            rw [e1]
            refine m_isSaid hI (f1.tr f3) ?_
            rw [bI_t (Classical.not_not.mp z)]
            refine ⟨fun _ => m_seek (Q := fun r' M2 => v = r' ∧ Inv M2) hI hm (by omega) (by omega) (fun k hk => smL_b 16 k hk) q3.1 (f1.tr f3) c3 (fun M4 f4 => ⟨?_, f4.fin hI⟩), fun z => absurd z (by decide)⟩
            rw [hv, sl]
          refine ⟨fun w => ?_, fun w => ?_⟩
          · rw [if_neg w] at hv
            refine e_soA (by decide) r1 (Nat.le_trans cnd_n.2 (by decide)) ?_
            rw [← hv, ← e1, ← e2]
            exact key
          · rw [if_pos w] at hv
            rw [← hv, ← e1, ← e2]
            exact key
        · rw [← e1, ← e2]
          simp only [wX11_sought, e_m15, e_m5, e_m3, e_m2, e_m63, m_isMeaning, m_isSound, m_isSheet, m_isLane, m_isCollector, e_has, bI_t q1, q1, i10, i01, bI_0, bI_1, isB_bI, Classical.not_not, not_false_eq_true, not_true_eq_false, true_implies, false_implies, and_true, true_and, and_self, forall_eq, ne_eq, e_within, bI_t q3, q3.1, q3.2]
          refine lay M _ (fun M3 f3 c3 => ⟨fun _ => ?_, fun z => absurd z (by decide)⟩)
          rw [e1]
          refine m_isSaid hI f3 ?_
          rw [bI_f z]
          exact ⟨fun z => absurd rfl z, fun _ => f3.fin hI⟩
      · rw [bI_f q2]
        refine ⟨fun z => absurd rfl z, fun _ => ?_⟩
        simp only [wX11_sought, e_m15, e_m5, e_m3, e_m2, e_m63, m_isMeaning, m_isSound, m_isSheet, m_isLane, m_isCollector, e_has, bI_t q1, q1, i10, i01, bI_0, bI_1, isB_bI, Classical.not_not, not_false_eq_true, not_true_eq_false, true_implies, false_implies, and_true, true_and, and_self, forall_eq, ne_eq, e_within, bI_t q3, q3.1, q3.2]
        exact m_laySet (fun _ M3 f3 k3 => ⟨fun z => absurd rfl z, fun _ => (Fq.set f3 k3).fin hI⟩) (fun s' hs' e2' b1' b5' => absurd ⟨s', hs', e2', b1', b5'⟩ q2)
    · simp only [wX10_sought, wX11_sought, e_b16, e_b6, e_b4, e_b3, e_w2, e_isMeaning, e_isIn, e_m15, e_m5, e_m3, e_m2, e_m63, m_isMeaning, m_isSound, m_isSheet, m_isLane, m_isCollector, e_has, bI_t q1, q1, i10, i01, bI_0, bI_1, isB_bI, Classical.not_not, not_false_eq_true, not_true_eq_false, true_implies, false_implies, and_true, true_and, and_self, forall_eq, ne_eq, e_isWithin, e_within, bI_f q3]
      exact hI
  · simp only [wX10_sought, wX11_sought, e_b16, e_b6, e_b4, e_b3, e_w2, e_isMeaning, e_isIn, e_m15, e_m5, e_m3, e_m2, e_m63, m_isMeaning, m_isSound, m_isSheet, m_isLane, m_isCollector, e_has, bI_f q1, q1, i10, i01, bI_0, bI_1, isB_bI, Classical.not_not, not_false_eq_true, not_true_eq_false, true_implies, false_implies, and_true, true_and, and_self, forall_eq, ne_eq]
    exact hI
