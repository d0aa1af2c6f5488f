theorem Fq.tr {M Mx M' : Mem} (h : Fq M Mx) (h2 : Fq Mx M') : Fq M M' := ⟨fun i hi => by rw [h2.1 i hi, h.1 i hi], fun k a b c => by rw [h2.2 k a b c, h.2 k a b c]⟩
theorem Fq.set {M M' : Mem} (hf : ∀ r, r ≠ 49 → r ≠ 230 → M' r = M r) (hk : ∀ k, k ≠ 41 → M' 49 k = M 49 k) : Fq M M' :=
  ⟨fun i hi => hf i (fun z => hi (by rw [z]; decide)) (fun z => hi (by rw [z]; decide)), fun k _ _ c => hk k c⟩
theorem Fq.lay {M M' : Mem} (hf : ∀ r, r ≠ 49 → r ≠ 228 → M' r = M r) (hk : ∀ k, k ≠ 39 → M' 49 k = M 49 k) : Fq M M' :=
  ⟨fun i hi => hf i (fun z => hi (by rw [z]; decide)) (fun z => hi (by rw [z]; decide)), fun k _ c _ => hk k c⟩
noncomputable def dvC (M : Mem) (p : Nat) (L : List Nat) : List Nat := (dv M p (cL M) 0 8 (-9) L).2
theorem n2X : ∀ r, r < 50 → (r = 2 ∨ r = 3 ∨ r = 9 ∨ (32 ≤ r ∧ r < 41)) → r ∉ 49 :: sQ := by decide
theorem n2M : ∀ r, r < 220 → (r = 195 ∨ r = 196 ∨ (213 ≤ r ∧ r < 218)) → r ∉ 49 :: sQ := by decide +kernel
theorem n150 : ∀ f, f < 40 → 150 + f ∉ 49 :: sQ ∧ 50 + f ∉ 49 :: sQ ∧ 100 + f ∉ 49 :: sQ := by decide
theorem e_dvC {M Mx : Mem} (hI : Inv M) {p : Nat} {L : List Nat} {Q : Int32 → Mem → Prop} (hok : okL L) (hrw : rwX Mx 97 L) (fq : Fq M Mx)
    (hQ : ∀ v M', Fq M M' → (∀ r, r ≠ 97 → r ≠ 147 → r ≠ 96 → r ≠ 146 → M' r = Mx r) → rwX M' 97 (dvC M p L) → okL (dvC M p L) → Q v M') : wX4_deriveAt (nI p) 97 8 Mx Q :=
  e_derive (c := 8) hI (by decide) hok hrw (fun r h => fq.1 r (n2X r (by omega) h)) (fun M2 g1 g2 g3 => hQ _ M2 (fq.d97 g1) g1 g2 g3)
theorem m_dvC {M Mx : Mem} (hI : Inv M) {p : Nat} {L : List Nat} {Q : Mem → Prop} (hok : okL L) (h3 : L.length ≤ 3) (c39 : Mx 49 39 = nI L.length) (c228 : ∀ k, k < L.length → Mx 228 k = nI (L.getD k 0)) (fq : Fq M Mx)
    (hQ : ∀ M', Fq M M' → (∀ r, r ≠ 49 → r ≠ 221 → r ≠ 223 → M' r = Mx r) → (∀ k, k ≠ 32 → M' 49 k = Mx 49 k) → rwM M' (dvC M p L) → okL (dvC M p L) → Q M') : wX11_deriveCandidate (nI p) Mx Q := by
  unfold wX11_deriveCandidate
  intro N hN
  rw [c39] at hN
  subst hN
  obtain ⟨A, hA⟩ : ∃ A, A = L.length := ⟨_, rfl⟩
  rw [← hA] at c39 c228 h3 ⊢
  refine ⟨A + 1, lq1_ind (fun d x M' => d ≤ A ∧ x = nI (A - d) ∧ (∀ r, r ≠ 221 → M' r = mset Mx 49 32 (nI A) r) ∧ ∀ k, k < A - d → M' 221 k = nI (L.getD k 0)) ?_ ?_ A 0 _ ⟨Nat.le_refl _, by rw [Nat.sub_self, nI_0], fun _ _ => rfl, fun k hk => by omega⟩⟩
  · rintro R x M' ⟨-, rfl, g1, g2⟩
    rw [Nat.sub_zero] at g2 ⊢
    have c32 : M' 49 32 = nI A := by rw [g1 49 (by decide), mset_eq]
    rw [c32]
    refine ⟨fun _ => ?_, fun q => absurd (Int32.le_refl _) q⟩
    have k1 : ∀ r, r ≠ 49 → r ≠ 221 → r ≠ 223 → M' r = Mx r := fun r w1 w2 _ => by rw [g1 r w2, mset_row w1]
    have k2 : ∀ k, k ≠ 32 → M' 49 k = Mx 49 k := fun k hk => by rw [g1 49 (by decide), mset_ne (by omega)]
    have f1 : Fq M M' := fq.dm k1 k2
    exact m_derive (c := 8) hI (by decide) hok ⟨by rw [c32, hA], fun k hk => g2 k (by omega)⟩ (fun r h => f1.1 r (n2M r (by omega) h)) (f1.2 22 (by decide) (by decide) (by decide)) (fun M2 b1 b2 b3 b4 => hQ M2 (f1.dm b1 b2) (fun r w1 w2 w3 => by rw [b1 r w1 w2 w3, k1 r w1 w2 w3]) (fun k hk => by rw [b2 k hk, k2 k hk]) b3 b4)
  · rintro d R x M2 ⟨hd, rfl, g3, g4⟩ hR
    obtain ⟨k, hk0⟩ : ∃ k, k = A - (d + 1) := ⟨_, rfl⟩
    rw [← hk0] at g4 ⊢
    rw [g3 49 (by decide), mset_eq, nI_clamp (n := k) (by omega), g3 228 (by decide), mset_row (by decide), c228 k (by omega)]
    refine ⟨fun q => absurd q (nI_ge (by omega) (by omega)), fun _ => ⟨vp_in_nI (by omega) (by decide), vp_in_nI (by omega) (by decide), fun N hN => hR _ _ ⟨by omega, by rw [nI_1]; congr 1; omega, fun r hr => by rw [hN, mset_row hr, g3 r hr], fun j hj => ?_⟩⟩⟩
    by_cases w : j = k
    · rw [hN, w, mset_eq]
    · rw [hN, mset_ne (by omega)]; exact g4 j (by omega)
theorem rw_fr {M Mx : Mem} {f : Nat} {L : List Nat} (hf : f < 40) (h : rwX M (50 + f) L) (fq : Fq M Mx) : rwX Mx (50 + f) L :=
  ⟨by rw [fq.1 _ (n150 f hf).2.1]; exact h.1, fun k hk => by rw [fr50, fq.1 _ (n150 f hf).2.2, ← fr50]; exact h.2 k hk⟩
theorem m_many {M : Mem} {S : List Nat} {Q : Int32 → Mem → Prop} (h : CdM M S) (h5 : S.length ≤ 5) (hQ : Q (nI (tot S.length)) M) : wX11_manyCandidates M Q := by
  unfold wX11_manyCandidates
  rw [h.1, show (1 : Int32) = nI 1 by decide, pk_mul, pk_mul, nI_add, nI_add, nI_add, (tt_tot _ h5).2.2]
  exact hQ
noncomputable def wyc (M : Mem) (p f : Nat) (S : List Nat) : Nat → Nat
  | 0 => 0
  | j + 1 => @ite Nat (dvC M p (cnd S j) = rowL M (50 + f)) (Classical.propDecidable _) (wyc M p f S j + 1) (wyc M p f S j)
theorem e_ways {M Mx : Mem} (hI : Inv M) {f p : Nat} {a1 : Int32} {S : List Nat} {Q : Int32 → Mem → Prop} (hf : f < cF M) (e1 : a1 = nI f) (p1 : M (150 + f) 2 = nI p) (hS : 1 ≤ S.length) (hS5 : S.length ≤ 5) (h16 : ∀ k, k < S.length → S.getD k 0 < 16) (fq : Fq M Mx) (hc : CdX Mx S) (hQ : ∀ M', Fq M M' → Q (nI (wyc M p f S (tot S.length))) M') :
    ∃ n, lq2 (fun R33 (x33_3 : Int32) (x33_4 : Int32) (M33 : Mem) => (((M33 15 2) ≤ x33_4 → Q x33_3 M33) ∧ (¬ (M33 15 2) ≤ x33_4 → wX0_writeTo 97 x33_4 M33 (fun M55 => vp_in a1 40 ∧ wX4_deriveAt (M55 (150 + Int32.toNatClampNeg a1) 2) 97 8 M55 (fun v77 M77 => wX7_isSame 97 ((150 + Int32.toNatClampNeg a1) - 100) M77 (fun v94 M94 => ((v94 = 0 → R33 x33_3 (x33_4 + 1) M94) ∧ (¬ v94 = 0 → R33 (x33_3 + 1) (x33_4 + 1) M94)))))))) n 0 0 Mx := by
  have hF40 := hI.1.2.1.2.1
  obtain ⟨okF, rF, -⟩ := hI.2.2.2.2.1.rl hf
  have t156 := (tt_tot _ hS5).2.1
  obtain ⟨T, hT⟩ : ∃ T, T = tot S.length := ⟨_, rfl⟩
  rw [← hT] at hQ t156
  have c2 : ∀ M', CdX M' S → M' 15 2 = nI T := fun M' h => by rw [hT]; exact h.2.2
  subst e1
  rw [nI_clamp (by omega)]
  refine ⟨T + 1, lq2_ind (fun d x y M' => d ≤ T ∧ x = nI (wyc M p f S (T - d)) ∧ y = nI (T - d) ∧ Fq M M' ∧ CdX M' S) ?_ ?_ T 0 0 Mx ⟨Nat.le_refl _, by rw [Nat.sub_self]; rfl, by rw [Nat.sub_self]; rfl, fq, hc⟩⟩
  · rintro R x y M' ⟨-, rfl, rfl, g1, g2⟩
    rw [c2 M' g2, Nat.sub_zero]
    exact ⟨fun _ => hQ M' g1, fun z => absurd (Int32.le_refl _) z⟩
  · rintro d R x y M' ⟨hd, rfl, rfl, g1, g2⟩ hR
    obtain ⟨j, hj⟩ : ∃ j, j = T - (d + 1) := ⟨_, rfl⟩
    rw [← hj]
    have e1 : T - d = j + 1 := by omega
    rw [c2 M' g2]
    refine ⟨fun z => absurd z (nI_ge (by omega) (by omega)), fun _ => e_write (Or.inl rfl) hS hS5 g2 (by omega) (fun M1 b1 b2 => ⟨vp_in_nI (by omega) (by decide), ?_⟩)⟩
    have f1 : Fq M M1 := g1.b97 b1
    have okC := cnd_ok (num := j) hS h16
    rw [f1.1 _ (n150 f (by omega)).1, p1]
    refine e_dvC hI okC b2 f1 (fun v M2 f2 k2 r2 o2 => ?_)
    rw [fr150]
    refine e_same ⟨by omega, by omega⟩ r2 (rw_fr (by omega) rF f2) o2 okF ?_
    have go : ∀ x', x' = nI (wyc M p f S (j + 1)) → R x' (nI j + 1) M2 := fun x' hx => hR _ _ _ ⟨by omega, by rw [e1]; exact hx, by rw [nI_1, e1], f2, by
      unfold CdX
      rw [k2 15 (by decide) (by decide) (by decide) (by decide), k2 16 (by decide) (by decide) (by decide) (by decide), b1 15 (by decide) (by decide), b1 16 (by decide) (by decide)]
      exact g2⟩
    rw [bI_0]
    exact ⟨fun z => go _ (by rw [wyc, if_neg z]), fun z => go _ (by rw [wyc, if_pos (Classical.not_not.mp z), nI_1])⟩
theorem m_ways {M Mx : Mem} (hI : Inv M) {f p : Nat} {a1 : Int32} {S : List Nat} {Q : Int32 → Mem → Prop} (hf : f < cF M) (e1 : a1 = nI f) (p1 : M 205 f = nI p) (hS : 1 ≤ S.length) (hS5 : S.length ≤ 5) (h16 : ∀ k, k < S.length → S.getD k 0 < 16) (fq : Fq M Mx) (hc : CdM Mx S) (hQ : ∀ M', Fq M M' → Q (nI (wyc M p f S (tot S.length))) M') :
    ∃ n, lq2 (fun R26 (x26_3 : Int32) (x26_4 : Int32) (M26 : Mem) => wX11_manyCandidates M26 (fun v29 M29 => ((v29 ≤ x26_4 → Q x26_3 M29) ∧ (¬ v29 ≤ x26_4 → wX11_layCandidate x26_4 M29 (fun M38 => vp_in a1 40 ∧ wX11_deriveCandidate (M38 205 (Int32.toNatClampNeg a1)) M38 (fun M48 => wX11_isForms a1 M48 (fun v54 M54 => ((v54 = 0 → R26 (x26_3 + 0) (x26_4 + 1) M54) ∧ (¬ v54 = 0 → R26 (x26_3 + 1) (x26_4 + 1) M54))))))))) n 0 0 Mx := by
  have hF40 := hI.1.2.1.2.1
  have t156 := (tt_tot _ hS5).2.1
  subst e1
  rw [nI_clamp (by omega)]
  obtain ⟨T, hT⟩ : ∃ T, T = tot S.length := ⟨_, rfl⟩
  rw [← hT] at hQ t156
  refine ⟨T + 1, lq2_ind (fun d x y M' => d ≤ T ∧ x = nI (wyc M p f S (T - d)) ∧ y = nI (T - d) ∧ Fq M M' ∧ CdM M' S) ?_ ?_ T 0 0 Mx ⟨Nat.le_refl _, by rw [Nat.sub_self]; rfl, by rw [Nat.sub_self]; rfl, fq, hc⟩⟩
  · rintro R x y M' ⟨-, rfl, rfl, g1, g2⟩
    refine m_many g2 hS5 ?_
    rw [← hT, Nat.sub_zero]
    exact ⟨fun _ => hQ M' g1, fun z => absurd (Int32.le_refl _) z⟩
  · rintro d R x y M' ⟨hd, rfl, rfl, g1, g2⟩ hR
    obtain ⟨j, hj⟩ : ∃ j, j = T - (d + 1) := ⟨_, rfl⟩
    rw [← hj]
    have e1 : T - d = j + 1 := by omega
    refine m_many g2 hS5 ?_
    rw [← hT]
    refine ⟨fun z => absurd z (nI_ge (by omega) (by omega)), fun _ => m_layC hS hS5 g2 (by omega) (fun M1 b1 b2 b3 b4 => ⟨vp_in_nI (by omega) (by decide), ?_⟩)⟩
    have f1 : Fq M M1 := g1.tr (Fq.lay b1 b2)
    have okC := cnd_ok (num := j) hS h16
    rw [f1.1 205 (by decide), p1]
    refine m_dvC hI okC cnd_n.2 b3 b4 f1 (fun M2 f2 k2 k3 r2 o2 => m_isForms hI hf r2 o2 (f2.1 207 (by decide)) (f2.1 208 (by decide)) ?_)
    have go : ∀ x', x' = nI (wyc M p f S (j + 1)) → R x' (nI j + 1) M2 := fun x' hx => hR _ _ _ ⟨by omega, by rw [e1]; exact hx, by rw [nI_1, e1], f2, by
      unfold CdM
      rw [k3 41 (by decide), b2 41 (by decide), k2 230 (by decide) (by decide) (by decide), b1 230 (by decide) (by decide)]
      exact g2⟩
    rw [bI_0]
    exact ⟨fun z => go _ (by rw [wyc, if_neg z, Int32.add_zero]), fun z => go _ (by rw [wyc, if_pos (Classical.not_not.mp z), nI_1])⟩
theorem st_ways {M : Mem} (hI : Inv M) (a1 a2 : Int32) : wX10_ways a1 a2 M (fun r M1 => wX11_ways a1 a2 M1 (fun r' M2 => r = r' ∧ Inv M2)) := by
  have h0 := hI.1
  have hF40 := h0.2.1.2.1
  have c13 : M 49 13 = nI (cF M) := h0.2.1.2.2.trans h0.2.1.1
  have eX : ∀ a Q, wX10_isForm a M Q = Q (bI (vp_in a (cF M))) M := fun a Q => e_isFormN h0.2.1.1 (by omega)
  have eM : ∀ a M1 Q, M1 49 13 = M 49 13 → wX11_isForm a M1 Q = Q (bI (vp_in a (cF M))) M1 := fun a M1 Q h => m_isFormN (h.trans c13) (by omega)
  by_cases q1 : vp_in a1 (cF M)
  · obtain ⟨f, hf, e1, t1⟩ := vp_nI q1 (by omega)
    obtain ⟨-, ⟨p, hp, p1, p2⟩, -⟩ := hI.2.2.2.2.1 f hf
    simp only [wX10_ways, eX, bI_t q1, i10, i01, bI_0, bI_1, isB_bI, Classical.not_not, not_false_eq_true, not_true_eq_false, true_implies, false_implies, and_true, true_and, and_self, forall_eq, ne_eq]
    refine e_isSought ?_
    by_cases q2 : okS a2
    · have q2' := q2
      obtain ⟨s, hs, e2, b1, b5⟩ := q2'
      have sl := smL_n (s := s) 16
      rw [bI_t q2]
      refine ⟨fun _ => ?_, fun z => absurd z (by decide)⟩
      rw [e2]
      refine e_begin hs b5 (fun M1 f1 c1 => e_ways hI hf e1 p1 (by omega) (by omega) (fun k hk => smL_b 16 k hk) (Fq.rf.of [15, 16] (by decide) (fun r hr => f1 r (fun z => hr (by rw [z]; decide)) (fun z => hr (by rw [z]; decide)))) c1 (fun M2 f2 => ?_))
      rw [← e2]
      simp only [wX11_ways]
      rw [eM _ _ _ (f2.2 13 (by decide) (by decide) (by decide))]
      simp only [bI_t q1, i10, i01, bI_0, bI_1, isB_bI, Classical.not_not, not_false_eq_true, not_true_eq_false, true_implies, false_implies, and_true, true_and, and_self, forall_eq, ne_eq]
      refine m_laySet (fun z => absurd q2 z) (fun s' hs' e2' b1' b5' M3 f3 k3 c3 => ?_)
      have es : s' = s := by
        rw [e2, nI_eq (by omega) (by omega)] at e2'
        exact e2'.symm
      subst es
      refine ⟨fun _ => m_ways hI hf e1 p2 (by omega) (by omega) (fun k hk => smL_b 16 k hk) (f2.tr (Fq.set f3 k3)) c3 (fun M4 f4 => ⟨rfl, f4.fin hI⟩), fun z => absurd z (by decide)⟩
    · rw [bI_f q2]
      refine ⟨fun z => absurd rfl z, fun _ => ?_⟩
      simp only [wX11_ways]
      rw [eM _ _ _ rfl]
      simp only [bI_t q1, i10, i01, bI_0, bI_1, isB_bI, Classical.not_not, not_false_eq_true, not_true_eq_false, true_implies, false_implies, and_true, true_and, and_self, forall_eq, ne_eq]
      refine m_laySet (fun _ M3 f3 k3 => ⟨fun z => absurd rfl z, fun _ => (Fq.set f3 k3).fin hI⟩) (fun s' hs' e2' b1' b5' => absurd ⟨s', hs', e2', b1', b5'⟩ q2)
  · simp only [wX10_ways, wX11_ways, eX, eM _ _ _ rfl, bI_f q1, i10, i01, bI_0, bI_1, isB_bI, Classical.not_not, not_false_eq_true, not_true_eq_false, true_implies, false_implies, and_true, true_and, and_self, forall_eq, ne_eq]
    exact hI
