theorem ct_sy {D : Nat → Nat → Nat} {g A B : Nat} : ∀ u w, ctR D g A B u w = ctR (fun i j => D j i) g B A w u := by
  intro u
  induction u with
  | zero => intro w; rw [ct_e (Or.inl rfl), ct_e (Or.inr rfl), Nat.add_comm]
  | succ u ih =>
    intro w
    induction w with
    | zero => rw [ct_e (Or.inr rfl), ct_e (Or.inl rfl)]; congr 1; omega
    | succ w ih2 => rw [ct_s, ct_s, ih w, ih (w + 1), ih2, Nat.min_comm (ctR (fun i j => D j i) g B A w (u + 1))]
theorem df1_sy : ∀ y1 n1 y2 n2 : Bool, df1 y1 n1 y2 n2 = df1 y2 n2 y1 n1 := by decide
theorem df6_sy {y1 n1 y2 n2 : Nat} : ∀ f, df6 y1 n1 y2 n2 f = df6 y2 n2 y1 n1 f := by
  intro f
  induction f with
  | zero => rfl
  | succ f ih => rw [df6, df6, ih, df1_sy]
theorem dfF_sy {Y N : Nat → Int32} {x y : Nat} : dfF Y N x y = dfF Y N y x := by unfold dfF; exact df6_sy 6
theorem cstN_sy {M : Mem} {f1 f2 : Nat} : cstN M f1 f2 = cstN M f2 f1 := by
  unfold cstN
  rw [ct_sy]
  have e : (fun i j => dfF (M 2) (M 3) ((M (100 + f1) j).toNatClampNeg % 16) ((M (100 + f2) i).toNatClampNeg % 16)) = fun i j => dfF (M 2) (M 3) ((M (100 + f2) i).toNatClampNeg % 16) ((M (100 + f1) j).toNatClampNeg % 16) := by
    funext i j
    exact dfF_sy
  rw [e]
def lkP (M : Mem) (m p q : Nat) : Prop := sd2 M p q m ∧ ¬ mo M p q m
theorem lkP_sy {M : Mem} {m p q : Nat} (h : lkP M m p q) : lkP M m q p := by
  obtain ⟨⟨f1, f2, a, b, c, d⟩, h2⟩ := h
  exact ⟨⟨f2, f1, b, a, d, c⟩, fun ⟨g1, g2, z1, z2, z3, z4, z5⟩ => h2 ⟨g2, g1, z2, z1, z4, z3, by rw [cstN_sy]; exact z5⟩⟩
theorem lkP_say {M : Mem} (hF : cF M ≤ 40) {m p q : Nat} (h : lkP M m p q) : sayP M p m ∧ sayP M q m := by
  obtain ⟨⟨f1, f2, a, b, c, d⟩, -⟩ := h
  exact ⟨fun e => by rw [c] at e; exact n9 (by omega) e, fun e => by rw [d] at e; exact n9 (by omega) e⟩
theorem lk_fr {M Mx : Mem} (hI : Inv M) (fq : Fq M Mx) {m p q : Nat} : (sd2 Mx p q m ↔ sd2 M p q m) ∧ (mo Mx p q m ↔ mo M p q m) := by
  have hF := hI.1.2.1.2.1
  have eF : cF Mx = cF M := by unfold cF; rw [fq.1 0 (by decide)]
  have es : ∀ p, sdL Mx (cF M) p m = sdL M (cF M) p m := fun p => sdL_fr (fq.1 205 (by decide)) (fq.1 206 (by decide)) _ p m
  have ec : ∀ f1 f2, f1 < 40 → f2 < 40 → cstN Mx f1 f2 = cstN M f1 f2 := fun f1 f2 h1 h2 => by
    unfold cstN
    rw [fq.1 2 (by decide), fq.1 3 (by decide), fq.1 13 (by decide), fq.1 _ (n150 f1 h1).2.1, fq.1 _ (n150 f1 h1).2.2, fq.1 _ (n150 f2 h2).2.1, fq.1 _ (n150 f2 h2).2.2]
  unfold sd2 mo
  rw [eF, es, es, fq.1 13 (by decide)]
  refine ⟨Iff.rfl, ?_⟩
  constructor
  · rintro ⟨f1, f2, a, b, c, d, e⟩
    exact ⟨f1, f2, a, b, c, d, by rw [← ec f1 f2 (by omega) (by omega)]; exact e⟩
  · rintro ⟨f1, f2, a, b, c, d, e⟩
    exact ⟨f1, f2, a, b, c, d, by rw [ec f1 f2 (by omega) (by omega)]; exact e⟩
theorem cstN_le {M : Mem} (hI : Inv M) {f1 f2 : Nat} (h1 : f1 < cF M) (h2 : f2 < cF M) : cstN M f1 f2 ≤ 320 := by
  obtain ⟨A, hA8, eA, -⟩ := hI.2.2.2.2.1.row2 h1
  obtain ⟨B, hB8, eB, -⟩ := hI.2.2.2.2.1.row2 h2
  obtain ⟨g, hg1, eg, -⟩ := hI.1.gp
  unfold cstN
  rw [eA, eB, eg]
  exact ct_b hA8 hB8 hg1
theorem e_between2 {M : Mem} (hI : Inv M) {p q m : Nat} {Q : Int32 → Mem → Prop} (hp : p < 8) (hq : q < 8) (hm : m < 6) (hQ : ∀ M' v, (∀ r, r ≠ 14 → M' r = M r) → ((¬ v < 0 ∧ ¬ M 13 3 < v) ↔ lkP M m p q) → Q v M') : wX10_costBetween (nI p) (nI q) (nI m) M Q := by
  have hF40 := hI.1.2.1.2.1
  have h5 := hI.2.2.2.2.2.1
  have c16 := hI.1.2.1.1
  unfold wX10_costBetween
  rw [i6, i6, nI_clamp (by omega), nI_clamp (by omega), h5 p hp m hm, h5 q hq m hm, e_isFormN c16 (by omega)]
  refine ⟨vp_in_nI (by omega) (by decide), vp_in_nI (by omega) (by decide), ?_⟩
  rcases sdL_c (M := M) (p := p) (m := m) (cF M) with w1 | ⟨f1, l1, w1⟩
  · rw [w1, bI_f n9v]
    refine ⟨fun _ => hQ M (-9) (fun _ _ => rfl) ⟨fun z => absurd (by decide) z.1, fun h => absurd w1 (lkP_say hF40 h).1⟩, fun z => absurd rfl z⟩
  · rw [w1, bI_t (vp_in_nI l1 (by omega)), e_isFormN c16 (by omega)]
    refine ⟨fun z => absurd z (by decide), fun _ => ?_⟩
    rcases sdL_c (M := M) (p := q) (m := m) (cF M) with w2 | ⟨f2, l2, w2⟩
    · rw [w2, bI_f n9v]
      refine ⟨fun _ => hQ M (-9) (fun _ _ => rfl) ⟨fun z => absurd (by decide) z.1, fun h => absurd w2 (lkP_say hF40 h).2⟩, fun z => absurd rfl z⟩
    · rw [w2, bI_t (vp_in_nI l2 (by omega)), nI_clamp (by omega), nI_clamp (by omega), show 150 + f1 - 100 = 50 + f1 by omega, show 150 + f2 - 100 = 50 + f2 by omega]
      have cl := cstN_le hI l1 l2
      refine ⟨fun z => absurd z (by decide), fun _ => ⟨vp_in_nI (by omega) (by decide), vp_in_nI (by omega) (by decide), e_cst hI l1 l2 (fun _ _ => rfl) (fun M' b => hQ M' _ b ⟨fun z => ⟨⟨f1, f2, l1, l2, w1, w2⟩, fun ⟨g1, g2, z1, z2, z3, z4, z5⟩ => z.2 ?_⟩, fun z => ⟨nI_pos (by omega), fun y => z.2 ⟨f1, f2, l1, l2, w1, w2, y⟩⟩⟩)⟩⟩
      rw [w1, nI_eq (by omega) (by omega)] at z3
      rw [w2, nI_eq (by omega) (by omega)] at z4
      rw [z3, z4]
      exact z5
noncomputable def lkm (M : Mem) (m p : Nat) : Nat → Nat
  | 0 => 0
  | q + 1 => @ite Nat (lkP M m p q) (Classical.propDecidable _) (lkm M m p q ||| 2 ^ q) (lkm M m p q)
theorem lkm_tb {M : Mem} {m p : Nat} : ∀ n q, (lkm M m p n).testBit q = true ↔ q < n ∧ lkP M m p q := by
  intro n
  induction n with
  | zero => intro q; rw [lkm, Nat.zero_testBit]; exact ⟨fun h => absurd h (by decide), fun h => absurd h.1 (Nat.not_lt_zero _)⟩
  | succ n ih =>
    intro q
    rw [lkm]
    by_cases hs : lkP M m p n
    · rw [if_pos hs, Nat.testBit_or, Nat.testBit_two_pow, Bool.or_eq_true, decide_eq_true_eq, ih q]
      constructor
      · rintro (h | h)
        · exact ⟨by omega, h.2⟩
        · exact ⟨by omega, by rw [← h]; exact hs⟩
      · rintro ⟨h1, h2⟩
        by_cases w : n = q
        · exact Or.inr w
        · exact Or.inl ⟨by omega, h2⟩
    · rw [if_neg hs, ih q]
      constructor
      · rintro ⟨h1, h2⟩; exact ⟨by omega, h2⟩
      · rintro ⟨h1, h2⟩
        by_cases w : q = n
        · rw [w] at h2; exact absurd h2 hs
        · exact ⟨by omega, h2⟩
theorem e_like {M Mx : Mem} (hI : Inv M) {p m : Nat} {Q : Int32 → Mem → Prop} (hp : p < 8) (hm : m < 6) (fq : Fq M Mx) (hQ : ∀ M', Fq M M' → (∀ r, r ≠ 14 → M' r = Mx r) → Q (nI (lkm M m p (cP M))) M') : wX10_likePlaces (nI p) (nI m) Mx Q := by
  have hP8 := hI.1.1.2.1
  have c15 := hI.1.1.1
  obtain ⟨P, hP⟩ : ∃ P, P = cP M := ⟨_, rfl⟩
  rw [← hP] at hP8 c15 hQ
  unfold wX10_likePlaces
  refine ⟨P + 1, lq2_ind (fun d x y M' => d ≤ P ∧ x = nI (lkm M m p (P - d)) ∧ y = nI (P - d) ∧ Fq M M' ∧ ∀ r, r ≠ 14 → M' r = Mx r) ?_ ?_ P 0 0 Mx ⟨Nat.le_refl _, by rw [Nat.sub_self]; rfl, by rw [Nat.sub_self]; rfl, fq, fun _ _ => rfl⟩⟩
  · rintro R x y M' ⟨-, rfl, rfl, g1, g2⟩
    rw [g1.1 0 (by decide), c15, Nat.sub_zero]
    exact ⟨fun _ => hQ M' g1 g2, fun z => absurd (Int32.le_refl _) z⟩
  · rintro d R x y M' ⟨hd, rfl, rfl, g1, g2⟩ hR
    obtain ⟨q, hq⟩ : ∃ q, q = P - (d + 1) := ⟨_, rfl⟩
    rw [← hq]
    have e1 : P - d = q + 1 := by omega
    rw [g1.1 0 (by decide), c15, sh8 q (by omega), nI_or]
    refine ⟨fun z => absurd z (nI_ge (by omega) (by omega)), fun _ => e_between2 (g1.fin hI) hp (by omega) hm (fun M2 v k2 hv => ?_)⟩
    have lf := lk_fr hI g1 (m := m) (p := p) (q := q)
    have hv' : (¬ v < 0 ∧ ¬ M2 13 3 < v) ↔ lkP M m p q := by
      rw [k2 13 (by decide), hv]
      unfold lkP
      rw [lf.1, lf.2]
    rw [e_isWithin, bI_0, hv']
    have f2 := g1.b1 (i := 14) (by decide) k2
    exact ⟨fun z => hR _ _ _ ⟨by omega, by rw [e1, lkm, if_neg z], by rw [nI_1, e1], f2, fun r hr => by rw [k2 r hr, g2 r hr]⟩, fun z => hR _ _ _ ⟨by omega, by rw [e1, lkm, if_pos (Classical.not_not.mp z)], by rw [nI_1, e1], f2, fun r hr => by rw [k2 r hr, g2 r hr]⟩⟩
theorem st_group {M : Mem} (hI : Inv M) (a1 a2 : Int32) : wX10_group a1 a2 M (fun r M1 => wX11_group a1 a2 M1 (fun r' M2 => r = r' ∧ Inv M2)) := by
  have h0 := hI.1
  have hP8 := h0.1.2.1
  have hF40 := h0.2.1.2.1
  have c11 : M 49 11 = nI (cP M) := h0.1.2.2.trans h0.1.1
  have c13 : M 49 13 = nI (cF M) := h0.2.1.2.2.trans h0.2.1.1
  by_cases q1 : vp_in a1 6
  · obtain ⟨m, hm, e1, -⟩ := vp_nI q1 (by decide)
    by_cases q2 : a2 = -1 ∨ vp_in a2 (cP M)
    · obtain ⟨v, hv⟩ : ∃ v, v = spm M m (cP M) := ⟨_, rfl⟩
      obtain ⟨nb, hnb⟩ : ∃ nb : Nat → Nat, nb = fun q => lkm M m q (cP M) := ⟨_, rfl⟩
      have hv8 : v < 256 := by rw [hv]; exact spm_lt _ hP8
      have vtb : ∀ x, v.testBit x = true ↔ x < cP M ∧ sayP M x m := fun x => by rw [hv]; exact spm_tb _ x
      have ntb : ∀ x y, (nb x).testBit y = true ↔ y < cP M ∧ lkP M m x y := fun x y => by rw [hnb]; exact lkm_tb _ y
      have hmP : ∀ x, v.testBit x = true → x < cP M := fun x hx => ((vtb x).mp hx).1
      obtain ⟨P, hP⟩ : ∃ P, P = cP M := ⟨_, rfl⟩
      have ha : a2 = -1 ∨ ∃ p, p < P ∧ a2 = nI p := by
        rcases q2 with q | q
        · exact Or.inl q
        · obtain ⟨p, hp, e, -⟩ := vp_nI q (by omega)
          exact Or.inr ⟨p, by omega, e⟩
      rw [← hP] at hP8 c11 hmP vtb ntb
      obtain ⟨E, hE⟩ : ∃ E : Nat → Nat → Prop, E = fun x y => v.testBit x = true ∧ v.testBit y = true ∧ (nb x).testBit y = true := ⟨_, rfl⟩
      have hE' : ∀ x y, E x y ↔ (v.testBit x = true ∧ v.testBit y = true ∧ (nb x).testBit y = true) := fun x y => by rw [hE]
      have hs : ∀ x y, E x y → E y x := fun x y h => by
        obtain ⟨g1, g2, g3⟩ := (hE' x y).mp h
        exact (hE' y x).mpr ⟨g2, g1, (ntb y x).mpr ⟨hmP x g1, lkP_sy ((ntb x y).mp g3).2⟩⟩
      have hEm : ∀ x y, E x y → v.testBit x = true ∧ v.testBit y = true := fun x y h => ⟨((hE' x y).mp h).1, ((hE' x y).mp h).2.1⟩
      have ref : ∀ (w : Int32) (M0 : Mem), Fq M M0 → (a2 = -1 → w = nI (cnJ nb v 8)) → (∀ p, p < P → a2 = nI p → w = (if v.testBit p = true then nI (tz (jnd nb v p)) else -9)) → wX11_group a1 a2 M0 (fun r' M2 => w = r' ∧ Inv M2) := fun w M0 f0 w1 w2 => by
        unfold wX11_group
        rw [m_isMeaning, bI_t q1]
        refine ⟨fun z => absurd z (by decide), fun _ => jn0_i (fun M' => M' = M0) ?_ (fun J hJ => ⟨fun z => hJ M0 rfl, fun z => ?_⟩)⟩
        · rintro M' e
          subst e
          rw [e1]
          refine ⟨P + 1, lq1_ind (fun d x M2 => d ≤ P ∧ x = nI (P - d) ∧ Fq M M2 ∧ ∀ k, k < P - d → (v.testBit k = true → M2 235 k = nI k) ∧ (v.testBit k = false → M2 235 k = -9)) ?_ ?_ P 0 M' ⟨Nat.le_refl _, by rw [Nat.sub_self]; rfl, f0, fun k hk => by omega⟩⟩
          · rintro R x M2 ⟨-, rfl, f2, g2⟩
            rw [Nat.sub_zero] at g2 ⊢
            rw [f2.2 11 (by decide) (by decide) (by decide), c11]
            refine ⟨fun _ => ?_, fun z => absurd (Int32.le_refl _) z⟩
            refine m_pairs (M := M) (P := P) (mem := v) (E := E) (lb0 := fun k => k) (F := fun a b M76 k => wX11_areLike (nI m) a b M76 (fun v90 M90 => ((v90 = 0 → k M90) ∧ (¬ v90 = 0 → wX11_join a b M90 (fun M100 => k M100))))) hP8 c11 f2 (fun k hk => ⟨fun mk => ⟨(g2 k hk).1 mk, Nat.le_refl _, Rc.rfl'⟩, (g2 k hk).2⟩) hEm ?_ ?_
            · intro a b M3 lb k hab hb l3 f3 hk
              have lf := lk_fr hI f3 (m := m) (p := a) (q := b)
              refine m_areLike (M := M3) (f3.fin hI) (fun _ _ _ _ _ => rfl) (fun M4 k4 => ?_)
              rw [lf.1, lf.2, bI_0]
              have f4 : Fq M M4 := f3.of [14, 225, 226, 227] (by decide) (fun r hr => k4 r (fun z => hr (by rw [z]; decide)) (fun z => hr (by rw [z]; decide)) (fun z => hr (by rw [z]; decide)) (fun z => hr (by rw [z]; decide)))
              have l4 : LbI M4 P v E lb := fun j hj => by rw [k4 235 (by decide) (by decide) (by decide) (by decide)]; exact l3 j hj
              refine ⟨fun z => hk M4 lb f4 l4 (Or.inl ⟨rfl, fun h => z ((ntb a b).mp ((hE' a b).mp h).2.2).2⟩), fun z => ?_⟩
              have lk : lkP M m a b := Classical.not_not.mp z
              obtain ⟨s1, s2⟩ := lkP_say hF40 lk
              have ma := (vtb a).mpr ⟨by omega, s1⟩
              have mb := (vtb b).mpr ⟨hb, s2⟩
              exact m_join hP8 (by rw [f4.2 11 (by decide) (by decide) (by decide)]; exact c11) hs l4 (by omega) hb ma mb ((hE' a b).mpr ⟨ma, mb, (ntb a b).mpr ⟨hb, lk⟩⟩) (fun M5 k5 l5 => hk M5 _ (f4.b1 (i := 235) (by decide) k5) l5 (Or.inr rfl))
            · intro M3 lb f3 l3 hc
              refine m_joinedOf (A := nb) hP8 (by rw [f3.2 11 (by decide) (by decide) (by decide)]; exact c11) hmP (fun k hk => ⟨fun mk => ?_, (l3 k hk).2⟩) ha (fun e => ⟨w1 e, f3.fin hI⟩) (fun p hp e => ⟨w2 p hp e, f3.fin hI⟩)
              rw [((l3 k hk).1 mk).1, LR.un (lb_LR hmP hs hEm l3 hc mk) (jnd_LR hv8 (by omega) mk hE')]
          · rintro d R x M2 ⟨hd, rfl, f2, g2⟩ hR
            obtain ⟨k, hk⟩ : ∃ k, k = P - (d + 1) := ⟨_, rfl⟩
            rw [← hk] at g2 ⊢
            have ek : P - d = k + 1 := by omega
            rw [f2.2 11 (by decide) (by decide) (by decide), c11]
            refine ⟨fun z => absurd z (nI_ge (by omega) (by omega)), fun _ => m_saidAt (by rw [f2.2 13 (by decide) (by decide) (by decide)]; exact c13) hF40 ?_⟩
            rw [sdL_fr (f2.1 205 (by decide)) (f2.1 206 (by decide)), nI_clamp (n := k) (by omega)]
            have go : ∀ N u, N = mset M2 235 k u → ((v.testBit k = true → u = nI k) ∧ (v.testBit k = false → u = -9)) → R (nI k + 1) N := fun N u hN hu => hR _ _ ⟨by omega, by rw [nI_1, ek], f2.b1 (i := 235) (by decide) (fun r hr => by rw [hN, mset_row hr]), fun j hj => by
              rw [hN]
              by_cases w : j = k
              · rw [w, mset_eq]; exact hu
              · rw [mset_ne (by omega)]; exact g2 j (by omega)⟩
            refine ⟨fun z => ⟨vp_in_nI (by omega) (by decide), fun N hN => go N _ hN ⟨fun _ => rfl, fun y => ?_⟩⟩, fun z => ⟨vp_in_nI (by omega) (by decide), fun N hN => go N _ hN ⟨fun y => absurd z ((vtb k).mp y).2, fun _ => rfl⟩⟩⟩
            have := (vtb k).mpr ⟨by omega, z⟩
            rw [y] at this
            exact absurd this (by decide)
        · rw [m_isPlaceN (n := P) (by rw [f0.2 11 (by decide) (by decide) (by decide)]; exact c11) (by omega), hP, bI_t (q2.resolve_left z)]
          exact ⟨fun _ => hJ M0 rfl, fun z => absurd z (by decide)⟩
      unfold wX10_group
      rw [e_isMeaning, bI_t q1]
      refine ⟨fun z => absurd z (by decide), fun _ => jn0_i (fun M' => M' = M) ?_ (fun J hJ => ⟨fun z => hJ M rfl, fun z => ?_⟩)⟩
      · rintro M' e
        subst e
        rw [e1]
        refine ⟨8 + 1, lq1_ind (fun d x M2 => d ≤ 8 ∧ x = nI (8 - d) ∧ Fq M' M2 ∧ ∀ k, k < 8 - d → M2 19 k = nI (nb k)) ?_ ?_ 8 0 M' ⟨Nat.le_refl _, rfl, Fq.rf, fun k hk => by omega⟩⟩
        · rintro R x M2 ⟨-, rfl, f2, g2⟩
          refine ⟨fun _ => e_saidPlaces hI hm f2 ?_, fun z => absurd (by decide) z⟩
          rw [← hv]
          refine e_countOrLeast (A := nb) (by decide) (by decide) hv8 (fun q hq => g2 q (by omega)) (ha.elim Or.inl (fun ⟨p, hp, e⟩ => Or.inr ⟨p, by omega, e⟩)) (fun e => ?_) (fun p hp e => ?_)
          · rw [← e1]
            refine ref _ M2 f2 (fun _ => rfl) (fun p hp e2 => ?_)
            rw [e] at e2
            exact absurd e2.symm (fun h => absurd (h ▸ nI_pos (n := p) (by omega)) (by decide))
          · rw [← e1]
            refine ref _ M2 f2 (fun e2 => ?_) (fun p' hp' e2 => ?_)
            · rw [e2] at e
              exact absurd e.symm (fun h => absurd (h ▸ nI_pos (n := p) (by omega)) (by decide))
            · rw [e, nI_eq (by omega) (by omega)] at e2
              rw [e2]
        · rintro d R x M2 ⟨hd, rfl, f2, g2⟩ hR
          obtain ⟨q, hq⟩ : ∃ q, q = 8 - (d + 1) := ⟨_, rfl⟩
          rw [← hq] at g2 ⊢
          have eq : 8 - d = q + 1 := by omega
          refine ⟨fun z => absurd z (nI_ge (b := 8) (by omega) (by decide)), fun _ => e_like hI (by omega) hm f2 (fun M3 f3 k3 => ⟨vp_in_nI (by omega) (by decide), fun N hN => ?_⟩)⟩
          rw [nI_clamp (n := q) (by omega)] at hN
          refine hR _ _ ⟨by omega, by rw [nI_1, eq], f3.b1 (i := 19) (by decide) (fun r hr => by rw [hN, mset_row hr]), fun k hk => ?_⟩
          rw [hN]
          by_cases w : k = q
          · rw [w, mset_eq, hnb]
          · rw [mset_ne (by omega), k3 19 (by decide)]
            exact g2 k (by omega)
      · rw [e_isPlace h0, bI_t (q2.resolve_left z)]
        exact ⟨fun _ => hJ M rfl, fun z => absurd z (by decide)⟩
    · have w1 : ¬ a2 = -1 := fun h => q2 (Or.inl h)
      have w2 : ¬ vp_in a2 (cP M) := fun h => q2 (Or.inr h)
      simp only [wX10_group, wX11_group, e_isMeaning, m_isMeaning, e_isPlace h0, m_isPlace h0, bI_t q1, bI_f w2, w1, i10, i01, bI_0, bI_1, isB_bI, Classical.not_not, not_false_eq_true, not_true_eq_false, true_implies, false_implies, and_true, true_and, and_self, forall_eq, ne_eq, jn0, jn1, jn2, jn3]
      exact hI
  · simp only [wX10_group, wX11_group, e_isMeaning, m_isMeaning, bI_f q1, i10, i01, bI_0, bI_1, isB_bI, Classical.not_not, not_false_eq_true, not_true_eq_false, true_implies, false_implies, and_true, true_and, and_self, forall_eq, ne_eq]
    exact hI
