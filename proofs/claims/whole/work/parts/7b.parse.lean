/-! the texts of laws -/
def cdA (c : Nat → Int32) (n i : Nat) : Int32 := if i < n then c i else -9
def inR (x lo hi : Int32) : Prop := ¬ x < lo ∧ ¬ hi < x
noncomputable def tgt (c : Nat → Int32) (n i : Nat) : Option (Int32 × Int32) × Nat :=
  if cdA c n i = 43 then (@ite _ (inR (cdA c n (i + 1)) 48 53) (Classical.propDecidable _) (some (16 + cdA c n (i + 1) - 48, 16 + cdA c n (i + 1) - 48), i + 2) (none, i + 1))
  else if cdA c n i = 45 then (@ite _ (inR (cdA c n (i + 1)) 48 53) (Classical.propDecidable _) (some (22 + cdA c n (i + 1) - 48, 24 + cdA c n (i + 1) - 48), i + 2) (none, i + 1))
  else @ite _ (inR (cdA c n i) 97 112) (Classical.propDecidable _) (some (cdA c n i - 97, cdA c n i - 97), i + 1) (none, i)
noncomputable def sid (c : Nat → Int32) (n i : Nat) : Option (Int32 × Int32) × Nat := if cdA c n i = 35 then (some (28, 41), i + 1) else tgt c n i
noncomputable def lft (c : Nat → Int32) (n i : Nat) : Option (Int32 × Int32) × Nat := if cdA c n i = 95 then (some (29, 40), i) else sid c n i
def vX : Option (Int32 × Int32) → Int32
  | none => -1
  | some v => v.1
def vM : Option (Int32 × Int32) → Int32
  | none => -9
  | some v => v.2
theorem cd_lt {c : Nat → Int32} {n i : Nat} (h : ¬ cdA c n i = -9) : i < n := by
  unfold cdA at h
  rcases Nat.lt_or_ge i n with q | q
  · exact q
  · rw [if_neg (by omega)] at h; exact absurd rfl h
theorem cd_eq {c : Nat → Int32} {n i : Nat} (h : i < n) : cdA c n i = c i := by unfold cdA; rw [if_pos h]
theorem cd_end {c : Nat → Int32} {n i : Nat} (h : n ≤ i) : cdA c n i = -9 := by unfold cdA; rw [if_neg (by omega)]
theorem inR_9 {x lo hi : Int32} (h : inR x lo hi) (h9 : (-9 : Int32) < lo) : ¬ x = -9 := fun e => h.1 (by rw [e]; exact h9)
theorem inR_n {x : Int32} {lo hi : Nat} (hlo : lo < 2 ^ 31) (hhi : hi < 2 ^ 31) (h : inR x (nI lo) (nI hi)) : ∃ s, s ≤ hi - lo ∧ lo ≤ hi ∧ x = nI (lo + s) := by
  have h0 : ¬ x < 0 := fun z => h.1 (by
    rw [Int32.lt_iff_toInt_lt] at z ⊢
    rw [nI_toInt hlo]
    have : (0 : Int32).toInt = 0 := rfl
    omega)
  obtain ⟨j, hj, e⟩ := nI_of h0
  obtain ⟨h1, h2⟩ := h
  rw [e, nI_ltI hj hlo] at h1
  rw [e, nI_ltI hhi hj] at h2
  exact ⟨j - lo, by omega, by omega, by rw [e]; congr 1; omega⟩
theorem tgt_r {c : Nat → Int32} {n i : Nat} (hi : i ≤ n) : (tgt c n i).2 ≤ n ∧ i ≤ (tgt c n i).2 ∧ ∀ v, (tgt c n i).1 = some v → tRel v.1 v.2 := by
  have dg : ∀ x, inR x 48 53 → ∃ f, f < 6 ∧ 16 + x - 48 = nI (16 + f) ∧ 22 + x - 48 = nI (22 + f) ∧ 24 + x - 48 = nI (24 + f) := fun x h => by
    obtain ⟨f, h1, -, e⟩ := inR_n (lo := 48) (hi := 53) (by decide) (by decide) h
    refine ⟨f, by omega, ?_, ?_, ?_⟩
    · rw [e, show (16 : Int32) = nI 16 by decide, show (48 : Int32) = nI 48 by decide, nI_add, pk_sub (by omega)]; congr 1; omega
    · rw [e, show (22 : Int32) = nI 22 by decide, show (48 : Int32) = nI 48 by decide, nI_add, pk_sub (by omega)]; congr 1; omega
    · rw [e, show (24 : Int32) = nI 24 by decide, show (48 : Int32) = nI 48 by decide, nI_add, pk_sub (by omega)]; congr 1; omega
  unfold tgt
  by_cases h1 : cdA c n i = 43
  · have l1 : i < n := cd_lt (by rw [h1]; decide)
    rw [if_pos h1]
    by_cases h2 : inR (cdA c n (i + 1)) 48 53
    · have l2 : i + 1 < n := cd_lt (inR_9 h2 (by decide))
      obtain ⟨f, hf, e1, e2, e3⟩ := dg _ h2
      rw [if_pos h2]
      refine ⟨by show i + 2 ≤ n; omega, by show i ≤ i + 2; omega, fun v hv => ?_⟩
      rw [← Option.some.inj hv]
      exact Or.inr (Or.inl ⟨f, hf, e1, e1⟩)
    · rw [if_neg h2]
      exact ⟨by show i + 1 ≤ n; omega, by show i ≤ i + 1; omega, fun v hv => by cases hv⟩
  · rw [if_neg h1]
    by_cases h2 : cdA c n i = 45
    · have l1 : i < n := cd_lt (by rw [h2]; decide)
      rw [if_pos h2]
      by_cases h3 : inR (cdA c n (i + 1)) 48 53
      · have l2 : i + 1 < n := cd_lt (inR_9 h3 (by decide))
        obtain ⟨f, hf, e1, e2, e3⟩ := dg _ h3
        rw [if_pos h3]
        refine ⟨by show i + 2 ≤ n; omega, by show i ≤ i + 2; omega, fun v hv => ?_⟩
        rw [← Option.some.inj hv]
        exact Or.inr (Or.inr ⟨f, hf, e2, e3⟩)
      · rw [if_neg h3]
        exact ⟨by show i + 1 ≤ n; omega, by show i ≤ i + 1; omega, fun v hv => by cases hv⟩
    · rw [if_neg h2]
      by_cases h3 : inR (cdA c n i) 97 112
      · have l1 : i < n := cd_lt (inR_9 h3 (by decide))
        rw [if_pos h3]
        refine ⟨by show i + 1 ≤ n; omega, by show i ≤ i + 1; omega, fun v hv => ?_⟩
        obtain ⟨s, g1, -, e⟩ := inR_n (lo := 97) (hi := 112) (by decide) (by decide) h3
        rw [← Option.some.inj hv]
        have e2 : cdA c n i - 97 = nI s := by rw [e, show (97 : Int32) = nI 97 by decide, pk_sub (by omega)]; congr 1; omega
        exact Or.inl ⟨s, by omega, e2, e2⟩
      · rw [if_neg h3]
        exact ⟨hi, Nat.le_refl _, fun v hv => by cases hv⟩
theorem sid_r {c : Nat → Int32} {n i : Nat} (hi : i ≤ n) : (sid c n i).2 ≤ n ∧ i ≤ (sid c n i).2 ∧ ∀ v, (sid c n i).1 = some v → sRel v.1 v.2 := by
  unfold sid
  by_cases h : cdA c n i = 35
  · have l1 : i < n := cd_lt (by rw [h]; decide)
    rw [if_pos h]
    refine ⟨by show i + 1 ≤ n; omega, by show i ≤ i + 1; omega, fun v hv => ?_⟩
    rw [← Option.some.inj hv]
    exact Or.inr (Or.inl ⟨rfl, rfl⟩)
  · rw [if_neg h]
    obtain ⟨a, b, d⟩ := tgt_r (c := c) hi
    exact ⟨a, b, fun v hv => Or.inl (d v hv)⟩
theorem lft_r {c : Nat → Int32} {n i : Nat} (hi : i ≤ n) : (lft c n i).2 ≤ n ∧ i ≤ (lft c n i).2 ∧ ∀ v, (lft c n i).1 = some v → sRel v.1 v.2 := by
  unfold lft
  by_cases h : cdA c n i = 95
  · rw [if_pos h]
    refine ⟨hi, Nat.le_refl _, fun v hv => ?_⟩
    rw [← Option.some.inj hv]
    exact Or.inr (Or.inr ⟨rfl, rfl⟩)
  · rw [if_neg h]
    exact sid_r hi
theorem sRel_ne {c m : Int32} (h : sRel c m) : ¬ c = -1 ∧ ¬ m = -9 := by
  have k : ∀ x, x < 100 → ¬ nI x = -1 ∧ ¬ nI x = -9 := fun x hx => ⟨fun q => absurd (q ▸ nI_pos (n := x) (by omega)) (by decide), n9 (by omega)⟩
  rcases h with (⟨x, hx, rfl, rfl⟩ | ⟨f, hf, rfl, rfl⟩ | ⟨f, hf, rfl, rfl⟩) | ⟨rfl, rfl⟩ | ⟨rfl, rfl⟩
  · exact ⟨(k x (by omega)).1, (k x (by omega)).2⟩
  · exact ⟨(k _ (by omega)).1, (k _ (by omega)).2⟩
  · exact ⟨(k _ (by omega)).1, (k _ (by omega)).2⟩
  · decide
  · decide
/-! the class reads -/
def SX (M : Mem) (c : Nat → Int32) (n i : Nat) : Prop := M 11 1 = nI n ∧ M 11 2 = nI i ∧ ∀ k, k < n → M 12 k = c k
theorem SX_fr {M M' : Mem} {c : Nat → Int32} {n i : Nat} (h : SX M c n i) (h1 : M' 11 = M 11) (h2 : M' 12 = M 12) : SX M' c n i := by unfold SX; rw [h1, h2]; exact h
section PARX
variable {Mx : Mem} {c : Nat → Int32} {n i : Nat} {Q : Int32 → Mem → Prop}
theorem e_takes {g : Int32} (h60 : n ≤ 60) (hi : i ≤ n) (hS : SX Mx c n i) (hg : ¬ g = -9) (hQ1 : cdA c n i = g → i < n → ∀ M', (∀ r, r ≠ 11 → M' r = Mx r) → SX M' c n (i + 1) → Q 1 M') (hQ0 : ¬ cdA c n i = g → ∀ M', (∀ r, r ≠ 11 → M' r = Mx r) → SX M' c n i → Q 0 M') : wX5_takes g Mx Q := by
  have set : ∀ v N, N = mset Mx 11 2 v → (∀ r, r ≠ 11 → N r = Mx r) ∧ ∀ j, v = nI j → SX N c n j := fun v N hN => ⟨fun r hr => by rw [hN, mset_row hr], fun j hj => ⟨by rw [hN, mset_ne (by omega)]; exact hS.1, by rw [hN, mset_eq, hj], fun k hk => by rw [hN, mset_row (by decide)]; exact hS.2.2 k hk⟩⟩
  unfold wX5_takes
  refine jn1_i (fun y M' => M' = Mx ∧ y = bI (cdA c n i = g)) ?_ (fun J hJ => ?_)
  · rintro y M' ⟨e1, e2⟩
    subst e1
    rw [e2, hS.2.1, bI_0]
    refine ⟨fun z N hN => ?_, fun z N hN => ?_⟩
    · rw [Int32.add_zero] at hN
      obtain ⟨a, b⟩ := set _ N hN
      rw [bI_f z]
      exact ⟨by unfold isB; exact Or.inl rfl, hQ0 z N a (b i rfl)⟩
    · rw [nI_1] at hN
      obtain ⟨a, b⟩ := set _ N hN
      have z := Classical.not_not.mp z
      rw [bI_t z]
      exact ⟨by unfold isB; exact Or.inr rfl, hQ1 z (cd_lt (by rw [z]; exact hg)) N a (b _ rfl)⟩
  · rw [hS.1, hS.2.1, nI_leI (by omega) (by omega), nI_clamp (by omega)]
    refine ⟨fun z => hJ _ _ ⟨rfl, by rw [bI_f (fun e => hg (by rw [← e, cd_end z]))]⟩, fun z => ⟨vp_in_nI (by omega) (by decide), fun w => ?_, fun w => ?_⟩⟩
    · rw [hS.2.2 i (by omega), ← cd_eq (c := c) (n := n) (by omega)] at w
      exact hJ _ _ ⟨rfl, by rw [bI_f w]⟩
    · rw [hS.2.2 i (by omega), ← cd_eq (c := c) (n := n) (by omega)] at w
      exact hJ _ _ ⟨rfl, by rw [bI_t w]⟩
theorem e_takeB {lo hi first : Int32} (h60 : n ≤ 60) (hi' : i ≤ n) (hS : SX Mx c n i) (h9 : (-9 : Int32) < lo) (hQ1 : inR (cdA c n i) lo hi → i < n → ∀ M', (∀ r, r ≠ 11 → M' r = Mx r) → SX M' c n (i + 1) → Q (first + cdA c n i - lo) M') (hQ0 : ¬ inR (cdA c n i) lo hi → Q (-1) Mx) : wX5_takeBetween lo hi first Mx Q := by
  unfold wX5_takeBetween
  rw [hS.1, hS.2.1, nI_leI (by omega) (by omega), nI_clamp (by omega)]
  refine ⟨fun z => hQ0 (fun h => inR_9 h h9 (cd_end z)), fun z => ⟨vp_in_nI (by omega) (by decide), ?_⟩⟩
  have e := cd_eq (c := c) (n := n) (show i < n by omega)
  rw [hS.2.2 i (by omega), ← e]
  refine ⟨fun w => hQ0 (fun h => h.1 w), fun w => ⟨fun w2 N hN => ?_, fun w2 => hQ0 (fun h => h.2 (Int32.not_le.mp w2))⟩⟩
  rw [nI_1] at hN
  have s11 : N 11 2 = nI (i + 1) := by rw [hN, mset_eq]
  have sN : SX N c n (i + 1) := ⟨by rw [hN, mset_ne (by omega)]; exact hS.1, s11, fun k hk => by rw [hN, mset_row (by decide)]; exact hS.2.2 k hk⟩
  rw [s11, nI_pred, nI_clamp (by omega), sN.2.2 i (by omega), ← e]
  exact ⟨vp_in_nI (by omega) (by decide), hQ1 ⟨w, Int32.not_lt.mpr w2⟩ (by omega) N (fun r hr => by rw [hN, mset_row hr]) sN⟩
theorem e_atEnd (h60 : n ≤ 60) (hi : i ≤ n) (hS : SX Mx c n i) (hQ : Q (bI (n ≤ i)) Mx) : wX5_isAtEnd Mx Q := by
  unfold wX5_isAtEnd
  rw [hS.1, hS.2.1, nI_ltI (by omega) (by omega)]
  refine ⟨fun z => ?_, fun z => ?_⟩
  · rw [bI_f (by omega)] at hQ; exact hQ
  · rw [bI_t (by omega)] at hQ; exact hQ
theorem e_isAt {g : Int32} (h60 : n ≤ 60) (hi : i ≤ n) (hS : SX Mx c n i) (hg : ¬ g = -9) (hQ : Q (bI (cdA c n i = g)) Mx) : wX5_isAt g Mx Q := by
  unfold wX5_isAt
  rw [hS.1, hS.2.1, nI_leI (by omega) (by omega), nI_clamp (by omega)]
  refine ⟨fun z => ?_, fun z => ⟨vp_in_nI (by omega) (by decide), fun w => ?_, fun w => ?_⟩⟩
  · rw [bI_f (fun e => hg (by rw [← e, cd_end z]))] at hQ; exact hQ
  · rw [hS.2.2 i (by omega), ← cd_eq (c := c) (n := n) (by omega)] at w
    rw [bI_f w] at hQ; exact hQ
  · rw [hS.2.2 i (by omega), ← cd_eq (c := c) (n := n) (by omega)] at w
    rw [bI_t w] at hQ; exact hQ
theorem e_pattern (h60 : n ≤ 60) (hi : i ≤ n) (hS : SX Mx c n i) (hQ : ∀ M', (∀ r, r ≠ 11 → M' r = Mx r) → SX M' c n (tgt c n i).2 → Q (vX (tgt c n i).1) M') : wX5_takePattern Mx Q := by
  unfold wX5_takePattern
  unfold tgt at hQ
  refine e_takes h60 hi hS (by decide) (fun z l M1 f1 s1 => ⟨fun w => absurd w (by decide), fun _ => ?_⟩) (fun z M1 f1 s1 => ⟨fun _ => ?_, fun w => absurd rfl w⟩)
  · rw [if_pos z] at hQ
    refine e_takeB h60 (by omega) s1 (by decide) (fun w l2 M2 f2 s2 => ?_) (fun w => ?_)
    · rw [if_pos w] at hQ
      exact hQ M2 (fun r hr => by rw [f2 r hr, f1 r hr]) s2
    · rw [if_neg w] at hQ
      exact hQ M1 f1 s1
  · rw [if_neg z] at hQ
    refine e_takes h60 hi s1 (by decide) (fun z2 l M2 f2 s2 => ⟨fun w => absurd w (by decide), fun _ => ?_⟩) (fun z2 M2 f2 s2 => ⟨fun _ => ?_, fun w => absurd rfl w⟩)
    · rw [if_pos z2] at hQ
      refine e_takeB h60 (by omega) s2 (by decide) (fun w l2 M3 f3 s3 => ?_) (fun w => ?_)
      · rw [if_pos w] at hQ
        exact hQ M3 (fun r hr => by rw [f3 r hr, f2 r hr, f1 r hr]) s3
      · rw [if_neg w] at hQ
        exact hQ M2 (fun r hr => by rw [f2 r hr, f1 r hr]) s2
    · rw [if_neg z2] at hQ
      refine e_takeB h60 hi s2 (by decide) (fun w l2 M3 f3 s3 => ?_) (fun w => ?_)
      · rw [if_pos w] at hQ
        rw [Int32.zero_add]
        exact hQ M3 (fun r hr => by rw [f3 r hr, f2 r hr, f1 r hr]) s3
      · rw [if_neg w] at hQ
        exact hQ M2 (fun r hr => by rw [f2 r hr, f1 r hr]) s2
theorem e_side (h60 : n ≤ 60) (hi : i ≤ n) (hS : SX Mx c n i) (hQ : ∀ M', (∀ r, r ≠ 11 → M' r = Mx r) → SX M' c n (sid c n i).2 → Q (vX (sid c n i).1) M') : wX5_takeSide Mx Q := by
  unfold wX5_takeSide
  unfold sid at hQ
  refine e_takes h60 hi hS (by decide) (fun z l M1 f1 s1 => ⟨fun w => absurd w (by decide), fun _ => ?_⟩) (fun z M1 f1 s1 => ⟨fun _ => ?_, fun w => absurd rfl w⟩)
  · rw [if_pos z] at hQ
    exact hQ M1 f1 s1
  · rw [if_neg z] at hQ
    exact e_pattern h60 hi s1 (fun M2 f2 s2 => hQ M2 (fun r hr => by rw [f2 r hr, f1 r hr]) s2)
end PARX
/-! the reference reads -/
def SM (M : Mem) (c : Nat → Int32) (fr n i : Nat) : Prop := M 49 28 = nI (fr + i) ∧ M 49 29 = nI (fr + n) ∧ ∀ k, k < n → M 194 (fr + k) = c k
section PARM
variable {Mx : Mem} {c : Nat → Int32} {fr n i : Nat} {Q : Int32 → Mem → Prop}
theorem SM_1 {N : Mem} {v : Int32} (hS : SM Mx c fr n i) (hv : v = Mx 49 28) (hN : N = mset Mx 49 28 (v + 1)) : (∀ r, r ≠ 49 → N r = Mx r) ∧ (∀ k, k ≠ 28 → N 49 k = Mx 49 k) ∧ SM N c fr n (i + 1) := by
  refine ⟨fun r hr => by rw [hN, mset_row hr], fun k hk => by rw [hN, mset_ne (by omega)], ?_, ?_, fun k hk => ?_⟩
  · rw [hN, mset_eq, hv, hS.1, nI_1]; rfl
  · rw [hN, mset_ne (by omega)]; exact hS.2.1
  · rw [hN, mset_row (by decide)]; exact hS.2.2 k hk
theorem m_codeAt (h240 : fr + n ≤ 240) (hi : i ≤ n) (hS : SM Mx c fr n i) (hQ : Q (cdA c n i) Mx) : wX11_codeAt Mx Q := by
  unfold wX11_codeAt
  rw [hS.1, hS.2.1, nI_leI (by omega) (by omega), nI_clamp (by omega)]
  refine ⟨fun z => ?_, fun z => ⟨vp_in_nI (by omega) (by decide), ?_⟩⟩
  · rw [cd_end (by omega)] at hQ; exact hQ
  · rw [hS.2.2 i (by omega), ← cd_eq (c := c) (n := n) (by omega)]; exact hQ
theorem m_target (h240 : fr + n ≤ 240) (hi : i ≤ n) (hS : SM Mx c fr n i) (hQ : ∀ M', (∀ r, r ≠ 49 → M' r = Mx r) → (∀ k, k ≠ 28 → M' 49 k = Mx 49 k) → SM M' c fr n (tgt c n i).2 → Q (vM (tgt c n i).1) M') : wX11_readsTarget Mx Q := by
  unfold wX11_readsTarget
  refine m_codeAt h240 hi hS ?_
  rw [e_within, bI_0]
  unfold tgt at hQ
  have ne : ∀ x : Int32, inR x 97 112 → ¬ x = 43 ∧ ¬ x = 45 := fun x h => ⟨fun e => by rw [e] at h; exact absurd h.1 (by decide), fun e => by rw [e] at h; exact absurd h.1 (by decide)⟩
  refine ⟨fun z => ?_, fun z N hN => ?_⟩
  · refine jn0_i (fun M' => M' = Mx ∧ (cdA c n i = 43 ∨ cdA c n i = 45)) ?_ (fun J hJ => ⟨fun w => hJ _ ⟨rfl, Or.inl w⟩, fun w => ⟨fun w2 => hJ _ ⟨rfl, Or.inr w2⟩, fun w2 => ?_⟩⟩)
    · rintro M' ⟨e, h⟩ N hN
      subst e
      obtain ⟨a, b, s1⟩ := SM_1 hS rfl hN
      have l1 : i < n := cd_lt (by rcases h with h | h <;> rw [h] <;> decide)
      refine m_codeAt h240 (by omega) s1 ?_
      rw [e_within, bI_0]
      refine ⟨fun w N2 hN2 => ?_, fun w => ?_⟩
      · have w := Classical.not_not.mp w
        obtain ⟨a2, b2, s2⟩ := SM_1 s1 rfl hN2
        simp only [jn1]
        have w' : inR (cdA c n (i + 1)) 48 53 := w
        by_cases h43 : cdA c n i = 43
        · rw [if_pos h43, if_pos w'] at hQ
          exact ⟨fun y => absurd h43 y, fun _ => hQ N2 (fun r hr => by rw [a2 r hr, a r hr]) (fun k hk => by rw [b2 k hk, b k hk]) s2⟩
        · rw [if_neg h43, if_pos (h.resolve_left h43), if_pos w'] at hQ
          exact ⟨fun _ => hQ N2 (fun r hr => by rw [a2 r hr, a r hr]) (fun k hk => by rw [b2 k hk, b k hk]) s2, fun y => absurd y h43⟩
      · have w' : ¬ inR (cdA c n (i + 1)) 48 53 := w
        by_cases h43 : cdA c n i = 43
        · rw [if_pos h43, if_neg w'] at hQ
          exact hQ N a b s1
        · rw [if_neg h43, if_pos (h.resolve_left h43), if_neg w'] at hQ
          exact hQ N a b s1
    · rw [if_neg w, if_neg w2, if_neg (show ¬ inR (cdA c n i) 97 112 from z)] at hQ
      exact hQ Mx (fun _ _ => rfl) (fun _ _ => rfl) hS
  · have z : inR (cdA c n i) 97 112 := Classical.not_not.mp z
    rw [if_neg (ne _ z).1, if_neg (ne _ z).2, if_pos z] at hQ
    obtain ⟨a, b, s1⟩ := SM_1 hS rfl hN
    exact hQ N a b s1
theorem m_side {g : Int32} (h240 : fr + n ≤ 240) (hi : i ≤ n) (hS : SM Mx c fr n i) (hQ1 : cdA c n i = g → Q 40 Mx) (hQ0 : ¬ cdA c n i = g → ∀ M', (∀ r, r ≠ 49 → M' r = Mx r) → (∀ k, k ≠ 28 → M' 49 k = Mx 49 k) → SM M' c fr n (sid c n i).2 → Q (vM (sid c n i).1) M') : wX11_readsSide g Mx Q := by
  unfold wX11_readsSide
  refine m_codeAt h240 hi hS ⟨fun z => m_codeAt h240 hi hS ?_, hQ1⟩
  have hQ0 := hQ0 z
  unfold sid at hQ0
  refine ⟨fun w => ?_, fun w N hN => ?_⟩
  · rw [if_neg w] at hQ0
    exact m_target h240 hi hS hQ0
  · rw [if_pos w] at hQ0
    obtain ⟨a, b, s1⟩ := SM_1 hS rfl hN
    exact hQ0 N a b s1
end PARM
