/-! rows of sounds as lists -/
def rwX (M : Mem) (a : Nat) (L : List Nat) : Prop := M a 1 = nI L.length ∧ ∀ k, k < L.length → M (a + 50) k = nI (L.getD k 0)
def rwM (M : Mem) (L : List Nat) : Prop := M 49 32 = nI L.length ∧ ∀ k, k < L.length → M 221 k = nI (L.getD k 0)
def okL (L : List Nat) : Prop := L.length ≤ 8 ∧ ∀ k, k < L.length → L.getD k 0 < 16
theorem gd_l {L : List Nat} {s k : Nat} (h : k < L.length) : (L ++ [s]).getD k 0 = L.getD k 0 := by
  rw [List.getD_eq_getElem?_getD, List.getD_eq_getElem?_getD, List.getElem?_append_left h]
theorem gd_r {L : List Nat} {s : Nat} : (L ++ [s]).getD L.length 0 = s := by
  rw [List.getD_eq_getElem?_getD, List.getElem?_append_right (Nat.le_refl _), Nat.sub_self]; rfl
theorem ln_a {L : List Nat} {s : Nat} : (L ++ [s]).length = L.length + 1 := by rw [List.length_append]; rfl
theorem jn0_i {J : Mem → Prop} {B : (Mem → Prop) → Prop} (P : Mem → Prop) (h1 : ∀ M, P M → J M) (h2 : ∀ J' : Mem → Prop, (∀ M, P M → J' M) → B J') : jn0 J B := h2 J h1
theorem jn1_i {A : Type} {J : A → Mem → Prop} {B : (A → Mem → Prop) → Prop} (P : A → Mem → Prop) (h1 : ∀ x M, P x M → J x M) (h2 : ∀ J' : A → Mem → Prop, (∀ x M, P x M → J' x M) → B J') : jn1 J B := h2 J h1
theorem rw_add {M M' : Mem} {a s : Nat} {L : List Nat} (h : rwX M a L) (h1 : M' a 1 = nI (L.length + 1)) (h2 : M' (a + 50) L.length = nI s) (h3 : ∀ k, k ≠ L.length → M' (a + 50) k = M (a + 50) k) : rwX M' a (L ++ [s]) := by
  refine ⟨by rw [h1, ln_a], fun k hk => ?_⟩
  rw [ln_a] at hk
  by_cases w : k = L.length
  · rw [w, h2, gd_r]
  · rw [h3 k w, h.2 k (by omega), gd_l (by omega)]
/-- what a pattern, as the class writes it, says of a sound, and of nothing -/
def pmS (M : Mem) (c : Int32) (s : Nat) : Prop := if c = 29 then True else if c < 28 then (if c < 22 then (if c < 16 then nI s = c else hb (M 2 s) (c - 16)) else hb (M 3 s) (c - 22)) else False
def pmN (c : Int32) : Prop := c = 29 ∨ c = 28
def pmO (M : Mem) (c : Int32) : Option Nat → Prop
  | none => pmN c
  | some s => pmS M c s
theorem e_isOfS {M Mx : Mem} {s : Nat} {c : Int32} {Q : Int32 → Mem → Prop} (hs : s < 16) (r2 : Mx 2 = M 2) (r3 : Mx 3 = M 3) (hQ : Q (bI (pmS M c s)) Mx) : wX9_isOf (nI s) c Mx Q := by
  unfold wX9_isOf
  unfold pmS at hQ
  refine ⟨fun q => ?_, fun q => ?_⟩
  · rw [if_neg q] at hQ
    rw [e_b16, bI_t (vp_in_nI hs (by decide))]
    refine ⟨fun _ => ⟨fun q28 => ⟨fun q22 => ⟨fun q16 => ?_, fun q16 => ⟨vp_in_nI hs (by decide), ?_⟩⟩, fun q22 => ⟨vp_in_nI hs (by decide), ?_⟩⟩, fun q28 => ?_⟩, fun z => absurd z (by decide)⟩
    · rw [if_pos q28, if_pos q22, if_pos q16] at hQ
      exact ⟨fun z => by rw [bI_f z] at hQ; exact hQ, fun z => by rw [bI_t z] at hQ; exact hQ⟩
    · rw [if_pos q28, if_pos q22, if_neg q16] at hQ
      rw [e_isIn, isB_bI, nI_clamp (by omega), r2]
      exact ⟨trivial, hQ⟩
    · rw [if_pos q28, if_neg q22] at hQ
      rw [e_isIn, isB_bI, nI_clamp (by omega), r3]
      exact ⟨trivial, hQ⟩
    · rw [if_neg q28, bI_f (fun h => h)] at hQ
      exact hQ
  · rw [if_pos q, bI_t trivial] at hQ
    exact hQ
theorem e_isOfN {Mx : Mem} {c : Int32} {Q : Int32 → Mem → Prop} (hQ : Q (bI (pmN c)) Mx) : wX9_isOf (-9) c Mx Q := by
  unfold wX9_isOf
  refine ⟨fun q => ?_, fun q => ?_⟩
  · rw [e_b16, bI_f n9v]
    refine ⟨fun z => absurd rfl z, fun _ => ⟨fun z => ?_, fun z => ?_⟩⟩
    · rw [bI_f (fun h => h.elim q z)] at hQ; exact hQ
    · rw [bI_t (show pmN c from Or.inr z)] at hQ; exact hQ
  · rw [bI_t (show pmN c from Or.inl q)] at hQ; exact hQ
theorem m_isOf {M Mx : Mem} (h1 : I1 M) {s : Nat} {c m : Int32} {Q : Int32 → Mem → Prop} (hs : s < 16) (hr : tRel c m) (r5 : Mx 195 = M 195) (r6 : Mx 196 = M 196) (hQ : Q (bI (pmS M c s)) Mx) : wX11_isOf (nI s) m Mx Q := by
  unfold wX11_isOf
  unfold pmS at hQ
  rcases hr with ⟨x, hx, rfl, rfl⟩ | ⟨f, hf, rfl, rfl⟩ | ⟨f, hf, rfl, rfl⟩
  · rw [if_neg (show ¬ nI x = 29 from fun h => by have := (nI_eq (b := 29) (by omega) (by decide)).mp h; omega), if_pos (show nI x < 28 from nI_lt (b := 28) (by omega) (by decide)), if_pos (show nI x < 22 from nI_lt (b := 22) (by omega) (by decide)), if_pos (show nI x < 16 from nI_lt (b := 16) (by omega) (by decide))] at hQ
    refine ⟨fun z => absurd z (nI_ge (b := 16) hx (by decide)), fun _ => ⟨fun z => ?_, fun z => ?_⟩⟩
    · rw [bI_f z] at hQ; exact hQ
    · rw [bI_t z] at hQ; exact hQ
  · rw [if_neg (show ¬ nI (16 + f) = 29 from fun h => by have := (nI_eq (b := 29) (by omega) (by decide)).mp h; omega), if_pos (show nI (16 + f) < 28 from nI_lt (b := 28) (by omega) (by decide)), if_pos (show nI (16 + f) < 22 from nI_lt (b := 22) (by omega) (by decide)), if_neg (show ¬ nI (16 + f) < 16 from nI_nlt (b := 16) (by omega) (by omega))] at hQ
    refine ⟨fun _ => ⟨fun z => absurd z (nI_ge (b := 24) (by omega) (by decide)), fun _ => ⟨vp_in_nI hs (by decide), ?_⟩⟩, fun z => absurd (nI_le (a := 16) (by omega) (by omega)) z⟩
    rw [e_has, isB_bI, nI_clamp (by omega), r5, (h1 s hs).1]
    exact ⟨trivial, hQ⟩
  · rw [if_neg (show ¬ nI (22 + f) = 29 from fun h => by have := (nI_eq (b := 29) (by omega) (by decide)).mp h; omega), if_pos (show nI (22 + f) < 28 from nI_lt (b := 28) (by omega) (by decide)), if_neg (show ¬ nI (22 + f) < 22 from nI_nlt (b := 22) (by omega) (by omega))] at hQ
    refine ⟨fun _ => ⟨fun z => ⟨vp_in_nI hs (by decide), ?_⟩, fun z => absurd (nI_le (a := 24) (by omega) (by omega)) z⟩, fun z => absurd (nI_le (a := 16) (by omega) (by omega)) z⟩
    have e1 : nI (24 + f) - 24 = nI f := by rw [show (24 : Int32) = nI 24 by decide, pk_sub (by omega)]; congr 1; omega
    have e2 : nI (22 + f) - 22 = nI f := by rw [show (22 : Int32) = nI 22 by decide, pk_sub (by omega)]; congr 1; omega
    rw [e_has, isB_bI, nI_clamp (by omega), r6, (h1 s hs).2.1, e1]
    rw [e2] at hQ
    exact ⟨trivial, hQ⟩
theorem t_40 {c m : Int32} (h : tRel c m) : ¬ m = 40 ∧ ¬ m = 41 ∧ ¬ c = 29 ∧ ¬ c = 28 := by
  have k : ∀ x y, x < 40 → y < 40 → y ≠ x → ¬ nI x = nI y := fun x y hx hy h q => h ((nI_eq (by omega) (by omega)).mp q).symm
  have k2 : ∀ x, x < 40 → ¬ nI x = 40 := fun x hx q => by have := (nI_eq (b := 40) (by omega) (by decide)).mp q; omega
  have k3 : ∀ x, x < 40 → ¬ nI x = 41 := fun x hx q => by have := (nI_eq (b := 41) (by omega) (by decide)).mp q; omega
  rcases h with ⟨x, hx, rfl, rfl⟩ | ⟨f, hf, rfl, rfl⟩ | ⟨f, hf, rfl, rfl⟩
  · exact ⟨k2 _ (by omega), k3 _ (by omega), k _ 29 (by omega) (by omega) (by omega), k _ 28 (by omega) (by omega) (by omega)⟩
  · exact ⟨k2 _ (by omega), k3 _ (by omega), k _ 29 (by omega) (by omega) (by omega), k _ 28 (by omega) (by omega) (by omega)⟩
  · exact ⟨k2 _ (by omega), k3 _ (by omega), k _ 29 (by omega) (by omega) (by omega), k _ 28 (by omega) (by omega) (by omega)⟩
theorem m_holdsS {M Mx : Mem} (h1 : I1 M) {s : Nat} {c m : Int32} {Q : Int32 → Mem → Prop} (hs : s < 16) (hr : sRel c m) (r5 : Mx 195 = M 195) (r6 : Mx 196 = M 196) (hQ : Q (bI (pmS M c s)) Mx) : wX11_holds (nI s) m Mx Q := by
  unfold wX11_holds
  have n9 := n9 (n := s) (by omega)
  rcases hr with h | ⟨rfl, rfl⟩ | ⟨rfl, rfl⟩
  · obtain ⟨a, b, -⟩ := t_40 h
    refine ⟨fun _ => ?_, fun z => absurd z a⟩
    unfold jn0
    refine ⟨fun z => absurd z b, fun _ => ⟨fun _ => m_isOf h1 hs h r5 r6 ⟨by rw [isB_bI]; trivial, hQ⟩, fun z => absurd z n9⟩⟩
  · have : ¬ pmS M 28 s := by unfold pmS; rw [if_neg (by decide), if_neg (by decide)]; exact fun h => h
    rw [bI_f this] at hQ
    refine ⟨fun _ => ?_, fun z => absurd z (by decide)⟩
    unfold jn0
    exact ⟨fun _ => ⟨fun z => absurd rfl z, fun _ => ⟨fun _ => hQ, fun z => absurd z n9⟩⟩, fun z => absurd rfl z⟩
  · have : pmS M 29 s := by unfold pmS; rw [if_pos rfl]; trivial
    rw [bI_t this] at hQ
    exact ⟨fun z => absurd rfl z, fun _ => hQ⟩
theorem m_holdsN {Mx : Mem} {c m : Int32} {Q : Int32 → Mem → Prop} (hr : sRel c m) (hQ : Q (bI (pmN c)) Mx) : wX11_holds (-9) m Mx Q := by
  unfold wX11_holds
  rcases hr with h | ⟨rfl, rfl⟩ | ⟨rfl, rfl⟩
  · obtain ⟨a, b, c1, c2⟩ := t_40 h
    rw [bI_f (fun h => h.elim c1 c2)] at hQ
    refine ⟨fun _ => ?_, fun z => absurd z a⟩
    unfold jn0
    exact ⟨fun z => absurd z b, fun _ => ⟨fun z => absurd rfl z, fun _ => ⟨fun _ => hQ, fun z => absurd z b⟩⟩⟩
  · rw [bI_t (show pmN 28 from Or.inr rfl)] at hQ
    refine ⟨fun _ => ?_, fun z => absurd z (by decide)⟩
    unfold jn0
    exact ⟨fun _ => ⟨fun z => absurd rfl z, fun _ => ⟨fun z => absurd rfl z, fun _ => hQ⟩⟩, fun z => absurd rfl z⟩
  · rw [bI_t (show pmN 29 from Or.inl rfl)] at hQ
    exact ⟨fun z => absurd rfl z, fun _ => hQ⟩
