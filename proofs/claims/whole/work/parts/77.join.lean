/-! what is joined to a place -/
def Rc (E : Nat → Nat → Prop) (p r : Nat) : Prop := ∀ S : Nat → Prop, S p → (∀ a b, S a → E a b → S b) → S r
theorem Rc.rfl' {E : Nat → Nat → Prop} {p : Nat} : Rc E p p := fun _ h _ => h
theorem Rc.stp {E : Nat → Nat → Prop} {p a b : Nat} (h : Rc E p a) (e : E a b) : Rc E p b := fun S h1 h2 => h2 a b (h S h1 h2) e
theorem Rc.tr {E : Nat → Nat → Prop} {p q r : Nat} (h : Rc E p q) (h2 : Rc E q r) : Rc E p r := h2 (fun x => Rc E p x) h (fun _ _ ha he => ha.stp he)
theorem Rc.sy {E : Nat → Nat → Prop} (hs : ∀ a b, E a b → E b a) {p q : Nat} (h : Rc E p q) : Rc E q p := h (fun x => Rc E x p) Rc.rfl' (fun a b ha he => (Rc.rfl'.stp (hs a b he)).tr ha)
def LR (E : Nat → Nat → Prop) (p t : Nat) : Prop := Rc E p t ∧ ∀ r, Rc E p r → t ≤ r
theorem LR.un {E : Nat → Nat → Prop} {p t t' : Nat} (h : LR E p t) (h' : LR E p t') : t = t' := Nat.le_antisymm (h.2 _ h'.1) (h'.2 _ h.1)
/-! the class: sets that grow -/
def stpJ (A : Nat → Nat) (mem q J : Nat) : Nat := if J.testBit q = true then J ||| (A q &&& mem) else J
def inn (A : Nat → Nat) (mem J : Nat) : Nat → Nat
  | 0 => J
  | q + 1 => stpJ A mem q (inn A mem J q)
def rds (A : Nat → Nat) (mem J : Nat) : Nat → Nat
  | 0 => J
  | k + 1 => inn A mem (rds A mem J k) 8
def sbS (J K : Nat) : Prop := ∀ i, J.testBit i = true → K.testBit i = true
theorem stp_s {A : Nat → Nat} {mem q J : Nat} : sbS J (stpJ A mem q J) := fun i h => by
  unfold stpJ
  split
  · rw [Nat.testBit_or, h]; rfl
  · exact h
theorem inn_s {A : Nat → Nat} {mem J q : Nat} : ∀ d, sbS (inn A mem J q) (inn A mem J (q + d)) := by
  intro d
  induction d with
  | zero => exact fun _ h => h
  | succ d ih => exact fun i h => stp_s i (ih i h)
theorem stp_lt {A : Nat → Nat} {mem q J : Nat} (hm : mem < 256) (hJ : J < 256) : stpJ A mem q J < 256 := by
  unfold stpJ
  split
  · exact Nat.or_lt_two_pow (n := 8) hJ (Nat.lt_of_le_of_lt Nat.and_le_right hm)
  · exact hJ
theorem inn_lt {A : Nat → Nat} {mem J : Nat} (hm : mem < 256) (hJ : J < 256) : ∀ q, inn A mem J q < 256 := by
  intro q
  induction q with
  | zero => exact hJ
  | succ q ih => exact stp_lt hm ih
theorem rds_lt {A : Nat → Nat} {mem J : Nat} (hm : mem < 256) (hJ : J < 256) : ∀ k, rds A mem J k < 256 := by
  intro k
  induction k with
  | zero => exact hJ
  | succ k ih => exact inn_lt hm ih 8
theorem bct_s {J K : Nat} (h : sbS J K) : ∀ n, bct J n ≤ bct K n ∧ (bct J n = bct K n → ∀ i, i < n → J.testBit i = K.testBit i) := by
  intro n
  induction n with
  | zero => exact ⟨Nat.le_refl _, fun _ i hi => absurd hi (Nat.not_lt_zero _)⟩
  | succ n ih =>
    have b : (J.testBit n).toNat ≤ (K.testBit n).toNat := by
      cases hj : J.testBit n
      · exact Nat.zero_le _
      · rw [h n hj]; exact Nat.le_refl _
    rw [bct, bct]
    refine ⟨by omega, fun e i hi => ?_⟩
    by_cases w : i = n
    · rw [w]
      have e2 : (J.testBit n).toNat = (K.testBit n).toNat := by omega
      revert e2
      cases J.testBit n <;> cases K.testBit n <;> decide
    · exact ih.2 (by omega) i (by omega)
theorem sb_eq {J K : Nat} (h : sbS J K) (hJ : J < 256) (hK : K < 256) (e : bct J 8 = bct K 8) : J = K := by
  apply Nat.eq_of_testBit_eq
  intro i
  rcases Nat.lt_or_ge i 8 with q | q
  · exact (bct_s h 8).2 e i q
  · rw [Nat.testBit_lt_two_pow (Nat.lt_of_lt_of_le hJ (Nat.pow_le_pow_right (n := 2) (j := i) (by decide) q)), Nat.testBit_lt_two_pow (Nat.lt_of_lt_of_le hK (Nat.pow_le_pow_right (n := 2) (j := i) (by decide) q))]
theorem p2c : ∀ p, p < 8 → bct (2 ^ p) 8 = 1 ∧ 2 ^ p < 256 := by decide
theorem rds_f {A : Nat → Nat} {mem p : Nat} (hm : mem < 256) (hp : p < 8) : ∀ k, inn A mem (rds A mem (2 ^ p) k) 8 = rds A mem (2 ^ p) k ∨ k + 1 ≤ bct (rds A mem (2 ^ p) k) 8 := by
  have h2 := p2c p hp
  intro k
  induction k with
  | zero => exact Or.inr (by rw [rds]; omega)
  | succ k ih =>
    rcases ih with q | q
    · left
      rw [rds, q, q]
    · have s : sbS (rds A mem (2 ^ p) k) (rds A mem (2 ^ p) (k + 1)) := inn_s (q := 0) 8
      by_cases w : inn A mem (rds A mem (2 ^ p) k) 8 = rds A mem (2 ^ p) k
      · left
        rw [rds, w, w]
      · right
        have b := bct_s s 8
        have : ¬ bct (rds A mem (2 ^ p) k) 8 = bct (rds A mem (2 ^ p) (k + 1)) 8 := fun e => w (sb_eq s (rds_lt hm h2.2 k) (rds_lt hm h2.2 (k + 1)) e).symm
        omega
section CLO
variable {A : Nat → Nat} {mem p : Nat}
def jnd (A : Nat → Nat) (mem p : Nat) : Nat := rds A mem (2 ^ p) 8
theorem jnd_fix (hm : mem < 256) (hp : p < 8) : inn A mem (jnd A mem p) 8 = jnd A mem p := by
  rcases rds_f (A := A) hm hp 8 with q | q
  · exact q
  · have := bct_le (s := rds A mem (2 ^ p) 8) 8
    omega
theorem jnd_lt (hm : mem < 256) (hp : p < 8) : jnd A mem p < 256 := rds_lt hm (p2c p hp).2 8
theorem jnd_cl (hm : mem < 256) (hp : p < 8) {q r : Nat} (hq : q < 8) (h : (jnd A mem p).testBit q = true) (hr : (A q).testBit r = true) (hr2 : mem.testBit r = true) : (jnd A mem p).testBit r = true := by
  have fx := jnd_fix (A := A) hm hp
  have s1 : sbS (jnd A mem p) (inn A mem (jnd A mem p) q) := by
    have := inn_s (A := A) (mem := mem) (J := jnd A mem p) (q := 0) q
    rw [Nat.zero_add] at this
    exact this
  have s2 : sbS (inn A mem (jnd A mem p) (q + 1)) (jnd A mem p) := by
    have := inn_s (A := A) (mem := mem) (J := jnd A mem p) (q := q + 1) (8 - (q + 1))
    rw [show q + 1 + (8 - (q + 1)) = 8 by omega, fx] at this
    exact this
  apply s2
  rw [inn]
  unfold stpJ
  rw [if_pos (s1 q h), Nat.testBit_or, Nat.testBit_and, hr, hr2, Bool.and_self, Bool.or_true]
theorem jnd_in {E : Nat → Nat → Prop} (hp : mem.testBit p = true) (hE : ∀ x y, mem.testBit x = true → mem.testBit y = true → (A x).testBit y = true → E x y) : ∀ r, (jnd A mem p).testBit r = true → Rc E p r ∧ mem.testBit r = true := by
  have st : ∀ J q, (∀ r, J.testBit r = true → Rc E p r ∧ mem.testBit r = true) → ∀ r, (stpJ A mem q J).testBit r = true → Rc E p r ∧ mem.testBit r = true := fun J q h r hr => by
    unfold stpJ at hr
    by_cases w : J.testBit q = true
    · rw [if_pos w, Nat.testBit_or, Bool.or_eq_true, Nat.testBit_and, Bool.and_eq_true] at hr
      rcases hr with hr | ⟨hr, hr2⟩
      · exact h r hr
      · exact ⟨(h q w).1.stp (hE q r (h q w).2 hr2 hr), hr2⟩
    · rw [if_neg w] at hr
      exact h r hr
  have si : ∀ J, (∀ r, J.testBit r = true → Rc E p r ∧ mem.testBit r = true) → ∀ q r, (inn A mem J q).testBit r = true → Rc E p r ∧ mem.testBit r = true := fun J h q => by
    induction q with
    | zero => exact h
    | succ q ih => exact st _ q ih
  have sr : ∀ k r, (rds A mem (2 ^ p) k).testBit r = true → Rc E p r ∧ mem.testBit r = true := fun k => by
    induction k with
    | zero =>
      intro r hr
      rw [rds, Nat.testBit_two_pow, decide_eq_true_eq] at hr
      rw [← hr]
      exact ⟨Rc.rfl', hp⟩
    | succ k ih => exact si _ ih 8
  exact sr 8
theorem jnd_p : (jnd A mem p).testBit p = true := by
  have : ∀ k, (rds A mem (2 ^ p) k).testBit p = true := fun k => by
    induction k with
    | zero => rw [rds, Nat.testBit_two_pow]; exact decide_eq_true rfl
    | succ k ih =>
      have := inn_s (A := A) (mem := mem) (J := rds A mem (2 ^ p) k) (q := 0) 8
      rw [Nat.zero_add] at this
      exact this p ih
  exact this 8
end CLO
def tz (z : Nat) : Nat := if z.testBit 0 = true then 0 else if z.testBit 1 = true then 1 else if z.testBit 2 = true then 2 else if z.testBit 3 = true then 3 else if z.testBit 4 = true then 4 else if z.testBit 5 = true then 5 else if z.testBit 6 = true then 6 else 7
theorem tz_ok : ∀ z, z < 256 → ¬ z = 0 → tz z < 8 ∧ z.testBit (tz z) = true ∧ ∀ i, i < tz z → z.testBit i = false := by decide +kernel
def us (x c : Int32) : Int32 := (Int32.toUInt32 x >>> (Int32.toUInt32 c &&& Int32.toUInt32 31)).toInt32
def g1Z (x n : Int32) : Int32 := n + us x 1
def g2Z (x n : Int32) : Int32 := if x ≤ 4 then g1Z x n else g1Z (us x 2) (n + 2)
def g3Z (x n : Int32) : Int32 := if x ≤ 16 then g2Z x n else g2Z (us x 4) (n + 4)
def g4Z (x n : Int32) : Int32 := if x ≤ 256 then g3Z x n else g3Z (us x 8) (n + 8)
def g5Z (x : Int32) : Int32 := if x ≤ 65536 then g4Z x 1 else g4Z (us x 16) (1 + 16)
def ntzF (a : Int32) : Int32 := if 0 < ((a ^^^ (-1)) &&& (a - 1)) then g5Z ((a ^^^ (-1)) &&& (a - 1)) else ((a ^^^ (-1)) &&& (a - 1)) &&& 32
theorem ntz_all : ∀ z, z < 256 → ¬ z = 0 → ntzF (nI z) = nI (tz z) := by decide +kernel
theorem jn2_i {A B0 : Type} {J : A → B0 → Mem → Prop} {B : (A → B0 → Mem → Prop) → Prop} (P : A → B0 → Mem → Prop) (h1 : ∀ x y M, P x y M → J x y M) (h2 : ∀ J' : A → B0 → Mem → Prop, (∀ x y M, P x y M → J' x y M) → B J') : jn2 J B := h2 J h1
theorem e_ntzF {a : Int32} {M : Mem} {Q : Int32 → Mem → Prop} (hQ : Q (ntzF a) M) : wJ6_numberOfTrailingZeros_0f7a4 a M Q := by
  unfold wJ6_numberOfTrailingZeros_0f7a4
  unfold ntzF at hQ
  refine ⟨fun c => ?_, fun c => by rw [if_neg c] at hQ; exact hQ⟩
  rw [if_pos c] at hQ
  unfold g5Z at hQ
  refine jn2_i (fun x y M' => Q (g4Z x y) M') (fun x y M4 h4 => ?_) (fun J hJ => ⟨fun w => hJ _ _ _ (by rw [if_pos w] at hQ; exact hQ), fun w t ht => hJ _ _ _ (by rw [if_neg w] at hQ; rw [ht]; exact hQ)⟩)
  unfold g4Z at h4
  refine jn2_i (fun x y M' => Q (g3Z x y) M') (fun x y M3 h3 => ?_) (fun J hJ => ⟨fun w => hJ _ _ _ (by rw [if_pos w] at h4; exact h4), fun w t ht => hJ _ _ _ (by rw [if_neg w] at h4; rw [ht]; exact h4)⟩)
  unfold g3Z at h3
  refine jn2_i (fun x y M' => Q (g2Z x y) M') (fun x y M2 h2 => ?_) (fun J hJ => ⟨fun w => hJ _ _ _ (by rw [if_pos w] at h3; exact h3), fun w t ht => hJ _ _ _ (by rw [if_neg w] at h3; rw [ht]; exact h3)⟩)
  unfold g2Z at h2
  exact jn2_i (fun x y M' => Q (g1Z x y) M') (fun x y M1 h1 => h1) (fun J hJ => ⟨fun w => hJ _ _ _ (by rw [if_pos w] at h2; exact h2), fun w t ht => hJ _ _ _ (by rw [if_neg w] at h2; rw [ht]; exact h2)⟩)
theorem e_ntz {z : Nat} {M : Mem} {Q : Int32 → Mem → Prop} (hz : z < 256) (h0 : ¬ z = 0) (hQ : Q (nI (tz z)) M) : wJ6_numberOfTrailingZeros_0f7a4 (nI z) M Q := e_ntzF (by rw [ntz_all z hz h0]; exact hQ)
theorem e_leastJ {Mx : Mem} {A : Nat → Nat} {mem p t : Nat} {Q : Int32 → Mem → Prop} (ht : kd t = 20) (htl : ln t = 8) (hm : mem < 256) (hp : p < 8) (hA : ∀ q, q < 8 → Mx t q = nI (A q)) (hQ : Q (nI (tz (jnd A mem p))) Mx) : wX10_leastJoined (nI mem) t (nI p) Mx Q := by
  have h2 := p2c p hp
  unfold wX10_leastJoined
  rw [sh8 p hp, htl]
  refine ⟨ht, 8 + 1, lq2_ind (fun d x y M' => M' = Mx ∧ d ≤ 8 ∧ x = nI (rds A mem (2 ^ p) (8 - d)) ∧ y = nI (8 - d)) ?_ ?_ 8 _ _ Mx ⟨rfl, by omega, rfl, rfl⟩⟩
  · rintro R x y Mx ⟨rfl, -, rfl, rfl⟩
    refine ⟨fun _ => e_ntz (jnd_lt hm hp) (fun e => ?_) hQ, fun z => absurd (by decide) z⟩
    have e : jnd A mem p = 0 := e
    have := jnd_p (A := A) (mem := mem) (p := p)
    rw [e, Nat.zero_testBit] at this
    exact absurd this (by decide)
  · rintro d R x y Mx ⟨rfl, hd, rfl, rfl⟩ hR
    obtain ⟨k, hk⟩ : ∃ k, k = 8 - (d + 1) := ⟨_, rfl⟩
    rw [← hk]
    have e1 : 8 - d = k + 1 := by omega
    have rl := rds_lt (A := A) hm h2.2 k
    refine ⟨fun z => absurd z (nI_ge (b := 8) (by omega) (by decide)), fun _ => ?_⟩
    refine ⟨8 + 1, lq2_ind (fun d x y M' => M' = Mx ∧ d ≤ 8 ∧ x = nI (inn A mem (rds A mem (2 ^ p) k) (8 - d)) ∧ y = nI (8 - d)) ?_ ?_ 8 _ _ Mx ⟨rfl, by omega, rfl, rfl⟩⟩
    · rintro R2 x y Mx ⟨rfl, -, rfl, rfl⟩
      exact ⟨fun _ => hR _ _ _ ⟨rfl, by omega, by rw [e1]; rfl, by rw [nI_1, e1]⟩, fun z => absurd (by decide) z⟩
    · rintro d2 R2 x y Mx ⟨rfl, hd2, rfl, rfl⟩ hR2
      obtain ⟨q, hq⟩ : ∃ q, q = 8 - (d2 + 1) := ⟨_, rfl⟩
      rw [← hq]
      have e2 : 8 - d2 = q + 1 := by omega
      have il := inn_lt (A := A) hm rl q
      rw [e_isIn, hb_nI (by omega) (by omega), nI_clamp (n := q) (by omega), hA q (by omega), nI_and, nI_or, bI_0]
      refine ⟨fun z => absurd z (nI_ge (b := 8) (by omega) (by decide)), fun _ => ⟨fun z => hR2 _ _ _ ⟨rfl, by omega, ?_, by rw [nI_1, e2]⟩, fun z => ⟨vp_in_nI (by omega) (by decide), hR2 _ _ _ ⟨rfl, by omega, ?_, by rw [nI_1, e2]⟩⟩⟩⟩
      · rw [e2, inn, stpJ, if_neg z]
      · rw [e2, inn, stpJ, if_pos (Classical.not_not.mp z)]
/-- the class's least joined place is the least that is reached -/
theorem jnd_LR {A : Nat → Nat} {mem p : Nat} {E : Nat → Nat → Prop} (hm : mem < 256) (hp8 : p < 8) (hp : mem.testBit p = true) (hE : ∀ x y, E x y ↔ (mem.testBit x = true ∧ mem.testBit y = true ∧ (A x).testBit y = true)) : LR E p (tz (jnd A mem p)) := by
  have nz : ¬ jnd A mem p = 0 := fun e => by
    have := jnd_p (A := A) (mem := mem) (p := p)
    rw [e, Nat.zero_testBit] at this
    exact absurd this (by decide)
  obtain ⟨t1, t2, t3⟩ := tz_ok _ (jnd_lt (A := A) hm hp8) nz
  have m8 : ∀ x, mem.testBit x = true → x < 8 := fun x hx => by
    rcases Nat.lt_or_ge x 8 with q | q
    · exact q
    · rw [Nat.testBit_lt_two_pow (Nat.lt_of_lt_of_le hm (Nat.pow_le_pow_right (n := 2) (j := x) (by decide) q))] at hx
      exact absurd hx (by decide)
  refine ⟨(jnd_in hp (fun x y h1 h2 h3 => (hE x y).mpr ⟨h1, h2, h3⟩) _ t2).1, fun r hr => ?_⟩
  have := hr (fun x => (jnd A mem p).testBit x = true) jnd_p (fun a b ha he => by
    obtain ⟨e1, e2, e3⟩ := (hE a b).mp he
    exact jnd_cl hm hp8 (m8 a e1) ha e3 e2)
  rcases Nat.lt_or_ge r (tz (jnd A mem p)) with q | q
  · have h3 := t3 r q
    have this : (jnd A mem p).testBit r = true := this
    rw [h3] at this
    exact absurd this (by decide)
  · exact q
