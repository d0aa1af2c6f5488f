def lq0 (F : (Mem → Prop) → Mem → Prop) : Nat → Mem → Prop
  | 0, _ => False
  | n + 1, M => F (lq0 F n)  M
theorem lq0_use {F : (Mem → Prop) → Mem → Prop} {P : Mem → Prop} (hs : ∀ (R : Mem → Prop), (∀ (M : Mem), R  M → P  M) → ∀ (M : Mem), F R  M → P  M) : ∀ (n : Nat) (M : Mem), lq0 F n  M → P  M := by
  intro n
  induction n with
  | zero => intro  M h; exact h.elim
  | succ n ih => intro  M h; exact hs _ ih  M h
def jn0 (J : Mem → Prop) (B : (Mem → Prop) → Prop) : Prop := B J
theorem jn0_use {J : Mem → Prop} {B : (Mem → Prop) → Prop} {P : Mem → Prop} {G : Prop} (h1 : ∀ (M : Mem), J  M → P  M) (h2 : ∀ (J' : Mem → Prop), (∀ (M : Mem), J'  M → P  M) → B J' → G) (h : jn0 J B) : G := h2 J h1 h
def lq1 {A0 : Type} (F : (A0 → Mem → Prop) → A0 → Mem → Prop) : Nat → A0 → Mem → Prop
  | 0, _, _ => False
  | n + 1, x0, M => F (lq1 F n) x0 M
theorem lq1_use {A0 : Type} {F : (A0 → Mem → Prop) → A0 → Mem → Prop} {P : A0 → Mem → Prop} (hs : ∀ (R : A0 → Mem → Prop), (∀ (x0 : A0) (M : Mem), R x0 M → P x0 M) → ∀ (x0 : A0) (M : Mem), F R x0 M → P x0 M) : ∀ (n : Nat) (x0 : A0) (M : Mem), lq1 F n x0 M → P x0 M := by
  intro n
  induction n with
  | zero => intro x0 M h; exact h.elim
  | succ n ih => intro x0 M h; exact hs _ ih _ M h
def jn1 {A0 : Type} (J : A0 → Mem → Prop) (B : (A0 → Mem → Prop) → Prop) : Prop := B J
theorem jn1_use {A0 : Type} {J : A0 → Mem → Prop} {B : (A0 → Mem → Prop) → Prop} {P : A0 → Mem → Prop} {G : Prop} (h1 : ∀ (x0 : A0) (M : Mem), J x0 M → P x0 M) (h2 : ∀ (J' : A0 → Mem → Prop), (∀ (x0 : A0) (M : Mem), J' x0 M → P x0 M) → B J' → G) (h : jn1 J B) : G := h2 J h1 h
def lq2 {A0 A1 : Type} (F : (A0 → A1 → Mem → Prop) → A0 → A1 → Mem → Prop) : Nat → A0 → A1 → Mem → Prop
  | 0, _, _, _ => False
  | n + 1, x0, x1, M => F (lq2 F n) x0 x1 M
theorem lq2_use {A0 A1 : Type} {F : (A0 → A1 → Mem → Prop) → A0 → A1 → Mem → Prop} {P : A0 → A1 → Mem → Prop} (hs : ∀ (R : A0 → A1 → Mem → Prop), (∀ (x0 : A0) (x1 : A1) (M : Mem), R x0 x1 M → P x0 x1 M) → ∀ (x0 : A0) (x1 : A1) (M : Mem), F R x0 x1 M → P x0 x1 M) : ∀ (n : Nat) (x0 : A0) (x1 : A1) (M : Mem), lq2 F n x0 x1 M → P x0 x1 M := by
  intro n
  induction n with
  | zero => intro x0 x1 M h; exact h.elim
  | succ n ih => intro x0 x1 M h; exact hs _ ih _ _ M h
def jn2 {A0 A1 : Type} (J : A0 → A1 → Mem → Prop) (B : (A0 → A1 → Mem → Prop) → Prop) : Prop := B J
theorem jn2_use {A0 A1 : Type} {J : A0 → A1 → Mem → Prop} {B : (A0 → A1 → Mem → Prop) → Prop} {P : A0 → A1 → Mem → Prop} {G : Prop} (h1 : ∀ (x0 : A0) (x1 : A1) (M : Mem), J x0 x1 M → P x0 x1 M) (h2 : ∀ (J' : A0 → A1 → Mem → Prop), (∀ (x0 : A0) (x1 : A1) (M : Mem), J' x0 x1 M → P x0 x1 M) → B J' → G) (h : jn2 J B) : G := h2 J h1 h
def lq3 {A0 A1 A2 : Type} (F : (A0 → A1 → A2 → Mem → Prop) → A0 → A1 → A2 → Mem → Prop) : Nat → A0 → A1 → A2 → Mem → Prop
  | 0, _, _, _, _ => False
  | n + 1, x0, x1, x2, M => F (lq3 F n) x0 x1 x2 M
theorem lq3_use {A0 A1 A2 : Type} {F : (A0 → A1 → A2 → Mem → Prop) → A0 → A1 → A2 → Mem → Prop} {P : A0 → A1 → A2 → Mem → Prop} (hs : ∀ (R : A0 → A1 → A2 → Mem → Prop), (∀ (x0 : A0) (x1 : A1) (x2 : A2) (M : Mem), R x0 x1 x2 M → P x0 x1 x2 M) → ∀ (x0 : A0) (x1 : A1) (x2 : A2) (M : Mem), F R x0 x1 x2 M → P x0 x1 x2 M) : ∀ (n : Nat) (x0 : A0) (x1 : A1) (x2 : A2) (M : Mem), lq3 F n x0 x1 x2 M → P x0 x1 x2 M := by
  intro n
  induction n with
  | zero => intro x0 x1 x2 M h; exact h.elim
  | succ n ih => intro x0 x1 x2 M h; exact hs _ ih _ _ _ M h
def jn3 {A0 A1 A2 : Type} (J : A0 → A1 → A2 → Mem → Prop) (B : (A0 → A1 → A2 → Mem → Prop) → Prop) : Prop := B J
theorem jn3_use {A0 A1 A2 : Type} {J : A0 → A1 → A2 → Mem → Prop} {B : (A0 → A1 → A2 → Mem → Prop) → Prop} {P : A0 → A1 → A2 → Mem → Prop} {G : Prop} (h1 : ∀ (x0 : A0) (x1 : A1) (x2 : A2) (M : Mem), J x0 x1 x2 M → P x0 x1 x2 M) (h2 : ∀ (J' : A0 → A1 → A2 → Mem → Prop), (∀ (x0 : A0) (x1 : A1) (x2 : A2) (M : Mem), J' x0 x1 x2 M → P x0 x1 x2 M) → B J' → G) (h : jn3 J B) : G := h2 J h1 h
def lq4 {A0 A1 A2 A3 : Type} (F : (A0 → A1 → A2 → A3 → Mem → Prop) → A0 → A1 → A2 → A3 → Mem → Prop) : Nat → A0 → A1 → A2 → A3 → Mem → Prop
  | 0, _, _, _, _, _ => False
  | n + 1, x0, x1, x2, x3, M => F (lq4 F n) x0 x1 x2 x3 M
theorem lq4_use {A0 A1 A2 A3 : Type} {F : (A0 → A1 → A2 → A3 → Mem → Prop) → A0 → A1 → A2 → A3 → Mem → Prop} {P : A0 → A1 → A2 → A3 → Mem → Prop} (hs : ∀ (R : A0 → A1 → A2 → A3 → Mem → Prop), (∀ (x0 : A0) (x1 : A1) (x2 : A2) (x3 : A3) (M : Mem), R x0 x1 x2 x3 M → P x0 x1 x2 x3 M) → ∀ (x0 : A0) (x1 : A1) (x2 : A2) (x3 : A3) (M : Mem), F R x0 x1 x2 x3 M → P x0 x1 x2 x3 M) : ∀ (n : Nat) (x0 : A0) (x1 : A1) (x2 : A2) (x3 : A3) (M : Mem), lq4 F n x0 x1 x2 x3 M → P x0 x1 x2 x3 M := by
  intro n
  induction n with
  | zero => intro x0 x1 x2 x3 M h; exact h.elim
  | succ n ih => intro x0 x1 x2 x3 M h; exact hs _ ih _ _ _ _ M h
def jn4 {A0 A1 A2 A3 : Type} (J : A0 → A1 → A2 → A3 → Mem → Prop) (B : (A0 → A1 → A2 → A3 → Mem → Prop) → Prop) : Prop := B J
theorem jn4_use {A0 A1 A2 A3 : Type} {J : A0 → A1 → A2 → A3 → Mem → Prop} {B : (A0 → A1 → A2 → A3 → Mem → Prop) → Prop} {P : A0 → A1 → A2 → A3 → Mem → Prop} {G : Prop} (h1 : ∀ (x0 : A0) (x1 : A1) (x2 : A2) (x3 : A3) (M : Mem), J x0 x1 x2 x3 M → P x0 x1 x2 x3 M) (h2 : ∀ (J' : A0 → A1 → A2 → A3 → Mem → Prop), (∀ (x0 : A0) (x1 : A1) (x2 : A2) (x3 : A3) (M : Mem), J' x0 x1 x2 x3 M → P x0 x1 x2 x3 M) → B J' → G) (h : jn4 J B) : G := h2 J h1 h
def lq5 {A0 A1 A2 A3 A4 : Type} (F : (A0 → A1 → A2 → A3 → A4 → Mem → Prop) → A0 → A1 → A2 → A3 → A4 → Mem → Prop) : Nat → A0 → A1 → A2 → A3 → A4 → Mem → Prop
  | 0, _, _, _, _, _, _ => False
  | n + 1, x0, x1, x2, x3, x4, M => F (lq5 F n) x0 x1 x2 x3 x4 M
theorem lq5_use {A0 A1 A2 A3 A4 : Type} {F : (A0 → A1 → A2 → A3 → A4 → Mem → Prop) → A0 → A1 → A2 → A3 → A4 → Mem → Prop} {P : A0 → A1 → A2 → A3 → A4 → Mem → Prop} (hs : ∀ (R : A0 → A1 → A2 → A3 → A4 → Mem → Prop), (∀ (x0 : A0) (x1 : A1) (x2 : A2) (x3 : A3) (x4 : A4) (M : Mem), R x0 x1 x2 x3 x4 M → P x0 x1 x2 x3 x4 M) → ∀ (x0 : A0) (x1 : A1) (x2 : A2) (x3 : A3) (x4 : A4) (M : Mem), F R x0 x1 x2 x3 x4 M → P x0 x1 x2 x3 x4 M) : ∀ (n : Nat) (x0 : A0) (x1 : A1) (x2 : A2) (x3 : A3) (x4 : A4) (M : Mem), lq5 F n x0 x1 x2 x3 x4 M → P x0 x1 x2 x3 x4 M := by
  intro n
  induction n with
  | zero => intro x0 x1 x2 x3 x4 M h; exact h.elim
  | succ n ih => intro x0 x1 x2 x3 x4 M h; exact hs _ ih _ _ _ _ _ M h
def jn5 {A0 A1 A2 A3 A4 : Type} (J : A0 → A1 → A2 → A3 → A4 → Mem → Prop) (B : (A0 → A1 → A2 → A3 → A4 → Mem → Prop) → Prop) : Prop := B J
theorem jn5_use {A0 A1 A2 A3 A4 : Type} {J : A0 → A1 → A2 → A3 → A4 → Mem → Prop} {B : (A0 → A1 → A2 → A3 → A4 → Mem → Prop) → Prop} {P : A0 → A1 → A2 → A3 → A4 → Mem → Prop} {G : Prop} (h1 : ∀ (x0 : A0) (x1 : A1) (x2 : A2) (x3 : A3) (x4 : A4) (M : Mem), J x0 x1 x2 x3 x4 M → P x0 x1 x2 x3 x4 M) (h2 : ∀ (J' : A0 → A1 → A2 → A3 → A4 → Mem → Prop), (∀ (x0 : A0) (x1 : A1) (x2 : A2) (x3 : A3) (x4 : A4) (M : Mem), J' x0 x1 x2 x3 x4 M → P x0 x1 x2 x3 x4 M) → B J' → G) (h : jn5 J B) : G := h2 J h1 h
def lq6 {A0 A1 A2 A3 A4 A5 : Type} (F : (A0 → A1 → A2 → A3 → A4 → A5 → Mem → Prop) → A0 → A1 → A2 → A3 → A4 → A5 → Mem → Prop) : Nat → A0 → A1 → A2 → A3 → A4 → A5 → Mem → Prop
  | 0, _, _, _, _, _, _, _ => False
  | n + 1, x0, x1, x2, x3, x4, x5, M => F (lq6 F n) x0 x1 x2 x3 x4 x5 M
theorem lq6_use {A0 A1 A2 A3 A4 A5 : Type} {F : (A0 → A1 → A2 → A3 → A4 → A5 → Mem → Prop) → A0 → A1 → A2 → A3 → A4 → A5 → Mem → Prop} {P : A0 → A1 → A2 → A3 → A4 → A5 → Mem → Prop} (hs : ∀ (R : A0 → A1 → A2 → A3 → A4 → A5 → Mem → Prop), (∀ (x0 : A0) (x1 : A1) (x2 : A2) (x3 : A3) (x4 : A4) (x5 : A5) (M : Mem), R x0 x1 x2 x3 x4 x5 M → P x0 x1 x2 x3 x4 x5 M) → ∀ (x0 : A0) (x1 : A1) (x2 : A2) (x3 : A3) (x4 : A4) (x5 : A5) (M : Mem), F R x0 x1 x2 x3 x4 x5 M → P x0 x1 x2 x3 x4 x5 M) : ∀ (n : Nat) (x0 : A0) (x1 : A1) (x2 : A2) (x3 : A3) (x4 : A4) (x5 : A5) (M : Mem), lq6 F n x0 x1 x2 x3 x4 x5 M → P x0 x1 x2 x3 x4 x5 M := by
  intro n
  induction n with
  | zero => intro x0 x1 x2 x3 x4 x5 M h; exact h.elim
  | succ n ih => intro x0 x1 x2 x3 x4 x5 M h; exact hs _ ih _ _ _ _ _ _ M h
def lq7 {A0 A1 A2 A3 A4 A5 A6 : Type} (F : (A0 → A1 → A2 → A3 → A4 → A5 → A6 → Mem → Prop) → A0 → A1 → A2 → A3 → A4 → A5 → A6 → Mem → Prop) : Nat → A0 → A1 → A2 → A3 → A4 → A5 → A6 → Mem → Prop
  | 0, _, _, _, _, _, _, _, _ => False
  | n + 1, x0, x1, x2, x3, x4, x5, x6, M => F (lq7 F n) x0 x1 x2 x3 x4 x5 x6 M
theorem lq7_use {A0 A1 A2 A3 A4 A5 A6 : Type} {F : (A0 → A1 → A2 → A3 → A4 → A5 → A6 → Mem → Prop) → A0 → A1 → A2 → A3 → A4 → A5 → A6 → Mem → Prop} {P : A0 → A1 → A2 → A3 → A4 → A5 → A6 → Mem → Prop} (hs : ∀ (R : A0 → A1 → A2 → A3 → A4 → A5 → A6 → Mem → Prop), (∀ (x0 : A0) (x1 : A1) (x2 : A2) (x3 : A3) (x4 : A4) (x5 : A5) (x6 : A6) (M : Mem), R x0 x1 x2 x3 x4 x5 x6 M → P x0 x1 x2 x3 x4 x5 x6 M) → ∀ (x0 : A0) (x1 : A1) (x2 : A2) (x3 : A3) (x4 : A4) (x5 : A5) (x6 : A6) (M : Mem), F R x0 x1 x2 x3 x4 x5 x6 M → P x0 x1 x2 x3 x4 x5 x6 M) : ∀ (n : Nat) (x0 : A0) (x1 : A1) (x2 : A2) (x3 : A3) (x4 : A4) (x5 : A5) (x6 : A6) (M : Mem), lq7 F n x0 x1 x2 x3 x4 x5 x6 M → P x0 x1 x2 x3 x4 x5 x6 M := by
  intro n
  induction n with
  | zero => intro x0 x1 x2 x3 x4 x5 x6 M h; exact h.elim
  | succ n ih => intro x0 x1 x2 x3 x4 x5 x6 M h; exact hs _ ih _ _ _ _ _ _ _ M h
def lq8 {A0 A1 A2 A3 A4 A5 A6 A7 : Type} (F : (A0 → A1 → A2 → A3 → A4 → A5 → A6 → A7 → Mem → Prop) → A0 → A1 → A2 → A3 → A4 → A5 → A6 → A7 → Mem → Prop) : Nat → A0 → A1 → A2 → A3 → A4 → A5 → A6 → A7 → Mem → Prop
  | 0, _, _, _, _, _, _, _, _, _ => False
  | n + 1, x0, x1, x2, x3, x4, x5, x6, x7, M => F (lq8 F n) x0 x1 x2 x3 x4 x5 x6 x7 M
theorem lq8_use {A0 A1 A2 A3 A4 A5 A6 A7 : Type} {F : (A0 → A1 → A2 → A3 → A4 → A5 → A6 → A7 → Mem → Prop) → A0 → A1 → A2 → A3 → A4 → A5 → A6 → A7 → Mem → Prop} {P : A0 → A1 → A2 → A3 → A4 → A5 → A6 → A7 → Mem → Prop} (hs : ∀ (R : A0 → A1 → A2 → A3 → A4 → A5 → A6 → A7 → Mem → Prop), (∀ (x0 : A0) (x1 : A1) (x2 : A2) (x3 : A3) (x4 : A4) (x5 : A5) (x6 : A6) (x7 : A7) (M : Mem), R x0 x1 x2 x3 x4 x5 x6 x7 M → P x0 x1 x2 x3 x4 x5 x6 x7 M) → ∀ (x0 : A0) (x1 : A1) (x2 : A2) (x3 : A3) (x4 : A4) (x5 : A5) (x6 : A6) (x7 : A7) (M : Mem), F R x0 x1 x2 x3 x4 x5 x6 x7 M → P x0 x1 x2 x3 x4 x5 x6 x7 M) : ∀ (n : Nat) (x0 : A0) (x1 : A1) (x2 : A2) (x3 : A3) (x4 : A4) (x5 : A5) (x6 : A6) (x7 : A7) (M : Mem), lq8 F n x0 x1 x2 x3 x4 x5 x6 x7 M → P x0 x1 x2 x3 x4 x5 x6 x7 M := by
  intro n
  induction n with
  | zero => intro x0 x1 x2 x3 x4 x5 x6 x7 M h; exact h.elim
  | succ n ih => intro x0 x1 x2 x3 x4 x5 x6 x7 M h; exact hs _ ih _ _ _ _ _ _ _ _ M h
def isB (x : Int32) : Prop := x = 0 ∨ x = 1
theorem nb {x : Int32} (h : isB x) : narrow .boolean (.int x) = .int x := by rcases h with rfl | rfl <;> rfl
theorem vp_lt {i : Int32} {n : Nat} (h : vp_in i n) : i.toNatClampNeg < n := Nat.not_le.mp fun q => h (Or.inr q)
def tk : Nat → List Value → List Value
  | 0, _ => []
  | _ + 1, [] => []
  | n + 1, v :: l => v :: tk n l
theorem gL_tk : ∀ (n i : Nat) (L : List Value) (v : Value), gL i (tk n L) = some v → gL i L = some v
  | 0, i, _, _, h => by cases i <;> cases h
  | n + 1, i, [], _, h => by cases i <;> cases h
  | n + 1, 0, v :: l, _, h => h
  | n + 1, i + 1, v :: l, w, h => gL_tk n i l w h
theorem kd_range {e lo hi c : Nat} (h : lo ≤ e ∧ e < hi) (hd : ∀ x, x < hi → lo ≤ x → kd x = c) : kd e = c := hd e h.2 h.1
theorem kd_X7 {e : Nat} (h : 50 ≤ e ∧ e < 100) : kd e = 7 := by unfold kd; rw [if_neg (by omega), if_pos h.2]
theorem kd_X2 {e : Nat} (h : 150 ≤ e ∧ e < 190) : kd e = 2 := by unfold kd; rw [if_neg (by omega), if_neg (by omega), if_neg (by omega), if_pos h.2]
theorem kd_X3 {e : Nat} (h : 32 ≤ e ∧ e < 41) : kd e = 3 := kd_range h (by decide)
theorem kd_X8 {e : Nat} (h : 41 ≤ e ∧ e < 45) : kd e = 8 := kd_range h (by decide)
theorem kd_X1 {e : Nat} (h : 20 ≤ e ∧ e < 23) : kd e = 1 := kd_range h (by decide)
theorem kd_num {e : Nat} (h : 50 ≤ e ∧ e < 100) : kd (e + 50) = 20 := by unfold kd; rw [if_neg (by omega), if_neg (by omega), if_pos (by omega)]
theorem ln_num {e : Nat} (h : 50 ≤ e ∧ e < 100) : ln (e + 50) = 8 := by unfold ln; rw [if_neg (by omega), if_neg (by omega), if_pos (by omega)]
theorem kd_cel {e : Nat} (h : 41 ≤ e ∧ e < 45) : kd (e + 4) = 20 := kd_range (lo := 45) (hi := 49) ⟨by omega, by omega⟩ (by decide)
theorem kd_col0 {e : Nat} (h : 20 ≤ e ∧ e < 23) : kd (e + 3) = 20 := kd_range (lo := 23) (hi := 26) ⟨by omega, by omega⟩ (by decide)
theorem kd_col1 {e : Nat} (h : 20 ≤ e ∧ e < 23) : kd (e + 6) = 20 := kd_range (lo := 26) (hi := 29) ⟨by omega, by omega⟩ (by decide)
theorem kd_col2 {e : Nat} (h : 20 ≤ e ∧ e < 23) : kd (e + 9) = 20 := kd_range (lo := 29) (hi := 32) ⟨by omega, by omega⟩ (by decide)
theorem ln_range {e lo hi c : Nat} (h : lo ≤ e ∧ e < hi) (hd : ∀ x, x < hi → lo ≤ x → ln x = c) : ln e = c := hd e h.2 h.1
theorem ln_cel {e : Nat} (h : 41 ≤ e ∧ e < 45) : ln (e + 4) = 60 := ln_range (lo := 45) (hi := 49) ⟨by omega, by omega⟩ (by decide)
theorem ln_col0 {e : Nat} (h : 20 ≤ e ∧ e < 23) : ln (e + 3) = 30 := ln_range (lo := 23) (hi := 26) ⟨by omega, by omega⟩ (by decide)
theorem ln_col1 {e : Nat} (h : 20 ≤ e ∧ e < 23) : ln (e + 6) = 10 := ln_range (lo := 26) (hi := 29) ⟨by omega, by omega⟩ (by decide)
theorem ln_col2 {e : Nat} (h : 20 ≤ e ∧ e < 23) : ln (e + 9) = 10 := ln_range (lo := 29) (hi := 32) ⟨by omega, by omega⟩ (by decide)
theorem rf_X7 {e : Nat} (h : 50 ≤ e ∧ e < 100) : rf e 0 = e + 50 := by
  unfold rf
  rw [if_neg (by omega), if_neg (by omega), if_neg (by omega), if_neg (by omega), if_neg (by omega), if_neg (by omega), if_neg (by omega), if_neg (by omega), if_neg (by omega), if_pos (by omega)]
theorem rf_X2 {e : Nat} (h : 150 ≤ e ∧ e < 190) : rf e 0 = e - 100 := by
  unfold rf
  rw [if_neg (by omega), if_neg (by omega), if_neg (by omega), if_neg (by omega), if_neg (by omega), if_neg (by omega), if_neg (by omega), if_neg (by omega), if_neg (by omega), if_neg (by omega)]
theorem rf_X8 {e : Nat} (h : 41 ≤ e ∧ e < 45) : rf e 0 = e + 4 := by
  unfold rf
  rw [if_neg (by omega), if_neg (by omega), if_neg (by omega), if_neg (by omega), if_neg (by omega), if_neg (by omega), if_neg (by omega), if_neg (by omega), if_pos (by omega)]
theorem rf_X1 {e k : Nat} (h : 20 ≤ e ∧ e < 23) : rf e k = e + 3 + 3 * k := by
  unfold rf
  rw [if_neg (by omega), if_neg (by omega), if_neg (by omega), if_neg (by omega), if_neg (by omega), if_neg (by omega), if_neg (by omega), if_pos (by omega)]
theorem rf_X1_0 {e : Nat} (h : 20 ≤ e ∧ e < 23) : rf e 0 = e + 3 := rf_X1 h
theorem rf_X1_1 {e : Nat} (h : 20 ≤ e ∧ e < 23) : rf e 1 = e + 6 := rf_X1 h
theorem rf_X1_2 {e : Nat} (h : 20 ≤ e ∧ e < 23) : rf e 2 = e + 9 := rf_X1 h
section NROWS
variable {C : Ctx} {Y : Mi} {pc : Nat} {L st : List Value} {ws : va_W} {ad : Nat → Nat} {M : Mem} {nc ns : Nat}
theorem V_iincC {i : Nat} {n : Int} {x : Int32} (v : Int32) (hd : decode Y.2.1 pc = .ok (.iinc i n, 3)) (hn : i < Y.2.2.1) (hl : gL i L = some (.int x)) (hv : Int32.ofInt n = v) (k : V C Y (pc + 3) (sL i (.int (x + v)) L) st ws nc ns) : V C Y pc L st ws nc ns := V_iinc (x + v) hd hn hl (by rw [hv]) k
theorem V_name {x : Int32} (k : ∀ y, y = x → V C Y pc L (.int y :: st) ws nc ns) : V C Y pc L (.int x :: st) ws nc ns := k x rfl
theorem V_take (n : Nat) (k : V C Y pc (tk n L) st ws nc ns) : V C Y pc L st ws nc ns := V_sub (fun i v h => gL_tk n i L v h) k
theorem V_putN {idx ci fk id : Nat} {ty : FieldType} {v : Int32} (f : FP Y.1.cls idx ci fk ty) (hd : decode Y.2.1 pc = .ok (.putfield idx, 3)) (hk : kd id = ci) (hr : isR ci fk = false) (hn : narrow ty (.int v) = .int v) (hfit : fits ty (.int v) = true) (k : ∀ M1, M1 = mset M id fk v → V C Y (pc + 3) L st (wsM C.1 ad M1) nc ns) : V C Y pc L (.int v :: .ref (ad id) :: st) (wsM C.1 ad M) nc ns := V_putI f hd hk hr hn hfit (k _ rfl)
theorem V_iastN {id : Nat} {i x : Int32} (hd : decode Y.2.1 pc = .ok (.iastore, 1)) (hk : kd id = 20) (hin : vp_in i (ln id)) (k : ∀ M1, M1 = mset M id i.toNatClampNeg x → V C Y (pc + 1) L st (wsM C.1 ad M1) nc ns) : V C Y pc L (.int x :: .int i :: .ref (ad id) :: st) (wsM C.1 ad M) nc ns := V_iastM hd hk hin (k _ rfl)
theorem V_copyN {idx id0 id1 : Nat} {sp dp n : Int32} (lc : LC Y.1.cls idx) (hd : decode Y.2.1 pc = .ok (.invokestatic idx, 3)) (k0 : kd id0 = 20) (k1 : kd id1 = 20) (g1 : ¬ sp < 0) (g2 : ¬ dp < 0) (g3 : ¬ n < 0) (g4 : sp.toNatClampNeg + n.toNatClampNeg ≤ ln id0) (g5 : dp.toNatClampNeg + n.toNatClampNeg ≤ ln id1) (hf : 1 ≤ C.2.2.2.2.frames) (hl : (st.map fun v => v.category).sum + (nativeFrameWords "java/lang/System" "arraycopy" 5 + 11) ≤ C.2.2.2.2.locals)
    (k : ∀ M1, M1 = mcpy M id0 id1 sp.toNatClampNeg dp.toNatClampNeg n.toNatClampNeg → V C Y (pc + 3) L st (wsM C.1 ad M1) nc ns) : V C Y pc L (.int n :: .int dp :: .ref (ad id1) :: .int sp :: .ref (ad id0) :: st) (wsM C.1 ad M) nc ns := V_copyM lc hd k0 k1 g1 g2 g3 g4 g5 hf hl (k _ rfl)
end NROWS
