/-! what ties the class's cells to the reference's, between two calls -/
def cP (M : Mem) : Nat := (M 0 15).toNatClampNeg
def cF (M : Mem) : Nat := (M 0 16).toNatClampNeg
def cL (M : Mem) : Nat := (M 9 4).toNatClampNeg
def I0 (M : Mem) : Prop := (M 0 15 = nI (cP M) ∧ cP M ≤ 8 ∧ M 49 11 = M 0 15) ∧ (M 0 16 = nI (cF M) ∧ cF M ≤ 40 ∧ M 49 13 = M 0 16) ∧ (M 9 4 = nI (cL M) ∧ cL M ≤ 8 ∧ M 49 22 = M 9 4) ∧ (M 49 34 = M 13 2 ∧ 1 ≤ M 13 2 ∧ M 13 2 ≤ 20) ∧ (M 49 44 = M 13 3 ∧ 0 ≤ M 13 3 ∧ M 13 3 ≤ 99) ∧ M 49 1 = M 0 18 ∧ M 49 0 = M 0 19
def I1 (M : Mem) : Prop := ∀ k, k < 16 → M 195 k = M 2 k ∧ M 196 k = M 3 k ∧ (0 ≤ M 2 k ∧ M 2 k ≤ 63) ∧ (0 ≤ M 3 k ∧ M 3 k ≤ 63) ∧ M 2 k &&& M 3 k = 0
def I2 (M : Mem) : Prop := ∀ c, c < 3 → ∃ n : Nat, n ≤ 10 ∧ M (20 + c) 3 = nI n ∧ M 197 c = nI n ∧ ∀ e, e < n → ∃ z : Nat, 1 ≤ z ∧ z ≤ 3 ∧ M (20 + c + 6) e = nI z ∧ M 199 (10 * c + e) = nI z ∧ (∃ s, s < 16 ∧ M (20 + c + 9) e = nI s) ∧ M 198 (10 * c + e) = M (20 + c + 9) e ∧ ∀ k, k < z → M 200 (3 * (10 * c + e) + k) = M (20 + c + 3) (3 * e + k)
def I3 (M : Mem) : Prop := ∃ nb : Nat → Nat, (∀ p, p < 8 → M 5 p = nI (nb p) ∧ nb p < 256 ∧ M 202 p = M 5 p) ∧ ∀ p, p < 8 → ∀ q, q < 8 → (nb p).testBit q = (nb q).testBit p
def I4 (M : Mem) : Prop := ∀ f, f < cF M → (M 204 f = M (150 + f) 1 ∧ 0 ≤ M (150 + f) 1 ∧ M (150 + f) 1 ≤ 2) ∧ (∃ p, p < cP M ∧ M (150 + f) 2 = nI p ∧ M 205 f = nI p) ∧ (∃ m, m < 6 ∧ M (150 + f) 3 = nI m ∧ M 206 f = nI m) ∧ ∃ n : Nat, n ≤ 8 ∧ M (50 + f) 1 = nI n ∧ M 207 f = nI n ∧ ∀ k, k < n → M 208 (8 * f + k) = M (100 + f) k ∧ ∃ s, s < 16 ∧ M (100 + f) k = nI s
def sdL (M : Mem) : Nat → Nat → Nat → Int32
  | 0, _, _ => -9
  | f + 1, p, m => if M 205 f = nI p ∧ M 206 f = nI m then nI f else sdL M f p m
def I5 (M : Mem) : Prop := ∀ p, p < 8 → ∀ m, m < 6 → M 7 (6 * p + m) = sdL M (cF M) p m
def I6 (M : Mem) : Prop := ∃ rb : Nat, rb < 64 ∧ M 0 17 = nI rb ∧ ∀ m, m < 6 → (rb.testBit m = false ∧ M 210 m = -9) ∨ (rb.testBit m = true ∧ ∃ n : Nat, n ≤ 8 ∧ M (90 + m) 1 = nI n ∧ M 210 m = nI n ∧ ∀ k, k < n → M 211 (8 * m + k) = M (140 + m) k ∧ ∃ s, s < 16 ∧ M (140 + m) k = nI s)
def tRel (c m : Int32) : Prop := (∃ s, s < 16 ∧ c = nI s ∧ m = nI s) ∨ (∃ f, f < 6 ∧ c = nI (16 + f) ∧ m = nI (16 + f)) ∨ (∃ f, f < 6 ∧ c = nI (22 + f) ∧ m = nI (24 + f))
def sRel (c m : Int32) : Prop := tRel c m ∨ (c = 28 ∧ m = 41) ∨ (c = 29 ∧ m = 40)
def rRel (c m : Int32) : Prop := (∃ s, s < 16 ∧ c = nI s ∧ m = nI s) ∨ (c = -2 ∧ m = 42)
def I7 (M : Mem) : Prop := ∀ l, l < cL M → (∃ v, v < 2 ^ cP M ∧ M (32 + l) 0 = nI v) ∧ M 213 l = M (32 + l) 0 ∧ tRel (M (32 + l) 1) (M 214 l) ∧ rRel (M (32 + l) 2) (M 215 l) ∧ sRel (M (32 + l) 3) (M 216 l) ∧ sRel (M (32 + l) 4) (M 217 l)
def I8 (M : Mem) : Prop := ∀ s, s < 4 → ((M (41 + s) 1 = 0 ∧ M 192 s = -9) ∨ (M (41 + s) 1 = 1 ∧ M 192 s = M (41 + s) 2 ∧ (M (41 + s) 2 = 0 ∨ M (41 + s) 2 = 1 ∨ M (41 + s) 2 = 2) ∧ ∃ n : Nat, n ≤ 60 ∧ M (41 + s) 3 = nI n ∧ M 193 s = nI n)) ∧ ∀ i, i < 60 → M 194 (60 * s + i) = M (41 + s + 4) i
def Inv (M : Mem) : Prop := I0 M ∧ I1 M ∧ I2 M ∧ I3 M ∧ I4 M ∧ I5 M ∧ I6 M ∧ I7 M ∧ I8 M
