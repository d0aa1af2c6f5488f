/-! how many numbers a set below 65536 has -/
theorem nI_and (a b : Nat) : nI a &&& nI b = nI (a &&& b) := by
  apply Int32.toBitVec_inj.mp
  rw [Int32.toBitVec_and]
  show BitVec.ofNat 32 a &&& BitVec.ofNat 32 b = BitVec.ofNat 32 (a &&& b)
  rw [BitVec.ofNat_and]
theorem nI_or (a b : Nat) : nI a ||| nI b = nI (a ||| b) := by
  apply Int32.toBitVec_inj.mp
  rw [Int32.toBitVec_or]
  show BitVec.ofNat 32 a ||| BitVec.ofNat 32 b = BitVec.ofNat 32 (a ||| b)
  rw [BitVec.ofNat_or]
def u1 (s : Nat) : Nat := s - ((s / 2) &&& 1431655765)
def u2 (t : Nat) : Nat := (t &&& 858993459) + ((t / 4) &&& 858993459)
def u3 (t : Nat) : Nat := (t + t / 16) &&& 252645135
def u4 (t : Nat) : Nat := t + t / 256
def u5 (t : Nat) : Nat := t + t / 65536
def bct (s : Nat) : Nat → Nat
  | 0 => 0
  | i + 1 => bct s i + (s.testBit i).toNat
def v1 (l : Nat) : Nat := l - ((l / 2) &&& 85)
def v2 (t : Nat) : Nat := (t &&& 51) + ((t / 4) &&& 51)
def v3 (t : Nat) : Nat := (t + t / 16) &&& 15
theorem tb8 {a b : Nat} (hb : b < 256) (i : Nat) : (256 * a + b).testBit i = if i < 8 then b.testBit i else a.testBit (i - 8) := Nat.testBit_two_pow_mul_add a (i := 8) hb i
theorem and8 {a b c d : Nat} (hb : b < 256) (hd : d < 256) : (256 * a + b) &&& (256 * c + d) = 256 * (a &&& c) + (b &&& d) := by
  apply Nat.eq_of_testBit_eq
  intro i
  rw [Nat.testBit_and, tb8 hb, tb8 hd, tb8 (Nat.lt_of_le_of_lt Nat.and_le_left hb)]
  split
  · rw [Nat.testBit_and]
  · rw [Nat.testBit_and]
theorem q1 : ∀ h, h < 256 → (h / 2) &&& 5592405 = (h / 2) &&& 85 := by decide +kernel
theorem q2 : ∀ b, b < 2 → ∀ l, l < 256 → (128 * b + l / 2) &&& 85 = (l / 2) &&& 85 := by decide +kernel
theorem q3 : ∀ h, h < 256 → h &&& 3355443 = h &&& 51 ∧ (h / 4) &&& 3355443 = (h / 4) &&& 51 := by decide +kernel
theorem q4 : ∀ b, b < 4 → ∀ l, l < 256 → (64 * b + l / 4) &&& 51 = (l / 4) &&& 51 := by decide +kernel
theorem q5 : ∀ l, l < 256 → v2 (v1 l) ≤ 68 ∧ v2 (v1 l) % 16 ≤ 4 ∧ v3 (v2 (v1 l)) = bct l 8 ∧ bct l 8 ≤ 8 := by decide +kernel
theorem q6 : ∀ h, h < 256 → h &&& 986895 = h &&& 15 := by decide +kernel
theorem q7 : ∀ b, b < 5 → ∀ x, x < 80 → (x + 16 * b) &&& 15 = x &&& 15 := by decide +kernel
theorem v1_le {l : Nat} : v1 l ≤ l := Nat.sub_le _ _
theorem bc_all {h l : Nat} (hh : h < 256) (hl : l < 256) : (u5 (u4 (u3 (u2 (u1 (256 * h + l)))))) &&& 63 = bct (256 * h + l) 16 := by
  have a1 : ∀ l : Nat, (l / 2) &&& 85 ≤ l / 2 := fun l => Nat.and_le_left
  have s1 : u1 (256 * h + l) = 256 * v1 h + v1 l := by
    unfold u1 v1
    rw [show (256 * h + l) / 2 = 256 * (h / 2) + (128 * (h % 2) + l / 2) by omega, show 1431655765 = 256 * 5592405 + 85 by decide, and8 (by omega) (by decide), q1 h hh, q2 _ (by omega) l hl]
    have := a1 h
    have := a1 l
    omega
  have b1 := v1_le (l := h)
  have b2 := v1_le (l := l)
  have s2 : ∀ H Lo, H < 256 → Lo < 256 → u2 (256 * H + Lo) = 256 * v2 H + v2 Lo := fun H Lo h1 h2 => by
    unfold u2 v2
    rw [show (256 * H + Lo) / 4 = 256 * (H / 4) + (64 * (H % 4) + Lo / 4) by omega, show 858993459 = 256 * 3355443 + 51 by decide, and8 (by omega) (by decide), and8 (by omega) (by decide), (q3 H h1).1, (q3 H h1).2, q4 _ (by omega) Lo h2]
    omega
  obtain ⟨c1, c2, c3, c4⟩ := q5 h hh
  obtain ⟨d1, d2, d3, d4⟩ := q5 l hl
  have s3 : u3 (256 * v2 (v1 h) + v2 (v1 l)) = 256 * bct h 8 + bct l 8 := by
    unfold u3
    rw [show 256 * v2 (v1 h) + v2 (v1 l) + (256 * v2 (v1 h) + v2 (v1 l)) / 16 = 256 * (v2 (v1 h) + v2 (v1 h) / 16) + (v2 (v1 l) + v2 (v1 l) / 16 + 16 * (v2 (v1 h) % 16)) by omega, show 252645135 = 256 * 986895 + 15 by decide, and8 (by omega) (by decide), q6 _ (by omega), q7 _ (by omega) _ (by omega)]
    show 256 * v3 (v2 (v1 h)) + v3 (v2 (v1 l)) = _
    rw [c3, d3]
  rw [s1, s2 _ _ (by omega) (by omega), s3]
  unfold u5 u4
  rw [show (63 : Nat) = 2 ^ 6 - 1 by decide, Nat.and_two_pow_sub_one_eq_mod]
  have e : bct (256 * h + l) 16 = bct h 8 + bct l 8 := by
    simp only [bct, tb8 hl]
    simp
    omega
  rw [e]
  clear e s1 s2 s3 c1 c2 c3 d1 d2 d3 a1 b1 b2
  generalize bct h 8 = P at *
  generalize bct l 8 = R at *
  rw [show (256 * P + R) / 256 = P by omega, show (256 * P + R + P) / 65536 = 0 by omega, show 256 * P + R + P + 0 = 64 * (4 * P) + (P + R) by omega, show (2 : Nat) ^ 6 = 64 by decide, Nat.mul_add_mod, Nat.mod_eq_of_lt (by omega)]
theorem e_bc16 {s : Nat} {M : Mem} {Q : Int32 → Mem → Prop} (hs : s < 65536) (hQ : Q (nI (bct s 16)) M) : wJ6_bitCount_0f7a4 (nI s) M Q := by
  have key := bc_all (h := s / 256) (l := s % 256) (by omega) (by omega)
  rw [show 256 * (s / 256) + s % 256 = s by omega] at key
  have sh : ∀ (n : Nat) (k : Nat) (c : Int32), n < 2 ^ 32 → ((c.toUInt32 &&& Int32.toUInt32 31).toBitVec % 32).toNat = k → ((nI n).toUInt32 >>> (c.toUInt32 &&& Int32.toUInt32 31)).toInt32 = nI (n / 2 ^ k) := fun n k c h1 h2 => pk_ushrN h1 c k h2
  have k1 : (s / 2) &&& 1431655765 ≤ s / 2 := Nat.and_le_left
  have l1 : u1 s ≤ s := Nat.sub_le _ _
  have l2 : u2 (u1 s) ≤ 2 * s := by
    unfold u2
    have : u1 s &&& 858993459 ≤ u1 s := Nat.and_le_left
    have : (u1 s / 4) &&& 858993459 ≤ u1 s / 4 := Nat.and_le_left
    omega
  have l3 : u3 (u2 (u1 s)) ≤ 4 * s := by
    have : u3 (u2 (u1 s)) ≤ u2 (u1 s) + u2 (u1 s) / 16 := Nat.and_le_left
    omega
  unfold wJ6_bitCount_0f7a4
  intro t9 h9 t23 h23 t33 h33 t40 h40 t47 h47
  have e9 : t9 = nI (u1 s) := by rw [h9, sh s 1 1 (by omega) (by decide), show (1431655765 : Int32) = nI 1431655765 by decide, nI_and, pk_sub (by show (s / 2 ^ 1) &&& 1431655765 ≤ s; simp only [Nat.pow_one]; omega)]; rfl
  have e23 : t23 = nI (u2 (u1 s)) := by rw [h23, e9, sh _ 2 2 (by omega) (by decide), show (858993459 : Int32) = nI 858993459 by decide, nI_and, nI_and, nI_add]; rfl
  have e33 : t33 = nI (u3 (u2 (u1 s))) := by rw [h33, e23, sh _ 4 4 (by omega) (by decide), show (252645135 : Int32) = nI 252645135 by decide, nI_add, nI_and]; rfl
  have e40 : t40 = nI (u4 (u3 (u2 (u1 s)))) := by rw [h40, e33, sh _ 8 8 (by omega) (by decide), nI_add]; rfl
  have e47 : t47 = nI (u5 (u4 (u3 (u2 (u1 s))))) := by rw [h47, e40, sh _ 16 16 (by unfold u4; omega) (by decide), nI_add]; rfl
  rw [e47, show (63 : Int32) = nI 63 by decide, nI_and, key]
  exact hQ
