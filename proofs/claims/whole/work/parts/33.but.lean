theorem I0.fr {M M' : Mem} (h : I0 M) (e0 : M' 0 = M 0) (e9 : M' 9 = M 9) (e13 : M' 13 = M 13) (e49 : M' 49 = M 49) : I0 M' := by
  unfold I0 cP cF cL; rw [e0, e9, e13, e49]; exact h
theorem Inv.but1 {M M' : Mem} (h : Inv M) (hF : ∀ i, i ≠ 2 → i ≠ 3 → i ≠ 195 → i ≠ 196 → M' i = M i) (hk : I1 M') : Inv M' := by
  obtain ⟨a0, a1, a2, a3, a4, a5, a6, a7, a8⟩ := h
  exact ⟨(a0.fr (hF 0 (by omega) (by omega) (by omega) (by omega)) (hF 9 (by omega) (by omega) (by omega) (by omega)) (hF 13 (by omega) (by omega) (by omega) (by omega)) (hF 49 (by omega) (by omega) (by omega) (by omega))), hk, (a2.fr (fun i h1 h2 => (hF i (by omega) (by omega) (by omega) (by omega))) (hF 197 (by omega) (by omega) (by omega) (by omega)) (hF 198 (by omega) (by omega) (by omega) (by omega)) (hF 199 (by omega) (by omega) (by omega) (by omega)) (hF 200 (by omega) (by omega) (by omega) (by omega))), (a3.fr (hF 5 (by omega) (by omega) (by omega) (by omega)) (hF 202 (by omega) (by omega) (by omega) (by omega))), (a4.fr (by unfold cF; rw [(hF 0 (by omega) (by omega) (by omega) (by omega))]) (by unfold cP; rw [(hF 0 (by omega) (by omega) (by omega) (by omega))]; exact Nat.le_refl _) a0.2.1.2.1 (fun i h1 h2 => (hF i (by omega) (by omega) (by omega) (by omega))) (fun i h1 h2 => (hF i (by omega) (by omega) (by omega) (by omega))) (fun i h1 h2 => (hF i (by omega) (by omega) (by omega) (by omega))) (hF 204 (by omega) (by omega) (by omega) (by omega)) (hF 205 (by omega) (by omega) (by omega) (by omega)) (hF 206 (by omega) (by omega) (by omega) (by omega)) (hF 207 (by omega) (by omega) (by omega) (by omega)) (hF 208 (by omega) (by omega) (by omega) (by omega))), (a5.fr (by unfold cF; rw [(hF 0 (by omega) (by omega) (by omega) (by omega))]) (hF 7 (by omega) (by omega) (by omega) (by omega)) (hF 205 (by omega) (by omega) (by omega) (by omega)) (hF 206 (by omega) (by omega) (by omega) (by omega))), (a6.fr (by rw [(hF 0 (by omega) (by omega) (by omega) (by omega))]) (fun i h1 h2 => (hF i (by omega) (by omega) (by omega) (by omega))) (fun i h1 h2 => (hF i (by omega) (by omega) (by omega) (by omega))) (hF 210 (by omega) (by omega) (by omega) (by omega)) (hF 211 (by omega) (by omega) (by omega) (by omega))), (a7.fr (by unfold cL; rw [(hF 9 (by omega) (by omega) (by omega) (by omega))]) (by unfold cP; rw [(hF 0 (by omega) (by omega) (by omega) (by omega))]; exact Nat.le_refl _) (fun l hl => (fun (i : Nat) (h1 : 32 ≤ i) (h2 : i < 41) => (hF i (by omega) (by omega) (by omega) (by omega))) (32 + l) (by omega) (by have := a0.2.2.1.2.1; omega)) (hF 213 (by omega) (by omega) (by omega) (by omega)) (hF 214 (by omega) (by omega) (by omega) (by omega)) (hF 215 (by omega) (by omega) (by omega) (by omega)) (hF 216 (by omega) (by omega) (by omega) (by omega)) (hF 217 (by omega) (by omega) (by omega) (by omega))), (a8.fr (fun i h1 h2 => (hF i (by omega) (by omega) (by omega) (by omega))) (hF 192 (by omega) (by omega) (by omega) (by omega)) (hF 193 (by omega) (by omega) (by omega) (by omega)) (hF 194 (by omega) (by omega) (by omega) (by omega)))⟩
theorem Inv.but3 {M M' : Mem} (h : Inv M) (hF : ∀ i, i ≠ 5 → i ≠ 202 → M' i = M i) (hk : I3 M') : Inv M' := by
  obtain ⟨a0, a1, a2, a3, a4, a5, a6, a7, a8⟩ := h
  exact ⟨(a0.fr (hF 0 (by omega) (by omega)) (hF 9 (by omega) (by omega)) (hF 13 (by omega) (by omega)) (hF 49 (by omega) (by omega))), (a1.fr (hF 2 (by omega) (by omega)) (hF 3 (by omega) (by omega)) (hF 195 (by omega) (by omega)) (hF 196 (by omega) (by omega))), (a2.fr (fun i h1 h2 => (hF i (by omega) (by omega))) (hF 197 (by omega) (by omega)) (hF 198 (by omega) (by omega)) (hF 199 (by omega) (by omega)) (hF 200 (by omega) (by omega))), hk, (a4.fr (by unfold cF; rw [(hF 0 (by omega) (by omega))]) (by unfold cP; rw [(hF 0 (by omega) (by omega))]; exact Nat.le_refl _) a0.2.1.2.1 (fun i h1 h2 => (hF i (by omega) (by omega))) (fun i h1 h2 => (hF i (by omega) (by omega))) (fun i h1 h2 => (hF i (by omega) (by omega))) (hF 204 (by omega) (by omega)) (hF 205 (by omega) (by omega)) (hF 206 (by omega) (by omega)) (hF 207 (by omega) (by omega)) (hF 208 (by omega) (by omega))), (a5.fr (by unfold cF; rw [(hF 0 (by omega) (by omega))]) (hF 7 (by omega) (by omega)) (hF 205 (by omega) (by omega)) (hF 206 (by omega) (by omega))), (a6.fr (by rw [(hF 0 (by omega) (by omega))]) (fun i h1 h2 => (hF i (by omega) (by omega))) (fun i h1 h2 => (hF i (by omega) (by omega))) (hF 210 (by omega) (by omega)) (hF 211 (by omega) (by omega))), (a7.fr (by unfold cL; rw [(hF 9 (by omega) (by omega))]) (by unfold cP; rw [(hF 0 (by omega) (by omega))]; exact Nat.le_refl _) (fun l hl => (fun (i : Nat) (h1 : 32 ≤ i) (h2 : i < 41) => (hF i (by omega) (by omega))) (32 + l) (by omega) (by have := a0.2.2.1.2.1; omega)) (hF 213 (by omega) (by omega)) (hF 214 (by omega) (by omega)) (hF 215 (by omega) (by omega)) (hF 216 (by omega) (by omega)) (hF 217 (by omega) (by omega))), (a8.fr (fun i h1 h2 => (hF i (by omega) (by omega))) (hF 192 (by omega) (by omega)) (hF 193 (by omega) (by omega)) (hF 194 (by omega) (by omega)))⟩
theorem Inv.but8 {M M' : Mem} (h : Inv M) (hF : ∀ i, ¬ (41 ≤ i ∧ i < 49) → i ≠ 192 → i ≠ 193 → i ≠ 194 → M' i = M i) (hk : I8 M') : Inv M' := by
  obtain ⟨a0, a1, a2, a3, a4, a5, a6, a7, a8⟩ := h
  exact ⟨(a0.fr (hF 0 (by omega) (by omega) (by omega) (by omega)) (hF 9 (by omega) (by omega) (by omega) (by omega)) (hF 13 (by omega) (by omega) (by omega) (by omega)) (hF 49 (by omega) (by omega) (by omega) (by omega))), (a1.fr (hF 2 (by omega) (by omega) (by omega) (by omega)) (hF 3 (by omega) (by omega) (by omega) (by omega)) (hF 195 (by omega) (by omega) (by omega) (by omega)) (hF 196 (by omega) (by omega) (by omega) (by omega))), (a2.fr (fun i h1 h2 => (hF i (by omega) (by omega) (by omega) (by omega))) (hF 197 (by omega) (by omega) (by omega) (by omega)) (hF 198 (by omega) (by omega) (by omega) (by omega)) (hF 199 (by omega) (by omega) (by omega) (by omega)) (hF 200 (by omega) (by omega) (by omega) (by omega))), (a3.fr (hF 5 (by omega) (by omega) (by omega) (by omega)) (hF 202 (by omega) (by omega) (by omega) (by omega))), (a4.fr (by unfold cF; rw [(hF 0 (by omega) (by omega) (by omega) (by omega))]) (by unfold cP; rw [(hF 0 (by omega) (by omega) (by omega) (by omega))]; exact Nat.le_refl _) a0.2.1.2.1 (fun i h1 h2 => (hF i (by omega) (by omega) (by omega) (by omega))) (fun i h1 h2 => (hF i (by omega) (by omega) (by omega) (by omega))) (fun i h1 h2 => (hF i (by omega) (by omega) (by omega) (by omega))) (hF 204 (by omega) (by omega) (by omega) (by omega)) (hF 205 (by omega) (by omega) (by omega) (by omega)) (hF 206 (by omega) (by omega) (by omega) (by omega)) (hF 207 (by omega) (by omega) (by omega) (by omega)) (hF 208 (by omega) (by omega) (by omega) (by omega))), (a5.fr (by unfold cF; rw [(hF 0 (by omega) (by omega) (by omega) (by omega))]) (hF 7 (by omega) (by omega) (by omega) (by omega)) (hF 205 (by omega) (by omega) (by omega) (by omega)) (hF 206 (by omega) (by omega) (by omega) (by omega))), (a6.fr (by rw [(hF 0 (by omega) (by omega) (by omega) (by omega))]) (fun i h1 h2 => (hF i (by omega) (by omega) (by omega) (by omega))) (fun i h1 h2 => (hF i (by omega) (by omega) (by omega) (by omega))) (hF 210 (by omega) (by omega) (by omega) (by omega)) (hF 211 (by omega) (by omega) (by omega) (by omega))), (a7.fr (by unfold cL; rw [(hF 9 (by omega) (by omega) (by omega) (by omega))]) (by unfold cP; rw [(hF 0 (by omega) (by omega) (by omega) (by omega))]; exact Nat.le_refl _) (fun l hl => (fun (i : Nat) (h1 : 32 ≤ i) (h2 : i < 41) => (hF i (by omega) (by omega) (by omega) (by omega))) (32 + l) (by omega) (by have := a0.2.2.1.2.1; omega)) (hF 213 (by omega) (by omega) (by omega) (by omega)) (hF 214 (by omega) (by omega) (by omega) (by omega)) (hF 215 (by omega) (by omega) (by omega) (by omega)) (hF 216 (by omega) (by omega) (by omega) (by omega)) (hF 217 (by omega) (by omega) (by omega) (by omega))), hk⟩
theorem Inv.but2 {M M' : Mem} (h : Inv M) (hF : ∀ i, ¬ (20 ≤ i ∧ i < 32) → i ≠ 197 → i ≠ 198 → i ≠ 199 → i ≠ 200 → M' i = M i) (hk : I2 M') : Inv M' := by
  obtain ⟨a0, a1, a2, a3, a4, a5, a6, a7, a8⟩ := h
  exact ⟨(a0.fr (hF 0 (by omega) (by omega) (by omega) (by omega) (by omega)) (hF 9 (by omega) (by omega) (by omega) (by omega) (by omega)) (hF 13 (by omega) (by omega) (by omega) (by omega) (by omega)) (hF 49 (by omega) (by omega) (by omega) (by omega) (by omega))), (a1.fr (hF 2 (by omega) (by omega) (by omega) (by omega) (by omega)) (hF 3 (by omega) (by omega) (by omega) (by omega) (by omega)) (hF 195 (by omega) (by omega) (by omega) (by omega) (by omega)) (hF 196 (by omega) (by omega) (by omega) (by omega) (by omega))), hk, (a3.fr (hF 5 (by omega) (by omega) (by omega) (by omega) (by omega)) (hF 202 (by omega) (by omega) (by omega) (by omega) (by omega))), (a4.fr (by unfold cF; rw [(hF 0 (by omega) (by omega) (by omega) (by omega) (by omega))]) (by unfold cP; rw [(hF 0 (by omega) (by omega) (by omega) (by omega) (by omega))]; exact Nat.le_refl _) a0.2.1.2.1 (fun i h1 h2 => (hF i (by omega) (by omega) (by omega) (by omega) (by omega))) (fun i h1 h2 => (hF i (by omega) (by omega) (by omega) (by omega) (by omega))) (fun i h1 h2 => (hF i (by omega) (by omega) (by omega) (by omega) (by omega))) (hF 204 (by omega) (by omega) (by omega) (by omega) (by omega)) (hF 205 (by omega) (by omega) (by omega) (by omega) (by omega)) (hF 206 (by omega) (by omega) (by omega) (by omega) (by omega)) (hF 207 (by omega) (by omega) (by omega) (by omega) (by omega)) (hF 208 (by omega) (by omega) (by omega) (by omega) (by omega))), (a5.fr (by unfold cF; rw [(hF 0 (by omega) (by omega) (by omega) (by omega) (by omega))]) (hF 7 (by omega) (by omega) (by omega) (by omega) (by omega)) (hF 205 (by omega) (by omega) (by omega) (by omega) (by omega)) (hF 206 (by omega) (by omega) (by omega) (by omega) (by omega))), (a6.fr (by rw [(hF 0 (by omega) (by omega) (by omega) (by omega) (by omega))]) (fun i h1 h2 => (hF i (by omega) (by omega) (by omega) (by omega) (by omega))) (fun i h1 h2 => (hF i (by omega) (by omega) (by omega) (by omega) (by omega))) (hF 210 (by omega) (by omega) (by omega) (by omega) (by omega)) (hF 211 (by omega) (by omega) (by omega) (by omega) (by omega))), (a7.fr (by unfold cL; rw [(hF 9 (by omega) (by omega) (by omega) (by omega) (by omega))]) (by unfold cP; rw [(hF 0 (by omega) (by omega) (by omega) (by omega) (by omega))]; exact Nat.le_refl _) (fun l hl => (fun (i : Nat) (h1 : 32 ≤ i) (h2 : i < 41) => (hF i (by omega) (by omega) (by omega) (by omega) (by omega))) (32 + l) (by omega) (by have := a0.2.2.1.2.1; omega)) (hF 213 (by omega) (by omega) (by omega) (by omega) (by omega)) (hF 214 (by omega) (by omega) (by omega) (by omega) (by omega)) (hF 215 (by omega) (by omega) (by omega) (by omega) (by omega)) (hF 216 (by omega) (by omega) (by omega) (by omega) (by omega)) (hF 217 (by omega) (by omega) (by omega) (by omega) (by omega))), (a8.fr (fun i h1 h2 => (hF i (by omega) (by omega) (by omega) (by omega) (by omega))) (hF 192 (by omega) (by omega) (by omega) (by omega) (by omega)) (hF 193 (by omega) (by omega) (by omega) (by omega) (by omega)) (hF 194 (by omega) (by omega) (by omega) (by omega) (by omega)))⟩
theorem Inv.but7 {M M' : Mem} (h : Inv M) (hF : ∀ i, ¬ (32 ≤ i ∧ i < 41) → i ≠ 213 → i ≠ 214 → i ≠ 215 → i ≠ 216 → i ≠ 217 → M' i = M i) (hk : I7 M') : Inv M' := by
  obtain ⟨a0, a1, a2, a3, a4, a5, a6, a7, a8⟩ := h
  exact ⟨(a0.fr (hF 0 (by omega) (by omega) (by omega) (by omega) (by omega) (by omega)) (hF 9 (by omega) (by omega) (by omega) (by omega) (by omega) (by omega)) (hF 13 (by omega) (by omega) (by omega) (by omega) (by omega) (by omega)) (hF 49 (by omega) (by omega) (by omega) (by omega) (by omega) (by omega))), (a1.fr (hF 2 (by omega) (by omega) (by omega) (by omega) (by omega) (by omega)) (hF 3 (by omega) (by omega) (by omega) (by omega) (by omega) (by omega)) (hF 195 (by omega) (by omega) (by omega) (by omega) (by omega) (by omega)) (hF 196 (by omega) (by omega) (by omega) (by omega) (by omega) (by omega))), (a2.fr (fun i h1 h2 => (hF i (by omega) (by omega) (by omega) (by omega) (by omega) (by omega))) (hF 197 (by omega) (by omega) (by omega) (by omega) (by omega) (by omega)) (hF 198 (by omega) (by omega) (by omega) (by omega) (by omega) (by omega)) (hF 199 (by omega) (by omega) (by omega) (by omega) (by omega) (by omega)) (hF 200 (by omega) (by omega) (by omega) (by omega) (by omega) (by omega))), (a3.fr (hF 5 (by omega) (by omega) (by omega) (by omega) (by omega) (by omega)) (hF 202 (by omega) (by omega) (by omega) (by omega) (by omega) (by omega))), (a4.fr (by unfold cF; rw [(hF 0 (by omega) (by omega) (by omega) (by omega) (by omega) (by omega))]) (by unfold cP; rw [(hF 0 (by omega) (by omega) (by omega) (by omega) (by omega) (by omega))]; exact Nat.le_refl _) a0.2.1.2.1 (fun i h1 h2 => (hF i (by omega) (by omega) (by omega) (by omega) (by omega) (by omega))) (fun i h1 h2 => (hF i (by omega) (by omega) (by omega) (by omega) (by omega) (by omega))) (fun i h1 h2 => (hF i (by omega) (by omega) (by omega) (by omega) (by omega) (by omega))) (hF 204 (by omega) (by omega) (by omega) (by omega) (by omega) (by omega)) (hF 205 (by omega) (by omega) (by omega) (by omega) (by omega) (by omega)) (hF 206 (by omega) (by omega) (by omega) (by omega) (by omega) (by omega)) (hF 207 (by omega) (by omega) (by omega) (by omega) (by omega) (by omega)) (hF 208 (by omega) (by omega) (by omega) (by omega) (by omega) (by omega))), (a5.fr (by unfold cF; rw [(hF 0 (by omega) (by omega) (by omega) (by omega) (by omega) (by omega))]) (hF 7 (by omega) (by omega) (by omega) (by omega) (by omega) (by omega)) (hF 205 (by omega) (by omega) (by omega) (by omega) (by omega) (by omega)) (hF 206 (by omega) (by omega) (by omega) (by omega) (by omega) (by omega))), (a6.fr (by rw [(hF 0 (by omega) (by omega) (by omega) (by omega) (by omega) (by omega))]) (fun i h1 h2 => (hF i (by omega) (by omega) (by omega) (by omega) (by omega) (by omega))) (fun i h1 h2 => (hF i (by omega) (by omega) (by omega) (by omega) (by omega) (by omega))) (hF 210 (by omega) (by omega) (by omega) (by omega) (by omega) (by omega)) (hF 211 (by omega) (by omega) (by omega) (by omega) (by omega) (by omega))), hk, (a8.fr (fun i h1 h2 => (hF i (by omega) (by omega) (by omega) (by omega) (by omega) (by omega))) (hF 192 (by omega) (by omega) (by omega) (by omega) (by omega) (by omega)) (hF 193 (by omega) (by omega) (by omega) (by omega) (by omega) (by omega)) (hF 194 (by omega) (by omega) (by omega) (by omega) (by omega) (by omega)))⟩
theorem tn_lt {x : Int32} {n : Nat} (hn : n ≤ 30) : (x.toBitVec.toNat < 2 ^ n) = vp_in x (2 ^ n) := by
  rw [vp_in_iff]
  apply propext
  have h1 : x.toInt = x.toBitVec.toInt := rfl
  have h2 := BitVec.toInt_eq_toNat_cond x.toBitVec
  have h3 := x.toBitVec.isLt
  have h4 : 2 ^ n ≤ 2 ^ 30 := Nat.pow_le_pow_right (by decide) hn
  have h5 : ((2 ^ n : Nat) : Int) ≤ 2 ^ 30 := by exact_mod_cast h4
  rw [h1, h2]
  constructor
  · intro h
    rw [if_pos (by omega)]
    omega
  · intro h
    split at h <;> omega
theorem ush0 {x : Int32} {n : Nat} (hn : n ≤ 16) : ((Int32.toUInt32 x >>> (Int32.toUInt32 (nI n) &&& Int32.toUInt32 31)).toInt32 = 0) = vp_in x (2 ^ n) := by
  have hs : ∀ n, n < 17 → ((Int32.toUInt32 (nI n) &&& Int32.toUInt32 31).toBitVec % 32).toNat = n := by decide
  have h := pk_ushr x (nI n) n (hs n (by omega))
  rw [← tn_lt (by omega)]
  apply propext
  constructor
  · intro e
    rw [e] at h
    have h2 : x.toBitVec.toNat / 2 ^ n = 0 := h.symm
    rcases Nat.lt_or_ge x.toBitVec.toNat (2 ^ n) with q | q
    · exact q
    · have := Nat.div_pos q (Nat.two_pow_pos n)
      omega
  · intro e
    rw [Nat.div_eq_of_lt e] at h
    apply Int32.toBitVec_inj.mp
    apply BitVec.eq_of_toNat_eq
    rw [h]
    rfl
theorem e_isSetBelow {x y : Int32} {n : Nat} {M : Mem} {Q : Int32 → Mem → Prop} (hy : y = nI n) (hn : n ≤ 16) : wX10_isSetBelow x y M Q = Q (bI (vp_in x (2 ^ n))) M := by
  subst hy
  unfold wX10_isSetBelow
  rw [ush0 hn]
  apply propext
  by_cases h : vp_in x (2 ^ n)
  · rw [bI_t h]; simp [h]
  · rw [bI_f h]; simp [h]
theorem e_set6 {x : Int32} {M : Mem} {Q : Int32 → Mem → Prop} : wX10_isSetBelow x 6 M Q = Q (bI (vp_in x 64)) M := e_isSetBelow (n := 6) (by decide) (by decide)
theorem e_set16 {x : Int32} {M : Mem} {Q : Int32 → Mem → Prop} : wX10_isSetBelow x 16 M Q = Q (bI (vp_in x 65536)) M := e_isSetBelow (n := 16) (by decide) (by decide)
theorem m_setP {x y : Int32} {n : Nat} {M : Mem} {Q : Int32 → Mem → Prop} (hy : y = nI n) (hn : n ≤ 8) : wX11_within x 0 ((1 <<< (y &&& 31)) - 1) M Q = Q (bI (vp_in x (2 ^ n))) M := by
  subst hy
  have h : ∀ n, n < 9 → ((1 : Int32) <<< (nI n &&& 31)) - 1 = nI (2 ^ n - 1) := by decide
  have hp : 2 ^ n ≤ 2 ^ 8 := Nat.pow_le_pow_right (by decide) hn
  have h1 : 0 < 2 ^ n := Nat.two_pow_pos n
  rw [h n (by omega), e_within, vp_iff_le (by omega)]
  congr 3
  omega
theorem hb_nI {v q : Nat} (hv : v < 2 ^ 31) (hq : q < 31) : hb (nI v) (nI q) = (v.testBit q = true) := by
  have hs : ∀ q, q < 31 → ((nI q &&& 31).toBitVec.smod 32).toNat = q := by decide
  unfold hb
  rw [pk_shrN hv (nI q &&& 31) q (hs q hq)]
  have hl : v / 2 ^ q < 2 ^ 32 := Nat.lt_of_le_of_lt (Nat.div_le_self _ _) (by omega)
  rw [pk_andN hl (m := 1) 1 (by decide), show (1 : Int32) = nI 1 by decide, nI_eq (by omega) (by decide), Nat.testBit_eq_decide_div_mod_eq]
  simp
theorem st_sound {M : Mem} (hI : Inv M) (a1 a2 a3 : Int32) : wX10_sound a1 a2 a3 M (fun r M1 => wX11_sound a1 a2 a3 M1 (fun r' M2 => r = r' ∧ Inv M2)) := by
  by_cases h1 : vp_in a1 16
  · by_cases h2 : vp_in a2 64
    · by_cases h3 : vp_in a3 64
      · by_cases h4 : a2 &&& a3 = 0
        · obtain ⟨e1, e2, -⟩ := hI.2.1 _ (vp_lt h1)
          have hlt := vp_lt h1
          obtain ⟨t, ht⟩ : ∃ t, t = Int32.toNatClampNeg a1 := ⟨_, rfl⟩
          rw [← ht] at e1 e2 hlt
          have rng : ∀ x : Int32, vp_in x 64 → 0 ≤ x ∧ x ≤ 63 := fun x hx => by
            rw [vp_in_iff] at hx
            rw [Int32.le_iff_toInt_le, Int32.le_iff_toInt_le, show (63 : Int32).toInt = 63 from rfl, show (0 : Int32).toInt = 0 from rfl]
            omega
          simp only [wX10_sound, wX11_sound, bI_t h1, bI_t h2, bI_t h3, e_b16, e_b6, e_b4, e_b3, e_w2, e_isMeaning, e_isIn, e_m15, e_m5, e_m3, e_m2, e_m63, m_isMeaning, m_isSound, m_isSheet, m_isLane, m_isCollector, e_has, i10, i01, bI_0, bI_1, isB_bI, Classical.not_not, not_false_eq_true, not_true_eq_false, true_implies, false_implies, and_true, true_and, and_self, forall_eq, ne_eq, jn0, jn1, jn2, jn3, e_set6, h4, wX9_become, h1, ← ht]
          by_cases g : M 2 t = a2 ∧ M 3 t = a3
          · obtain ⟨g1, g2⟩ := g
            simp [g1, g2, e1, e2]
            refine hI.but1 (fun i b1 b2 b3 b4 => by rw [mset_row b4, mset_row b3]) (fun k hk => ?_)
            have := hI.2.1 k hk
            by_cases hkt : k = t
            · subst hkt
              rw [g1, g2] at this
              simp [mset, g1, g2, this.2.2]
            · simp only [mset]; simp [hkt, this]
          · have nx : ∀ a : Int32, Inv (mset (mset (mset (mset M 2 t a2) 3 t a3) 195 t a2) 196 t a3) := fun _ => by
              refine hI.but1 (fun i b1 b2 b3 b4 => by rw [mset_row b4, mset_row b3, mset_row b2, mset_row b1]) (fun k hk => ?_)
              by_cases hkt : k = t
              · subst hkt
                simp [mset, h4, rng a2 h2, rng a3 h3]
              · have := hI.2.1 k hk
                simp only [mset]; simp [hkt, this]
            by_cases g1 : M 2 t = a2
            · have g2 : ¬ M 3 t = a3 := fun q => g ⟨g1, q⟩
              simp [g1, g2, e1, e2, mset_row, i10]
              exact nx 0
            · simp [g1, e1, e2, mset_row, i10]
              exact nx 0
        · simp only [wX10_sound, wX11_sound, bI_t h1, bI_t h2, bI_t h3, e_b16, e_b6, e_b4, e_b3, e_w2, e_isMeaning, e_isIn, e_m15, e_m5, e_m3, e_m2, e_m63, m_isMeaning, m_isSound, m_isSheet, m_isLane, m_isCollector, e_has, i10, i01, bI_0, bI_1, isB_bI, Classical.not_not, not_false_eq_true, not_true_eq_false, true_implies, false_implies, and_true, true_and, and_self, forall_eq, ne_eq, e_set6, h4]
          exact hI
      · simp only [wX10_sound, wX11_sound, bI_t h1, bI_t h2, bI_f h3, e_b16, e_b6, e_b4, e_b3, e_w2, e_isMeaning, e_isIn, e_m15, e_m5, e_m3, e_m2, e_m63, m_isMeaning, m_isSound, m_isSheet, m_isLane, m_isCollector, e_has, i10, i01, bI_0, bI_1, isB_bI, Classical.not_not, not_false_eq_true, not_true_eq_false, true_implies, false_implies, and_true, true_and, and_self, forall_eq, ne_eq, e_set6]
        exact hI
    · simp only [wX10_sound, wX11_sound, bI_t h1, bI_f h2, e_b16, e_b6, e_b4, e_b3, e_w2, e_isMeaning, e_isIn, e_m15, e_m5, e_m3, e_m2, e_m63, m_isMeaning, m_isSound, m_isSheet, m_isLane, m_isCollector, e_has, i10, i01, bI_0, bI_1, isB_bI, Classical.not_not, not_false_eq_true, not_true_eq_false, true_implies, false_implies, and_true, true_and, and_self, forall_eq, ne_eq, e_set6]
      exact hI
  · simp only [wX10_sound, wX11_sound, bI_f h1, e_b16, e_b6, e_b4, e_b3, e_w2, e_isMeaning, e_isIn, e_m15, e_m5, e_m3, e_m2, e_m63, m_isMeaning, m_isSound, m_isSheet, m_isLane, m_isCollector, e_has, i10, i01, bI_0, bI_1, isB_bI, Classical.not_not, not_false_eq_true, not_true_eq_false, true_implies, false_implies, and_true, true_and, and_self, forall_eq, ne_eq]
    exact hI
