/-! small words -/
noncomputable def bI (p : Prop) : Int32 := @ite Int32 p (Classical.propDecidable p) 1 0
theorem bI_t {p : Prop} (h : p) : bI p = 1 := by unfold bI; rw [if_pos h]
theorem bI_f {p : Prop} (h : ¬ p) : bI p = 0 := by unfold bI; rw [if_neg h]
theorem i10 : ((1 : Int32) = 0) = False := by decide
theorem i01 : ((0 : Int32) = 1) = False := by decide
theorem bI_0 {p : Prop} : (bI p = 0) = ¬ p := by
  by_cases h : p
  · rw [bI_t h, i10]; simp [h]
  · rw [bI_f h]; simp [h]
theorem bI_1 {p : Prop} : (bI p = 1) = p := by
  by_cases h : p
  · rw [bI_t h]; simp [h]
  · rw [bI_f h, i01]; simp [h]
theorem isB_bI {p : Prop} : isB (bI p) = True := by
  by_cases h : p
  · rw [bI_t h]; simp [isB]
  · rw [bI_f h]; simp [isB]
theorem vp_iff {a : Int32} {n : Nat} (hn : n < 2 ^ 31) : (¬ a < 0 ∧ ¬ nI n ≤ a) = vp_in a n := by
  rw [vp_in_iff]
  rw [Int32.lt_iff_toInt_lt, Int32.le_iff_toInt_le, nI_toInt hn]
  rw [show (0 : Int32).toInt = 0 from rfl]
  apply propext
  constructor
  · intro h; omega
  · intro h; omega
theorem vp_iff_le {a : Int32} {n : Nat} (hn : n + 1 < 2 ^ 31) : (¬ a < 0 ∧ ¬ nI n < a) = vp_in a (n + 1) := by
  rw [vp_in_iff]
  rw [Int32.lt_iff_toInt_lt, Int32.lt_iff_toInt_lt, nI_toInt (by omega)]
  rw [show (0 : Int32).toInt = 0 from rfl]
  apply propext
  constructor
  · intro h; omega
  · intro h; omega
/-- a set's number, as both ask it -/
def hb (s k : Int32) : Prop := ((s >>> (k &&& 31)) &&& 1) = 1
theorem e_isBelow {a b : Int32} {M : Mem} {Q : Int32 → Mem → Prop} : wX10_isBelow a b M Q = Q (bI (¬ a < 0 ∧ ¬ b ≤ a)) M := by
  unfold wX10_isBelow
  apply propext
  by_cases h1 : a < 0
  · rw [bI_f (by simp [h1])]; simp [h1]
  · by_cases h2 : b ≤ a
    · rw [bI_f (by simp [h2])]; simp [h1, h2]
    · rw [bI_t ⟨h1, h2⟩]; simp [h1, h2]
theorem e_isWithin {a b c : Int32} {M : Mem} {Q : Int32 → Mem → Prop} : wX10_isWithin a b c M Q = Q (bI (¬ a < b ∧ ¬ c < a)) M := by
  unfold wX10_isWithin
  apply propext
  by_cases h1 : a < b
  · rw [bI_f (by simp [h1])]; simp [h1]
  · by_cases h2 : c < a
    · rw [bI_f (by simp [h2])]; simp [h1, h2]
    · rw [bI_t ⟨h1, h2⟩]; simp [h1, h2]
theorem e_within {a b c : Int32} {M : Mem} {Q : Int32 → Mem → Prop} : wX11_within a b c M Q = Q (bI (¬ a < b ∧ ¬ c < a)) M := by
  unfold wX11_within
  apply propext
  by_cases h1 : a < b
  · rw [bI_f (by simp [h1])]; simp [h1]
  · by_cases h2 : c < a
    · rw [bI_f (by simp [h2])]; simp [h1, h2]
    · rw [bI_t ⟨h1, h2⟩]; simp [h1, h2]
theorem e_isIn {a s : Int32} {M : Mem} {Q : Int32 → Mem → Prop} : wX10_isIn a s M Q = Q (bI (hb s a)) M := by
  unfold wX10_isIn
  apply propext
  by_cases h1 : hb s a
  · rw [bI_t h1]; unfold hb at h1; simp [h1]
  · rw [bI_f h1]; unfold hb at h1; simp [h1]
theorem e_has {a s : Int32} {M : Mem} {Q : Int32 → Mem → Prop} : wX11_has s a M Q = Q (bI (hb s a)) M := by
  unfold wX11_has
  apply propext
  by_cases h1 : hb s a
  · rw [bI_t h1]; unfold hb at h1; simp [h1]
  · rw [bI_f h1]; unfold hb at h1; simp [h1]
theorem e_b16 {a : Int32} {M : Mem} {Q : Int32 → Mem → Prop} : wX10_isBelow a 16 M Q = Q (bI (vp_in a 16)) M := by rw [e_isBelow, ← vp_iff (n := 16) (by decide)]; rfl
theorem e_b6 {a : Int32} {M : Mem} {Q : Int32 → Mem → Prop} : wX10_isBelow a 6 M Q = Q (bI (vp_in a 6)) M := by rw [e_isBelow, ← vp_iff (n := 6) (by decide)]; rfl
theorem e_b4 {a : Int32} {M : Mem} {Q : Int32 → Mem → Prop} : wX10_isBelow a 4 M Q = Q (bI (vp_in a 4)) M := by rw [e_isBelow, ← vp_iff (n := 4) (by decide)]; rfl
theorem e_b3 {a : Int32} {M : Mem} {Q : Int32 → Mem → Prop} : wX10_isBelow a 3 M Q = Q (bI (vp_in a 3)) M := by rw [e_isBelow, ← vp_iff (n := 3) (by decide)]; rfl
theorem e_m15 {a : Int32} {M : Mem} {Q : Int32 → Mem → Prop} : wX11_within a 0 15 M Q = Q (bI (vp_in a 16)) M := by rw [e_within, ← vp_iff_le (n := 15) (by decide)]; rfl
theorem e_m5 {a : Int32} {M : Mem} {Q : Int32 → Mem → Prop} : wX11_within a 0 5 M Q = Q (bI (vp_in a 6)) M := by rw [e_within, ← vp_iff_le (n := 5) (by decide)]; rfl
theorem e_m3 {a : Int32} {M : Mem} {Q : Int32 → Mem → Prop} : wX11_within a 0 3 M Q = Q (bI (vp_in a 4)) M := by rw [e_within, ← vp_iff_le (n := 3) (by decide)]; rfl
theorem e_m2 {a : Int32} {M : Mem} {Q : Int32 → Mem → Prop} : wX11_within a 0 2 M Q = Q (bI (vp_in a 3)) M := by rw [e_within, ← vp_iff_le (n := 2) (by decide)]; rfl
theorem e_m63 {a : Int32} {M : Mem} {Q : Int32 → Mem → Prop} : wX11_within a 0 63 M Q = Q (bI (vp_in a 64)) M := by rw [e_within, ← vp_iff_le (n := 63) (by decide)]; rfl
theorem e_w2 {a : Int32} {M : Mem} {Q : Int32 → Mem → Prop} : wX10_isWithin a 0 2 M Q = Q (bI (vp_in a 3)) M := by rw [e_isWithin, ← vp_iff_le (n := 2) (by decide)]; rfl
theorem e_isMeaning {a : Int32} {M : Mem} {Q : Int32 → Mem → Prop} : wX10_isMeaning a M Q = Q (bI (vp_in a 6)) M := by rw [wX10_isMeaning, e_b6, isB_bI, true_and]
theorem m_isMeaning {a : Int32} {M : Mem} {Q : Int32 → Mem → Prop} : wX11_isMeaning a M Q = Q (bI (vp_in a 6)) M := by rw [wX11_isMeaning, e_m5, isB_bI, true_and]
theorem m_isSound {a : Int32} {M : Mem} {Q : Int32 → Mem → Prop} : wX11_isSound a M Q = Q (bI (vp_in a 16)) M := by rw [wX11_isSound, e_m15, isB_bI, true_and]
theorem m_isSheet {a : Int32} {M : Mem} {Q : Int32 → Mem → Prop} : wX11_isSheet a M Q = Q (bI (vp_in a 4)) M := by rw [wX11_isSheet, e_m3, isB_bI, true_and]
theorem m_isLane {a : Int32} {M : Mem} {Q : Int32 → Mem → Prop} : wX11_isLane a M Q = Q (bI (vp_in a 3)) M := by rw [wX11_isLane, e_m2, isB_bI, true_and]
theorem m_isCollector {a : Int32} {M : Mem} {Q : Int32 → Mem → Prop} : wX11_isCollector a M Q = Q (bI (vp_in a 3)) M := by rw [wX11_isCollector, e_m2, isB_bI, true_and]
theorem e_isPlace {a : Int32} {M : Mem} {Q : Int32 → Mem → Prop} (h : I0 M) : wX10_isPlace a M Q = Q (bI (vp_in a (cP M))) M := by
  have hp := h.1.2.1
  rw [wX10_isPlace, e_isBelow, isB_bI, true_and, h.1.1, vp_iff (by omega)]
theorem e_isForm {a : Int32} {M : Mem} {Q : Int32 → Mem → Prop} (h : I0 M) : wX10_isForm a M Q = Q (bI (vp_in a (cF M))) M := by
  have hp := h.2.1.2.1
  rw [wX10_isForm, e_isBelow, isB_bI, true_and, h.2.1.1, vp_iff (by omega)]
theorem e_isLaw {a : Int32} {M : Mem} {Q : Int32 → Mem → Prop} (h : I0 M) : wX10_isLaw a M Q = Q (bI (vp_in a (cL M))) M := by
  have hp := h.2.2.1.2.1
  rw [wX10_isLaw, e_isBelow, isB_bI, true_and, h.2.2.1.1, vp_iff (by omega)]
theorem m_below {a b : Int32} {M : Mem} {Q : Int32 → Mem → Prop} : ((a < 0 → Q 0 M) ∧ (¬ a < 0 → ((b ≤ a → Q 0 M) ∧ (¬ b ≤ a → Q 1 M)))) = Q (bI (¬ a < 0 ∧ ¬ b ≤ a)) M := e_isBelow
theorem m_isPlace {a : Int32} {M : Mem} {Q : Int32 → Mem → Prop} (h : I0 M) : wX11_isPlace a M Q = Q (bI (vp_in a (cP M))) M := by
  have hp := h.1.2.1
  rw [wX11_isPlace, m_below, h.1.2.2, h.1.1, vp_iff (by omega)]
theorem m_isForm {a : Int32} {M : Mem} {Q : Int32 → Mem → Prop} (h : I0 M) : wX11_isForm a M Q = Q (bI (vp_in a (cF M))) M := by
  have hp := h.2.1.2.1
  rw [wX11_isForm, m_below, h.2.1.2.2, h.2.1.1, vp_iff (by omega)]
theorem m_isLaw {a : Int32} {M : Mem} {Q : Int32 → Mem → Prop} (h : I0 M) : wX11_isLaw a M Q = Q (bI (vp_in a (cL M))) M := by
  have hp := h.2.2.1.2.1
  rw [wX11_isLaw, m_below, h.2.2.1.2.2, h.2.2.1.1, vp_iff (by omega)]
theorem vp_mono {a : Int32} {m n : Nat} (h : vp_in a m) (hmn : m ≤ n) : vp_in a n := by rw [vp_in_iff] at *; omega
/-! which rows a step leaves as they were -/
def Fr (S : List Nat) (M M' : Mem) : Prop := ∀ i, i ∉ S → M' i = M i
theorem Fr.rfl' {M : Mem} : Fr [] M M := fun _ _ => rfl
theorem Fr.mset {S : List Nat} {M M' : Mem} (h : Fr S M M') {i j : Nat} {v : Int32} : Fr (i :: S) M (mset M' i j v) := fun a ha => by
  rw [mset_row (fun e => ha (by rw [e]; exact List.mem_cons_self)), h a (fun q => ha (List.mem_cons_of_mem _ q))]
theorem I1.fr {M M' : Mem} (h : I1 M) (e2 : M' 2 = M 2) (e3 : M' 3 = M 3) (e4 : M' 195 = M 195) (e5 : M' 196 = M 196) : I1 M' := by
  intro k hk; rw [e2, e3, e4, e5]; exact h k hk
theorem I2.fr {M M' : Mem} (h : I2 M) (e : ∀ i, 20 ≤ i → i < 32 → M' i = M i) (e4 : M' 197 = M 197) (e5 : M' 198 = M 198) (e6 : M' 199 = M 199) (e7 : M' 200 = M 200) : I2 M' := by
  intro c hc; rw [e (20 + c) (by omega) (by omega), e (20 + c + 3) (by omega) (by omega), e (20 + c + 6) (by omega) (by omega), e (20 + c + 9) (by omega) (by omega), e4, e5, e6, e7]; exact h c hc
theorem I3.fr {M M' : Mem} (h : I3 M) (e2 : M' 5 = M 5) (e3 : M' 202 = M 202) : I3 M' := by
  unfold I3; rw [e2, e3]; exact h
theorem I4.fr {M M' : Mem} (h : I4 M) (eF : cF M' = cF M) (eP : cP M ≤ cP M') (h0 : cF M ≤ 40) (e : ∀ i, 50 ≤ i → i < 90 → M' i = M i) (e' : ∀ i, 100 ≤ i → i < 140 → M' i = M i) (e'' : ∀ i, 150 ≤ i → i < 190 → M' i = M i) (e1 : M' 204 = M 204) (e2 : M' 205 = M 205) (e3 : M' 206 = M 206) (e4 : M' 207 = M 207) (e5 : M' 208 = M 208) : I4 M' := by
  intro f hf
  rw [eF] at hf
  rw [e (50 + f) (by omega) (by omega), e' (100 + f) (by omega) (by omega), e'' (150 + f) (by omega) (by omega), e1, e2, e3, e4, e5]
  obtain ⟨h1, ⟨p, h2, h3⟩, h4⟩ := h f hf
  exact ⟨h1, ⟨p, by omega, h3⟩, h4⟩
theorem sdL_fr {M M' : Mem} (e2 : M' 205 = M 205) (e3 : M' 206 = M 206) : ∀ f p m, sdL M' f p m = sdL M f p m
  | 0, _, _ => rfl
  | f + 1, p, m => by rw [sdL, sdL, e2, e3, sdL_fr e2 e3 f p m]
theorem I5.fr {M M' : Mem} (h : I5 M) (eF : cF M' = cF M) (e1 : M' 7 = M 7) (e2 : M' 205 = M 205) (e3 : M' 206 = M 206) : I5 M' := by
  intro p hp m hm; rw [e1, eF, sdL_fr e2 e3]; exact h p hp m hm
theorem I6.fr {M M' : Mem} (h : I6 M) (e0 : M' 0 17 = M 0 17) (e : ∀ i, 90 ≤ i → i < 96 → M' i = M i) (e' : ∀ i, 140 ≤ i → i < 146 → M' i = M i) (e1 : M' 210 = M 210) (e2 : M' 211 = M 211) : I6 M' := by
  obtain ⟨rb, h1, h2, h3⟩ := h
  refine ⟨rb, h1, by rw [e0]; exact h2, fun m hm => ?_⟩
  rw [e (90 + m) (by omega) (by omega), e' (140 + m) (by omega) (by omega), e1, e2]
  exact h3 m hm
theorem I7.fr {M M' : Mem} (h : I7 M) (eL : cL M' = cL M) (eP : cP M ≤ cP M') (e : ∀ l, l < cL M → M' (32 + l) = M (32 + l)) (e1 : M' 213 = M 213) (e2 : M' 214 = M 214) (e3 : M' 215 = M 215) (e4 : M' 216 = M 216) (e5 : M' 217 = M 217) : I7 M' := by
  intro l hl
  rw [eL] at hl
  rw [e l hl, e1, e2, e3, e4, e5]
  obtain ⟨⟨v, h1, h2⟩, h3⟩ := h l hl
  exact ⟨⟨v, Nat.lt_of_lt_of_le h1 (Nat.pow_le_pow_right (by decide) eP), h2⟩, h3⟩
theorem I8.fr {M M' : Mem} (h : I8 M) (e : ∀ i, 41 ≤ i → i < 49 → M' i = M i) (e1 : M' 192 = M 192) (e2 : M' 193 = M 193) (e3 : M' 194 = M 194) : I8 M' := by
  intro s hs
  rw [e (41 + s) (by omega) (by omega), e (41 + s + 4) (by omega) (by omega), e1, e2, e3]
  exact h s hs
