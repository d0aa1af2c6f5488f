/-! the new object -/
def M0 : Mem := fun id => if id = 7 then (fun k => if k < 48 then -9 else (fun _ => 0 : Nat → Int32) k) else if id = 192 then (upd (upd (upd (upd (fun _ => 0) 0 (-9)) 1 (-9)) 2 (-9)) 3 (-9)) else if id = 210 then (upd (upd (upd (upd (upd (upd (fun _ => 0) 0 (-9)) 1 (-9)) 2 (-9)) 3 (-9)) 4 (-9)) 5 (-9)) else if id = 13 then (fun k => if k = 2 then 6 else if k = 3 then 3 else 0) else if id = 49 then (fun k => if k = 34 then 6 else if k = 44 then 3 else 0) else if 32 ≤ id ∧ id < 41 then (fun k => if k = 0 then 0 else if k = 2 then -2 else 29) else fun _ => 0
theorem M0_z {id : Nat} (h : id ≠ 7 ∧ id ≠ 192 ∧ id ≠ 210 ∧ id ≠ 13 ∧ id ≠ 49 ∧ ¬ (32 ≤ id ∧ id < 41)) (k : Nat) : M0 id k = 0 := by
  obtain ⟨h1, h2, h3, h4, h5, h6⟩ := h
  simp only [M0, if_neg h1, if_neg h2, if_neg h3, if_neg h4, if_neg h5, if_neg h6]
theorem Inv_M0 : Inv M0 := by
  have hP : cP M0 = 0 := by decide
  have hF : cF M0 = 0 := by decide
  have hL : cL M0 = 0 := by decide
  refine ⟨?_, ?_, ?_, ?_, ?_, ?_, ?_, ?_, ?_⟩
  · unfold I0
    rw [hP, hF, hL]
    decide
  · intro k hk
    rw [M0_z (by decide), M0_z (by decide), M0_z (by decide), M0_z (by decide)]
    decide
  · intro c hc
    refine ⟨0, by omega, ?_, ?_, by intro e he; omega⟩
    · exact M0_z (by omega) _
    · exact M0_z (by decide) _
  · refine ⟨fun _ => 0, ?_, ?_⟩
    · intro p hp
      rw [M0_z (by decide), M0_z (by decide)]
      exact ⟨rfl, by show 0 < 256; decide, rfl⟩
    · intro p hp q hq
      show (0 : Nat).testBit q = (0 : Nat).testBit p
      rw [Nat.zero_testBit, Nat.zero_testBit]
  · intro f hf
    rw [hF] at hf
    omega
  · intro p hp m hm
    rw [hF]
    have h : 6 * p + m < 48 := by omega
    simp only [M0, sdL, if_true, if_pos h]
  · refine ⟨0, by decide, by decide, ?_⟩
    intro m hm
    refine Or.inl ⟨by simp, ?_⟩
    have h : m = 0 ∨ m = 1 ∨ m = 2 ∨ m = 3 ∨ m = 4 ∨ m = 5 := by omega
    rcases h with h | h | h | h | h | h <;> subst h <;> decide
  · intro l hl
    rw [hL] at hl
    omega
  · intro s hs
    refine ⟨Or.inl ⟨M0_z (by omega) _, ?_⟩, ?_⟩
    · have h : s = 0 ∨ s = 1 ∨ s = 2 ∨ s = 3 := by omega
      rcases h with h | h | h | h <;> subst h <;> decide
    · intro i hi
      by_cases h : s = 0
      · subst h; exact (M0_z (by decide) _).trans (M0_z (by decide) _).symm
      · have h : s = 1 ∨ s = 2 ∨ s = 3 := by omega
        rcases h with h | h | h <;> subst h <;> exact (M0_z (by decide) _).trans (M0_z (by decide) _).symm
