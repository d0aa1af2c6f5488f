theorem st_sound {M : Mem} (hI : Inv M) (a1 a2 a3 : Int32) : wX10_sound a1 a2 a3 M (fun r M1 => wX11_sound a1 a2 a3 M1 (fun r' M2 => r = r' ∧ Inv M2)) := by
  sorry
theorem st_feature {M : Mem} (hI : Inv M) (a1 a2 : Int32) : wX10_feature a1 a2 M (fun r M1 => wX11_feature a1 a2 M1 (fun r' M2 => r = r' ∧ Inv M2)) := by
  sorry
theorem st_differ {M : Mem} (hI : Inv M) (a1 a2 : Int32) : wX10_differ a1 a2 M (fun r M1 => wX11_differ a1 a2 M1 (fun r' M2 => r = r' ∧ Inv M2)) := by
  sorry
theorem st_entry {M : Mem} (hI : Inv M) (a1 a2 a3 a4 a5 a6 : Int32) : wX10_entry a1 a2 a3 a4 a5 a6 M (fun r M1 => wX11_entry a1 a2 a3 a4 a5 a6 M1 (fun r' M2 => r = r' ∧ Inv M2)) := by
  sorry
theorem st_place {M : Mem} (hI : Inv M) : wX10_place  M (fun r M1 => wX11_place  M1 (fun r' M2 => r = r' ∧ Inv M2)) := by
  sorry
theorem st_near {M : Mem} (hI : Inv M) (a1 a2 a3 : Int32) (h3 : a3 = 0 ∨ a3 = 1) : wX10_near a1 a2 a3 M (fun r M1 => wX11_near a1 a2 a3 M1 (fun r' M2 => r = r' ∧ Inv M2)) := by
  sorry
theorem st_form {M : Mem} (hI : Inv M) (a1 a2 a3 a4 a5 a6 a7 : Int32) : wX10_form a1 a2 a3 a4 a5 a6 a7 M (fun r M1 => wX11_form a1 a2 a3 a4 a5 a6 a7 M1 (fun r' M2 => r = r' ∧ Inv M2)) := by
  sorry
theorem st_read {M : Mem} (hI : Inv M) (a1 a2 a3 a4 a5 a6 a7 : Int32) : wX10_read a1 a2 a3 a4 a5 a6 a7 M (fun r M1 => wX11_read a1 a2 a3 a4 a5 a6 a7 M1 (fun r' M2 => r = r' ∧ Inv M2)) := by
  sorry
theorem st_ofForm {M : Mem} (hI : Inv M) (a1 a2 : Int32) : wX10_ofForm a1 a2 M (fun r M1 => wX11_ofForm a1 a2 M1 (fun r' M2 => r = r' ∧ Inv M2)) := by
  sorry
theorem st_said {M : Mem} (hI : Inv M) (a1 a2 : Int32) : wX10_said a1 a2 M (fun r M1 => wX11_said a1 a2 M1 (fun r' M2 => r = r' ∧ Inv M2)) := by
  sorry
theorem st_root {M : Mem} (hI : Inv M) (a1 a2 a3 a4 a5 : Int32) : wX10_root a1 a2 a3 a4 a5 M (fun r M1 => wX11_root a1 a2 a3 a4 a5 M1 (fun r' M2 => r = r' ∧ Inv M2)) := by
  sorry
theorem st_ofRoot {M : Mem} (hI : Inv M) (a1 a2 : Int32) : wX10_ofRoot a1 a2 M (fun r M1 => wX11_ofRoot a1 a2 M1 (fun r' M2 => r = r' ∧ Inv M2)) := by
  sorry
theorem st_law {M : Mem} (hI : Inv M) (a1 a2 a3 a4 a5 : Int32) : wX10_law a1 a2 a3 a4 a5 M (fun r M1 => wX11_law a1 a2 a3 a4 a5 M1 (fun r' M2 => r = r' ∧ Inv M2)) := by
  sorry
theorem st_force {M : Mem} (hI : Inv M) (a1 a2 : Int32) : wX10_force a1 a2 M (fun r M1 => wX11_force a1 a2 M1 (fun r' M2 => r = r' ∧ Inv M2)) := by
  sorry
theorem st_derived {M : Mem} (hI : Inv M) (a1 a2 a3 a4 : Int32) : wX10_derived a1 a2 a3 a4 M (fun r M1 => wX11_derived a1 a2 a3 a4 M1 (fun r' M2 => r = r' ∧ Inv M2)) := by
  sorry
theorem st_latest {M : Mem} (hI : Inv M) (a1 a2 : Int32) : wX10_latest a1 a2 M (fun r M1 => wX11_latest a1 a2 M1 (fun r' M2 => r = r' ∧ Inv M2)) := by
  sorry
theorem st_gap {M : Mem} (hI : Inv M) (a1 : Int32) : wX10_gap a1 M (fun r M1 => wX11_gap a1 M1 (fun r' M2 => r = r' ∧ Inv M2)) := by
  sorry
theorem st_cost {M : Mem} (hI : Inv M) (a1 a2 : Int32) : wX10_cost a1 a2 M (fun r M1 => wX11_cost a1 a2 M1 (fun r' M2 => r = r' ∧ Inv M2)) := by
  sorry
theorem st_align {M : Mem} (hI : Inv M) (a1 a2 a3 : Int32) : wX10_align a1 a2 a3 M (fun r M1 => wX11_align a1 a2 a3 M1 (fun r' M2 => r = r' ∧ Inv M2)) := by
  sorry
theorem st_sought {M : Mem} (hI : Inv M) (a1 a2 a3 : Int32) : wX10_sought a1 a2 a3 M (fun r M1 => wX11_sought a1 a2 a3 M1 (fun r' M2 => r = r' ∧ Inv M2)) := by
  sorry
theorem st_regular {M : Mem} (hI : Inv M) (a1 : Int32) : wX10_regular a1 M (fun r M1 => wX11_regular a1 M1 (fun r' M2 => r = r' ∧ Inv M2)) := by
  sorry
theorem st_ways {M : Mem} (hI : Inv M) (a1 a2 : Int32) : wX10_ways a1 a2 M (fun r M1 => wX11_ways a1 a2 M1 (fun r' M2 => r = r' ∧ Inv M2)) := by
  sorry
theorem st_order {M : Mem} (hI : Inv M) (a1 a2 : Int32) : wX10_order a1 a2 M (fun r M1 => wX11_order a1 a2 M1 (fun r' M2 => r = r' ∧ Inv M2)) := by
  sorry
theorem st_limit {M : Mem} (hI : Inv M) (a1 : Int32) : wX10_limit a1 M (fun r M1 => wX11_limit a1 M1 (fun r' M2 => r = r' ∧ Inv M2)) := by
  sorry
theorem st_group {M : Mem} (hI : Inv M) (a1 a2 : Int32) : wX10_group a1 a2 M (fun r M1 => wX11_group a1 a2 M1 (fun r' M2 => r = r' ∧ Inv M2)) := by
  sorry
theorem st_border {M : Mem} (hI : Inv M) (a1 a2 : Int32) : wX10_border a1 a2 M (fun r M1 => wX11_border a1 a2 M1 (fun r' M2 => r = r' ∧ Inv M2)) := by
  sorry
theorem st_bundle {M : Mem} (hI : Inv M) (a1 a2 : Int32) : wX10_bundle a1 a2 M (fun r M1 => wX11_bundle a1 a2 M1 (fun r' M2 => r = r' ∧ Inv M2)) := by
  sorry
theorem st_area {M : Mem} (hI : Inv M) (a1 a2 : Int32) : wX10_area a1 a2 M (fun r M1 => wX11_area a1 a2 M1 (fun r' M2 => r = r' ∧ Inv M2)) := by
  sorry
theorem st_sheet {M : Mem} (hI : Inv M) (a1 a2 a3 : Int32) : wX10_sheet a1 a2 a3 M (fun r M1 => wX11_sheet a1 a2 a3 M1 (fun r' M2 => r = r' ∧ Inv M2)) := by
  sorry
theorem st_lose {M : Mem} (hI : Inv M) (a1 : Int32) : wX10_lose a1 M (fun r M1 => wX11_lose a1 M1 (fun r' M2 => r = r' ∧ Inv M2)) := by
  sorry
theorem st_put {M : Mem} (hI : Inv M) (a1 a2 a3 : Int32) : wX10_put a1 a2 a3 M (fun r M1 => wX11_put a1 a2 a3 M1 (fun r' M2 => r = r' ∧ Inv M2)) := by
  sorry
theorem st_cell {M : Mem} (hI : Inv M) (a1 a2 a3 : Int32) : wX10_cell a1 a2 a3 M (fun r M1 => wX11_cell a1 a2 a3 M1 (fun r' M2 => r = r' ∧ Inv M2)) := by
  sorry
theorem st_tell {M : Mem} (hI : Inv M) (a1 : Int32) : wX10_tell a1 M (fun r M1 => wX11_tell a1 M1 (fun r' M2 => r = r' ∧ Inv M2)) := by
  sorry
theorem st_name {M : Mem} (hI : Inv M) (a1 : Int32) : wX10_name a1 M (fun r M1 => wX11_name a1 M1 (fun r' M2 => r = r' ∧ Inv M2)) := by
  sorry
theorem st_as {M : Mem} (hI : Inv M) (a1 a2 : Int32) : wX10_as a1 a2 M (fun r M1 => wX11_as a1 a2 M1 (fun r' M2 => r = r' ∧ Inv M2)) := by
  sorry
theorem st_trace {M : Mem} (hI : Inv M) : wX10_trace  M (fun r M1 => wX11_trace  M1 (fun r' M2 => r = r' ∧ Inv M2)) := by
  sorry
theorem st_fault {M : Mem} (hI : Inv M) : wX10_fault  M (fun r M1 => wX11_fault  M1 (fun r' M2 => r = r' ∧ Inv M2)) := by
  sorry
theorem st_many {M : Mem} (hI : Inv M) (a1 : Int32) : wX10_many a1 M (fun r M1 => wX11_many a1 M1 (fun r' M2 => r = r' ∧ Inv M2)) := by
  sorry
