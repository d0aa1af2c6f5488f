theorem mchunk {α : Type} {f g : Nat → α} (a b c d : List Nat) (h1 : a.map f = c.map g) (h2 : b.map f = d.map g) : (a ++ b).map f = (c ++ d).map g := by rw [List.map_append, List.map_append, h1, h2]
theorem V_cellR {C : Ctx} {Y : Mi} {pc : Nat} {L st : List Value} {ws : va_W} {nc ns a n : Nat} {cA : ClassId} {f : Nat → Option Nat} (f' : Nat → Option Nat) (i : Nat) (hi : ws[i]? = some (a, .inl (cA, n, .inr (.inr (.inr (.inr f)))))) (hf : ∀ j, j < n → f j = f' j) (k : V C Y pc L st (ws.set i (a, .inl (cA, n, .inr (.inr (.inr (.inr f')))))) nc ns) : V C Y pc L st ws nc ns := by
  intro p l e s m args below meth c hc H locs ls h1 h2 h3 h4
  have hl : i < ws.length := (List.getElem?_eq_some_iff.mp hi).1
  refine k p l e s m args below meth c hc H locs ls (fun j q hq => ?_) (h2.set hi) h3 h4
  by_cases hj : i = j
  · subst hj
    rw [List.getElem?_set_self hl] at hq
    cases hq
    have h5 := h1 i _ hi
    have e : vp_cell cA (n, .inr (.inr (.inr (.inr f')))) = vp_cell cA (n, .inr (.inr (.inr (.inr f)))) := by
      simp only [vp_cell, arrV]
      congr 2
      funext j
      rw [hf j.val j.isLt]
    show H[a]? = some (vp_cell _ _)
    rw [e]
    exact h5
  · rw [List.getElem?_set_ne hj] at hq
    exact h1 j q hq
theorem ids_eq : ids = [0, 1, 2, 3, 4, 5, 6, 7, 8, 9, 10, 11, 12, 13, 14, 15, 16, 17, 18, 19, 20, 21, 22, 23, 24, 25, 26, 27, 28, 29, 30, 31, 32, 33, 34, 35, 36, 37, 38, 39, 40, 41, 42, 43, 44, 45, 46, 47, 48, 49, 50, 51, 52, 53, 54, 55, 56, 57, 58, 59, 60, 61, 62, 63, 64, 65, 66, 67, 68, 69, 70, 71, 72, 73, 74, 75, 76, 77, 78, 79, 80, 81, 82, 83, 84, 85, 86, 87, 88, 89, 90, 91, 92, 93, 94, 95, 96, 97, 98, 99, 100, 101, 102, 103, 104, 105, 106, 107, 108, 109, 110, 111, 112, 113, 114, 115, 116, 117, 118, 119, 120, 121, 122, 123, 124, 125, 126, 127, 128, 129, 130, 131, 132, 133, 134, 135, 136, 137, 138, 139, 140, 141, 142, 143, 144, 145, 146, 147, 148, 149, 150, 151, 152, 153, 154, 155, 156, 157, 158, 159, 160, 161, 162, 163, 164, 165, 166, 167, 168, 169, 170, 171, 172, 173, 174, 175, 176, 177, 178, 179, 180, 181, 182, 183, 184, 185, 186, 187, 188, 189, 192, 193, 194, 195, 196, 197, 198, 199, 200, 202, 204, 205, 206, 207, 208, 209, 210, 211, 213, 214, 215, 216, 217, 220, 221, 223, 225, 226, 227, 228, 230, 232, 233, 235] := by decide +kernel
theorem fl_cases {k n : Nat} {A f : Nat → Nat} (h : ∀ j, j < n → A (k * j) = f j) : ∀ j, j < n → fl k A n j = some (f j) := fun j hj => by rw [fl, if_pos hj, h j hj]
set_option maxHeartbeats 40000000 in
set_option maxRecDepth 100000 in
theorem law_init {g : Gm} {B b N : Nat} {xs : Nat → Int32} (hN : N ≤ 4096) : V (CLw g B b N xs) mL_law 0 [.ref b] [] [] 0 0 := by
  refine V_new (ci := 10) tyX10 [.null, .null, .null, .null, .null, .null, .null, .null, .null, .null, .null, .null, .null, .null, .null, .int 0, .int 0, .int 0, .int 0, .int 0] (fun _ _ h => Nat.le_of_eq h.2.2.2.symm) dL_law_0 rfl inX10 tyX10_ok cl_L_7 ib_X10 iz_X10 (by decide) (Nat.le_of_ble_eq_true rfl) (Nat.le_of_ble_eq_true rfl) (fun q => ?_)
  refine V_dup dL_law_3 rfl ?_
  refine V_callI (d := 3) (mc := 188) (ms := 1504) mi_X10_init lk_L_9 dL_law_4 i_X10 (fun _ _ h => Nat.le_of_eq h.2.2.2.symm) rfl rfl (Nat.le_of_ble_eq_true rfl) (Nat.le_of_ble_eq_true rfl) (Nat.le_of_ble_eq_true rfl) (Nat.le_of_ble_eq_true rfl) (Nat.le_of_ble_eq_true rfl) (fun v ws' hv => ?_)
  obtain ⟨rfl, q5, q7_9, q15_9, q17, q26, q34, q43, q51, q58, q7_66, q14_66, q7_18_66, q25_66, q7_29_66, q73, q7_81, q88, q6_92, q100, q109, q115, q7_119, q126, q7_130, q137, q7_141, q150, AL, AC, AF, AR, AS, rfl⟩ := hv
  refine V_astore_n dL_law_7 (by decide) ?_
  refine V_new (ci := 11) tyX11 [.int 0, .int 0, .null, .null, .null, .null, .null, .null, .null, .null, .null, .int 0, .null, .int 0, .null, .null, .null, .null, .null, .null, .null, .null, .int 0, .null, .null, .null, .null, .null, .int 0, .int 0, .null, .null, .int 0, .null, .int 0, .null, .null, .null, .null, .int 0, .null, .int 0, .null, .null, .int 0, .null] (fun _ _ h => Nat.le_of_eq h.2.2.2.symm) dL_law_8 rfl inX11 tyX11_ok cl_L_10 ib_X11 iz_X11 (by decide) (Nat.le_of_ble_eq_true rfl) (Nat.le_of_ble_eq_true rfl) (fun qm => ?_)
  refine V_dup dL_law_11 rfl ?_
  refine V_callI (d := 1) (mc := 34) (ms := 1168) mi_X11_init lk_L_12 dL_law_12 i_X11 (fun _ _ h => Nat.le_of_eq h.2.2.2.symm) rfl rfl (Nat.le_of_ble_eq_true rfl) (Nat.le_of_ble_eq_true rfl) (Nat.le_of_ble_eq_true rfl) (Nat.le_of_ble_eq_true rfl) (Nat.le_of_ble_eq_true rfl) (fun v ws' hv => ?_)
  obtain ⟨rfl, mq6, mq33, mq42, mq50, mq58, mq65, mq73, mq81, mq89, mq97, mq105, mq113, mq121, mq129, mq138, mq146, mq154, mq192, mq200, mq208, mq216, mq224, mq232, mq239, mq247, mq255, mq269, mq277, mq285, mq292, mq299, mq307, mq315, mq328, rfl⟩ := hv
  refine V_astore_n dL_law_15 (by decide) ?_
  refine V_iconst 0 dL_law_16 (by decide) ?_
  refine V_istore_n dL_law_17 (by decide) ?_
  obtain ⟨ad, had⟩ : ∃ ad : Nat → Nat, ad = fun id => ([(q), (q5), (q7_9), (q15_9), (q17), (q26), (q34), (q43), (q51), (q58), (q7_66), (q14_66), (q7_18_66), (q73), (q7_81), (q88), (q6_92), (q100), (q109), (q150), (AC 0), (AC 4), (AC 8), (AC 3), (AC 7), (AC 11), (AC 2), (AC 6), (AC 10), (AC 1), (AC 5), (AC 9), (AL 0), (AL 1), (AL 2), (AL 3), (AL 4), (AL 5), (AL 6), (AL 7), (AL 8), (AS 0), (AS 2), (AS 4), (AS 6), (AS 1), (AS 3), (AS 5), (AS 7), (qm), (AF 1), (AF 4), (AF 7), (AF 10), (AF 13), (AF 16), (AF 19), (AF 22), (AF 25), (AF 28), (AF 31), (AF 34), (AF 37), (AF 40), (AF 43), (AF 46), (AF 49), (AF 52), (AF 55), (AF 58), (AF 61), (AF 64), (AF 67), (AF 70), (AF 73), (AF 76), (AF 79), (AF 82), (AF 85), (AF 88), (AF 91), (AF 94), (AF 97), (AF 100), (AF 103), (AF 106), (AF 109), (AF 112), (AF 115), (AF 118), (AR 0), (AR 2), (AR 4), (AR 6), (AR 8), (AR 10), (q25_66), (q115), (q126), (q137), (AF 2), (AF 5), (AF 8), (AF 11), (AF 14), (AF 17), (AF 20), (AF 23), (AF 26), (AF 29), (AF 32), (AF 35), (AF 38), (AF 41), (AF 44), (AF 47), (AF 50), (AF 53), (AF 56), (AF 59), (AF 62), (AF 65), (AF 68), (AF 71), (AF 74), (AF 77), (AF 80), (AF 83), (AF 86), (AF 89), (AF 92), (AF 95), (AF 98), (AF 101), (AF 104), (AF 107), (AF 110), (AF 113), (AF 116), (AF 119), (AR 1), (AR 3), (AR 5), (AR 7), (AR 9), (AR 11), (q7_29_66), (q7_119), (q7_130), (q7_141), (AF 0), (AF 3), (AF 6), (AF 9), (AF 12), (AF 15), (AF 18), (AF 21), (AF 24), (AF 27), (AF 30), (AF 33), (AF 36), (AF 39), (AF 42), (AF 45), (AF 48), (AF 51), (AF 54), (AF 57), (AF 60), (AF 63), (AF 66), (AF 69), (AF 72), (AF 75), (AF 78), (AF 81), (AF 84), (AF 87), (AF 90), (AF 93), (AF 96), (AF 99), (AF 102), (AF 105), (AF 108), (AF 111), (AF 114), (AF 117), 0, 0, (mq6), (mq33), (mq42), (mq50), (mq58), (mq65), (mq73), (mq81), (mq89), 0, (mq97), 0, (mq105), (mq113), (mq121), (mq129), (mq138), (mq146), (mq154), (mq192), 0, (mq200), (mq208), (mq216), (mq224), (mq232), 0, 0, (mq239), (mq247), 0, (mq255), 0, (mq269), (mq277), (mq285), (mq292), 0, (mq299), 0, (mq307), (mq315), 0, (mq328)] : List Nat).getD id 0 := ⟨_, rfl⟩
  refine V_cellR (fun j => some (ad (20 + j))) 36 rfl (fl_cases (f := fun j => ad (20 + j)) (fun j hj => ?_)) ?_
  · subst had
    match j, hj with
    | 0, _ => rfl
    | 1, _ => rfl
    | 2, _ => rfl
    | j + 3, h => exact absurd h (by omega)
  refine V_cellR (fun j => some (ad (150 + j))) 37 rfl (fl_cases (f := fun j => ad (150 + j)) (fun j hj => ?_)) ?_
  · subst had
    match j, hj with
    | 0, _ => rfl
    | 1, _ => rfl
    | 2, _ => rfl
    | 3, _ => rfl
    | 4, _ => rfl
    | 5, _ => rfl
    | 6, _ => rfl
    | 7, _ => rfl
    | 8, _ => rfl
    | 9, _ => rfl
    | 10, _ => rfl
    | 11, _ => rfl
    | 12, _ => rfl
    | 13, _ => rfl
    | 14, _ => rfl
    | 15, _ => rfl
    | 16, _ => rfl
    | 17, _ => rfl
    | 18, _ => rfl
    | 19, _ => rfl
    | 20, _ => rfl
    | 21, _ => rfl
    | 22, _ => rfl
    | 23, _ => rfl
    | 24, _ => rfl
    | 25, _ => rfl
    | 26, _ => rfl
    | 27, _ => rfl
    | 28, _ => rfl
    | 29, _ => rfl
    | 30, _ => rfl
    | 31, _ => rfl
    | 32, _ => rfl
    | 33, _ => rfl
    | 34, _ => rfl
    | 35, _ => rfl
    | 36, _ => rfl
    | 37, _ => rfl
    | 38, _ => rfl
    | 39, _ => rfl
    | j + 40, h => exact absurd h (by omega)
  refine V_cellR (fun j => some (ad (90 + j))) 38 rfl (fl_cases (f := fun j => ad (90 + j)) (fun j hj => ?_)) ?_
  · subst had
    match j, hj with
    | 0, _ => rfl
    | 1, _ => rfl
    | 2, _ => rfl
    | 3, _ => rfl
    | 4, _ => rfl
    | 5, _ => rfl
    | j + 6, h => exact absurd h (by omega)
  refine V_cellR (fun j => some (ad (41 + j))) 39 rfl (fl_cases (f := fun j => ad (41 + j)) (fun j hj => ?_)) ?_
  · subst had
    match j, hj with
    | 0, _ => rfl
    | 1, _ => rfl
    | 2, _ => rfl
    | 3, _ => rfl
    | j + 4, h => exact absurd h (by omega)
  refine V_cellR (fun j => some (ad (32 + j))) 206 rfl (fl_cases (f := fun j => ad (32 + j)) (fun j hj => ?_)) ?_
  · subst had
    match j, hj with
    | 0, _ => rfl
    | 1, _ => rfl
    | 2, _ => rfl
    | 3, _ => rfl
    | 4, _ => rfl
    | 5, _ => rfl
    | 6, _ => rfl
    | 7, _ => rfl
    | 8, _ => rfl
    | j + 9, h => exact absurd h (by omega)
  refine V_pl (ws' := wsM g ad M0) [35, 221, 223, 222, 36, 220, 37, 40, 38, 205, 206, 218, 219, 203, 204, 201, 202, 39, 200, 193, 189, 185, 181, 192, 188, 184, 191, 187, 183, 190, 186, 182, 215, 214, 213, 212, 211, 210, 209, 208, 207, 47, 45, 43, 41, 48, 46, 44, 42, 0, 179, 176, 173, 170, 167, 164, 161, 158, 155, 152, 149, 146, 143, 140, 137, 134, 131, 128, 125, 122, 119, 116, 113, 110, 107, 104, 101, 98, 95, 92, 89, 86, 83, 80, 77, 74, 71, 68, 65, 62, 59, 57, 55, 53, 51, 49, 216, 198, 196, 194, 180, 177, 174, 171, 168, 165, 162, 159, 156, 153, 150, 147, 144, 141, 138, 135, 132, 129, 126, 123, 120, 117, 114, 111, 108, 105, 102, 99, 96, 93, 90, 87, 84, 81, 78, 75, 72, 69, 66, 63, 60, 58, 56, 54, 52, 50, 217, 199, 197, 195, 178, 175, 172, 169, 166, 163, 160, 157, 154, 151, 148, 145, 142, 139, 136, 133, 130, 127, 124, 121, 118, 115, 112, 109, 106, 103, 100, 97, 94, 91, 88, 85, 82, 79, 76, 73, 70, 67, 64, 61, 34, 33, 32, 31, 30, 29, 28, 27, 26, 25, 24, 23, 22, 21, 20, 19, 18, 17, 16, 15, 14, 13, 12, 11, 10, 9, 8, 7, 6, 5, 4, 3, 2, 1] (by decide) (by
    rw [wsM, ids_eq, List.map_map]
    subst had
    refine mchunk [35, 221, 223, 222, 36, 220, 37, 40, 38, 205, 206, 218, 219, 203, 204, 201, 202, 39, 200, 193, 189, 185, 181, 192, 188, 184, 191, 187, 183, 190, 186, 182] [215, 214, 213, 212, 211, 210, 209, 208, 207, 47, 45, 43, 41, 48, 46, 44, 42, 0, 179, 176, 173, 170, 167, 164, 161, 158, 155, 152, 149, 146, 143, 140, 137, 134, 131, 128, 125, 122, 119, 116, 113, 110, 107, 104, 101, 98, 95, 92, 89, 86, 83, 80, 77, 74, 71, 68, 65, 62, 59, 57, 55, 53, 51, 49, 216, 198, 196, 194, 180, 177, 174, 171, 168, 165, 162, 159, 156, 153, 150, 147, 144, 141, 138, 135, 132, 129, 126, 123, 120, 117, 114, 111, 108, 105, 102, 99, 96, 93, 90, 87, 84, 81, 78, 75, 72, 69, 66, 63, 60, 58, 56, 54, 52, 50, 217, 199, 197, 195, 178, 175, 172, 169, 166, 163, 160, 157, 154, 151, 148, 145, 142, 139, 136, 133, 130, 127, 124, 121, 118, 115, 112, 109, 106, 103, 100, 97, 94, 91, 88, 85, 82, 79, 76, 73, 70, 67, 64, 61, 34, 33, 32, 31, 30, 29, 28, 27, 26, 25, 24, 23, 22, 21, 20, 19, 18, 17, 16, 15, 14, 13, 12, 11, 10, 9, 8, 7, 6, 5, 4, 3, 2, 1] [0, 1, 2, 3, 4, 5, 6, 7, 8, 9, 10, 11, 12, 13, 14, 15, 16, 17, 18, 19, 20, 21, 22, 23, 24, 25, 26, 27, 28, 29, 30, 31] [32, 33, 34, 35, 36, 37, 38, 39, 40, 41, 42, 43, 44, 45, 46, 47, 48, 49, 50, 51, 52, 53, 54, 55, 56, 57, 58, 59, 60, 61, 62, 63, 64, 65, 66, 67, 68, 69, 70, 71, 72, 73, 74, 75, 76, 77, 78, 79, 80, 81, 82, 83, 84, 85, 86, 87, 88, 89, 90, 91, 92, 93, 94, 95, 96, 97, 98, 99, 100, 101, 102, 103, 104, 105, 106, 107, 108, 109, 110, 111, 112, 113, 114, 115, 116, 117, 118, 119, 120, 121, 122, 123, 124, 125, 126, 127, 128, 129, 130, 131, 132, 133, 134, 135, 136, 137, 138, 139, 140, 141, 142, 143, 144, 145, 146, 147, 148, 149, 150, 151, 152, 153, 154, 155, 156, 157, 158, 159, 160, 161, 162, 163, 164, 165, 166, 167, 168, 169, 170, 171, 172, 173, 174, 175, 176, 177, 178, 179, 180, 181, 182, 183, 184, 185, 186, 187, 188, 189, 192, 193, 194, 195, 196, 197, 198, 199, 200, 202, 204, 205, 206, 207, 208, 209, 210, 211, 213, 214, 215, 216, 217, 220, 221, 223, 225, 226, 227, 228, 230, 232, 233, 235] rfl ?_
    refine mchunk [215, 214, 213, 212, 211, 210, 209, 208, 207, 47, 45, 43, 41, 48, 46, 44, 42, 0, 179, 176, 173, 170, 167, 164, 161, 158, 155, 152, 149, 146, 143, 140] [137, 134, 131, 128, 125, 122, 119, 116, 113, 110, 107, 104, 101, 98, 95, 92, 89, 86, 83, 80, 77, 74, 71, 68, 65, 62, 59, 57, 55, 53, 51, 49, 216, 198, 196, 194, 180, 177, 174, 171, 168, 165, 162, 159, 156, 153, 150, 147, 144, 141, 138, 135, 132, 129, 126, 123, 120, 117, 114, 111, 108, 105, 102, 99, 96, 93, 90, 87, 84, 81, 78, 75, 72, 69, 66, 63, 60, 58, 56, 54, 52, 50, 217, 199, 197, 195, 178, 175, 172, 169, 166, 163, 160, 157, 154, 151, 148, 145, 142, 139, 136, 133, 130, 127, 124, 121, 118, 115, 112, 109, 106, 103, 100, 97, 94, 91, 88, 85, 82, 79, 76, 73, 70, 67, 64, 61, 34, 33, 32, 31, 30, 29, 28, 27, 26, 25, 24, 23, 22, 21, 20, 19, 18, 17, 16, 15, 14, 13, 12, 11, 10, 9, 8, 7, 6, 5, 4, 3, 2, 1] [32, 33, 34, 35, 36, 37, 38, 39, 40, 41, 42, 43, 44, 45, 46, 47, 48, 49, 50, 51, 52, 53, 54, 55, 56, 57, 58, 59, 60, 61, 62, 63] [64, 65, 66, 67, 68, 69, 70, 71, 72, 73, 74, 75, 76, 77, 78, 79, 80, 81, 82, 83, 84, 85, 86, 87, 88, 89, 90, 91, 92, 93, 94, 95, 96, 97, 98, 99, 100, 101, 102, 103, 104, 105, 106, 107, 108, 109, 110, 111, 112, 113, 114, 115, 116, 117, 118, 119, 120, 121, 122, 123, 124, 125, 126, 127, 128, 129, 130, 131, 132, 133, 134, 135, 136, 137, 138, 139, 140, 141, 142, 143, 144, 145, 146, 147, 148, 149, 150, 151, 152, 153, 154, 155, 156, 157, 158, 159, 160, 161, 162, 163, 164, 165, 166, 167, 168, 169, 170, 171, 172, 173, 174, 175, 176, 177, 178, 179, 180, 181, 182, 183, 184, 185, 186, 187, 188, 189, 192, 193, 194, 195, 196, 197, 198, 199, 200, 202, 204, 205, 206, 207, 208, 209, 210, 211, 213, 214, 215, 216, 217, 220, 221, 223, 225, 226, 227, 228, 230, 232, 233, 235] rfl ?_
    refine mchunk [137, 134, 131, 128, 125, 122, 119, 116, 113, 110, 107, 104, 101, 98, 95, 92, 89, 86, 83, 80, 77, 74, 71, 68, 65, 62, 59, 57, 55, 53, 51, 49] [216, 198, 196, 194, 180, 177, 174, 171, 168, 165, 162, 159, 156, 153, 150, 147, 144, 141, 138, 135, 132, 129, 126, 123, 120, 117, 114, 111, 108, 105, 102, 99, 96, 93, 90, 87, 84, 81, 78, 75, 72, 69, 66, 63, 60, 58, 56, 54, 52, 50, 217, 199, 197, 195, 178, 175, 172, 169, 166, 163, 160, 157, 154, 151, 148, 145, 142, 139, 136, 133, 130, 127, 124, 121, 118, 115, 112, 109, 106, 103, 100, 97, 94, 91, 88, 85, 82, 79, 76, 73, 70, 67, 64, 61, 34, 33, 32, 31, 30, 29, 28, 27, 26, 25, 24, 23, 22, 21, 20, 19, 18, 17, 16, 15, 14, 13, 12, 11, 10, 9, 8, 7, 6, 5, 4, 3, 2, 1] [64, 65, 66, 67, 68, 69, 70, 71, 72, 73, 74, 75, 76, 77, 78, 79, 80, 81, 82, 83, 84, 85, 86, 87, 88, 89, 90, 91, 92, 93, 94, 95] [96, 97, 98, 99, 100, 101, 102, 103, 104, 105, 106, 107, 108, 109, 110, 111, 112, 113, 114, 115, 116, 117, 118, 119, 120, 121, 122, 123, 124, 125, 126, 127, 128, 129, 130, 131, 132, 133, 134, 135, 136, 137, 138, 139, 140, 141, 142, 143, 144, 145, 146, 147, 148, 149, 150, 151, 152, 153, 154, 155, 156, 157, 158, 159, 160, 161, 162, 163, 164, 165, 166, 167, 168, 169, 170, 171, 172, 173, 174, 175, 176, 177, 178, 179, 180, 181, 182, 183, 184, 185, 186, 187, 188, 189, 192, 193, 194, 195, 196, 197, 198, 199, 200, 202, 204, 205, 206, 207, 208, 209, 210, 211, 213, 214, 215, 216, 217, 220, 221, 223, 225, 226, 227, 228, 230, 232, 233, 235] rfl ?_
    refine mchunk [216, 198, 196, 194, 180, 177, 174, 171, 168, 165, 162, 159, 156, 153, 150, 147, 144, 141, 138, 135, 132, 129, 126, 123, 120, 117, 114, 111, 108, 105, 102, 99] [96, 93, 90, 87, 84, 81, 78, 75, 72, 69, 66, 63, 60, 58, 56, 54, 52, 50, 217, 199, 197, 195, 178, 175, 172, 169, 166, 163, 160, 157, 154, 151, 148, 145, 142, 139, 136, 133, 130, 127, 124, 121, 118, 115, 112, 109, 106, 103, 100, 97, 94, 91, 88, 85, 82, 79, 76, 73, 70, 67, 64, 61, 34, 33, 32, 31, 30, 29, 28, 27, 26, 25, 24, 23, 22, 21, 20, 19, 18, 17, 16, 15, 14, 13, 12, 11, 10, 9, 8, 7, 6, 5, 4, 3, 2, 1] [96, 97, 98, 99, 100, 101, 102, 103, 104, 105, 106, 107, 108, 109, 110, 111, 112, 113, 114, 115, 116, 117, 118, 119, 120, 121, 122, 123, 124, 125, 126, 127] [128, 129, 130, 131, 132, 133, 134, 135, 136, 137, 138, 139, 140, 141, 142, 143, 144, 145, 146, 147, 148, 149, 150, 151, 152, 153, 154, 155, 156, 157, 158, 159, 160, 161, 162, 163, 164, 165, 166, 167, 168, 169, 170, 171, 172, 173, 174, 175, 176, 177, 178, 179, 180, 181, 182, 183, 184, 185, 186, 187, 188, 189, 192, 193, 194, 195, 196, 197, 198, 199, 200, 202, 204, 205, 206, 207, 208, 209, 210, 211, 213, 214, 215, 216, 217, 220, 221, 223, 225, 226, 227, 228, 230, 232, 233, 235] rfl ?_
    refine mchunk [96, 93, 90, 87, 84, 81, 78, 75, 72, 69, 66, 63, 60, 58, 56, 54, 52, 50, 217, 199, 197, 195, 178, 175, 172, 169, 166, 163, 160, 157, 154, 151] [148, 145, 142, 139, 136, 133, 130, 127, 124, 121, 118, 115, 112, 109, 106, 103, 100, 97, 94, 91, 88, 85, 82, 79, 76, 73, 70, 67, 64, 61, 34, 33, 32, 31, 30, 29, 28, 27, 26, 25, 24, 23, 22, 21, 20, 19, 18, 17, 16, 15, 14, 13, 12, 11, 10, 9, 8, 7, 6, 5, 4, 3, 2, 1] [128, 129, 130, 131, 132, 133, 134, 135, 136, 137, 138, 139, 140, 141, 142, 143, 144, 145, 146, 147, 148, 149, 150, 151, 152, 153, 154, 155, 156, 157, 158, 159] [160, 161, 162, 163, 164, 165, 166, 167, 168, 169, 170, 171, 172, 173, 174, 175, 176, 177, 178, 179, 180, 181, 182, 183, 184, 185, 186, 187, 188, 189, 192, 193, 194, 195, 196, 197, 198, 199, 200, 202, 204, 205, 206, 207, 208, 209, 210, 211, 213, 214, 215, 216, 217, 220, 221, 223, 225, 226, 227, 228, 230, 232, 233, 235] rfl ?_
    refine mchunk [148, 145, 142, 139, 136, 133, 130, 127, 124, 121, 118, 115, 112, 109, 106, 103, 100, 97, 94, 91, 88, 85, 82, 79, 76, 73, 70, 67, 64, 61, 34, 33] [32, 31, 30, 29, 28, 27, 26, 25, 24, 23, 22, 21, 20, 19, 18, 17, 16, 15, 14, 13, 12, 11, 10, 9, 8, 7, 6, 5, 4, 3, 2, 1] [160, 161, 162, 163, 164, 165, 166, 167, 168, 169, 170, 171, 172, 173, 174, 175, 176, 177, 178, 179, 180, 181, 182, 183, 184, 185, 186, 187, 188, 189, 192, 193] [194, 195, 196, 197, 198, 199, 200, 202, 204, 205, 206, 207, 208, 209, 210, 211, 213, 214, 215, 216, 217, 220, 221, 223, 225, 226, 227, 228, 230, 232, 233, 235] rfl ?_
    rfl) ?_
  have h0 := lw_loop (g := g) (B := B) (b := b) (xs := xs) (ad := ad) (nc := 224) (ns := 2738) hN (by decide) (by decide) (N + 1) 0 M0 (by omega) (by omega) Inv_M0
  rw [show nI (8 * 0) = 0 by decide] at h0
  subst had
  exact h0
theorem whole_start {p : Program} {e : Env} {s : State} {m : MethodId} {below : List Frame} {meth : Method} {c : Code} (l : Launch) {b L : Nat} {xs : Nat → Int32} (hL : L ≤ 4096) (C0 : lw_At p s m meth c b L xs) : W p l e room_1 s m #[Value.ref b] below meth c s.heap [] 0 0 (lw_Z below #[Value.ref b] s) (entryFrame m ([Value.ref b] : List Value).toArray 4) := by
  obtain ⟨hx, hb, hr, hml, hown, hts, hX, hbl, hlocks, hgv⟩ := id C0
  have hgd : ∀ w ∈ gdT, w.before #[Value.ref b] s = true := fun w hw => hts w (List.mem_filter.mp hw).1
  have hxt : Nx s := by
    intro w hw
    have hi := xt_link hw
    have h1 := hts w (List.mem_filter.mp hw).1
    cases w <;> first | exact va_Nw.of rfl h1 | cases hi | (rename_i ty; cases ty <;> first | exact va_AO.of h1 | cases hi)
  obtain ⟨c0, j0, hk0⟩ := u_known (C := RX0) (T := TX0) (N := 3) (n := 3) hgd inX0 (hgd _ ib_X0)
  obtain ⟨c1, j1, hk1⟩ := u_known (C := RX1) (T := TX1) (N := 4) (n := 4) hgd inX1 (hgd _ ib_X1)
  obtain ⟨c2, j2, hk2⟩ := u_known (C := RX2) (T := TX2) (N := 4) (n := 4) hgd inX2 (hgd _ ib_X2)
  obtain ⟨c3, j3, hk3⟩ := u_known (C := RX3) (T := TX3) (N := 5) (n := 5) hgd inX3 (hgd _ ib_X3)
  obtain ⟨c4, j4, hk4⟩ := u_known (C := RX4) (T := TX4) (N := 5) (n := 5) hgd inX4 (hgd _ ib_X4)
  obtain ⟨c5, j5, hk5⟩ := u_known (C := RX5) (T := TX5) (N := 3) (n := 3) hgd inX5 (hgd _ ib_X5)
  obtain ⟨c6, j6, hk6⟩ := u_known (C := RX6) (T := TX6) (N := 4) (n := 4) hgd inX6 (hgd _ ib_X6)
  obtain ⟨c7, j7, hk7⟩ := u_known (C := RX7) (T := TX7) (N := 2) (n := 2) hgd inX7 (hgd _ ib_X7)
  obtain ⟨c8, j8, hk8⟩ := u_known (C := RX8) (T := TX8) (N := 4) (n := 4) hgd inX8 (hgd _ ib_X8)
  obtain ⟨c9, j9, hk9⟩ := u_known (C := RX9) (T := TX9) (N := 2) (n := 2) hgd inX9 (hgd _ ib_X9)
  obtain ⟨c10, j10, hk10⟩ := u_known (C := RX10) (T := TX10) (N := 20) (n := 20) hgd inX10 (hgd _ ib_X10)
  obtain ⟨c11, j11, hk11⟩ := u_known (C := RX11) (T := TX11) (N := 46) (n := 46) hgd inX11 (hgd _ ib_X11)
  obtain ⟨aI, kI, pI, hI1, hI2, hI3⟩ := Cond.arrayClass_spec (hgd _ ac_int)
  obtain ⟨p0, a0, k0, g01, g02, g03, g04, g05⟩ := Cond.arrayOver_spec (hxt _ ao_X1)
  obtain ⟨p1, a1, k1, g11, g12, g13, g14, g15⟩ := Cond.arrayOver_spec (hxt _ ao_X2)
  obtain ⟨p2, a2, k2, g21, g22, g23, g24, g25⟩ := Cond.arrayOver_spec (hxt _ ao_X7)
  obtain ⟨p3, a3, k3, g31, g32, g33, g34, g35⟩ := Cond.arrayOver_spec (hxt _ ao_X8)
  obtain ⟨p4, a4, k4, g41, g42, g43, g44, g45⟩ := Cond.arrayOver_spec (hxt _ ao_X3)
  obtain ⟨g, hg⟩ : ∃ g : Gm, g = (((fun k => match k with | 0 => c0 | 1 => c1 | 2 => c2 | 3 => c3 | 4 => c4 | 5 => c5 | 6 => c6 | 7 => c7 | 8 => c8 | 9 => c9 | 10 => c10 | _ => c11), (fun k => match k with | 0 => j0 | 1 => j1 | 2 => j2 | 3 => j3 | 4 => j4 | 5 => j5 | 6 => j6 | 7 => j7 | 8 => j8 | 9 => j9 | 10 => j10 | _ => j11)), (fun k => match k with | 0 => aI | 1 => a0 | 2 => a1 | 3 => a2 | 4 => a3 | _ => a4)) := ⟨_, rfl⟩
  have hK : va_K g.1 vwCl (tyG g) s := by
    subst hg
    refine ⟨fun k q hq => ?_, fun k q hq => ?_⟩
    · match k, hq with
      | 0, hq => cases hq; exact hk0
      | 1, hq => cases hq; exact hk1
      | 2, hq => cases hq; exact hk2
      | 3, hq => cases hq; exact hk3
      | 4, hq => cases hq; exact hk4
      | 5, hq => cases hq; exact hk5
      | 6, hq => cases hq; exact hk6
      | 7, hq => cases hq; exact hk7
      | 8, hq => cases hq; exact hk8
      | 9, hq => cases hq; exact hk9
      | 10, hq => cases hq; exact hk10
      | 11, hq => cases hq; exact hk11
      | k + 12, hq => simp [vwCl] at hq
    · match k, hq with
      | 0, hq => cases hq; exact ⟨fun n z => ⟨fun k h => (by cases h), kI, hI2, pI, hI3⟩, hI1⟩
      | 1, hq => cases hq; exact ⟨fun n z => ⟨fun k h => (by cases h), k0, g03, p0, g04⟩, k0, p0, g03, g04, g01, g05⟩
      | 2, hq => cases hq; exact ⟨fun n z => ⟨fun k h => (by cases h), k1, g13, p1, g14⟩, k1, p1, g13, g14, g11, g15⟩
      | 3, hq => cases hq; exact ⟨fun n z => ⟨fun k h => (by cases h), k2, g23, p2, g24⟩, k2, p2, g23, g24, g21, g25⟩
      | 4, hq => cases hq; exact ⟨fun n z => ⟨fun k h => (by cases h), k3, g33, p3, g34⟩, k3, p3, g33, g34, g31, g35⟩
      | 5, hq => cases hq; exact ⟨fun n z => ⟨fun k h => (by cases h), k4, g43, p4, g44⟩, k4, p4, g43, g44, g41, g45⟩
      | k + 6, hq => simp [tyG] at hq
  have e1 : (lg_sl [Value.ref b]).length ≤ 4 := (Lk.entry [Value.ref b] 4 (fun v hv => by rw [List.mem_singleton.mp hv]; rfl) (Nat.le_of_ble_eq_true rfl)).1
  have hl := lv_entry [Value.ref b] e1
  rw [lg_entry_eq]
  refine law_init (g := g) (B := s.heap.size) (b := b) (N := L) (xs := xs) hL p l e s m #[Value.ref b] below meth c ⟨hx, hb, hml, hr, hlocks, hown, hgd, hxt, hK, rfl, hX, hbl, rfl⟩ s.heap [] _ (fun k q h => by simp at h) ⟨fun i j p q h => by simp at h, fun k q h => by simp at h⟩ va_S.rf ⟨hl.1, hl.2.1, fun i v hi => ?_⟩
  match i, hi with
  | 0, hi => cases hi; exact ⟨hl.2.2 (0, .ref b) List.mem_cons_self, rfl⟩
  | i + 1, hi => cases i <;> cases hi
