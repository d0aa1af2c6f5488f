theorem mn_X6_31 : Cond.methodLink RX6 31 Lib.Math.min.name ∈ gdT := (gd_in3 95 (by decide +kernel) rfl)
theorem mn_all : Cond.static Lib.Math.min.name ∈ gdT ∧ Cond.initialized "java/lang/Math" ∈ gdT ∧ Cond.code Lib.Math.min.name Lib.Math.min.code 2 (some .int) ∈ gdT := ⟨(gd_in3 96 (by decide +kernel) rfl), (gd_in1 16 (by decide +kernel) rfl), (gd_in3 97 (by decide +kernel) rfl)⟩
theorem V_min {C : Ctx} {Y : Mi} {pc idx : Nat} {L st : List Value} {ws : va_W} {nc ns : Nat} {x y : Int32} (hl : Cond.methodLink Y.1.cls idx Lib.Math.min.name ∈ gdT) (hd : decode Y.2.1 pc = .ok (.invokestatic idx, 3)) (hf : 1 ≤ C.2.2.2.2.frames) (hlo : (st.map fun v => v.category).sum + 13 ≤ C.2.2.2.2.locals) (hcc : nc ≤ C.2.2.2.2.cells) (hss : ns ≤ C.2.2.2.2.slots) (k : V C Y (pc + 3) L (.int (if y < x then y else x) :: st) ws nc ns) : V C Y pc L (.int y :: .int x :: st) ws nc ns := by
  intro p l e s m args below meth c hc H locs ls h1 h2 h3 h4
  have hts := hc.2.2.2.2.2.2.1
  exact va_mmin hc.1 hc.2.1 (by rw [hc.2.2.1, h4.1]) hc.2.2.2.2.2.1 (hts _ hl) (hts _ mn_all.1) (hts _ mn_all.2.1) (hts _ mn_all.2.2) hf hlo hcc hss hd (k p l e s m args below meth c hc H locs ls h1 h2 h3 h4)
