abbrev mL_law : Mi := (yL_law, cL_law, 4, some .boolean)
def XL (B b N : Nat) (xs : Nat → Int32) : Array Value → State → Prop := fun args s => args = #[Value.ref b] ∧ va_X b N xs s s.heap ∧ b < s.heap.size ∧ s.heap.size = B
def CLw (g : Gm) (B b N : Nat) (xs : Nat → Int32) : Ctx := (g, B, XL B b N xs, (fun below args s => lw_Z below args s), room_1)
section LAWV
variable {g : Gm} {B b N nc ns : Nat} {xs : Nat → Int32} {pc : Nat} {L st : List Value} {ws : va_W}
theorem V_sld {i : Int32} (hd : decode mL_law.2.1 pc = .ok (.iaload, 1)) (hin : vp_in i N) (k : V (CLw g B b N xs) mL_law (pc + 1) L (.int (xs i.toNatClampNeg) :: st) ws nc ns) : V (CLw g B b N xs) mL_law pc L (.int i :: .ref b :: st) ws nc ns := by
  intro p l e s m args below meth c hc H locs ls h1 h2 h3 h4
  obtain ⟨-, hX, hbl, hB⟩ := hc.2.2.2.2.2.2.2.2.2
  exact va_sld hc.1 hc.2.1 hX hbl (by show ¬ B ≤ b; omega) h3 hin hd (k p l e s m args below meth c hc H locs ls h1 h2 h3 h4)
theorem V_slen (hd : decode mL_law.2.1 pc = .ok (.arraylength, 1)) (k : V (CLw g B b N xs) mL_law (pc + 1) L (.int (Int32.ofNat N) :: st) ws nc ns) : V (CLw g B b N xs) mL_law pc L (.ref b :: st) ws nc ns := by
  intro p l e s m args below meth c hc H locs ls h1 h2 h3 h4
  obtain ⟨-, hX, hbl, hB⟩ := hc.2.2.2.2.2.2.2.2.2
  exact va_slen hc.1 hc.2.1 hX hbl (by show ¬ B ≤ b; omega) h3 hd (k p l e s m args below meth c hc H locs ls h1 h2 h3 h4)
theorem V_lawret (hd : decode code pc = .ok (.ireturn, 1)) (hnc : nc ≤ 600000) (hns : ns ≤ 7302250) : V (CLw g B b N xs) mL_law pc L [.int 1] ws nc ns := by
  intro p l e s m args below meth c hc H locs ls h1 h2 h3 h4
  obtain ⟨ha, hX, hbl, hB⟩ := hc.2.2.2.2.2.2.2.2.2
  subst ha
  refine va_forget (fun q hq => by rw [hB]; exact h3.2.2 q hq) ?_
  refine W.widen (k := 600000) (n := 7302250) hnc hns ?_
  exact lw_ret hc.1 hc.2.1 hc.2.2.2.1 hc.2.2.2.2.1 hd
theorem V_ifeqT {C : Ctx} {Y : Mi} {x : Int32} {off : Int} (tgt : Nat) (hd : decode Y.2.1 pc = .ok (.ifCond .eq off, 3)) (ht : (pc : Int) + off = (tgt : Int)) (hx : x = 0) (k : V C Y tgt L st ws nc ns) : V C Y pc L (.int x :: st) ws nc ns := V_if_eq tgt hd ht (fun _ => k) (fun h => absurd hx h)
theorem V_ifeqF {C : Ctx} {Y : Mi} {x : Int32} {off : Int} (tgt : Nat) (hd : decode Y.2.1 pc = .ok (.ifCond .eq off, 3)) (ht : (pc : Int) + off = (tgt : Int)) (hx : ¬ x = 0) (k : V C Y (pc + 3) L st ws nc ns) : V C Y pc L (.int x :: st) ws nc ns := V_if_eq tgt hd ht (fun h => absurd h hx) (fun _ => k)
theorem V_cmpT {C : Ctx} {Y : Mi} {x y : Int32} {off : Int} (tgt : Nat) (hd : decode Y.2.1 pc = .ok (.if_icmp .eq off, 3)) (ht : (pc : Int) + off = (tgt : Int)) (hx : x = y) (k : V C Y tgt L st ws nc ns) : V C Y pc L (.int y :: .int x :: st) ws nc ns := V_icmp_eq tgt hd ht (fun _ => k) (fun h => absurd hx h)
end LAWV
section LAWC
variable {g : Gm} {B b N nc ns d n idx : Nat} {xs : Nat → Int32} {pc : Nat} {L stk rest : List Value} {ad : Nat → Nat} {M : Mem} {Y' : Mi}
theorem L_V {as : List Value} {id ci N0 : Nat} {T : u_T} {Q : Option Value → Mem → Prop} (hM : MV Y' n) (hl : LkM RL idx Y'.1) (hd : decode mL_law.2.1 pc = .ok (.invokevirtual idx, 3)) (hci : vwCl[ci]? = some (Y'.1.cls, T, N0)) (hk : kd id = ci) (hct : CM (g, B, ad) d Y' (.ref (ad id) :: as) M Q) (hst : stk = as.reverse ++ .ref (ad id) :: rest) (hn : as.length = n) (hw : (rest.map fun v => v.category).sum ≤ 8) (hf : d + 1 ≤ 10) (hlo : 8 + (Y'.2.2.1 + 11) + 40 * d ≤ 382) (hnc : nc ≤ 600000) (hns : ns ≤ 7302250)
    (kk : ∀ v M', Q v M' → V (CLw g B b N xs) mL_law (pc + 3) L (v.toList ++ rest) (wsM g ad M') nc ns) : V (CLw g B b N xs) mL_law pc L stk (wsM g ad M) nc ns := by
  obtain ⟨q0, -, hq⟩ := ws_at (g := g) (ad := ad) (M := M) (id := id) (by have := (nF_ok hci).2; omega)
  rw [cellE_obj hk (by have := (nF_ok hci).2; omega)] at hq
  refine V_callV (C := CLw g B b N xs) (d := d) (mc := 0) (ms := 0) hM hl hd hci hq hct (fun _ _ h => Nat.le_of_eq h.2.2.2.symm) hst hn hw hf hlo hnc hns (fun v ws' hv => ?_)
  obtain ⟨M', e1, e2⟩ := hv
  subst e1
  exact kk v M' e2
theorem L_Vi {as : List Value} {id ci N0 : Nat} {T : u_T} {Q : Int32 → Mem → Prop} (hM : MV Y' n) (hl : LkM RL idx Y'.1) (hd : decode mL_law.2.1 pc = .ok (.invokevirtual idx, 3)) (hci : vwCl[ci]? = some (Y'.1.cls, T, N0)) (hk : kd id = ci) (hct : CM (g, B, ad) d Y' (.ref (ad id) :: as) M (Pi Q)) (hst : stk = as.reverse ++ .ref (ad id) :: rest) (hn : as.length = n) (hw : (rest.map fun v => v.category).sum ≤ 8) (hf : d + 1 ≤ 10) (hlo : 8 + (Y'.2.2.1 + 11) + 40 * d ≤ 382) (hnc : nc ≤ 600000) (hns : ns ≤ 7302250)
    (kk : ∀ r M', Q r M' → V (CLw g B b N xs) mL_law (pc + 3) L (.int r :: rest) (wsM g ad M') nc ns) : V (CLw g B b N xs) mL_law pc L stk (wsM g ad M) nc ns :=
  L_V hM hl hd hci hk hct hst hn hw hf hlo hnc hns (fun v M' h => by obtain ⟨r, e, h⟩ := h; subst e; exact kk r M' h)
theorem L_Vl {as : List Value} {id ci N0 : Nat} {T : u_T} {Q : Int64 → Mem → Prop} (hM : MV Y' n) (hl : LkM RL idx Y'.1) (hd : decode mL_law.2.1 pc = .ok (.invokevirtual idx, 3)) (hci : vwCl[ci]? = some (Y'.1.cls, T, N0)) (hk : kd id = ci) (hct : CM (g, B, ad) d Y' (.ref (ad id) :: as) M (Pl Q)) (hst : stk = as.reverse ++ .ref (ad id) :: rest) (hn : as.length = n) (hw : (rest.map fun v => v.category).sum ≤ 8) (hf : d + 1 ≤ 10) (hlo : 8 + (Y'.2.2.1 + 11) + 40 * d ≤ 382) (hnc : nc ≤ 600000) (hns : ns ≤ 7302250)
    (kk : ∀ r M', Q r M' → V (CLw g B b N xs) mL_law (pc + 3) L (.long r :: rest) (wsM g ad M') nc ns) : V (CLw g B b N xs) mL_law pc L stk (wsM g ad M) nc ns :=
  L_V hM hl hd hci hk hct hst hn hw hf hlo hnc hns (fun v M' h => by obtain ⟨r, e, h⟩ := h; subst e; exact kk r M' h)
end LAWC
section LAWCASES
variable {g : Gm} {B b N nc ns : Nat} {xs : Nat → Int32} {ad : Nat → Nat} {M : Mem} {i : Int32}

theorem lw_c0 (hI : Inv M) (hs : ∀ c : Int32, 0 ≤ c → c ≤ 7 → vp_in (i + c) N) (hnc : nc ≤ 600000) (hns : ns ≤ 7302250) (hk : ∀ M2, Inv M2 → V (CLw g B b N xs) mL_law 1641 [.ref b, .ref (ad 0), .ref (ad 49), .int i] [] (wsM g ad M2) nc ns) : V (CLw g B b N xs) mL_law 200 [.ref b, .ref (ad 0), .ref (ad 49), .int i] [] (wsM g ad M) nc ns := by
  refine V_aload_n dL_law_200 rfl ?_
  refine V_aload_n dL_law_201 rfl ?_
  refine V_iload_n dL_law_202 rfl ?_
  refine V_iconst 1 dL_law_203 (by decide) ?_
  refine V_iadd dL_law_204 ?_
  refine V_sld dL_law_205 (hs 1 (by decide) (by decide)) ?_
  refine V_aload_n dL_law_206 rfl ?_
  refine V_iload_n dL_law_207 rfl ?_
  refine V_iconst 2 dL_law_208 (by decide) ?_
  refine V_iadd dL_law_209 ?_
  refine V_sld dL_law_210 (hs 2 (by decide) (by decide)) ?_
  refine V_aload_n dL_law_211 rfl ?_
  refine V_iload_n dL_law_212 rfl ?_
  refine V_iconst 3 dL_law_213 (by decide) ?_
  refine V_iadd dL_law_214 ?_
  refine V_sld dL_law_215 (hs 3 (by decide) (by decide)) ?_
  have h := st_sound hI (xs (i + 1).toNatClampNeg) (xs (i + 2).toNatClampNeg) (xs (i + 3).toNatClampNeg)
  refine L_Vi mv_X10_sound lk_L_13 dL_law_216 rfl rfl (sX10_sound h) rfl rfl (Nat.le_of_ble_eq_true rfl) (by decide) (by decide) hnc hns (fun r1 M1 h => ?_)
  refine V_aload_n dL_law_219 rfl ?_
  refine V_aload_n dL_law_220 rfl ?_
  refine V_iload_n dL_law_221 rfl ?_
  refine V_iconst 1 dL_law_222 (by decide) ?_
  refine V_iadd dL_law_223 ?_
  refine V_sld dL_law_224 (hs 1 (by decide) (by decide)) ?_
  refine V_aload_n dL_law_225 rfl ?_
  refine V_iload_n dL_law_226 rfl ?_
  refine V_iconst 2 dL_law_227 (by decide) ?_
  refine V_iadd dL_law_228 ?_
  refine V_sld dL_law_229 (hs 2 (by decide) (by decide)) ?_
  refine V_aload_n dL_law_230 rfl ?_
  refine V_iload_n dL_law_231 rfl ?_
  refine V_iconst 3 dL_law_232 (by decide) ?_
  refine V_iadd dL_law_233 ?_
  refine V_sld dL_law_234 (hs 3 (by decide) (by decide)) ?_
  refine L_Vi mv_X11_sound lk_L_17 dL_law_235 rfl rfl (sX11_sound h) rfl rfl (Nat.le_of_ble_eq_true rfl) (by decide) (by decide) hnc hns (fun r2 M2 h => ?_)
  refine V_cmpT 1641 dL_law_238 (by decide) h.1 ?_
  exact hk M2 h.2
theorem lw_c1 (hI : Inv M) (hs : ∀ c : Int32, 0 ≤ c → c ≤ 7 → vp_in (i + c) N) (hnc : nc ≤ 600000) (hns : ns ≤ 7302250) (hk : ∀ M2, Inv M2 → V (CLw g B b N xs) mL_law 1641 [.ref b, .ref (ad 0), .ref (ad 49), .int i] [] (wsM g ad M2) nc ns) : V (CLw g B b N xs) mL_law 243 [.ref b, .ref (ad 0), .ref (ad 49), .int i] [] (wsM g ad M) nc ns := by
  refine V_aload_n dL_law_243 rfl ?_
  refine V_aload_n dL_law_244 rfl ?_
  refine V_iload_n dL_law_245 rfl ?_
  refine V_iconst 1 dL_law_246 (by decide) ?_
  refine V_iadd dL_law_247 ?_
  refine V_sld dL_law_248 (hs 1 (by decide) (by decide)) ?_
  refine V_aload_n dL_law_249 rfl ?_
  refine V_iload_n dL_law_250 rfl ?_
  refine V_iconst 2 dL_law_251 (by decide) ?_
  refine V_iadd dL_law_252 ?_
  refine V_sld dL_law_253 (hs 2 (by decide) (by decide)) ?_
  have h := st_feature hI (xs (i + 1).toNatClampNeg) (xs (i + 2).toNatClampNeg)
  refine L_Vi mv_X10_feature lk_L_18 dL_law_254 rfl rfl (sX10_feature h) rfl rfl (Nat.le_of_ble_eq_true rfl) (by decide) (by decide) hnc hns (fun r1 M1 h => ?_)
  refine V_aload_n dL_law_257 rfl ?_
  refine V_aload_n dL_law_258 rfl ?_
  refine V_iload_n dL_law_259 rfl ?_
  refine V_iconst 1 dL_law_260 (by decide) ?_
  refine V_iadd dL_law_261 ?_
  refine V_sld dL_law_262 (hs 1 (by decide) (by decide)) ?_
  refine V_aload_n dL_law_263 rfl ?_
  refine V_iload_n dL_law_264 rfl ?_
  refine V_iconst 2 dL_law_265 (by decide) ?_
  refine V_iadd dL_law_266 ?_
  refine V_sld dL_law_267 (hs 2 (by decide) (by decide)) ?_
  refine L_Vi mv_X11_feature lk_L_22 dL_law_268 rfl rfl (sX11_feature h) rfl rfl (Nat.le_of_ble_eq_true rfl) (by decide) (by decide) hnc hns (fun r2 M2 h => ?_)
  refine V_cmpT 1641 dL_law_271 (by decide) h.1 ?_
  exact hk M2 h.2
theorem lw_c2 (hI : Inv M) (hs : ∀ c : Int32, 0 ≤ c → c ≤ 7 → vp_in (i + c) N) (hnc : nc ≤ 600000) (hns : ns ≤ 7302250) (hk : ∀ M2, Inv M2 → V (CLw g B b N xs) mL_law 1641 [.ref b, .ref (ad 0), .ref (ad 49), .int i] [] (wsM g ad M2) nc ns) : V (CLw g B b N xs) mL_law 276 [.ref b, .ref (ad 0), .ref (ad 49), .int i] [] (wsM g ad M) nc ns := by
  refine V_aload_n dL_law_276 rfl ?_
  refine V_aload_n dL_law_277 rfl ?_
  refine V_iload_n dL_law_278 rfl ?_
  refine V_iconst 1 dL_law_279 (by decide) ?_
  refine V_iadd dL_law_280 ?_
  refine V_sld dL_law_281 (hs 1 (by decide) (by decide)) ?_
  refine V_aload_n dL_law_282 rfl ?_
  refine V_iload_n dL_law_283 rfl ?_
  refine V_iconst 2 dL_law_284 (by decide) ?_
  refine V_iadd dL_law_285 ?_
  refine V_sld dL_law_286 (hs 2 (by decide) (by decide)) ?_
  have h := st_differ hI (xs (i + 1).toNatClampNeg) (xs (i + 2).toNatClampNeg)
  refine L_Vi mv_X10_differ lk_L_23 dL_law_287 rfl rfl (sX10_differ h) rfl rfl (Nat.le_of_ble_eq_true rfl) (by decide) (by decide) hnc hns (fun r1 M1 h => ?_)
  refine V_aload_n dL_law_290 rfl ?_
  refine V_aload_n dL_law_291 rfl ?_
  refine V_iload_n dL_law_292 rfl ?_
  refine V_iconst 1 dL_law_293 (by decide) ?_
  refine V_iadd dL_law_294 ?_
  refine V_sld dL_law_295 (hs 1 (by decide) (by decide)) ?_
  refine V_aload_n dL_law_296 rfl ?_
  refine V_iload_n dL_law_297 rfl ?_
  refine V_iconst 2 dL_law_298 (by decide) ?_
  refine V_iadd dL_law_299 ?_
  refine V_sld dL_law_300 (hs 2 (by decide) (by decide)) ?_
  refine L_Vi mv_X11_differ lk_L_26 dL_law_301 rfl rfl (sX11_differ h) rfl rfl (Nat.le_of_ble_eq_true rfl) (by decide) (by decide) hnc hns (fun r2 M2 h => ?_)
  refine V_cmpT 1641 dL_law_304 (by decide) h.1 ?_
  exact hk M2 h.2
theorem lw_c3 (hI : Inv M) (hs : ∀ c : Int32, 0 ≤ c → c ≤ 7 → vp_in (i + c) N) (hnc : nc ≤ 600000) (hns : ns ≤ 7302250) (hk : ∀ M2, Inv M2 → V (CLw g B b N xs) mL_law 1641 [.ref b, .ref (ad 0), .ref (ad 49), .int i] [] (wsM g ad M2) nc ns) : V (CLw g B b N xs) mL_law 309 [.ref b, .ref (ad 0), .ref (ad 49), .int i] [] (wsM g ad M) nc ns := by
  refine V_aload_n dL_law_309 rfl ?_
  refine V_aload_n dL_law_310 rfl ?_
  refine V_iload_n dL_law_311 rfl ?_
  refine V_iconst 1 dL_law_312 (by decide) ?_
  refine V_iadd dL_law_313 ?_
  refine V_sld dL_law_314 (hs 1 (by decide) (by decide)) ?_
  refine V_aload_n dL_law_315 rfl ?_
  refine V_iload_n dL_law_316 rfl ?_
  refine V_iconst 2 dL_law_317 (by decide) ?_
  refine V_iadd dL_law_318 ?_
  refine V_sld dL_law_319 (hs 2 (by decide) (by decide)) ?_
  refine V_aload_n dL_law_320 rfl ?_
  refine V_iload_n dL_law_321 rfl ?_
  refine V_iconst 3 dL_law_322 (by decide) ?_
  refine V_iadd dL_law_323 ?_
  refine V_sld dL_law_324 (hs 3 (by decide) (by decide)) ?_
  refine V_aload_n dL_law_325 rfl ?_
  refine V_iload_n dL_law_326 rfl ?_
  refine V_iconst 4 dL_law_327 (by decide) ?_
  refine V_iadd dL_law_328 ?_
  refine V_sld dL_law_329 (hs 4 (by decide) (by decide)) ?_
  refine V_aload_n dL_law_330 rfl ?_
  refine V_iload_n dL_law_331 rfl ?_
  refine V_iconst 5 dL_law_332 (by decide) ?_
  refine V_iadd dL_law_333 ?_
  refine V_sld dL_law_334 (hs 5 (by decide) (by decide)) ?_
  refine V_aload_n dL_law_335 rfl ?_
  refine V_iload_n dL_law_336 rfl ?_
  refine V_bipush 6 dL_law_337 (by decide) ?_
  refine V_iadd dL_law_339 ?_
  refine V_sld dL_law_340 (hs 6 (by decide) (by decide)) ?_
  have h := st_entry hI (xs (i + 1).toNatClampNeg) (xs (i + 2).toNatClampNeg) (xs (i + 3).toNatClampNeg) (xs (i + 4).toNatClampNeg) (xs (i + 5).toNatClampNeg) (xs (i + 6).toNatClampNeg)
  refine L_Vi mv_X10_entry lk_L_27 dL_law_341 rfl rfl (sX10_entry h) rfl rfl (Nat.le_of_ble_eq_true rfl) (by decide) (by decide) hnc hns (fun r1 M1 h => ?_)
  refine V_aload_n dL_law_344 rfl ?_
  refine V_aload_n dL_law_345 rfl ?_
  refine V_iload_n dL_law_346 rfl ?_
  refine V_iconst 1 dL_law_347 (by decide) ?_
  refine V_iadd dL_law_348 ?_
  refine V_sld dL_law_349 (hs 1 (by decide) (by decide)) ?_
  refine V_aload_n dL_law_350 rfl ?_
  refine V_iload_n dL_law_351 rfl ?_
  refine V_iconst 2 dL_law_352 (by decide) ?_
  refine V_iadd dL_law_353 ?_
  refine V_sld dL_law_354 (hs 2 (by decide) (by decide)) ?_
  refine V_aload_n dL_law_355 rfl ?_
  refine V_iload_n dL_law_356 rfl ?_
  refine V_iconst 3 dL_law_357 (by decide) ?_
  refine V_iadd dL_law_358 ?_
  refine V_sld dL_law_359 (hs 3 (by decide) (by decide)) ?_
  refine V_aload_n dL_law_360 rfl ?_
  refine V_iload_n dL_law_361 rfl ?_
  refine V_iconst 4 dL_law_362 (by decide) ?_
  refine V_iadd dL_law_363 ?_
  refine V_sld dL_law_364 (hs 4 (by decide) (by decide)) ?_
  refine V_aload_n dL_law_365 rfl ?_
  refine V_iload_n dL_law_366 rfl ?_
  refine V_iconst 5 dL_law_367 (by decide) ?_
  refine V_iadd dL_law_368 ?_
  refine V_sld dL_law_369 (hs 5 (by decide) (by decide)) ?_
  refine V_aload_n dL_law_370 rfl ?_
  refine V_iload_n dL_law_371 rfl ?_
  refine V_bipush 6 dL_law_372 (by decide) ?_
  refine V_iadd dL_law_374 ?_
  refine V_sld dL_law_375 (hs 6 (by decide) (by decide)) ?_
  refine L_Vi mv_X11_entry lk_L_31 dL_law_376 rfl rfl (sX11_entry h) rfl rfl (Nat.le_of_ble_eq_true rfl) (by decide) (by decide) hnc hns (fun r2 M2 h => ?_)
  refine V_cmpT 1641 dL_law_379 (by decide) h.1 ?_
  exact hk M2 h.2
theorem lw_c4 (hI : Inv M) (hs : ∀ c : Int32, 0 ≤ c → c ≤ 7 → vp_in (i + c) N) (hnc : nc ≤ 600000) (hns : ns ≤ 7302250) (hk : ∀ M2, Inv M2 → V (CLw g B b N xs) mL_law 1641 [.ref b, .ref (ad 0), .ref (ad 49), .int i] [] (wsM g ad M2) nc ns) : V (CLw g B b N xs) mL_law 384 [.ref b, .ref (ad 0), .ref (ad 49), .int i] [] (wsM g ad M) nc ns := by
  refine V_aload_n dL_law_384 rfl ?_
  have h := st_place hI 
  refine L_Vi mv_X10_place lk_L_32 dL_law_385 rfl rfl (sX10_place h) rfl rfl (Nat.le_of_ble_eq_true rfl) (by decide) (by decide) hnc hns (fun r1 M1 h => ?_)
  refine V_aload_n dL_law_388 rfl ?_
  refine L_Vi mv_X11_place lk_L_36 dL_law_389 rfl rfl (sX11_place h) rfl rfl (Nat.le_of_ble_eq_true rfl) (by decide) (by decide) hnc hns (fun r2 M2 h => ?_)
  refine V_cmpT 1641 dL_law_392 (by decide) h.1 ?_
  exact hk M2 h.2
theorem lw_c5t (hI : Inv M) (hs : ∀ c : Int32, 0 ≤ c → c ≤ 7 → vp_in (i + c) N) (hnc : nc ≤ 600000) (hns : ns ≤ 7302250) (hk : ∀ M2, Inv M2 → V (CLw g B b N xs) mL_law 1641 [.ref b, .ref (ad 0), .ref (ad 49), .int i] [] (wsM g ad M2) nc ns) (hz : ¬ xs (i + 3).toNatClampNeg = 0) : V (CLw g B b N xs) mL_law 397 [.ref b, .ref (ad 0), .ref (ad 49), .int i] [] (wsM g ad M) nc ns := by
  refine V_aload_n dL_law_397 rfl ?_
  refine V_aload_n dL_law_398 rfl ?_
  refine V_iload_n dL_law_399 rfl ?_
  refine V_iconst 1 dL_law_400 (by decide) ?_
  refine V_iadd dL_law_401 ?_
  refine V_sld dL_law_402 (hs 1 (by decide) (by decide)) ?_
  refine V_aload_n dL_law_403 rfl ?_
  refine V_iload_n dL_law_404 rfl ?_
  refine V_iconst 2 dL_law_405 (by decide) ?_
  refine V_iadd dL_law_406 ?_
  refine V_sld dL_law_407 (hs 2 (by decide) (by decide)) ?_
  refine V_aload_n dL_law_408 rfl ?_
  refine V_iload_n dL_law_409 rfl ?_
  refine V_iconst 3 dL_law_410 (by decide) ?_
  refine V_iadd dL_law_411 ?_
  refine V_sld dL_law_412 (hs 3 (by decide) (by decide)) ?_
  refine V_ifeqF 420 dL_law_413 (by decide) hz ?_
  refine V_iconst 1 dL_law_416 (by decide) ?_
  refine V_goto 421 dL_law_417 (by decide) ?_
  have h := st_near hI (xs (i + 1).toNatClampNeg) (xs (i + 2).toNatClampNeg) 1 (by decide)
  refine L_Vi mv_X10_near lk_L_37 dL_law_421 rfl rfl (sX10_near h) rfl rfl (Nat.le_of_ble_eq_true rfl) (by decide) (by decide) hnc hns (fun r1 M1 h => ?_)
  refine V_aload_n dL_law_424 rfl ?_
  refine V_aload_n dL_law_425 rfl ?_
  refine V_iload_n dL_law_426 rfl ?_
  refine V_iconst 1 dL_law_427 (by decide) ?_
  refine V_iadd dL_law_428 ?_
  refine V_sld dL_law_429 (hs 1 (by decide) (by decide)) ?_
  refine V_aload_n dL_law_430 rfl ?_
  refine V_iload_n dL_law_431 rfl ?_
  refine V_iconst 2 dL_law_432 (by decide) ?_
  refine V_iadd dL_law_433 ?_
  refine V_sld dL_law_434 (hs 2 (by decide) (by decide)) ?_
  refine V_aload_n dL_law_435 rfl ?_
  refine V_iload_n dL_law_436 rfl ?_
  refine V_iconst 3 dL_law_437 (by decide) ?_
  refine V_iadd dL_law_438 ?_
  refine V_sld dL_law_439 (hs 3 (by decide) (by decide)) ?_
  refine V_ifeqF 447 dL_law_440 (by decide) hz ?_
  refine V_iconst 1 dL_law_443 (by decide) ?_
  refine V_goto 448 dL_law_444 (by decide) ?_
  refine L_Vi mv_X11_near lk_L_41 dL_law_448 rfl rfl (sX11_near h) rfl rfl (Nat.le_of_ble_eq_true rfl) (by decide) (by decide) hnc hns (fun r2 M2 h => ?_)
  refine V_cmpT 1641 dL_law_451 (by decide) h.1 ?_
  exact hk M2 h.2
theorem lw_c5f (hI : Inv M) (hs : ∀ c : Int32, 0 ≤ c → c ≤ 7 → vp_in (i + c) N) (hnc : nc ≤ 600000) (hns : ns ≤ 7302250) (hk : ∀ M2, Inv M2 → V (CLw g B b N xs) mL_law 1641 [.ref b, .ref (ad 0), .ref (ad 49), .int i] [] (wsM g ad M2) nc ns) (hz : xs (i + 3).toNatClampNeg = 0) : V (CLw g B b N xs) mL_law 397 [.ref b, .ref (ad 0), .ref (ad 49), .int i] [] (wsM g ad M) nc ns := by
  refine V_aload_n dL_law_397 rfl ?_
  refine V_aload_n dL_law_398 rfl ?_
  refine V_iload_n dL_law_399 rfl ?_
  refine V_iconst 1 dL_law_400 (by decide) ?_
  refine V_iadd dL_law_401 ?_
  refine V_sld dL_law_402 (hs 1 (by decide) (by decide)) ?_
  refine V_aload_n dL_law_403 rfl ?_
  refine V_iload_n dL_law_404 rfl ?_
  refine V_iconst 2 dL_law_405 (by decide) ?_
  refine V_iadd dL_law_406 ?_
  refine V_sld dL_law_407 (hs 2 (by decide) (by decide)) ?_
  refine V_aload_n dL_law_408 rfl ?_
  refine V_iload_n dL_law_409 rfl ?_
  refine V_iconst 3 dL_law_410 (by decide) ?_
  refine V_iadd dL_law_411 ?_
  refine V_sld dL_law_412 (hs 3 (by decide) (by decide)) ?_
  refine V_ifeqT 420 dL_law_413 (by decide) hz ?_
  refine V_iconst 0 dL_law_420 (by decide) ?_
  have h := st_near hI (xs (i + 1).toNatClampNeg) (xs (i + 2).toNatClampNeg) 0 (by decide)
  refine L_Vi mv_X10_near lk_L_37 dL_law_421 rfl rfl (sX10_near h) rfl rfl (Nat.le_of_ble_eq_true rfl) (by decide) (by decide) hnc hns (fun r1 M1 h => ?_)
  refine V_aload_n dL_law_424 rfl ?_
  refine V_aload_n dL_law_425 rfl ?_
  refine V_iload_n dL_law_426 rfl ?_
  refine V_iconst 1 dL_law_427 (by decide) ?_
  refine V_iadd dL_law_428 ?_
  refine V_sld dL_law_429 (hs 1 (by decide) (by decide)) ?_
  refine V_aload_n dL_law_430 rfl ?_
  refine V_iload_n dL_law_431 rfl ?_
  refine V_iconst 2 dL_law_432 (by decide) ?_
  refine V_iadd dL_law_433 ?_
  refine V_sld dL_law_434 (hs 2 (by decide) (by decide)) ?_
  refine V_aload_n dL_law_435 rfl ?_
  refine V_iload_n dL_law_436 rfl ?_
  refine V_iconst 3 dL_law_437 (by decide) ?_
  refine V_iadd dL_law_438 ?_
  refine V_sld dL_law_439 (hs 3 (by decide) (by decide)) ?_
  refine V_ifeqT 447 dL_law_440 (by decide) hz ?_
  refine V_iconst 0 dL_law_447 (by decide) ?_
  refine L_Vi mv_X11_near lk_L_41 dL_law_448 rfl rfl (sX11_near h) rfl rfl (Nat.le_of_ble_eq_true rfl) (by decide) (by decide) hnc hns (fun r2 M2 h => ?_)
  refine V_cmpT 1641 dL_law_451 (by decide) h.1 ?_
  exact hk M2 h.2
theorem lw_c5 (hI : Inv M) (hs : ∀ c : Int32, 0 ≤ c → c ≤ 7 → vp_in (i + c) N) (hnc : nc ≤ 600000) (hns : ns ≤ 7302250) (hk : ∀ M2, Inv M2 → V (CLw g B b N xs) mL_law 1641 [.ref b, .ref (ad 0), .ref (ad 49), .int i] [] (wsM g ad M2) nc ns) : V (CLw g B b N xs) mL_law 397 [.ref b, .ref (ad 0), .ref (ad 49), .int i] [] (wsM g ad M) nc ns := (Classical.em (xs (i + 3).toNatClampNeg = 0)).elim (fun hz => lw_c5f hI hs hnc hns hk hz) (fun hz => lw_c5t hI hs hnc hns hk hz)
theorem lw_c6 (hI : Inv M) (hs : ∀ c : Int32, 0 ≤ c → c ≤ 7 → vp_in (i + c) N) (hnc : nc ≤ 600000) (hns : ns ≤ 7302250) (hk : ∀ M2, Inv M2 → V (CLw g B b N xs) mL_law 1641 [.ref b, .ref (ad 0), .ref (ad 49), .int i] [] (wsM g ad M2) nc ns) : V (CLw g B b N xs) mL_law 456 [.ref b, .ref (ad 0), .ref (ad 49), .int i] [] (wsM g ad M) nc ns := by
  refine V_aload_n dL_law_456 rfl ?_
  refine V_aload_n dL_law_457 rfl ?_
  refine V_iload_n dL_law_458 rfl ?_
  refine V_iconst 1 dL_law_459 (by decide) ?_
  refine V_iadd dL_law_460 ?_
  refine V_sld dL_law_461 (hs 1 (by decide) (by decide)) ?_
  refine V_aload_n dL_law_462 rfl ?_
  refine V_iload_n dL_law_463 rfl ?_
  refine V_iconst 2 dL_law_464 (by decide) ?_
  refine V_iadd dL_law_465 ?_
  refine V_sld dL_law_466 (hs 2 (by decide) (by decide)) ?_
  refine V_aload_n dL_law_467 rfl ?_
  refine V_iload_n dL_law_468 rfl ?_
  refine V_iconst 3 dL_law_469 (by decide) ?_
  refine V_iadd dL_law_470 ?_
  refine V_sld dL_law_471 (hs 3 (by decide) (by decide)) ?_
  refine V_aload_n dL_law_472 rfl ?_
  refine V_iload_n dL_law_473 rfl ?_
  refine V_iconst 4 dL_law_474 (by decide) ?_
  refine V_iadd dL_law_475 ?_
  refine V_sld dL_law_476 (hs 4 (by decide) (by decide)) ?_
  refine V_aload_n dL_law_477 rfl ?_
  refine V_iload_n dL_law_478 rfl ?_
  refine V_iconst 5 dL_law_479 (by decide) ?_
  refine V_iadd dL_law_480 ?_
  refine V_sld dL_law_481 (hs 5 (by decide) (by decide)) ?_
  refine V_aload_n dL_law_482 rfl ?_
  refine V_iload_n dL_law_483 rfl ?_
  refine V_bipush 6 dL_law_484 (by decide) ?_
  refine V_iadd dL_law_486 ?_
  refine V_sld dL_law_487 (hs 6 (by decide) (by decide)) ?_
  refine V_aload_n dL_law_488 rfl ?_
  refine V_iload_n dL_law_489 rfl ?_
  refine V_bipush 7 dL_law_490 (by decide) ?_
  refine V_iadd dL_law_492 ?_
  refine V_sld dL_law_493 (hs 7 (by decide) (by decide)) ?_
  have h := st_form hI (xs (i + 1).toNatClampNeg) (xs (i + 2).toNatClampNeg) (xs (i + 3).toNatClampNeg) (xs (i + 4).toNatClampNeg) (xs (i + 5).toNatClampNeg) (xs (i + 6).toNatClampNeg) (xs (i + 7).toNatClampNeg)
  refine L_Vi mv_X10_form lk_L_42 dL_law_494 rfl rfl (sX10_form h) rfl rfl (Nat.le_of_ble_eq_true rfl) (by decide) (by decide) hnc hns (fun r1 M1 h => ?_)
  refine V_aload_n dL_law_497 rfl ?_
  refine V_aload_n dL_law_498 rfl ?_
  refine V_iload_n dL_law_499 rfl ?_
  refine V_iconst 1 dL_law_500 (by decide) ?_
  refine V_iadd dL_law_501 ?_
  refine V_sld dL_law_502 (hs 1 (by decide) (by decide)) ?_
  refine V_aload_n dL_law_503 rfl ?_
  refine V_iload_n dL_law_504 rfl ?_
  refine V_iconst 2 dL_law_505 (by decide) ?_
  refine V_iadd dL_law_506 ?_
  refine V_sld dL_law_507 (hs 2 (by decide) (by decide)) ?_
  refine V_aload_n dL_law_508 rfl ?_
  refine V_iload_n dL_law_509 rfl ?_
  refine V_iconst 3 dL_law_510 (by decide) ?_
  refine V_iadd dL_law_511 ?_
  refine V_sld dL_law_512 (hs 3 (by decide) (by decide)) ?_
  refine V_aload_n dL_law_513 rfl ?_
  refine V_iload_n dL_law_514 rfl ?_
  refine V_iconst 4 dL_law_515 (by decide) ?_
  refine V_iadd dL_law_516 ?_
  refine V_sld dL_law_517 (hs 4 (by decide) (by decide)) ?_
  refine V_aload_n dL_law_518 rfl ?_
  refine V_iload_n dL_law_519 rfl ?_
  refine V_iconst 5 dL_law_520 (by decide) ?_
  refine V_iadd dL_law_521 ?_
  refine V_sld dL_law_522 (hs 5 (by decide) (by decide)) ?_
  refine V_aload_n dL_law_523 rfl ?_
  refine V_iload_n dL_law_524 rfl ?_
  refine V_bipush 6 dL_law_525 (by decide) ?_
  refine V_iadd dL_law_527 ?_
  refine V_sld dL_law_528 (hs 6 (by decide) (by decide)) ?_
  refine V_aload_n dL_law_529 rfl ?_
  refine V_iload_n dL_law_530 rfl ?_
  refine V_bipush 7 dL_law_531 (by decide) ?_
  refine V_iadd dL_law_533 ?_
  refine V_sld dL_law_534 (hs 7 (by decide) (by decide)) ?_
  refine L_Vi mv_X11_form lk_L_46 dL_law_535 rfl rfl (sX11_form h) rfl rfl (Nat.le_of_ble_eq_true rfl) (by decide) (by decide) hnc hns (fun r2 M2 h => ?_)
  refine V_cmpT 1641 dL_law_538 (by decide) h.1 ?_
  exact hk M2 h.2
theorem lw_c7 (hI : Inv M) (hs : ∀ c : Int32, 0 ≤ c → c ≤ 7 → vp_in (i + c) N) (hnc : nc ≤ 600000) (hns : ns ≤ 7302250) (hk : ∀ M2, Inv M2 → V (CLw g B b N xs) mL_law 1641 [.ref b, .ref (ad 0), .ref (ad 49), .int i] [] (wsM g ad M2) nc ns) : V (CLw g B b N xs) mL_law 543 [.ref b, .ref (ad 0), .ref (ad 49), .int i] [] (wsM g ad M) nc ns := by
  refine V_aload_n dL_law_543 rfl ?_
  refine V_aload_n dL_law_544 rfl ?_
  refine V_iload_n dL_law_545 rfl ?_
  refine V_iconst 1 dL_law_546 (by decide) ?_
  refine V_iadd dL_law_547 ?_
  refine V_sld dL_law_548 (hs 1 (by decide) (by decide)) ?_
  refine V_aload_n dL_law_549 rfl ?_
  refine V_iload_n dL_law_550 rfl ?_
  refine V_iconst 2 dL_law_551 (by decide) ?_
  refine V_iadd dL_law_552 ?_
  refine V_sld dL_law_553 (hs 2 (by decide) (by decide)) ?_
  refine V_aload_n dL_law_554 rfl ?_
  refine V_iload_n dL_law_555 rfl ?_
  refine V_iconst 3 dL_law_556 (by decide) ?_
  refine V_iadd dL_law_557 ?_
  refine V_sld dL_law_558 (hs 3 (by decide) (by decide)) ?_
  refine V_aload_n dL_law_559 rfl ?_
  refine V_iload_n dL_law_560 rfl ?_
  refine V_iconst 4 dL_law_561 (by decide) ?_
  refine V_iadd dL_law_562 ?_
  refine V_sld dL_law_563 (hs 4 (by decide) (by decide)) ?_
  refine V_aload_n dL_law_564 rfl ?_
  refine V_iload_n dL_law_565 rfl ?_
  refine V_iconst 5 dL_law_566 (by decide) ?_
  refine V_iadd dL_law_567 ?_
  refine V_sld dL_law_568 (hs 5 (by decide) (by decide)) ?_
  refine V_aload_n dL_law_569 rfl ?_
  refine V_iload_n dL_law_570 rfl ?_
  refine V_bipush 6 dL_law_571 (by decide) ?_
  refine V_iadd dL_law_573 ?_
  refine V_sld dL_law_574 (hs 6 (by decide) (by decide)) ?_
  refine V_aload_n dL_law_575 rfl ?_
  refine V_iload_n dL_law_576 rfl ?_
  refine V_bipush 7 dL_law_577 (by decide) ?_
  refine V_iadd dL_law_579 ?_
  refine V_sld dL_law_580 (hs 7 (by decide) (by decide)) ?_
  have h := st_read hI (xs (i + 1).toNatClampNeg) (xs (i + 2).toNatClampNeg) (xs (i + 3).toNatClampNeg) (xs (i + 4).toNatClampNeg) (xs (i + 5).toNatClampNeg) (xs (i + 6).toNatClampNeg) (xs (i + 7).toNatClampNeg)
  refine L_Vi mv_X10_read lk_L_47 dL_law_581 rfl rfl (sX10_read h) rfl rfl (Nat.le_of_ble_eq_true rfl) (by decide) (by decide) hnc hns (fun r1 M1 h => ?_)
  refine V_aload_n dL_law_584 rfl ?_
  refine V_aload_n dL_law_585 rfl ?_
  refine V_iload_n dL_law_586 rfl ?_
  refine V_iconst 1 dL_law_587 (by decide) ?_
  refine V_iadd dL_law_588 ?_
  refine V_sld dL_law_589 (hs 1 (by decide) (by decide)) ?_
  refine V_aload_n dL_law_590 rfl ?_
  refine V_iload_n dL_law_591 rfl ?_
  refine V_iconst 2 dL_law_592 (by decide) ?_
  refine V_iadd dL_law_593 ?_
  refine V_sld dL_law_594 (hs 2 (by decide) (by decide)) ?_
  refine V_aload_n dL_law_595 rfl ?_
  refine V_iload_n dL_law_596 rfl ?_
  refine V_iconst 3 dL_law_597 (by decide) ?_
  refine V_iadd dL_law_598 ?_
  refine V_sld dL_law_599 (hs 3 (by decide) (by decide)) ?_
  refine V_aload_n dL_law_600 rfl ?_
  refine V_iload_n dL_law_601 rfl ?_
  refine V_iconst 4 dL_law_602 (by decide) ?_
  refine V_iadd dL_law_603 ?_
  refine V_sld dL_law_604 (hs 4 (by decide) (by decide)) ?_
  refine V_aload_n dL_law_605 rfl ?_
  refine V_iload_n dL_law_606 rfl ?_
  refine V_iconst 5 dL_law_607 (by decide) ?_
  refine V_iadd dL_law_608 ?_
  refine V_sld dL_law_609 (hs 5 (by decide) (by decide)) ?_
  refine V_aload_n dL_law_610 rfl ?_
  refine V_iload_n dL_law_611 rfl ?_
  refine V_bipush 6 dL_law_612 (by decide) ?_
  refine V_iadd dL_law_614 ?_
  refine V_sld dL_law_615 (hs 6 (by decide) (by decide)) ?_
  refine V_aload_n dL_law_616 rfl ?_
  refine V_iload_n dL_law_617 rfl ?_
  refine V_bipush 7 dL_law_618 (by decide) ?_
  refine V_iadd dL_law_620 ?_
  refine V_sld dL_law_621 (hs 7 (by decide) (by decide)) ?_
  refine L_Vi mv_X11_read lk_L_50 dL_law_622 rfl rfl (sX11_read h) rfl rfl (Nat.le_of_ble_eq_true rfl) (by decide) (by decide) hnc hns (fun r2 M2 h => ?_)
  refine V_cmpT 1641 dL_law_625 (by decide) h.1 ?_
  exact hk M2 h.2
theorem lw_c8 (hI : Inv M) (hs : ∀ c : Int32, 0 ≤ c → c ≤ 7 → vp_in (i + c) N) (hnc : nc ≤ 600000) (hns : ns ≤ 7302250) (hk : ∀ M2, Inv M2 → V (CLw g B b N xs) mL_law 1641 [.ref b, .ref (ad 0), .ref (ad 49), .int i] [] (wsM g ad M2) nc ns) : V (CLw g B b N xs) mL_law 630 [.ref b, .ref (ad 0), .ref (ad 49), .int i] [] (wsM g ad M) nc ns := by
  refine V_aload_n dL_law_630 rfl ?_
  refine V_aload_n dL_law_631 rfl ?_
  refine V_iload_n dL_law_632 rfl ?_
  refine V_iconst 1 dL_law_633 (by decide) ?_
  refine V_iadd dL_law_634 ?_
  refine V_sld dL_law_635 (hs 1 (by decide) (by decide)) ?_
  refine V_aload_n dL_law_636 rfl ?_
  refine V_iload_n dL_law_637 rfl ?_
  refine V_iconst 2 dL_law_638 (by decide) ?_
  refine V_iadd dL_law_639 ?_
  refine V_sld dL_law_640 (hs 2 (by decide) (by decide)) ?_
  have h := st_ofForm hI (xs (i + 1).toNatClampNeg) (xs (i + 2).toNatClampNeg)
  refine L_Vi mv_X10_ofForm lk_L_51 dL_law_641 rfl rfl (sX10_ofForm h) rfl rfl (Nat.le_of_ble_eq_true rfl) (by decide) (by decide) hnc hns (fun r1 M1 h => ?_)
  refine V_aload_n dL_law_644 rfl ?_
  refine V_aload_n dL_law_645 rfl ?_
  refine V_iload_n dL_law_646 rfl ?_
  refine V_iconst 1 dL_law_647 (by decide) ?_
  refine V_iadd dL_law_648 ?_
  refine V_sld dL_law_649 (hs 1 (by decide) (by decide)) ?_
  refine V_aload_n dL_law_650 rfl ?_
  refine V_iload_n dL_law_651 rfl ?_
  refine V_iconst 2 dL_law_652 (by decide) ?_
  refine V_iadd dL_law_653 ?_
  refine V_sld dL_law_654 (hs 2 (by decide) (by decide)) ?_
  refine L_Vi mv_X11_ofForm lk_L_54 dL_law_655 rfl rfl (sX11_ofForm h) rfl rfl (Nat.le_of_ble_eq_true rfl) (by decide) (by decide) hnc hns (fun r2 M2 h => ?_)
  refine V_cmpT 1641 dL_law_658 (by decide) h.1 ?_
  exact hk M2 h.2
theorem lw_c9 (hI : Inv M) (hs : ∀ c : Int32, 0 ≤ c → c ≤ 7 → vp_in (i + c) N) (hnc : nc ≤ 600000) (hns : ns ≤ 7302250) (hk : ∀ M2, Inv M2 → V (CLw g B b N xs) mL_law 1641 [.ref b, .ref (ad 0), .ref (ad 49), .int i] [] (wsM g ad M2) nc ns) : V (CLw g B b N xs) mL_law 663 [.ref b, .ref (ad 0), .ref (ad 49), .int i] [] (wsM g ad M) nc ns := by
  refine V_aload_n dL_law_663 rfl ?_
  refine V_aload_n dL_law_664 rfl ?_
  refine V_iload_n dL_law_665 rfl ?_
  refine V_iconst 1 dL_law_666 (by decide) ?_
  refine V_iadd dL_law_667 ?_
  refine V_sld dL_law_668 (hs 1 (by decide) (by decide)) ?_
  refine V_aload_n dL_law_669 rfl ?_
  refine V_iload_n dL_law_670 rfl ?_
  refine V_iconst 2 dL_law_671 (by decide) ?_
  refine V_iadd dL_law_672 ?_
  refine V_sld dL_law_673 (hs 2 (by decide) (by decide)) ?_
  have h := st_said hI (xs (i + 1).toNatClampNeg) (xs (i + 2).toNatClampNeg)
  refine L_Vi mv_X10_said lk_L_55 dL_law_674 rfl rfl (sX10_said h) rfl rfl (Nat.le_of_ble_eq_true rfl) (by decide) (by decide) hnc hns (fun r1 M1 h => ?_)
  refine V_aload_n dL_law_677 rfl ?_
  refine V_aload_n dL_law_678 rfl ?_
  refine V_iload_n dL_law_679 rfl ?_
  refine V_iconst 1 dL_law_680 (by decide) ?_
  refine V_iadd dL_law_681 ?_
  refine V_sld dL_law_682 (hs 1 (by decide) (by decide)) ?_
  refine V_aload_n dL_law_683 rfl ?_
  refine V_iload_n dL_law_684 rfl ?_
  refine V_iconst 2 dL_law_685 (by decide) ?_
  refine V_iadd dL_law_686 ?_
  refine V_sld dL_law_687 (hs 2 (by decide) (by decide)) ?_
  refine L_Vi mv_X11_said lk_L_58 dL_law_688 rfl rfl (sX11_said h) rfl rfl (Nat.le_of_ble_eq_true rfl) (by decide) (by decide) hnc hns (fun r2 M2 h => ?_)
  refine V_cmpT 1641 dL_law_691 (by decide) h.1 ?_
  exact hk M2 h.2
theorem lw_c10 (hI : Inv M) (hs : ∀ c : Int32, 0 ≤ c → c ≤ 7 → vp_in (i + c) N) (hnc : nc ≤ 600000) (hns : ns ≤ 7302250) (hk : ∀ M2, Inv M2 → V (CLw g B b N xs) mL_law 1641 [.ref b, .ref (ad 0), .ref (ad 49), .int i] [] (wsM g ad M2) nc ns) : V (CLw g B b N xs) mL_law 696 [.ref b, .ref (ad 0), .ref (ad 49), .int i] [] (wsM g ad M) nc ns := by
  refine V_aload_n dL_law_696 rfl ?_
  refine V_aload_n dL_law_697 rfl ?_
  refine V_iload_n dL_law_698 rfl ?_
  refine V_iconst 1 dL_law_699 (by decide) ?_
  refine V_iadd dL_law_700 ?_
  refine V_sld dL_law_701 (hs 1 (by decide) (by decide)) ?_
  refine V_aload_n dL_law_702 rfl ?_
  refine V_iload_n dL_law_703 rfl ?_
  refine V_iconst 2 dL_law_704 (by decide) ?_
  refine V_iadd dL_law_705 ?_
  refine V_sld dL_law_706 (hs 2 (by decide) (by decide)) ?_
  refine V_aload_n dL_law_707 rfl ?_
  refine V_iload_n dL_law_708 rfl ?_
  refine V_iconst 3 dL_law_709 (by decide) ?_
  refine V_iadd dL_law_710 ?_
  refine V_sld dL_law_711 (hs 3 (by decide) (by decide)) ?_
  refine V_aload_n dL_law_712 rfl ?_
  refine V_iload_n dL_law_713 rfl ?_
  refine V_iconst 4 dL_law_714 (by decide) ?_
  refine V_iadd dL_law_715 ?_
  refine V_sld dL_law_716 (hs 4 (by decide) (by decide)) ?_
  refine V_aload_n dL_law_717 rfl ?_
  refine V_iload_n dL_law_718 rfl ?_
  refine V_iconst 5 dL_law_719 (by decide) ?_
  refine V_iadd dL_law_720 ?_
  refine V_sld dL_law_721 (hs 5 (by decide) (by decide)) ?_
  have h := st_root hI (xs (i + 1).toNatClampNeg) (xs (i + 2).toNatClampNeg) (xs (i + 3).toNatClampNeg) (xs (i + 4).toNatClampNeg) (xs (i + 5).toNatClampNeg)
  refine L_Vi mv_X10_root lk_L_59 dL_law_722 rfl rfl (sX10_root h) rfl rfl (Nat.le_of_ble_eq_true rfl) (by decide) (by decide) hnc hns (fun r1 M1 h => ?_)
  refine V_aload_n dL_law_725 rfl ?_
  refine V_aload_n dL_law_726 rfl ?_
  refine V_iload_n dL_law_727 rfl ?_
  refine V_iconst 1 dL_law_728 (by decide) ?_
  refine V_iadd dL_law_729 ?_
  refine V_sld dL_law_730 (hs 1 (by decide) (by decide)) ?_
  refine V_aload_n dL_law_731 rfl ?_
  refine V_iload_n dL_law_732 rfl ?_
  refine V_iconst 2 dL_law_733 (by decide) ?_
  refine V_iadd dL_law_734 ?_
  refine V_sld dL_law_735 (hs 2 (by decide) (by decide)) ?_
  refine V_aload_n dL_law_736 rfl ?_
  refine V_iload_n dL_law_737 rfl ?_
  refine V_iconst 3 dL_law_738 (by decide) ?_
  refine V_iadd dL_law_739 ?_
  refine V_sld dL_law_740 (hs 3 (by decide) (by decide)) ?_
  refine V_aload_n dL_law_741 rfl ?_
  refine V_iload_n dL_law_742 rfl ?_
  refine V_iconst 4 dL_law_743 (by decide) ?_
  refine V_iadd dL_law_744 ?_
  refine V_sld dL_law_745 (hs 4 (by decide) (by decide)) ?_
  refine V_aload_n dL_law_746 rfl ?_
  refine V_iload_n dL_law_747 rfl ?_
  refine V_iconst 5 dL_law_748 (by decide) ?_
  refine V_iadd dL_law_749 ?_
  refine V_sld dL_law_750 (hs 5 (by decide) (by decide)) ?_
  refine L_Vi mv_X11_root lk_L_63 dL_law_751 rfl rfl (sX11_root h) rfl rfl (Nat.le_of_ble_eq_true rfl) (by decide) (by decide) hnc hns (fun r2 M2 h => ?_)
  refine V_cmpT 1641 dL_law_754 (by decide) h.1 ?_
  exact hk M2 h.2
theorem lw_c11 (hI : Inv M) (hs : ∀ c : Int32, 0 ≤ c → c ≤ 7 → vp_in (i + c) N) (hnc : nc ≤ 600000) (hns : ns ≤ 7302250) (hk : ∀ M2, Inv M2 → V (CLw g B b N xs) mL_law 1641 [.ref b, .ref (ad 0), .ref (ad 49), .int i] [] (wsM g ad M2) nc ns) : V (CLw g B b N xs) mL_law 759 [.ref b, .ref (ad 0), .ref (ad 49), .int i] [] (wsM g ad M) nc ns := by
  refine V_aload_n dL_law_759 rfl ?_
  refine V_aload_n dL_law_760 rfl ?_
  refine V_iload_n dL_law_761 rfl ?_
  refine V_iconst 1 dL_law_762 (by decide) ?_
  refine V_iadd dL_law_763 ?_
  refine V_sld dL_law_764 (hs 1 (by decide) (by decide)) ?_
  refine V_aload_n dL_law_765 rfl ?_
  refine V_iload_n dL_law_766 rfl ?_
  refine V_iconst 2 dL_law_767 (by decide) ?_
  refine V_iadd dL_law_768 ?_
  refine V_sld dL_law_769 (hs 2 (by decide) (by decide)) ?_
  have h := st_ofRoot hI (xs (i + 1).toNatClampNeg) (xs (i + 2).toNatClampNeg)
  refine L_Vi mv_X10_ofRoot lk_L_64 dL_law_770 rfl rfl (sX10_ofRoot h) rfl rfl (Nat.le_of_ble_eq_true rfl) (by decide) (by decide) hnc hns (fun r1 M1 h => ?_)
  refine V_aload_n dL_law_773 rfl ?_
  refine V_aload_n dL_law_774 rfl ?_
  refine V_iload_n dL_law_775 rfl ?_
  refine V_iconst 1 dL_law_776 (by decide) ?_
  refine V_iadd dL_law_777 ?_
  refine V_sld dL_law_778 (hs 1 (by decide) (by decide)) ?_
  refine V_aload_n dL_law_779 rfl ?_
  refine V_iload_n dL_law_780 rfl ?_
  refine V_iconst 2 dL_law_781 (by decide) ?_
  refine V_iadd dL_law_782 ?_
  refine V_sld dL_law_783 (hs 2 (by decide) (by decide)) ?_
  refine L_Vi mv_X11_ofRoot lk_L_67 dL_law_784 rfl rfl (sX11_ofRoot h) rfl rfl (Nat.le_of_ble_eq_true rfl) (by decide) (by decide) hnc hns (fun r2 M2 h => ?_)
  refine V_cmpT 1641 dL_law_787 (by decide) h.1 ?_
  exact hk M2 h.2
theorem lw_c12 (hI : Inv M) (hs : ∀ c : Int32, 0 ≤ c → c ≤ 7 → vp_in (i + c) N) (hnc : nc ≤ 600000) (hns : ns ≤ 7302250) (hk : ∀ M2, Inv M2 → V (CLw g B b N xs) mL_law 1641 [.ref b, .ref (ad 0), .ref (ad 49), .int i] [] (wsM g ad M2) nc ns) : V (CLw g B b N xs) mL_law 792 [.ref b, .ref (ad 0), .ref (ad 49), .int i] [] (wsM g ad M) nc ns := by
  refine V_aload_n dL_law_792 rfl ?_
  refine V_aload_n dL_law_793 rfl ?_
  refine V_iload_n dL_law_794 rfl ?_
  refine V_iconst 1 dL_law_795 (by decide) ?_
  refine V_iadd dL_law_796 ?_
  refine V_sld dL_law_797 (hs 1 (by decide) (by decide)) ?_
  refine V_aload_n dL_law_798 rfl ?_
  refine V_iload_n dL_law_799 rfl ?_
  refine V_iconst 2 dL_law_800 (by decide) ?_
  refine V_iadd dL_law_801 ?_
  refine V_sld dL_law_802 (hs 2 (by decide) (by decide)) ?_
  refine V_aload_n dL_law_803 rfl ?_
  refine V_iload_n dL_law_804 rfl ?_
  refine V_iconst 3 dL_law_805 (by decide) ?_
  refine V_iadd dL_law_806 ?_
  refine V_sld dL_law_807 (hs 3 (by decide) (by decide)) ?_
  refine V_aload_n dL_law_808 rfl ?_
  refine V_iload_n dL_law_809 rfl ?_
  refine V_iconst 4 dL_law_810 (by decide) ?_
  refine V_iadd dL_law_811 ?_
  refine V_sld dL_law_812 (hs 4 (by decide) (by decide)) ?_
  refine V_aload_n dL_law_813 rfl ?_
  refine V_iload_n dL_law_814 rfl ?_
  refine V_iconst 5 dL_law_815 (by decide) ?_
  refine V_iadd dL_law_816 ?_
  refine V_sld dL_law_817 (hs 5 (by decide) (by decide)) ?_
  have h := st_law hI (xs (i + 1).toNatClampNeg) (xs (i + 2).toNatClampNeg) (xs (i + 3).toNatClampNeg) (xs (i + 4).toNatClampNeg) (xs (i + 5).toNatClampNeg)
  refine L_Vi mv_X10_law lk_L_68 dL_law_818 rfl rfl (sX10_law h) rfl rfl (Nat.le_of_ble_eq_true rfl) (by decide) (by decide) hnc hns (fun r1 M1 h => ?_)
  refine V_aload_n dL_law_821 rfl ?_
  refine V_aload_n dL_law_822 rfl ?_
  refine V_iload_n dL_law_823 rfl ?_
  refine V_iconst 1 dL_law_824 (by decide) ?_
  refine V_iadd dL_law_825 ?_
  refine V_sld dL_law_826 (hs 1 (by decide) (by decide)) ?_
  refine V_aload_n dL_law_827 rfl ?_
  refine V_iload_n dL_law_828 rfl ?_
  refine V_iconst 2 dL_law_829 (by decide) ?_
  refine V_iadd dL_law_830 ?_
  refine V_sld dL_law_831 (hs 2 (by decide) (by decide)) ?_
  refine V_aload_n dL_law_832 rfl ?_
  refine V_iload_n dL_law_833 rfl ?_
  refine V_iconst 3 dL_law_834 (by decide) ?_
  refine V_iadd dL_law_835 ?_
  refine V_sld dL_law_836 (hs 3 (by decide) (by decide)) ?_
  refine V_aload_n dL_law_837 rfl ?_
  refine V_iload_n dL_law_838 rfl ?_
  refine V_iconst 4 dL_law_839 (by decide) ?_
  refine V_iadd dL_law_840 ?_
  refine V_sld dL_law_841 (hs 4 (by decide) (by decide)) ?_
  refine V_aload_n dL_law_842 rfl ?_
  refine V_iload_n dL_law_843 rfl ?_
  refine V_iconst 5 dL_law_844 (by decide) ?_
  refine V_iadd dL_law_845 ?_
  refine V_sld dL_law_846 (hs 5 (by decide) (by decide)) ?_
  refine L_Vi mv_X11_law lk_L_71 dL_law_847 rfl rfl (sX11_law h) rfl rfl (Nat.le_of_ble_eq_true rfl) (by decide) (by decide) hnc hns (fun r2 M2 h => ?_)
  refine V_cmpT 1641 dL_law_850 (by decide) h.1 ?_
  exact hk M2 h.2
theorem lw_c13 (hI : Inv M) (hs : ∀ c : Int32, 0 ≤ c → c ≤ 7 → vp_in (i + c) N) (hnc : nc ≤ 600000) (hns : ns ≤ 7302250) (hk : ∀ M2, Inv M2 → V (CLw g B b N xs) mL_law 1641 [.ref b, .ref (ad 0), .ref (ad 49), .int i] [] (wsM g ad M2) nc ns) : V (CLw g B b N xs) mL_law 855 [.ref b, .ref (ad 0), .ref (ad 49), .int i] [] (wsM g ad M) nc ns := by
  refine V_aload_n dL_law_855 rfl ?_
  refine V_aload_n dL_law_856 rfl ?_
  refine V_iload_n dL_law_857 rfl ?_
  refine V_iconst 1 dL_law_858 (by decide) ?_
  refine V_iadd dL_law_859 ?_
  refine V_sld dL_law_860 (hs 1 (by decide) (by decide)) ?_
  refine V_aload_n dL_law_861 rfl ?_
  refine V_iload_n dL_law_862 rfl ?_
  refine V_iconst 2 dL_law_863 (by decide) ?_
  refine V_iadd dL_law_864 ?_
  refine V_sld dL_law_865 (hs 2 (by decide) (by decide)) ?_
  have h := st_force hI (xs (i + 1).toNatClampNeg) (xs (i + 2).toNatClampNeg)
  refine L_Vi mv_X10_force lk_L_72 dL_law_866 rfl rfl (sX10_force h) rfl rfl (Nat.le_of_ble_eq_true rfl) (by decide) (by decide) hnc hns (fun r1 M1 h => ?_)
  refine V_aload_n dL_law_869 rfl ?_
  refine V_aload_n dL_law_870 rfl ?_
  refine V_iload_n dL_law_871 rfl ?_
  refine V_iconst 1 dL_law_872 (by decide) ?_
  refine V_iadd dL_law_873 ?_
  refine V_sld dL_law_874 (hs 1 (by decide) (by decide)) ?_
  refine V_aload_n dL_law_875 rfl ?_
  refine V_iload_n dL_law_876 rfl ?_
  refine V_iconst 2 dL_law_877 (by decide) ?_
  refine V_iadd dL_law_878 ?_
  refine V_sld dL_law_879 (hs 2 (by decide) (by decide)) ?_
  refine L_Vi mv_X11_force lk_L_75 dL_law_880 rfl rfl (sX11_force h) rfl rfl (Nat.le_of_ble_eq_true rfl) (by decide) (by decide) hnc hns (fun r2 M2 h => ?_)
  refine V_cmpT 1641 dL_law_883 (by decide) h.1 ?_
  exact hk M2 h.2
theorem lw_c14 (hI : Inv M) (hs : ∀ c : Int32, 0 ≤ c → c ≤ 7 → vp_in (i + c) N) (hnc : nc ≤ 600000) (hns : ns ≤ 7302250) (hk : ∀ M2, Inv M2 → V (CLw g B b N xs) mL_law 1641 [.ref b, .ref (ad 0), .ref (ad 49), .int i] [] (wsM g ad M2) nc ns) : V (CLw g B b N xs) mL_law 888 [.ref b, .ref (ad 0), .ref (ad 49), .int i] [] (wsM g ad M) nc ns := by
  refine V_aload_n dL_law_888 rfl ?_
  refine V_aload_n dL_law_889 rfl ?_
  refine V_iload_n dL_law_890 rfl ?_
  refine V_iconst 1 dL_law_891 (by decide) ?_
  refine V_iadd dL_law_892 ?_
  refine V_sld dL_law_893 (hs 1 (by decide) (by decide)) ?_
  refine V_aload_n dL_law_894 rfl ?_
  refine V_iload_n dL_law_895 rfl ?_
  refine V_iconst 2 dL_law_896 (by decide) ?_
  refine V_iadd dL_law_897 ?_
  refine V_sld dL_law_898 (hs 2 (by decide) (by decide)) ?_
  refine V_aload_n dL_law_899 rfl ?_
  refine V_iload_n dL_law_900 rfl ?_
  refine V_iconst 3 dL_law_901 (by decide) ?_
  refine V_iadd dL_law_902 ?_
  refine V_sld dL_law_903 (hs 3 (by decide) (by decide)) ?_
  refine V_aload_n dL_law_904 rfl ?_
  refine V_iload_n dL_law_905 rfl ?_
  refine V_iconst 4 dL_law_906 (by decide) ?_
  refine V_iadd dL_law_907 ?_
  refine V_sld dL_law_908 (hs 4 (by decide) (by decide)) ?_
  have h := st_derived hI (xs (i + 1).toNatClampNeg) (xs (i + 2).toNatClampNeg) (xs (i + 3).toNatClampNeg) (xs (i + 4).toNatClampNeg)
  refine L_Vi mv_X10_derived lk_L_76 dL_law_909 rfl rfl (sX10_derived h) rfl rfl (Nat.le_of_ble_eq_true rfl) (by decide) (by decide) hnc hns (fun r1 M1 h => ?_)
  refine V_aload_n dL_law_912 rfl ?_
  refine V_aload_n dL_law_913 rfl ?_
  refine V_iload_n dL_law_914 rfl ?_
  refine V_iconst 1 dL_law_915 (by decide) ?_
  refine V_iadd dL_law_916 ?_
  refine V_sld dL_law_917 (hs 1 (by decide) (by decide)) ?_
  refine V_aload_n dL_law_918 rfl ?_
  refine V_iload_n dL_law_919 rfl ?_
  refine V_iconst 2 dL_law_920 (by decide) ?_
  refine V_iadd dL_law_921 ?_
  refine V_sld dL_law_922 (hs 2 (by decide) (by decide)) ?_
  refine V_aload_n dL_law_923 rfl ?_
  refine V_iload_n dL_law_924 rfl ?_
  refine V_iconst 3 dL_law_925 (by decide) ?_
  refine V_iadd dL_law_926 ?_
  refine V_sld dL_law_927 (hs 3 (by decide) (by decide)) ?_
  refine V_aload_n dL_law_928 rfl ?_
  refine V_iload_n dL_law_929 rfl ?_
  refine V_iconst 4 dL_law_930 (by decide) ?_
  refine V_iadd dL_law_931 ?_
  refine V_sld dL_law_932 (hs 4 (by decide) (by decide)) ?_
  refine L_Vi mv_X11_derived lk_L_80 dL_law_933 rfl rfl (sX11_derived h) rfl rfl (Nat.le_of_ble_eq_true rfl) (by decide) (by decide) hnc hns (fun r2 M2 h => ?_)
  refine V_cmpT 1641 dL_law_936 (by decide) h.1 ?_
  exact hk M2 h.2
theorem lw_c15 (hI : Inv M) (hs : ∀ c : Int32, 0 ≤ c → c ≤ 7 → vp_in (i + c) N) (hnc : nc ≤ 600000) (hns : ns ≤ 7302250) (hk : ∀ M2, Inv M2 → V (CLw g B b N xs) mL_law 1641 [.ref b, .ref (ad 0), .ref (ad 49), .int i] [] (wsM g ad M2) nc ns) : V (CLw g B b N xs) mL_law 941 [.ref b, .ref (ad 0), .ref (ad 49), .int i] [] (wsM g ad M) nc ns := by
  refine V_aload_n dL_law_941 rfl ?_
  refine V_aload_n dL_law_942 rfl ?_
  refine V_iload_n dL_law_943 rfl ?_
  refine V_iconst 1 dL_law_944 (by decide) ?_
  refine V_iadd dL_law_945 ?_
  refine V_sld dL_law_946 (hs 1 (by decide) (by decide)) ?_
  refine V_aload_n dL_law_947 rfl ?_
  refine V_iload_n dL_law_948 rfl ?_
  refine V_iconst 2 dL_law_949 (by decide) ?_
  refine V_iadd dL_law_950 ?_
  refine V_sld dL_law_951 (hs 2 (by decide) (by decide)) ?_
  have h := st_latest hI (xs (i + 1).toNatClampNeg) (xs (i + 2).toNatClampNeg)
  refine L_Vi mv_X10_latest lk_L_81 dL_law_952 rfl rfl (sX10_latest h) rfl rfl (Nat.le_of_ble_eq_true rfl) (by decide) (by decide) hnc hns (fun r1 M1 h => ?_)
  refine V_aload_n dL_law_955 rfl ?_
  refine V_aload_n dL_law_956 rfl ?_
  refine V_iload_n dL_law_957 rfl ?_
  refine V_iconst 1 dL_law_958 (by decide) ?_
  refine V_iadd dL_law_959 ?_
  refine V_sld dL_law_960 (hs 1 (by decide) (by decide)) ?_
  refine V_aload_n dL_law_961 rfl ?_
  refine V_iload_n dL_law_962 rfl ?_
  refine V_iconst 2 dL_law_963 (by decide) ?_
  refine V_iadd dL_law_964 ?_
  refine V_sld dL_law_965 (hs 2 (by decide) (by decide)) ?_
  refine L_Vi mv_X11_latest lk_L_84 dL_law_966 rfl rfl (sX11_latest h) rfl rfl (Nat.le_of_ble_eq_true rfl) (by decide) (by decide) hnc hns (fun r2 M2 h => ?_)
  refine V_cmpT 1641 dL_law_969 (by decide) h.1 ?_
  exact hk M2 h.2
theorem lw_c16 (hI : Inv M) (hs : ∀ c : Int32, 0 ≤ c → c ≤ 7 → vp_in (i + c) N) (hnc : nc ≤ 600000) (hns : ns ≤ 7302250) (hk : ∀ M2, Inv M2 → V (CLw g B b N xs) mL_law 1641 [.ref b, .ref (ad 0), .ref (ad 49), .int i] [] (wsM g ad M2) nc ns) : V (CLw g B b N xs) mL_law 974 [.ref b, .ref (ad 0), .ref (ad 49), .int i] [] (wsM g ad M) nc ns := by
  refine V_aload_n dL_law_974 rfl ?_
  refine V_aload_n dL_law_975 rfl ?_
  refine V_iload_n dL_law_976 rfl ?_
  refine V_iconst 1 dL_law_977 (by decide) ?_
  refine V_iadd dL_law_978 ?_
  refine V_sld dL_law_979 (hs 1 (by decide) (by decide)) ?_
  have h := st_gap hI (xs (i + 1).toNatClampNeg)
  refine L_Vi mv_X10_gap lk_L_85 dL_law_980 rfl rfl (sX10_gap h) rfl rfl (Nat.le_of_ble_eq_true rfl) (by decide) (by decide) hnc hns (fun r1 M1 h => ?_)
  refine V_aload_n dL_law_983 rfl ?_
  refine V_aload_n dL_law_984 rfl ?_
  refine V_iload_n dL_law_985 rfl ?_
  refine V_iconst 1 dL_law_986 (by decide) ?_
  refine V_iadd dL_law_987 ?_
  refine V_sld dL_law_988 (hs 1 (by decide) (by decide)) ?_
  refine L_Vi mv_X11_gap lk_L_89 dL_law_989 rfl rfl (sX11_gap h) rfl rfl (Nat.le_of_ble_eq_true rfl) (by decide) (by decide) hnc hns (fun r2 M2 h => ?_)
  refine V_cmpT 1641 dL_law_992 (by decide) h.1 ?_
  exact hk M2 h.2
theorem lw_c17 (hI : Inv M) (hs : ∀ c : Int32, 0 ≤ c → c ≤ 7 → vp_in (i + c) N) (hnc : nc ≤ 600000) (hns : ns ≤ 7302250) (hk : ∀ M2, Inv M2 → V (CLw g B b N xs) mL_law 1641 [.ref b, .ref (ad 0), .ref (ad 49), .int i] [] (wsM g ad M2) nc ns) : V (CLw g B b N xs) mL_law 997 [.ref b, .ref (ad 0), .ref (ad 49), .int i] [] (wsM g ad M) nc ns := by
  refine V_aload_n dL_law_997 rfl ?_
  refine V_aload_n dL_law_998 rfl ?_
  refine V_iload_n dL_law_999 rfl ?_
  refine V_iconst 1 dL_law_1000 (by decide) ?_
  refine V_iadd dL_law_1001 ?_
  refine V_sld dL_law_1002 (hs 1 (by decide) (by decide)) ?_
  refine V_aload_n dL_law_1003 rfl ?_
  refine V_iload_n dL_law_1004 rfl ?_
  refine V_iconst 2 dL_law_1005 (by decide) ?_
  refine V_iadd dL_law_1006 ?_
  refine V_sld dL_law_1007 (hs 2 (by decide) (by decide)) ?_
  have h := st_cost hI (xs (i + 1).toNatClampNeg) (xs (i + 2).toNatClampNeg)
  refine L_Vi mv_X10_cost lk_L_90 dL_law_1008 rfl rfl (sX10_cost h) rfl rfl (Nat.le_of_ble_eq_true rfl) (by decide) (by decide) hnc hns (fun r1 M1 h => ?_)
  refine V_aload_n dL_law_1011 rfl ?_
  refine V_aload_n dL_law_1012 rfl ?_
  refine V_iload_n dL_law_1013 rfl ?_
  refine V_iconst 1 dL_law_1014 (by decide) ?_
  refine V_iadd dL_law_1015 ?_
  refine V_sld dL_law_1016 (hs 1 (by decide) (by decide)) ?_
  refine V_aload_n dL_law_1017 rfl ?_
  refine V_iload_n dL_law_1018 rfl ?_
  refine V_iconst 2 dL_law_1019 (by decide) ?_
  refine V_iadd dL_law_1020 ?_
  refine V_sld dL_law_1021 (hs 2 (by decide) (by decide)) ?_
  refine L_Vi mv_X11_cost lk_L_93 dL_law_1022 rfl rfl (sX11_cost h) rfl rfl (Nat.le_of_ble_eq_true rfl) (by decide) (by decide) hnc hns (fun r2 M2 h => ?_)
  refine V_cmpT 1641 dL_law_1025 (by decide) h.1 ?_
  exact hk M2 h.2
theorem lw_c18 (hI : Inv M) (hs : ∀ c : Int32, 0 ≤ c → c ≤ 7 → vp_in (i + c) N) (hnc : nc ≤ 600000) (hns : ns ≤ 7302250) (hk : ∀ M2, Inv M2 → V (CLw g B b N xs) mL_law 1641 [.ref b, .ref (ad 0), .ref (ad 49), .int i] [] (wsM g ad M2) nc ns) : V (CLw g B b N xs) mL_law 1030 [.ref b, .ref (ad 0), .ref (ad 49), .int i] [] (wsM g ad M) nc ns := by
  refine V_aload_n dL_law_1030 rfl ?_
  refine V_aload_n dL_law_1031 rfl ?_
  refine V_iload_n dL_law_1032 rfl ?_
  refine V_iconst 1 dL_law_1033 (by decide) ?_
  refine V_iadd dL_law_1034 ?_
  refine V_sld dL_law_1035 (hs 1 (by decide) (by decide)) ?_
  refine V_aload_n dL_law_1036 rfl ?_
  refine V_iload_n dL_law_1037 rfl ?_
  refine V_iconst 2 dL_law_1038 (by decide) ?_
  refine V_iadd dL_law_1039 ?_
  refine V_sld dL_law_1040 (hs 2 (by decide) (by decide)) ?_
  refine V_aload_n dL_law_1041 rfl ?_
  refine V_iload_n dL_law_1042 rfl ?_
  refine V_iconst 3 dL_law_1043 (by decide) ?_
  refine V_iadd dL_law_1044 ?_
  refine V_sld dL_law_1045 (hs 3 (by decide) (by decide)) ?_
  have h := st_align hI (xs (i + 1).toNatClampNeg) (xs (i + 2).toNatClampNeg) (xs (i + 3).toNatClampNeg)
  refine L_Vi mv_X10_align lk_L_94 dL_law_1046 rfl rfl (sX10_align h) rfl rfl (Nat.le_of_ble_eq_true rfl) (by decide) (by decide) hnc hns (fun r1 M1 h => ?_)
  refine V_aload_n dL_law_1049 rfl ?_
  refine V_aload_n dL_law_1050 rfl ?_
  refine V_iload_n dL_law_1051 rfl ?_
  refine V_iconst 1 dL_law_1052 (by decide) ?_
  refine V_iadd dL_law_1053 ?_
  refine V_sld dL_law_1054 (hs 1 (by decide) (by decide)) ?_
  refine V_aload_n dL_law_1055 rfl ?_
  refine V_iload_n dL_law_1056 rfl ?_
  refine V_iconst 2 dL_law_1057 (by decide) ?_
  refine V_iadd dL_law_1058 ?_
  refine V_sld dL_law_1059 (hs 2 (by decide) (by decide)) ?_
  refine V_aload_n dL_law_1060 rfl ?_
  refine V_iload_n dL_law_1061 rfl ?_
  refine V_iconst 3 dL_law_1062 (by decide) ?_
  refine V_iadd dL_law_1063 ?_
  refine V_sld dL_law_1064 (hs 3 (by decide) (by decide)) ?_
  refine L_Vi mv_X11_align lk_L_97 dL_law_1065 rfl rfl (sX11_align h) rfl rfl (Nat.le_of_ble_eq_true rfl) (by decide) (by decide) hnc hns (fun r2 M2 h => ?_)
  refine V_cmpT 1641 dL_law_1068 (by decide) h.1 ?_
  exact hk M2 h.2
theorem lw_c19 (hI : Inv M) (hs : ∀ c : Int32, 0 ≤ c → c ≤ 7 → vp_in (i + c) N) (hnc : nc ≤ 600000) (hns : ns ≤ 7302250) (hk : ∀ M2, Inv M2 → V (CLw g B b N xs) mL_law 1641 [.ref b, .ref (ad 0), .ref (ad 49), .int i] [] (wsM g ad M2) nc ns) : V (CLw g B b N xs) mL_law 1073 [.ref b, .ref (ad 0), .ref (ad 49), .int i] [] (wsM g ad M) nc ns := by
  refine V_aload_n dL_law_1073 rfl ?_
  refine V_aload_n dL_law_1074 rfl ?_
  refine V_iload_n dL_law_1075 rfl ?_
  refine V_iconst 1 dL_law_1076 (by decide) ?_
  refine V_iadd dL_law_1077 ?_
  refine V_sld dL_law_1078 (hs 1 (by decide) (by decide)) ?_
  refine V_aload_n dL_law_1079 rfl ?_
  refine V_iload_n dL_law_1080 rfl ?_
  refine V_iconst 2 dL_law_1081 (by decide) ?_
  refine V_iadd dL_law_1082 ?_
  refine V_sld dL_law_1083 (hs 2 (by decide) (by decide)) ?_
  refine V_aload_n dL_law_1084 rfl ?_
  refine V_iload_n dL_law_1085 rfl ?_
  refine V_iconst 3 dL_law_1086 (by decide) ?_
  refine V_iadd dL_law_1087 ?_
  refine V_sld dL_law_1088 (hs 3 (by decide) (by decide)) ?_
  have h := st_sought hI (xs (i + 1).toNatClampNeg) (xs (i + 2).toNatClampNeg) (xs (i + 3).toNatClampNeg)
  refine L_Vi mv_X10_sought lk_L_98 dL_law_1089 rfl rfl (sX10_sought h) rfl rfl (Nat.le_of_ble_eq_true rfl) (by decide) (by decide) hnc hns (fun r1 M1 h => ?_)
  refine V_aload_n dL_law_1092 rfl ?_
  refine V_aload_n dL_law_1093 rfl ?_
  refine V_iload_n dL_law_1094 rfl ?_
  refine V_iconst 1 dL_law_1095 (by decide) ?_
  refine V_iadd dL_law_1096 ?_
  refine V_sld dL_law_1097 (hs 1 (by decide) (by decide)) ?_
  refine V_aload_n dL_law_1098 rfl ?_
  refine V_iload_n dL_law_1099 rfl ?_
  refine V_iconst 2 dL_law_1100 (by decide) ?_
  refine V_iadd dL_law_1101 ?_
  refine V_sld dL_law_1102 (hs 2 (by decide) (by decide)) ?_
  refine V_aload_n dL_law_1103 rfl ?_
  refine V_iload_n dL_law_1104 rfl ?_
  refine V_iconst 3 dL_law_1105 (by decide) ?_
  refine V_iadd dL_law_1106 ?_
  refine V_sld dL_law_1107 (hs 3 (by decide) (by decide)) ?_
  refine L_Vi mv_X11_sought lk_L_101 dL_law_1108 rfl rfl (sX11_sought h) rfl rfl (Nat.le_of_ble_eq_true rfl) (by decide) (by decide) hnc hns (fun r2 M2 h => ?_)
  refine V_cmpT 1641 dL_law_1111 (by decide) h.1 ?_
  exact hk M2 h.2
theorem lw_c20 (hI : Inv M) (hs : ∀ c : Int32, 0 ≤ c → c ≤ 7 → vp_in (i + c) N) (hnc : nc ≤ 600000) (hns : ns ≤ 7302250) (hk : ∀ M2, Inv M2 → V (CLw g B b N xs) mL_law 1641 [.ref b, .ref (ad 0), .ref (ad 49), .int i] [] (wsM g ad M2) nc ns) : V (CLw g B b N xs) mL_law 1116 [.ref b, .ref (ad 0), .ref (ad 49), .int i] [] (wsM g ad M) nc ns := by
  refine V_aload_n dL_law_1116 rfl ?_
  refine V_aload_n dL_law_1117 rfl ?_
  refine V_iload_n dL_law_1118 rfl ?_
  refine V_iconst 1 dL_law_1119 (by decide) ?_
  refine V_iadd dL_law_1120 ?_
  refine V_sld dL_law_1121 (hs 1 (by decide) (by decide)) ?_
  have h := st_regular hI (xs (i + 1).toNatClampNeg)
  refine L_Vi mv_X10_regular lk_L_102 dL_law_1122 rfl rfl (sX10_regular h) rfl rfl (Nat.le_of_ble_eq_true rfl) (by decide) (by decide) hnc hns (fun r1 M1 h => ?_)
  refine V_aload_n dL_law_1125 rfl ?_
  refine V_aload_n dL_law_1126 rfl ?_
  refine V_iload_n dL_law_1127 rfl ?_
  refine V_iconst 1 dL_law_1128 (by decide) ?_
  refine V_iadd dL_law_1129 ?_
  refine V_sld dL_law_1130 (hs 1 (by decide) (by decide)) ?_
  refine L_Vi mv_X11_regular lk_L_105 dL_law_1131 rfl rfl (sX11_regular h) rfl rfl (Nat.le_of_ble_eq_true rfl) (by decide) (by decide) hnc hns (fun r2 M2 h => ?_)
  refine V_cmpT 1641 dL_law_1134 (by decide) h.1 ?_
  exact hk M2 h.2
theorem lw_c21 (hI : Inv M) (hs : ∀ c : Int32, 0 ≤ c → c ≤ 7 → vp_in (i + c) N) (hnc : nc ≤ 600000) (hns : ns ≤ 7302250) (hk : ∀ M2, Inv M2 → V (CLw g B b N xs) mL_law 1641 [.ref b, .ref (ad 0), .ref (ad 49), .int i] [] (wsM g ad M2) nc ns) : V (CLw g B b N xs) mL_law 1139 [.ref b, .ref (ad 0), .ref (ad 49), .int i] [] (wsM g ad M) nc ns := by
  refine V_aload_n dL_law_1139 rfl ?_
  refine V_aload_n dL_law_1140 rfl ?_
  refine V_iload_n dL_law_1141 rfl ?_
  refine V_iconst 1 dL_law_1142 (by decide) ?_
  refine V_iadd dL_law_1143 ?_
  refine V_sld dL_law_1144 (hs 1 (by decide) (by decide)) ?_
  refine V_aload_n dL_law_1145 rfl ?_
  refine V_iload_n dL_law_1146 rfl ?_
  refine V_iconst 2 dL_law_1147 (by decide) ?_
  refine V_iadd dL_law_1148 ?_
  refine V_sld dL_law_1149 (hs 2 (by decide) (by decide)) ?_
  have h := st_ways hI (xs (i + 1).toNatClampNeg) (xs (i + 2).toNatClampNeg)
  refine L_Vi mv_X10_ways lk_L_106 dL_law_1150 rfl rfl (sX10_ways h) rfl rfl (Nat.le_of_ble_eq_true rfl) (by decide) (by decide) hnc hns (fun r1 M1 h => ?_)
  refine V_aload_n dL_law_1153 rfl ?_
  refine V_aload_n dL_law_1154 rfl ?_
  refine V_iload_n dL_law_1155 rfl ?_
  refine V_iconst 1 dL_law_1156 (by decide) ?_
  refine V_iadd dL_law_1157 ?_
  refine V_sld dL_law_1158 (hs 1 (by decide) (by decide)) ?_
  refine V_aload_n dL_law_1159 rfl ?_
  refine V_iload_n dL_law_1160 rfl ?_
  refine V_iconst 2 dL_law_1161 (by decide) ?_
  refine V_iadd dL_law_1162 ?_
  refine V_sld dL_law_1163 (hs 2 (by decide) (by decide)) ?_
  refine L_Vi mv_X11_ways lk_L_109 dL_law_1164 rfl rfl (sX11_ways h) rfl rfl (Nat.le_of_ble_eq_true rfl) (by decide) (by decide) hnc hns (fun r2 M2 h => ?_)
  refine V_cmpT 1641 dL_law_1167 (by decide) h.1 ?_
  exact hk M2 h.2
theorem lw_c22 (hI : Inv M) (hs : ∀ c : Int32, 0 ≤ c → c ≤ 7 → vp_in (i + c) N) (hnc : nc ≤ 600000) (hns : ns ≤ 7302250) (hk : ∀ M2, Inv M2 → V (CLw g B b N xs) mL_law 1641 [.ref b, .ref (ad 0), .ref (ad 49), .int i] [] (wsM g ad M2) nc ns) : V (CLw g B b N xs) mL_law 1172 [.ref b, .ref (ad 0), .ref (ad 49), .int i] [] (wsM g ad M) nc ns := by
  refine V_aload_n dL_law_1172 rfl ?_
  refine V_aload_n dL_law_1173 rfl ?_
  refine V_iload_n dL_law_1174 rfl ?_
  refine V_iconst 1 dL_law_1175 (by decide) ?_
  refine V_iadd dL_law_1176 ?_
  refine V_sld dL_law_1177 (hs 1 (by decide) (by decide)) ?_
  refine V_aload_n dL_law_1178 rfl ?_
  refine V_iload_n dL_law_1179 rfl ?_
  refine V_iconst 2 dL_law_1180 (by decide) ?_
  refine V_iadd dL_law_1181 ?_
  refine V_sld dL_law_1182 (hs 2 (by decide) (by decide)) ?_
  have h := st_order hI (xs (i + 1).toNatClampNeg) (xs (i + 2).toNatClampNeg)
  refine L_Vi mv_X10_order lk_L_110 dL_law_1183 rfl rfl (sX10_order h) rfl rfl (Nat.le_of_ble_eq_true rfl) (by decide) (by decide) hnc hns (fun r1 M1 h => ?_)
  refine V_aload_n dL_law_1186 rfl ?_
  refine V_aload_n dL_law_1187 rfl ?_
  refine V_iload_n dL_law_1188 rfl ?_
  refine V_iconst 1 dL_law_1189 (by decide) ?_
  refine V_iadd dL_law_1190 ?_
  refine V_sld dL_law_1191 (hs 1 (by decide) (by decide)) ?_
  refine V_aload_n dL_law_1192 rfl ?_
  refine V_iload_n dL_law_1193 rfl ?_
  refine V_iconst 2 dL_law_1194 (by decide) ?_
  refine V_iadd dL_law_1195 ?_
  refine V_sld dL_law_1196 (hs 2 (by decide) (by decide)) ?_
  refine L_Vi mv_X11_order lk_L_113 dL_law_1197 rfl rfl (sX11_order h) rfl rfl (Nat.le_of_ble_eq_true rfl) (by decide) (by decide) hnc hns (fun r2 M2 h => ?_)
  refine V_cmpT 1641 dL_law_1200 (by decide) h.1 ?_
  exact hk M2 h.2
theorem lw_c23 (hI : Inv M) (hs : ∀ c : Int32, 0 ≤ c → c ≤ 7 → vp_in (i + c) N) (hnc : nc ≤ 600000) (hns : ns ≤ 7302250) (hk : ∀ M2, Inv M2 → V (CLw g B b N xs) mL_law 1641 [.ref b, .ref (ad 0), .ref (ad 49), .int i] [] (wsM g ad M2) nc ns) : V (CLw g B b N xs) mL_law 1205 [.ref b, .ref (ad 0), .ref (ad 49), .int i] [] (wsM g ad M) nc ns := by
  refine V_aload_n dL_law_1205 rfl ?_
  refine V_aload_n dL_law_1206 rfl ?_
  refine V_iload_n dL_law_1207 rfl ?_
  refine V_iconst 1 dL_law_1208 (by decide) ?_
  refine V_iadd dL_law_1209 ?_
  refine V_sld dL_law_1210 (hs 1 (by decide) (by decide)) ?_
  have h := st_limit hI (xs (i + 1).toNatClampNeg)
  refine L_Vi mv_X10_limit lk_L_114 dL_law_1211 rfl rfl (sX10_limit h) rfl rfl (Nat.le_of_ble_eq_true rfl) (by decide) (by decide) hnc hns (fun r1 M1 h => ?_)
  refine V_aload_n dL_law_1214 rfl ?_
  refine V_aload_n dL_law_1215 rfl ?_
  refine V_iload_n dL_law_1216 rfl ?_
  refine V_iconst 1 dL_law_1217 (by decide) ?_
  refine V_iadd dL_law_1218 ?_
  refine V_sld dL_law_1219 (hs 1 (by decide) (by decide)) ?_
  refine L_Vi mv_X11_limit lk_L_117 dL_law_1220 rfl rfl (sX11_limit h) rfl rfl (Nat.le_of_ble_eq_true rfl) (by decide) (by decide) hnc hns (fun r2 M2 h => ?_)
  refine V_cmpT 1641 dL_law_1223 (by decide) h.1 ?_
  exact hk M2 h.2
theorem lw_c24 (hI : Inv M) (hs : ∀ c : Int32, 0 ≤ c → c ≤ 7 → vp_in (i + c) N) (hnc : nc ≤ 600000) (hns : ns ≤ 7302250) (hk : ∀ M2, Inv M2 → V (CLw g B b N xs) mL_law 1641 [.ref b, .ref (ad 0), .ref (ad 49), .int i] [] (wsM g ad M2) nc ns) : V (CLw g B b N xs) mL_law 1228 [.ref b, .ref (ad 0), .ref (ad 49), .int i] [] (wsM g ad M) nc ns := by
  refine V_aload_n dL_law_1228 rfl ?_
  refine V_aload_n dL_law_1229 rfl ?_
  refine V_iload_n dL_law_1230 rfl ?_
  refine V_iconst 1 dL_law_1231 (by decide) ?_
  refine V_iadd dL_law_1232 ?_
  refine V_sld dL_law_1233 (hs 1 (by decide) (by decide)) ?_
  refine V_aload_n dL_law_1234 rfl ?_
  refine V_iload_n dL_law_1235 rfl ?_
  refine V_iconst 2 dL_law_1236 (by decide) ?_
  refine V_iadd dL_law_1237 ?_
  refine V_sld dL_law_1238 (hs 2 (by decide) (by decide)) ?_
  have h := st_group hI (xs (i + 1).toNatClampNeg) (xs (i + 2).toNatClampNeg)
  refine L_Vi mv_X10_group lk_L_118 dL_law_1239 rfl rfl (sX10_group h) rfl rfl (Nat.le_of_ble_eq_true rfl) (by decide) (by decide) hnc hns (fun r1 M1 h => ?_)
  refine V_aload_n dL_law_1242 rfl ?_
  refine V_aload_n dL_law_1243 rfl ?_
  refine V_iload_n dL_law_1244 rfl ?_
  refine V_iconst 1 dL_law_1245 (by decide) ?_
  refine V_iadd dL_law_1246 ?_
  refine V_sld dL_law_1247 (hs 1 (by decide) (by decide)) ?_
  refine V_aload_n dL_law_1248 rfl ?_
  refine V_iload_n dL_law_1249 rfl ?_
  refine V_iconst 2 dL_law_1250 (by decide) ?_
  refine V_iadd dL_law_1251 ?_
  refine V_sld dL_law_1252 (hs 2 (by decide) (by decide)) ?_
  refine L_Vi mv_X11_group lk_L_121 dL_law_1253 rfl rfl (sX11_group h) rfl rfl (Nat.le_of_ble_eq_true rfl) (by decide) (by decide) hnc hns (fun r2 M2 h => ?_)
  refine V_cmpT 1641 dL_law_1256 (by decide) h.1 ?_
  exact hk M2 h.2
theorem lw_c25 (hI : Inv M) (hs : ∀ c : Int32, 0 ≤ c → c ≤ 7 → vp_in (i + c) N) (hnc : nc ≤ 600000) (hns : ns ≤ 7302250) (hk : ∀ M2, Inv M2 → V (CLw g B b N xs) mL_law 1641 [.ref b, .ref (ad 0), .ref (ad 49), .int i] [] (wsM g ad M2) nc ns) : V (CLw g B b N xs) mL_law 1261 [.ref b, .ref (ad 0), .ref (ad 49), .int i] [] (wsM g ad M) nc ns := by
  refine V_aload_n dL_law_1261 rfl ?_
  refine V_aload_n dL_law_1262 rfl ?_
  refine V_iload_n dL_law_1263 rfl ?_
  refine V_iconst 1 dL_law_1264 (by decide) ?_
  refine V_iadd dL_law_1265 ?_
  refine V_sld dL_law_1266 (hs 1 (by decide) (by decide)) ?_
  refine V_aload_n dL_law_1267 rfl ?_
  refine V_iload_n dL_law_1268 rfl ?_
  refine V_iconst 2 dL_law_1269 (by decide) ?_
  refine V_iadd dL_law_1270 ?_
  refine V_sld dL_law_1271 (hs 2 (by decide) (by decide)) ?_
  have h := st_border hI (xs (i + 1).toNatClampNeg) (xs (i + 2).toNatClampNeg)
  refine L_Vi mv_X10_border lk_L_122 dL_law_1272 rfl rfl (sX10_border h) rfl rfl (Nat.le_of_ble_eq_true rfl) (by decide) (by decide) hnc hns (fun r1 M1 h => ?_)
  refine V_aload_n dL_law_1275 rfl ?_
  refine V_aload_n dL_law_1276 rfl ?_
  refine V_iload_n dL_law_1277 rfl ?_
  refine V_iconst 1 dL_law_1278 (by decide) ?_
  refine V_iadd dL_law_1279 ?_
  refine V_sld dL_law_1280 (hs 1 (by decide) (by decide)) ?_
  refine V_aload_n dL_law_1281 rfl ?_
  refine V_iload_n dL_law_1282 rfl ?_
  refine V_iconst 2 dL_law_1283 (by decide) ?_
  refine V_iadd dL_law_1284 ?_
  refine V_sld dL_law_1285 (hs 2 (by decide) (by decide)) ?_
  refine L_Vi mv_X11_border lk_L_125 dL_law_1286 rfl rfl (sX11_border h) rfl rfl (Nat.le_of_ble_eq_true rfl) (by decide) (by decide) hnc hns (fun r2 M2 h => ?_)
  refine V_cmpT 1641 dL_law_1289 (by decide) h.1 ?_
  exact hk M2 h.2
theorem lw_c26 (hI : Inv M) (hs : ∀ c : Int32, 0 ≤ c → c ≤ 7 → vp_in (i + c) N) (hnc : nc ≤ 600000) (hns : ns ≤ 7302250) (hk : ∀ M2, Inv M2 → V (CLw g B b N xs) mL_law 1641 [.ref b, .ref (ad 0), .ref (ad 49), .int i] [] (wsM g ad M2) nc ns) : V (CLw g B b N xs) mL_law 1294 [.ref b, .ref (ad 0), .ref (ad 49), .int i] [] (wsM g ad M) nc ns := by
  refine V_aload_n dL_law_1294 rfl ?_
  refine V_aload_n dL_law_1295 rfl ?_
  refine V_iload_n dL_law_1296 rfl ?_
  refine V_iconst 1 dL_law_1297 (by decide) ?_
  refine V_iadd dL_law_1298 ?_
  refine V_sld dL_law_1299 (hs 1 (by decide) (by decide)) ?_
  refine V_aload_n dL_law_1300 rfl ?_
  refine V_iload_n dL_law_1301 rfl ?_
  refine V_iconst 2 dL_law_1302 (by decide) ?_
  refine V_iadd dL_law_1303 ?_
  refine V_sld dL_law_1304 (hs 2 (by decide) (by decide)) ?_
  have h := st_bundle hI (xs (i + 1).toNatClampNeg) (xs (i + 2).toNatClampNeg)
  refine L_Vi mv_X10_bundle lk_L_126 dL_law_1305 rfl rfl (sX10_bundle h) rfl rfl (Nat.le_of_ble_eq_true rfl) (by decide) (by decide) hnc hns (fun r1 M1 h => ?_)
  refine V_aload_n dL_law_1308 rfl ?_
  refine V_aload_n dL_law_1309 rfl ?_
  refine V_iload_n dL_law_1310 rfl ?_
  refine V_iconst 1 dL_law_1311 (by decide) ?_
  refine V_iadd dL_law_1312 ?_
  refine V_sld dL_law_1313 (hs 1 (by decide) (by decide)) ?_
  refine V_aload_n dL_law_1314 rfl ?_
  refine V_iload_n dL_law_1315 rfl ?_
  refine V_iconst 2 dL_law_1316 (by decide) ?_
  refine V_iadd dL_law_1317 ?_
  refine V_sld dL_law_1318 (hs 2 (by decide) (by decide)) ?_
  refine L_Vi mv_X11_bundle lk_L_129 dL_law_1319 rfl rfl (sX11_bundle h) rfl rfl (Nat.le_of_ble_eq_true rfl) (by decide) (by decide) hnc hns (fun r2 M2 h => ?_)
  refine V_cmpT 1641 dL_law_1322 (by decide) h.1 ?_
  exact hk M2 h.2
theorem lw_c27 (hI : Inv M) (hs : ∀ c : Int32, 0 ≤ c → c ≤ 7 → vp_in (i + c) N) (hnc : nc ≤ 600000) (hns : ns ≤ 7302250) (hk : ∀ M2, Inv M2 → V (CLw g B b N xs) mL_law 1641 [.ref b, .ref (ad 0), .ref (ad 49), .int i] [] (wsM g ad M2) nc ns) : V (CLw g B b N xs) mL_law 1327 [.ref b, .ref (ad 0), .ref (ad 49), .int i] [] (wsM g ad M) nc ns := by
  refine V_aload_n dL_law_1327 rfl ?_
  refine V_aload_n dL_law_1328 rfl ?_
  refine V_iload_n dL_law_1329 rfl ?_
  refine V_iconst 1 dL_law_1330 (by decide) ?_
  refine V_iadd dL_law_1331 ?_
  refine V_sld dL_law_1332 (hs 1 (by decide) (by decide)) ?_
  refine V_aload_n dL_law_1333 rfl ?_
  refine V_iload_n dL_law_1334 rfl ?_
  refine V_iconst 2 dL_law_1335 (by decide) ?_
  refine V_iadd dL_law_1336 ?_
  refine V_sld dL_law_1337 (hs 2 (by decide) (by decide)) ?_
  have h := st_area hI (xs (i + 1).toNatClampNeg) (xs (i + 2).toNatClampNeg)
  refine L_Vi mv_X10_area lk_L_130 dL_law_1338 rfl rfl (sX10_area h) rfl rfl (Nat.le_of_ble_eq_true rfl) (by decide) (by decide) hnc hns (fun r1 M1 h => ?_)
  refine V_aload_n dL_law_1341 rfl ?_
  refine V_aload_n dL_law_1342 rfl ?_
  refine V_iload_n dL_law_1343 rfl ?_
  refine V_iconst 1 dL_law_1344 (by decide) ?_
  refine V_iadd dL_law_1345 ?_
  refine V_sld dL_law_1346 (hs 1 (by decide) (by decide)) ?_
  refine V_aload_n dL_law_1347 rfl ?_
  refine V_iload_n dL_law_1348 rfl ?_
  refine V_iconst 2 dL_law_1349 (by decide) ?_
  refine V_iadd dL_law_1350 ?_
  refine V_sld dL_law_1351 (hs 2 (by decide) (by decide)) ?_
  refine L_Vi mv_X11_area lk_L_133 dL_law_1352 rfl rfl (sX11_area h) rfl rfl (Nat.le_of_ble_eq_true rfl) (by decide) (by decide) hnc hns (fun r2 M2 h => ?_)
  refine V_cmpT 1641 dL_law_1355 (by decide) h.1 ?_
  exact hk M2 h.2
theorem lw_c28 (hI : Inv M) (hs : ∀ c : Int32, 0 ≤ c → c ≤ 7 → vp_in (i + c) N) (hnc : nc ≤ 600000) (hns : ns ≤ 7302250) (hk : ∀ M2, Inv M2 → V (CLw g B b N xs) mL_law 1641 [.ref b, .ref (ad 0), .ref (ad 49), .int i] [] (wsM g ad M2) nc ns) : V (CLw g B b N xs) mL_law 1360 [.ref b, .ref (ad 0), .ref (ad 49), .int i] [] (wsM g ad M) nc ns := by
  refine V_aload_n dL_law_1360 rfl ?_
  refine V_aload_n dL_law_1361 rfl ?_
  refine V_iload_n dL_law_1362 rfl ?_
  refine V_iconst 1 dL_law_1363 (by decide) ?_
  refine V_iadd dL_law_1364 ?_
  refine V_sld dL_law_1365 (hs 1 (by decide) (by decide)) ?_
  refine V_aload_n dL_law_1366 rfl ?_
  refine V_iload_n dL_law_1367 rfl ?_
  refine V_iconst 2 dL_law_1368 (by decide) ?_
  refine V_iadd dL_law_1369 ?_
  refine V_sld dL_law_1370 (hs 2 (by decide) (by decide)) ?_
  refine V_aload_n dL_law_1371 rfl ?_
  refine V_iload_n dL_law_1372 rfl ?_
  refine V_iconst 3 dL_law_1373 (by decide) ?_
  refine V_iadd dL_law_1374 ?_
  refine V_sld dL_law_1375 (hs 3 (by decide) (by decide)) ?_
  have h := st_sheet hI (xs (i + 1).toNatClampNeg) (xs (i + 2).toNatClampNeg) (xs (i + 3).toNatClampNeg)
  refine L_Vi mv_X10_sheet lk_L_134 dL_law_1376 rfl rfl (sX10_sheet h) rfl rfl (Nat.le_of_ble_eq_true rfl) (by decide) (by decide) hnc hns (fun r1 M1 h => ?_)
  refine V_aload_n dL_law_1379 rfl ?_
  refine V_aload_n dL_law_1380 rfl ?_
  refine V_iload_n dL_law_1381 rfl ?_
  refine V_iconst 1 dL_law_1382 (by decide) ?_
  refine V_iadd dL_law_1383 ?_
  refine V_sld dL_law_1384 (hs 1 (by decide) (by decide)) ?_
  refine V_aload_n dL_law_1385 rfl ?_
  refine V_iload_n dL_law_1386 rfl ?_
  refine V_iconst 2 dL_law_1387 (by decide) ?_
  refine V_iadd dL_law_1388 ?_
  refine V_sld dL_law_1389 (hs 2 (by decide) (by decide)) ?_
  refine V_aload_n dL_law_1390 rfl ?_
  refine V_iload_n dL_law_1391 rfl ?_
  refine V_iconst 3 dL_law_1392 (by decide) ?_
  refine V_iadd dL_law_1393 ?_
  refine V_sld dL_law_1394 (hs 3 (by decide) (by decide)) ?_
  refine L_Vi mv_X11_sheet lk_L_137 dL_law_1395 rfl rfl (sX11_sheet h) rfl rfl (Nat.le_of_ble_eq_true rfl) (by decide) (by decide) hnc hns (fun r2 M2 h => ?_)
  refine V_cmpT 1641 dL_law_1398 (by decide) h.1 ?_
  exact hk M2 h.2
theorem lw_c29 (hI : Inv M) (hs : ∀ c : Int32, 0 ≤ c → c ≤ 7 → vp_in (i + c) N) (hnc : nc ≤ 600000) (hns : ns ≤ 7302250) (hk : ∀ M2, Inv M2 → V (CLw g B b N xs) mL_law 1641 [.ref b, .ref (ad 0), .ref (ad 49), .int i] [] (wsM g ad M2) nc ns) : V (CLw g B b N xs) mL_law 1403 [.ref b, .ref (ad 0), .ref (ad 49), .int i] [] (wsM g ad M) nc ns := by
  refine V_aload_n dL_law_1403 rfl ?_
  refine V_aload_n dL_law_1404 rfl ?_
  refine V_iload_n dL_law_1405 rfl ?_
  refine V_iconst 1 dL_law_1406 (by decide) ?_
  refine V_iadd dL_law_1407 ?_
  refine V_sld dL_law_1408 (hs 1 (by decide) (by decide)) ?_
  have h := st_lose hI (xs (i + 1).toNatClampNeg)
  refine L_Vi mv_X10_lose lk_L_138 dL_law_1409 rfl rfl (sX10_lose h) rfl rfl (Nat.le_of_ble_eq_true rfl) (by decide) (by decide) hnc hns (fun r1 M1 h => ?_)
  refine V_aload_n dL_law_1412 rfl ?_
  refine V_aload_n dL_law_1413 rfl ?_
  refine V_iload_n dL_law_1414 rfl ?_
  refine V_iconst 1 dL_law_1415 (by decide) ?_
  refine V_iadd dL_law_1416 ?_
  refine V_sld dL_law_1417 (hs 1 (by decide) (by decide)) ?_
  refine L_Vi mv_X11_lose lk_L_141 dL_law_1418 rfl rfl (sX11_lose h) rfl rfl (Nat.le_of_ble_eq_true rfl) (by decide) (by decide) hnc hns (fun r2 M2 h => ?_)
  refine V_cmpT 1641 dL_law_1421 (by decide) h.1 ?_
  exact hk M2 h.2
theorem lw_c30 (hI : Inv M) (hs : ∀ c : Int32, 0 ≤ c → c ≤ 7 → vp_in (i + c) N) (hnc : nc ≤ 600000) (hns : ns ≤ 7302250) (hk : ∀ M2, Inv M2 → V (CLw g B b N xs) mL_law 1641 [.ref b, .ref (ad 0), .ref (ad 49), .int i] [] (wsM g ad M2) nc ns) : V (CLw g B b N xs) mL_law 1426 [.ref b, .ref (ad 0), .ref (ad 49), .int i] [] (wsM g ad M) nc ns := by
  refine V_aload_n dL_law_1426 rfl ?_
  refine V_aload_n dL_law_1427 rfl ?_
  refine V_iload_n dL_law_1428 rfl ?_
  refine V_iconst 1 dL_law_1429 (by decide) ?_
  refine V_iadd dL_law_1430 ?_
  refine V_sld dL_law_1431 (hs 1 (by decide) (by decide)) ?_
  refine V_aload_n dL_law_1432 rfl ?_
  refine V_iload_n dL_law_1433 rfl ?_
  refine V_iconst 2 dL_law_1434 (by decide) ?_
  refine V_iadd dL_law_1435 ?_
  refine V_sld dL_law_1436 (hs 2 (by decide) (by decide)) ?_
  refine V_aload_n dL_law_1437 rfl ?_
  refine V_iload_n dL_law_1438 rfl ?_
  refine V_iconst 3 dL_law_1439 (by decide) ?_
  refine V_iadd dL_law_1440 ?_
  refine V_sld dL_law_1441 (hs 3 (by decide) (by decide)) ?_
  have h := st_put hI (xs (i + 1).toNatClampNeg) (xs (i + 2).toNatClampNeg) (xs (i + 3).toNatClampNeg)
  refine L_Vi mv_X10_put lk_L_142 dL_law_1442 rfl rfl (sX10_put h) rfl rfl (Nat.le_of_ble_eq_true rfl) (by decide) (by decide) hnc hns (fun r1 M1 h => ?_)
  refine V_aload_n dL_law_1445 rfl ?_
  refine V_aload_n dL_law_1446 rfl ?_
  refine V_iload_n dL_law_1447 rfl ?_
  refine V_iconst 1 dL_law_1448 (by decide) ?_
  refine V_iadd dL_law_1449 ?_
  refine V_sld dL_law_1450 (hs 1 (by decide) (by decide)) ?_
  refine V_aload_n dL_law_1451 rfl ?_
  refine V_iload_n dL_law_1452 rfl ?_
  refine V_iconst 2 dL_law_1453 (by decide) ?_
  refine V_iadd dL_law_1454 ?_
  refine V_sld dL_law_1455 (hs 2 (by decide) (by decide)) ?_
  refine V_aload_n dL_law_1456 rfl ?_
  refine V_iload_n dL_law_1457 rfl ?_
  refine V_iconst 3 dL_law_1458 (by decide) ?_
  refine V_iadd dL_law_1459 ?_
  refine V_sld dL_law_1460 (hs 3 (by decide) (by decide)) ?_
  refine L_Vi mv_X11_put lk_L_145 dL_law_1461 rfl rfl (sX11_put h) rfl rfl (Nat.le_of_ble_eq_true rfl) (by decide) (by decide) hnc hns (fun r2 M2 h => ?_)
  refine V_cmpT 1641 dL_law_1464 (by decide) h.1 ?_
  exact hk M2 h.2
theorem lw_c31 (hI : Inv M) (hs : ∀ c : Int32, 0 ≤ c → c ≤ 7 → vp_in (i + c) N) (hnc : nc ≤ 600000) (hns : ns ≤ 7302250) (hk : ∀ M2, Inv M2 → V (CLw g B b N xs) mL_law 1641 [.ref b, .ref (ad 0), .ref (ad 49), .int i] [] (wsM g ad M2) nc ns) : V (CLw g B b N xs) mL_law 1469 [.ref b, .ref (ad 0), .ref (ad 49), .int i] [] (wsM g ad M) nc ns := by
  refine V_aload_n dL_law_1469 rfl ?_
  refine V_aload_n dL_law_1470 rfl ?_
  refine V_iload_n dL_law_1471 rfl ?_
  refine V_iconst 1 dL_law_1472 (by decide) ?_
  refine V_iadd dL_law_1473 ?_
  refine V_sld dL_law_1474 (hs 1 (by decide) (by decide)) ?_
  refine V_aload_n dL_law_1475 rfl ?_
  refine V_iload_n dL_law_1476 rfl ?_
  refine V_iconst 2 dL_law_1477 (by decide) ?_
  refine V_iadd dL_law_1478 ?_
  refine V_sld dL_law_1479 (hs 2 (by decide) (by decide)) ?_
  refine V_aload_n dL_law_1480 rfl ?_
  refine V_iload_n dL_law_1481 rfl ?_
  refine V_iconst 3 dL_law_1482 (by decide) ?_
  refine V_iadd dL_law_1483 ?_
  refine V_sld dL_law_1484 (hs 3 (by decide) (by decide)) ?_
  have h := st_cell hI (xs (i + 1).toNatClampNeg) (xs (i + 2).toNatClampNeg) (xs (i + 3).toNatClampNeg)
  refine L_Vl mv_X10_cell lk_L_146 dL_law_1485 rfl rfl (sX10_cell h) rfl rfl (Nat.le_of_ble_eq_true rfl) (by decide) (by decide) hnc hns (fun r1 M1 h => ?_)
  refine V_aload_n dL_law_1488 rfl ?_
  refine V_aload_n dL_law_1489 rfl ?_
  refine V_iload_n dL_law_1490 rfl ?_
  refine V_iconst 1 dL_law_1491 (by decide) ?_
  refine V_iadd dL_law_1492 ?_
  refine V_sld dL_law_1493 (hs 1 (by decide) (by decide)) ?_
  refine V_aload_n dL_law_1494 rfl ?_
  refine V_iload_n dL_law_1495 rfl ?_
  refine V_iconst 2 dL_law_1496 (by decide) ?_
  refine V_iadd dL_law_1497 ?_
  refine V_sld dL_law_1498 (hs 2 (by decide) (by decide)) ?_
  refine V_aload_n dL_law_1499 rfl ?_
  refine V_iload_n dL_law_1500 rfl ?_
  refine V_iconst 3 dL_law_1501 (by decide) ?_
  refine V_iadd dL_law_1502 ?_
  refine V_sld dL_law_1503 (hs 3 (by decide) (by decide)) ?_
  refine L_Vl mv_X11_cell lk_L_150 dL_law_1504 rfl rfl (sX11_cell h) rfl rfl (Nat.le_of_ble_eq_true rfl) (by decide) (by decide) hnc hns (fun r2 M2 h => ?_)
  refine V_lcmp dL_law_1507 ?_
  refine V_ifeqT 1641 dL_law_1508 (by decide) (by rw [h.1]; simp [lg_cmp]) ?_
  exact hk M2 h.2
theorem lw_c32 (hI : Inv M) (hs : ∀ c : Int32, 0 ≤ c → c ≤ 7 → vp_in (i + c) N) (hnc : nc ≤ 600000) (hns : ns ≤ 7302250) (hk : ∀ M2, Inv M2 → V (CLw g B b N xs) mL_law 1641 [.ref b, .ref (ad 0), .ref (ad 49), .int i] [] (wsM g ad M2) nc ns) : V (CLw g B b N xs) mL_law 1513 [.ref b, .ref (ad 0), .ref (ad 49), .int i] [] (wsM g ad M) nc ns := by
  refine V_aload_n dL_law_1513 rfl ?_
  refine V_aload_n dL_law_1514 rfl ?_
  refine V_iload_n dL_law_1515 rfl ?_
  refine V_iconst 1 dL_law_1516 (by decide) ?_
  refine V_iadd dL_law_1517 ?_
  refine V_sld dL_law_1518 (hs 1 (by decide) (by decide)) ?_
  have h := st_tell hI (xs (i + 1).toNatClampNeg)
  refine L_Vi mv_X10_tell lk_L_151 dL_law_1519 rfl rfl (sX10_tell h) rfl rfl (Nat.le_of_ble_eq_true rfl) (by decide) (by decide) hnc hns (fun r1 M1 h => ?_)
  refine V_aload_n dL_law_1522 rfl ?_
  refine V_aload_n dL_law_1523 rfl ?_
  refine V_iload_n dL_law_1524 rfl ?_
  refine V_iconst 1 dL_law_1525 (by decide) ?_
  refine V_iadd dL_law_1526 ?_
  refine V_sld dL_law_1527 (hs 1 (by decide) (by decide)) ?_
  refine L_Vi mv_X11_tell lk_L_154 dL_law_1528 rfl rfl (sX11_tell h) rfl rfl (Nat.le_of_ble_eq_true rfl) (by decide) (by decide) hnc hns (fun r2 M2 h => ?_)
  refine V_cmpT 1641 dL_law_1531 (by decide) h.1 ?_
  exact hk M2 h.2
theorem lw_c33 (hI : Inv M) (hs : ∀ c : Int32, 0 ≤ c → c ≤ 7 → vp_in (i + c) N) (hnc : nc ≤ 600000) (hns : ns ≤ 7302250) (hk : ∀ M2, Inv M2 → V (CLw g B b N xs) mL_law 1641 [.ref b, .ref (ad 0), .ref (ad 49), .int i] [] (wsM g ad M2) nc ns) : V (CLw g B b N xs) mL_law 1536 [.ref b, .ref (ad 0), .ref (ad 49), .int i] [] (wsM g ad M) nc ns := by
  refine V_aload_n dL_law_1536 rfl ?_
  refine V_aload_n dL_law_1537 rfl ?_
  refine V_iload_n dL_law_1538 rfl ?_
  refine V_iconst 1 dL_law_1539 (by decide) ?_
  refine V_iadd dL_law_1540 ?_
  refine V_sld dL_law_1541 (hs 1 (by decide) (by decide)) ?_
  have h := st_name hI (xs (i + 1).toNatClampNeg)
  refine L_Vi mv_X10_name lk_L_155 dL_law_1542 rfl rfl (sX10_name h) rfl rfl (Nat.le_of_ble_eq_true rfl) (by decide) (by decide) hnc hns (fun r1 M1 h => ?_)
  refine V_aload_n dL_law_1545 rfl ?_
  refine V_aload_n dL_law_1546 rfl ?_
  refine V_iload_n dL_law_1547 rfl ?_
  refine V_iconst 1 dL_law_1548 (by decide) ?_
  refine V_iadd dL_law_1549 ?_
  refine V_sld dL_law_1550 (hs 1 (by decide) (by decide)) ?_
  refine L_Vi mv_X11_name lk_L_158 dL_law_1551 rfl rfl (sX11_name h) rfl rfl (Nat.le_of_ble_eq_true rfl) (by decide) (by decide) hnc hns (fun r2 M2 h => ?_)
  refine V_cmpT 1641 dL_law_1554 (by decide) h.1 ?_
  exact hk M2 h.2
theorem lw_c34 (hI : Inv M) (hs : ∀ c : Int32, 0 ≤ c → c ≤ 7 → vp_in (i + c) N) (hnc : nc ≤ 600000) (hns : ns ≤ 7302250) (hk : ∀ M2, Inv M2 → V (CLw g B b N xs) mL_law 1641 [.ref b, .ref (ad 0), .ref (ad 49), .int i] [] (wsM g ad M2) nc ns) : V (CLw g B b N xs) mL_law 1559 [.ref b, .ref (ad 0), .ref (ad 49), .int i] [] (wsM g ad M) nc ns := by
  refine V_aload_n dL_law_1559 rfl ?_
  refine V_aload_n dL_law_1560 rfl ?_
  refine V_iload_n dL_law_1561 rfl ?_
  refine V_iconst 1 dL_law_1562 (by decide) ?_
  refine V_iadd dL_law_1563 ?_
  refine V_sld dL_law_1564 (hs 1 (by decide) (by decide)) ?_
  refine V_aload_n dL_law_1565 rfl ?_
  refine V_iload_n dL_law_1566 rfl ?_
  refine V_iconst 2 dL_law_1567 (by decide) ?_
  refine V_iadd dL_law_1568 ?_
  refine V_sld dL_law_1569 (hs 2 (by decide) (by decide)) ?_
  have h := st_as hI (xs (i + 1).toNatClampNeg) (xs (i + 2).toNatClampNeg)
  refine L_Vi mv_X10_as lk_L_159 dL_law_1570 rfl rfl (sX10_as h) rfl rfl (Nat.le_of_ble_eq_true rfl) (by decide) (by decide) hnc hns (fun r1 M1 h => ?_)
  refine V_aload_n dL_law_1573 rfl ?_
  refine V_aload_n dL_law_1574 rfl ?_
  refine V_iload_n dL_law_1575 rfl ?_
  refine V_iconst 1 dL_law_1576 (by decide) ?_
  refine V_iadd dL_law_1577 ?_
  refine V_sld dL_law_1578 (hs 1 (by decide) (by decide)) ?_
  refine V_aload_n dL_law_1579 rfl ?_
  refine V_iload_n dL_law_1580 rfl ?_
  refine V_iconst 2 dL_law_1581 (by decide) ?_
  refine V_iadd dL_law_1582 ?_
  refine V_sld dL_law_1583 (hs 2 (by decide) (by decide)) ?_
  refine L_Vi mv_X11_as lk_L_162 dL_law_1584 rfl rfl (sX11_as h) rfl rfl (Nat.le_of_ble_eq_true rfl) (by decide) (by decide) hnc hns (fun r2 M2 h => ?_)
  refine V_cmpT 1641 dL_law_1587 (by decide) h.1 ?_
  exact hk M2 h.2
theorem lw_c35 (hI : Inv M) (hs : ∀ c : Int32, 0 ≤ c → c ≤ 7 → vp_in (i + c) N) (hnc : nc ≤ 600000) (hns : ns ≤ 7302250) (hk : ∀ M2, Inv M2 → V (CLw g B b N xs) mL_law 1641 [.ref b, .ref (ad 0), .ref (ad 49), .int i] [] (wsM g ad M2) nc ns) : V (CLw g B b N xs) mL_law 1592 [.ref b, .ref (ad 0), .ref (ad 49), .int i] [] (wsM g ad M) nc ns := by
  refine V_aload_n dL_law_1592 rfl ?_
  have h := st_trace hI 
  refine L_Vi mv_X10_trace lk_L_163 dL_law_1593 rfl rfl (sX10_trace h) rfl rfl (Nat.le_of_ble_eq_true rfl) (by decide) (by decide) hnc hns (fun r1 M1 h => ?_)
  refine V_aload_n dL_law_1596 rfl ?_
  refine L_Vi mv_X11_trace lk_L_166 dL_law_1597 rfl rfl (sX11_trace h) rfl rfl (Nat.le_of_ble_eq_true rfl) (by decide) (by decide) hnc hns (fun r2 M2 h => ?_)
  refine V_cmpT 1641 dL_law_1600 (by decide) h.1 ?_
  exact hk M2 h.2
theorem lw_c36 (hI : Inv M) (hs : ∀ c : Int32, 0 ≤ c → c ≤ 7 → vp_in (i + c) N) (hnc : nc ≤ 600000) (hns : ns ≤ 7302250) (hk : ∀ M2, Inv M2 → V (CLw g B b N xs) mL_law 1641 [.ref b, .ref (ad 0), .ref (ad 49), .int i] [] (wsM g ad M2) nc ns) : V (CLw g B b N xs) mL_law 1605 [.ref b, .ref (ad 0), .ref (ad 49), .int i] [] (wsM g ad M) nc ns := by
  refine V_aload_n dL_law_1605 rfl ?_
  have h := st_fault hI 
  refine L_Vi mv_X10_fault lk_L_167 dL_law_1606 rfl rfl (sX10_fault h) rfl rfl (Nat.le_of_ble_eq_true rfl) (by decide) (by decide) hnc hns (fun r1 M1 h => ?_)
  refine V_aload_n dL_law_1609 rfl ?_
  refine L_Vi mv_X11_fault lk_L_170 dL_law_1610 rfl rfl (sX11_fault h) rfl rfl (Nat.le_of_ble_eq_true rfl) (by decide) (by decide) hnc hns (fun r2 M2 h => ?_)
  refine V_cmpT 1641 dL_law_1613 (by decide) h.1 ?_
  exact hk M2 h.2
theorem lw_c37 (hI : Inv M) (hs : ∀ c : Int32, 0 ≤ c → c ≤ 7 → vp_in (i + c) N) (hnc : nc ≤ 600000) (hns : ns ≤ 7302250) (hk : ∀ M2, Inv M2 → V (CLw g B b N xs) mL_law 1641 [.ref b, .ref (ad 0), .ref (ad 49), .int i] [] (wsM g ad M2) nc ns) : V (CLw g B b N xs) mL_law 1618 [.ref b, .ref (ad 0), .ref (ad 49), .int i] [] (wsM g ad M) nc ns := by
  refine V_aload_n dL_law_1618 rfl ?_
  refine V_aload_n dL_law_1619 rfl ?_
  refine V_iload_n dL_law_1620 rfl ?_
  refine V_iconst 1 dL_law_1621 (by decide) ?_
  refine V_iadd dL_law_1622 ?_
  refine V_sld dL_law_1623 (hs 1 (by decide) (by decide)) ?_
  have h := st_many hI (xs (i + 1).toNatClampNeg)
  refine L_Vi mv_X10_many lk_L_171 dL_law_1624 rfl rfl (sX10_many h) rfl rfl (Nat.le_of_ble_eq_true rfl) (by decide) (by decide) hnc hns (fun r1 M1 h => ?_)
  refine V_aload_n dL_law_1627 rfl ?_
  refine V_aload_n dL_law_1628 rfl ?_
  refine V_iload_n dL_law_1629 rfl ?_
  refine V_iconst 1 dL_law_1630 (by decide) ?_
  refine V_iadd dL_law_1631 ?_
  refine V_sld dL_law_1632 (hs 1 (by decide) (by decide)) ?_
  refine L_Vi mv_X11_many lk_L_174 dL_law_1633 rfl rfl (sX11_many h) rfl rfl (Nat.le_of_ble_eq_true rfl) (by decide) (by decide) hnc hns (fun r2 M2 h => ?_)
  refine V_cmpT 1641 dL_law_1636 (by decide) h.1 ?_
  exact hk M2 h.2
theorem lw_switch (hI : Inv M) (hs : ∀ c : Int32, 0 ≤ c → c ≤ 7 → vp_in (i + c) N) (h0 : vp_in i N) (hnc : nc ≤ 600000) (hns : ns ≤ 7302250) (hk : ∀ M2, Inv M2 → V (CLw g B b N xs) mL_law 1641 [.ref b, .ref (ad 0), .ref (ad 49), .int i] [] (wsM g ad M2) nc ns) : V (CLw g B b N xs) mL_law 27 [.ref b, .ref (ad 0), .ref (ad 49), .int i] [] (wsM g ad M) nc ns := by
  refine V_aload_n dL_law_27 rfl ?_
  refine V_iload_n dL_law_28 rfl ?_
  refine V_sld dL_law_29 h0 ?_
  refine V_bipush 63 dL_law_30 (by decide) ?_
  refine V_iand dL_law_32 ?_
  generalize xs i.toNatClampNeg &&& 63 = z
  rcases Classical.em (z = 0) with q | q0
  · refine V_tableIn (off := 167) 200 dL_law_33 (by rw [q]; decide) (by rw [q]; decide) (by rw [q] <;> rfl) (by decide) ?_
    exact lw_c0 hI hs hnc hns hk
  rcases Classical.em (z = 1) with q | q1
  · refine V_tableIn (off := 210) 243 dL_law_33 (by rw [q]; decide) (by rw [q]; decide) (by rw [q] <;> rfl) (by decide) ?_
    exact lw_c1 hI hs hnc hns hk
  rcases Classical.em (z = 2) with q | q2
  · refine V_tableIn (off := 243) 276 dL_law_33 (by rw [q]; decide) (by rw [q]; decide) (by rw [q] <;> rfl) (by decide) ?_
    exact lw_c2 hI hs hnc hns hk
  rcases Classical.em (z = 3) with q | q3
  · refine V_tableIn (off := 276) 309 dL_law_33 (by rw [q]; decide) (by rw [q]; decide) (by rw [q] <;> rfl) (by decide) ?_
    exact lw_c3 hI hs hnc hns hk
  rcases Classical.em (z = 4) with q | q4
  · refine V_tableIn (off := 351) 384 dL_law_33 (by rw [q]; decide) (by rw [q]; decide) (by rw [q] <;> rfl) (by decide) ?_
    exact lw_c4 hI hs hnc hns hk
  rcases Classical.em (z = 5) with q | q5
  · refine V_tableIn (off := 364) 397 dL_law_33 (by rw [q]; decide) (by rw [q]; decide) (by rw [q] <;> rfl) (by decide) ?_
    exact lw_c5 hI hs hnc hns hk
  rcases Classical.em (z = 6) with q | q6
  · refine V_tableIn (off := 423) 456 dL_law_33 (by rw [q]; decide) (by rw [q]; decide) (by rw [q] <;> rfl) (by decide) ?_
    exact lw_c6 hI hs hnc hns hk
  rcases Classical.em (z = 7) with q | q7
  · refine V_tableIn (off := 510) 543 dL_law_33 (by rw [q]; decide) (by rw [q]; decide) (by rw [q] <;> rfl) (by decide) ?_
    exact lw_c7 hI hs hnc hns hk
  rcases Classical.em (z = 8) with q | q8
  · refine V_tableIn (off := 597) 630 dL_law_33 (by rw [q]; decide) (by rw [q]; decide) (by rw [q] <;> rfl) (by decide) ?_
    exact lw_c8 hI hs hnc hns hk
  rcases Classical.em (z = 9) with q | q9
  · refine V_tableIn (off := 630) 663 dL_law_33 (by rw [q]; decide) (by rw [q]; decide) (by rw [q] <;> rfl) (by decide) ?_
    exact lw_c9 hI hs hnc hns hk
  rcases Classical.em (z = 10) with q | q10
  · refine V_tableIn (off := 663) 696 dL_law_33 (by rw [q]; decide) (by rw [q]; decide) (by rw [q] <;> rfl) (by decide) ?_
    exact lw_c10 hI hs hnc hns hk
  rcases Classical.em (z = 11) with q | q11
  · refine V_tableIn (off := 726) 759 dL_law_33 (by rw [q]; decide) (by rw [q]; decide) (by rw [q] <;> rfl) (by decide) ?_
    exact lw_c11 hI hs hnc hns hk
  rcases Classical.em (z = 12) with q | q12
  · refine V_tableIn (off := 759) 792 dL_law_33 (by rw [q]; decide) (by rw [q]; decide) (by rw [q] <;> rfl) (by decide) ?_
    exact lw_c12 hI hs hnc hns hk
  rcases Classical.em (z = 13) with q | q13
  · refine V_tableIn (off := 822) 855 dL_law_33 (by rw [q]; decide) (by rw [q]; decide) (by rw [q] <;> rfl) (by decide) ?_
    exact lw_c13 hI hs hnc hns hk
  rcases Classical.em (z = 14) with q | q14
  · refine V_tableIn (off := 855) 888 dL_law_33 (by rw [q]; decide) (by rw [q]; decide) (by rw [q] <;> rfl) (by decide) ?_
    exact lw_c14 hI hs hnc hns hk
  rcases Classical.em (z = 15) with q | q15
  · refine V_tableIn (off := 908) 941 dL_law_33 (by rw [q]; decide) (by rw [q]; decide) (by rw [q] <;> rfl) (by decide) ?_
    exact lw_c15 hI hs hnc hns hk
  rcases Classical.em (z = 16) with q | q16
  · refine V_tableIn (off := 941) 974 dL_law_33 (by rw [q]; decide) (by rw [q]; decide) (by rw [q] <;> rfl) (by decide) ?_
    exact lw_c16 hI hs hnc hns hk
  rcases Classical.em (z = 17) with q | q17
  · refine V_tableIn (off := 964) 997 dL_law_33 (by rw [q]; decide) (by rw [q]; decide) (by rw [q] <;> rfl) (by decide) ?_
    exact lw_c17 hI hs hnc hns hk
  rcases Classical.em (z = 18) with q | q18
  · refine V_tableIn (off := 997) 1030 dL_law_33 (by rw [q]; decide) (by rw [q]; decide) (by rw [q] <;> rfl) (by decide) ?_
    exact lw_c18 hI hs hnc hns hk
  rcases Classical.em (z = 19) with q | q19
  · refine V_tableIn (off := 1040) 1073 dL_law_33 (by rw [q]; decide) (by rw [q]; decide) (by rw [q] <;> rfl) (by decide) ?_
    exact lw_c19 hI hs hnc hns hk
  rcases Classical.em (z = 20) with q | q20
  · refine V_tableIn (off := 1083) 1116 dL_law_33 (by rw [q]; decide) (by rw [q]; decide) (by rw [q] <;> rfl) (by decide) ?_
    exact lw_c20 hI hs hnc hns hk
  rcases Classical.em (z = 21) with q | q21
  · refine V_tableIn (off := 1106) 1139 dL_law_33 (by rw [q]; decide) (by rw [q]; decide) (by rw [q] <;> rfl) (by decide) ?_
    exact lw_c21 hI hs hnc hns hk
  rcases Classical.em (z = 22) with q | q22
  · refine V_tableIn (off := 1139) 1172 dL_law_33 (by rw [q]; decide) (by rw [q]; decide) (by rw [q] <;> rfl) (by decide) ?_
    exact lw_c22 hI hs hnc hns hk
  rcases Classical.em (z = 23) with q | q23
  · refine V_tableIn (off := 1172) 1205 dL_law_33 (by rw [q]; decide) (by rw [q]; decide) (by rw [q] <;> rfl) (by decide) ?_
    exact lw_c23 hI hs hnc hns hk
  rcases Classical.em (z = 24) with q | q24
  · refine V_tableIn (off := 1195) 1228 dL_law_33 (by rw [q]; decide) (by rw [q]; decide) (by rw [q] <;> rfl) (by decide) ?_
    exact lw_c24 hI hs hnc hns hk
  rcases Classical.em (z = 25) with q | q25
  · refine V_tableIn (off := 1228) 1261 dL_law_33 (by rw [q]; decide) (by rw [q]; decide) (by rw [q] <;> rfl) (by decide) ?_
    exact lw_c25 hI hs hnc hns hk
  rcases Classical.em (z = 26) with q | q26
  · refine V_tableIn (off := 1261) 1294 dL_law_33 (by rw [q]; decide) (by rw [q]; decide) (by rw [q] <;> rfl) (by decide) ?_
    exact lw_c26 hI hs hnc hns hk
  rcases Classical.em (z = 27) with q | q27
  · refine V_tableIn (off := 1294) 1327 dL_law_33 (by rw [q]; decide) (by rw [q]; decide) (by rw [q] <;> rfl) (by decide) ?_
    exact lw_c27 hI hs hnc hns hk
  rcases Classical.em (z = 28) with q | q28
  · refine V_tableIn (off := 1327) 1360 dL_law_33 (by rw [q]; decide) (by rw [q]; decide) (by rw [q] <;> rfl) (by decide) ?_
    exact lw_c28 hI hs hnc hns hk
  rcases Classical.em (z = 29) with q | q29
  · refine V_tableIn (off := 1370) 1403 dL_law_33 (by rw [q]; decide) (by rw [q]; decide) (by rw [q] <;> rfl) (by decide) ?_
    exact lw_c29 hI hs hnc hns hk
  rcases Classical.em (z = 30) with q | q30
  · refine V_tableIn (off := 1393) 1426 dL_law_33 (by rw [q]; decide) (by rw [q]; decide) (by rw [q] <;> rfl) (by decide) ?_
    exact lw_c30 hI hs hnc hns hk
  rcases Classical.em (z = 31) with q | q31
  · refine V_tableIn (off := 1436) 1469 dL_law_33 (by rw [q]; decide) (by rw [q]; decide) (by rw [q] <;> rfl) (by decide) ?_
    exact lw_c31 hI hs hnc hns hk
  rcases Classical.em (z = 32) with q | q32
  · refine V_tableIn (off := 1480) 1513 dL_law_33 (by rw [q]; decide) (by rw [q]; decide) (by rw [q] <;> rfl) (by decide) ?_
    exact lw_c32 hI hs hnc hns hk
  rcases Classical.em (z = 33) with q | q33
  · refine V_tableIn (off := 1503) 1536 dL_law_33 (by rw [q]; decide) (by rw [q]; decide) (by rw [q] <;> rfl) (by decide) ?_
    exact lw_c33 hI hs hnc hns hk
  rcases Classical.em (z = 34) with q | q34
  · refine V_tableIn (off := 1526) 1559 dL_law_33 (by rw [q]; decide) (by rw [q]; decide) (by rw [q] <;> rfl) (by decide) ?_
    exact lw_c34 hI hs hnc hns hk
  rcases Classical.em (z = 35) with q | q35
  · refine V_tableIn (off := 1559) 1592 dL_law_33 (by rw [q]; decide) (by rw [q]; decide) (by rw [q] <;> rfl) (by decide) ?_
    exact lw_c35 hI hs hnc hns hk
  rcases Classical.em (z = 36) with q | q36
  · refine V_tableIn (off := 1572) 1605 dL_law_33 (by rw [q]; decide) (by rw [q]; decide) (by rw [q] <;> rfl) (by decide) ?_
    exact lw_c36 hI hs hnc hns hk
  rcases Classical.em (z = 37) with q | q37
  · refine V_tableIn (off := 1585) 1618 dL_law_33 (by rw [q]; decide) (by rw [q]; decide) (by rw [q] <;> rfl) (by decide) ?_
    exact lw_c37 hI hs hnc hns hk
  refine V_tableOut 1641 dL_law_33 (by have z0 := lv_neT q0 (show (0 : Int32).toInt = 0 by decide); have z1 := lv_neT q1 (show (1 : Int32).toInt = 1 by decide); have z2 := lv_neT q2 (show (2 : Int32).toInt = 2 by decide); have z3 := lv_neT q3 (show (3 : Int32).toInt = 3 by decide); have z4 := lv_neT q4 (show (4 : Int32).toInt = 4 by decide); have z5 := lv_neT q5 (show (5 : Int32).toInt = 5 by decide); have z6 := lv_neT q6 (show (6 : Int32).toInt = 6 by decide); have z7 := lv_neT q7 (show (7 : Int32).toInt = 7 by decide); have z8 := lv_neT q8 (show (8 : Int32).toInt = 8 by decide); have z9 := lv_neT q9 (show (9 : Int32).toInt = 9 by decide); have z10 := lv_neT q10 (show (10 : Int32).toInt = 10 by decide); have z11 := lv_neT q11 (show (11 : Int32).toInt = 11 by decide); have z12 := lv_neT q12 (show (12 : Int32).toInt = 12 by decide); have z13 := lv_neT q13 (show (13 : Int32).toInt = 13 by decide); have z14 := lv_neT q14 (show (14 : Int32).toInt = 14 by decide); have z15 := lv_neT q15 (show (15 : Int32).toInt = 15 by decide); have z16 := lv_neT q16 (show (16 : Int32).toInt = 16 by decide); have z17 := lv_neT q17 (show (17 : Int32).toInt = 17 by decide); have z18 := lv_neT q18 (show (18 : Int32).toInt = 18 by decide); have z19 := lv_neT q19 (show (19 : Int32).toInt = 19 by decide); have z20 := lv_neT q20 (show (20 : Int32).toInt = 20 by decide); have z21 := lv_neT q21 (show (21 : Int32).toInt = 21 by decide); have z22 := lv_neT q22 (show (22 : Int32).toInt = 22 by decide); have z23 := lv_neT q23 (show (23 : Int32).toInt = 23 by decide); have z24 := lv_neT q24 (show (24 : Int32).toInt = 24 by decide); have z25 := lv_neT q25 (show (25 : Int32).toInt = 25 by decide); have z26 := lv_neT q26 (show (26 : Int32).toInt = 26 by decide); have z27 := lv_neT q27 (show (27 : Int32).toInt = 27 by decide); have z28 := lv_neT q28 (show (28 : Int32).toInt = 28 by decide); have z29 := lv_neT q29 (show (29 : Int32).toInt = 29 by decide); have z30 := lv_neT q30 (show (30 : Int32).toInt = 30 by decide); have z31 := lv_neT q31 (show (31 : Int32).toInt = 31 by decide); have z32 := lv_neT q32 (show (32 : Int32).toInt = 32 by decide); have z33 := lv_neT q33 (show (33 : Int32).toInt = 33 by decide); have z34 := lv_neT q34 (show (34 : Int32).toInt = 34 by decide); have z35 := lv_neT q35 (show (35 : Int32).toInt = 35 by decide); have z36 := lv_neT q36 (show (36 : Int32).toInt = 36 by decide); have z37 := lv_neT q37 (show (37 : Int32).toInt = 37 by decide); omega) (by decide) ?_
  exact hk M hI
end LAWCASES
theorem lw_loop {g : Gm} {B b N nc ns : Nat} {xs : Nat → Int32} {ad : Nat → Nat} (hN : N ≤ 4096) (hnc : nc ≤ 600000) (hns : ns ≤ 7302250) : ∀ (n k : Nat) (M : Mem), N < 8 * (k + n) → 8 * k ≤ N + 8 → Inv M → V (CLw g B b N xs) mL_law 18 [.ref b, .ref (ad 0), .ref (ad 49), .int (nI (8 * k))] [] (wsM g ad M) nc ns := by
  intro n
  induction n with
  | zero =>
    intro k M h1 h2 hI
    refine V_iload_n dL_law_18 rfl ?_
    refine V_aload_n dL_law_19 rfl ?_
    refine V_slen dL_law_20 ?_
    refine V_bipush 8 dL_law_21 (by decide) ?_
    refine V_isub dL_law_23 ?_
    refine V_icmp_gt 1647 dL_law_24 (by decide) (fun q => ?_) (fun q => ?_)
    · refine V_iconst 1 dL_law_1647 (by decide) ?_
      exact V_lawret dL_law_1648 hnc hns
    · exfalso
      have e8 : (8 : Int32) = nI 8 := by decide
      have hN' : Int32.ofNat N = nI N := rfl
      rw [hN', e8] at q
      rcases Nat.lt_or_ge N 8 with h | h
      · exact q (Int32.lt_iff_toInt_lt.mpr (by rw [pk_sub_toInt (by omega) (by omega), nI_toInt (by omega)]; omega))
      · rw [pk_sub h] at q
        exact q (nI_lt (by omega) (by omega))
  | succ n ih =>
    intro k M h1 h2 hI
    refine V_iload_n dL_law_18 rfl ?_
    refine V_aload_n dL_law_19 rfl ?_
    refine V_slen dL_law_20 ?_
    refine V_bipush 8 dL_law_21 (by decide) ?_
    refine V_isub dL_law_23 ?_
    refine V_icmp_gt 1647 dL_law_24 (by decide) (fun q => ?_) (fun q => ?_)
    · refine V_iconst 1 dL_law_1647 (by decide) ?_
      exact V_lawret dL_law_1648 hnc hns
    · have hle : 8 * k + 8 ≤ N := by
        have e8 : (8 : Int32) = nI 8 := by decide
        have hN' : Int32.ofNat N = nI N := rfl
        rw [hN', e8] at q
        rcases Nat.lt_or_ge N 8 with h | h
        · exact absurd (Int32.lt_iff_toInt_lt.mpr (by rw [pk_sub_toInt (by omega) (by omega), nI_toInt (by omega)]; omega)) q
        · rw [pk_sub h] at q
          rcases Nat.lt_or_ge (N - 8) (8 * k) with h3 | h3
          · exact absurd (nI_lt h3 (by omega)) q
          · omega
      refine lw_switch hI (fun c c1 c2 => ?_) (vp_in_nI (by omega) (by omega)) hnc hns (fun M2 hI2 => ?_)
      · obtain ⟨j, hj, e⟩ := nI_of2 (M := 7) (n := 7) (by decide) (fun h => Int32.not_lt.mpr c1 h) c2
        rw [e, nI_add]
        exact vp_in_nI (by omega) (by omega)
      · refine V_iincC 8 dL_law_1641 (by decide) rfl (by decide) ?_
        refine V_goto 18 dL_law_1644 (by decide) ?_
        have e8 : nI (8 * k) + 8 = nI (8 * (k + 1)) := by
          rw [show (8 : Int32) = nI 8 by decide, nI_add]
          rfl
        have := ih (k + 1) M2 (by omega) (by omega) hI2
        rw [← e8] at this
        exact this
