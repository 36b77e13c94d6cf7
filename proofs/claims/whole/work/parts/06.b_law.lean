/-! the law: the rules of its loop -/
def CB (M N : Mem) : Mem := fun o => if o < 207 then M o else N o
theorem CB_lo (M N : Mem) {o : Nat} (h : o < 207) : CB M N o = M o := if_pos h
theorem CB_hi (M N : Mem) {o : Nat} (h : ¬ o < 207) : CB M N o = N o := if_neg h
def EL1 : Unit → Option Value → GW → Mem → Prop := fun _ v _ _ => v = some (.int 1)
def LW (l : Launch) (cx : CX) (pc : Nat) (ls : List (Option Value)) (st : List Value) (M : Mem) : Prop := JO l cx room_1 yL_law cL_law 4 (some .boolean) 218 27776 true 0 0 EL1 GS 218 27776 pc ls st M (some ())
def LSx (i : Nat) : List (Option Value) := [some (.ref SC), some (.ref 0), some (.ref 207), some (.int (nI i))]
def bz (v : Int32) : Int32 := if v = 0 then 0 else 1
theorem bz_01 (v : Int32) : bz v = 0 ∨ bz v = 1 := by unfold bz; by_cases h : v = 0 <;> simp [h]
section LW
variable {l : Launch} {cx : CX} {pc i : Nat} {ls : List (Option Value)} {st : List Value} {M N : Mem}
theorem L_arg (k : Nat) (hi : i + 6 ≤ cx.2.2.1 5) (hL : @LE.le Nat _ (cx.2.2.1 5) 3072) (h0 : decode cL_law pc = .ok (.aload_n 0, 1)) (h1 : decode cL_law (pc + 1) = .ok (.iload_n 3, 1)) (h2 : decode cL_law (pc + 2) = .ok (.iconst (k : Int), 1)) (h3 : decode cL_law (pc + 3) = .ok (.iadd, 1)) (h4 : decode cL_law (pc + 4) = .ok (.iaload, 1)) (hk : k < 6) (kk : LW l cx (pc + 5) (LSx i) (.int (scx cx (i + k)) :: st) M) : LW l cx pc (LSx i) st M := by
  refine J_ald0 h0 ?_
  refine J_ild3 h1 ?_
  refine J_iconst (v := nI k) h2 rfl ?_
  refine J_iadd h3 ?_
  rw [nI_add]
  refine J_scr (vp_in_nI (by omega) (by omega)) h4 ?_
  rw [nI_clamp (by omega)]
  exact kk
theorem L_bz {v : Int32} (h0 : decode cL_law pc = .ok (.ifCond .eq 7, 3)) (h1 : decode cL_law (pc + 3) = .ok (.iconst 1, 1)) (h2 : decode cL_law (pc + 4) = .ok (.goto 4, 3)) (h3 : decode cL_law (pc + 7) = .ok (.iconst 0, 1)) (kk : LW l cx (pc + 8) ls (.int (bz v) :: st) M) : LW l cx pc ls (.int v :: st) M := by
  unfold bz at kk
  by_cases h : v = 0
  · rw [if_pos h] at kk
    have := J_if_eq (x0 := v) (x2 := none) (x := some ()) (E := EL1) (l := l) (cx := cx) (R := room_1) (y := yL_law) (nL := 4) (rt := some .boolean) (mc := 218) (ms := 27776) (al := true) (lo := 0) (hi := 0) (g := GS) (ck := 218) (sk := 27776) (ls := ls) (st := st) (M := M) (pc + 7) h0 (by omega) (J_iconst (v := 0) h3 rfl kk) JO_none
    rwa [if_pos h] at this
  · rw [if_neg h] at kk
    have := J_if_eq (x0 := v) (x := none) (x2 := some ()) (E := EL1) (l := l) (cx := cx) (R := room_1) (y := yL_law) (nL := 4) (rt := some .boolean) (mc := 218) (ms := 27776) (al := true) (lo := 0) (hi := 0) (g := GS) (ck := 218) (sk := 27776) (ls := ls) (st := st) (M := M) (pc + 7) h0 (by omega) JO_none (J_iconst (v := 1) h1 rfl (J_goto (pc + 8) h2 (by omega) kk))
    rwa [if_neg h] at this
theorem ent_M {g : GW} {M M' : Mem} {o : Nat} (h : M o = M' o) : ent cx g M o = ent cx g M' o := ent_congr rfl rfl rfl h
theorem L_cls {β : Type} {E' : β → Option Value → GW → Mem → Prop} {y' : MethodName} {cc' : ByteArray} {nL' idx : Nat} {rt' : Option FieldType} {rm : Room} {as stk : List Value} {xc : Option β} {b : β} (rr : β → Int32) (mm : β → Mem) (hx : xc = some b) (hE : ∀ b v g M', E' b v g M' → v = some (.int (rr b)) ∧ g = GS ∧ M' = mm b) (hC : Con l cx rm y' cc' nL' rt' 0 0 false 0 207 E' GS (.ref 0 :: as) M xc) (hw : CKV RL idx y' cc' nL' rt' as.length 10) (hd : decode cL_law pc = .ok (.invokevirtual idx, 3)) (hs : stk = as.reverse ++ .ref 0 :: st) (hy : y'.cls = RX10) (hR : rm.cells = 0 ∧ rm.slots = 0 ∧ rm.frames + 1 ≤ 13 ∧ 8 + (nL' + 11) + rm.locals ≤ 502) (hst : sumW st ≤ 8)
    (kk : LW l cx (pc + 3) ls (.int (rr b) :: st) (CB (mm b) N)) : LW l cx pc ls stk (CB M N) := by
  subst hx
  refine JO_x (x' := (some b).bind (fun b' => @ite _ (b' = b) (Classical.propDecidable _) (some ()) none)) (by simp) ?_
  refine J_cVW (a := 0) (b := 207) (ci := 10) (fun g' => g') (fun M' => CB M' N) hC ⟨Nat.le_refl _, by decide⟩ (fun o _ h => ent_M (CB_lo M N h).symm) (fun _ _ _ M' _ o _ h => ent_M (CB_lo M' N h)) (fun b' v g' M' hb o _ _ h => ?_) hw hd hs ⟨rfl, Nat.le_refl _, by decide⟩ hR ⟨by decide, by decide, hst⟩ (fun b' v g' M' hb => ?_)
  · obtain ⟨-, rfl, -⟩ := hE b' v g' M' hb
    refine ent_M ?_
    rw [CB_hi _ _ (fun w => h ⟨Nat.zero_le _, w⟩), CB_hi _ _ (fun w => h ⟨Nat.zero_le _, w⟩)]
  · obtain ⟨rfl, rfl, rfl⟩ := hE b' v g' M' hb
    by_cases e : b' = b
    · subst e
      rw [if_pos rfl]; exact kk
    · rw [if_neg e]; exact JO_none
theorem L_mod {β : Type} {E' : β → Option Value → GW → Mem → Prop} {y' : MethodName} {cc' : ByteArray} {nL' idx : Nat} {rt' : Option FieldType} {rm : Room} {as stk : List Value} {xc : Option β} {b : β} (rr : β → Int32) (mm : β → Mem) (hx : xc = some b) (hE : ∀ b v g M', E' b v g M' → v = some (.int (rr b)) ∧ g = GS ∧ M' = mm b) (hC : Con l cx rm y' cc' nL' rt' 0 0 false 207 218 E' GS (.ref 207 :: as) N xc) (hw : CKV RL idx y' cc' nL' rt' as.length 11) (hd : decode cL_law pc = .ok (.invokevirtual idx, 3)) (hs : stk = as.reverse ++ .ref 207 :: st) (hy : y'.cls = RX11) (hR : rm.cells = 0 ∧ rm.slots = 0 ∧ rm.frames + 1 ≤ 13 ∧ 8 + (nL' + 11) + rm.locals ≤ 502) (hst : sumW st ≤ 8)
    (kk : LW l cx (pc + 3) ls (.int (rr b) :: st) (CB M (mm b))) : LW l cx pc ls stk (CB M N) := by
  subst hx
  refine JO_x (x' := (some b).bind (fun b' => @ite _ (b' = b) (Classical.propDecidable _) (some ()) none)) (by simp) ?_
  refine J_cVW (a := 207) (b := 218) (ci := 11) (fun g' => g') (fun N' => CB M N') hC ⟨Nat.zero_le _, by decide⟩ (fun o h _ => ent_M (CB_hi M N (by omega)).symm) (fun _ _ _ N' _ o h _ => ent_M (CB_hi M N' (by omega))) (fun b' v g' M' hb o _ h2 h => ?_) hw hd hs ⟨rfl, Nat.zero_le _, by decide⟩ hR ⟨by decide, by decide, hst⟩ (fun b' v g' M' hb => ?_)
  · obtain ⟨-, rfl, -⟩ := hE b' v g' M' hb
    have ho : o < 207 := Nat.lt_of_not_le (fun w => h ⟨w, h2⟩)
    refine ent_M ?_
    rw [CB_lo _ _ ho, CB_lo _ _ ho]
  · obtain ⟨rfl, rfl, rfl⟩ := hE b' v g' M' hb
    by_cases e : b' = b
    · subst e
      rw [if_pos rfl]; exact kk
    · rw [if_neg e]; exact JO_none
theorem L_eq {a b : Int32} {off : Int} (h : a = b) (hd : decode cL_law pc = .ok (.if_icmp .eq off, 3)) (ht : (pc : Int) + off = ((1632 : Nat) : Int)) (kk : LW l cx 1632 ls st M) : LW l cx pc ls (.int b :: .int a :: st) M := by
  have := J_ic_eq (a := a) (b := b) (x := some ()) (x2 := none) (E := EL1) (l := l) (cx := cx) (R := room_1) (y := yL_law) (nL := 4) (rt := some .boolean) (mc := 218) (ms := 27776) (al := true) (lo := 0) (hi := 0) (g := GS) (ck := 218) (sk := 27776) (ls := ls) (st := st) (M := M) 1632 hd ht kk JO_none
  rwa [if_pos h] at this
theorem L_swK {j : Nat} {d0 l0 h0 : Int} {offs : Array Int} {len : Nat} {off : Int} (tgt : Nat) (hd : decode cL_law pc = .ok (.tableswitch d0 l0 h0 offs, len)) (h1 : ¬ (nI j).toInt < l0) (h2 : ¬ h0 < (nI j).toInt) (ho : offs[((nI j).toInt - l0).toNat]? = some off) (ht : (pc : Int) + off = (tgt : Int)) (kk : LW l cx tgt ls st M) : LW l cx pc ls (.int (nI j) :: st) M := by
  have := J_swIn (x0 := nI j) (v := nI j) (x := some ()) (x2 := none) (E := EL1) (l := l) (cx := cx) (R := room_1) (y := yL_law) (nL := 4) (rt := some .boolean) (mc := 218) (ms := 27776) (al := true) (lo := 0) (hi := 0) (g := GS) (ck := 218) (sk := 27776) (ls := ls) (st := st) (M := M) tgt hd h1 h2 ho ht kk (fun _ => JO_none)
  rwa [if_pos rfl] at this
end LW
theorem EI_e : ∀ (b : Int32 × Mem) (v : Option Value) (g : GW) (M' : Mem), EI b v g M' → v = some (.int b.1) ∧ g = GS ∧ M' = b.2 := fun _ _ _ _ h => h
theorem EZ_e : ∀ (b : Int32 × Mem) (v : Option Value) (g : GW) (M' : Mem), EZ b v g M' → v = some (.int b.1) ∧ g = GS ∧ M' = b.2 := fun _ _ _ _ h => ⟨h.1, h.2.1, h.2.2.1⟩
theorem EP_e (M : Mem) : ∀ (b : Int32) (v : Option Value) (g : GW) (M' : Mem), EP M b v g M' → v = some (.int b) ∧ g = GS ∧ M' = M := fun _ _ _ _ h => h
theorem LC_feed {l : Launch} {cx : CX} {i : Nat} {M N : Mem} (hT : TOT M N) (hi : i + 6 ≤ cx.2.2.1 5) (hL : @LE.le Nat _ (cx.2.2.1 5) 3072) (next : ∀ M1 N1, TOT M1 N1 → LW l cx 1632 (LSx i) [] (CB M1 N1)) : LW l cx 224 (LSx i) [] (CB M N) := by
  obtain ⟨r, M1, N1, e1, e2, hT1⟩ := q_feed (n := 20000) hT (by decide) (scx cx (i + 1)) (scx cx (i + 2)) (scx cx (i + 3)) (scx cx (i + 4)) (scx cx (i + 5))
  refine J_ald1 dL_law_224 ?_
  refine L_arg 1 hi hL dL_law_225 dL_law_226 dL_law_227 dL_law_228 dL_law_229 (by decide) ?_
  refine L_arg 2 hi hL dL_law_230 dL_law_231 dL_law_232 dL_law_233 dL_law_234 (by decide) ?_
  refine L_arg 3 hi hL dL_law_235 dL_law_236 dL_law_237 dL_law_238 dL_law_239 (by decide) ?_
  refine L_arg 4 hi hL dL_law_240 dL_law_241 dL_law_242 dL_law_243 dL_law_244 (by decide) ?_
  refine L_arg 5 hi hL dL_law_245 dL_law_246 dL_law_247 dL_law_248 dL_law_249 (by decide) ?_
  refine L_cls (as := [.int (scx cx (i + 1)), .int (scx cx (i + 2)), .int (scx cx (i + 3)), .int (scx cx (i + 4)), .int (scx cx (i + 5))]) Prod.fst Prod.snd e1 EI_e (jX10_feed l cx 20000 (scx cx (i + 1)) (scx cx (i + 2)) (scx cx (i + 3)) (scx cx (i + 4)) (scx cx (i + 5)) M) ck_L_13 dL_law_250 rfl rfl ⟨rfl, rfl, by decide, by decide⟩ (Nat.le_of_ble_eq_true rfl) ?_
  refine J_ald2 dL_law_253 ?_
  refine L_arg 1 hi hL dL_law_254 dL_law_255 dL_law_256 dL_law_257 dL_law_258 (by decide) ?_
  refine L_arg 2 hi hL dL_law_259 dL_law_260 dL_law_261 dL_law_262 dL_law_263 (by decide) ?_
  refine L_arg 3 hi hL dL_law_264 dL_law_265 dL_law_266 dL_law_267 dL_law_268 (by decide) ?_
  refine L_arg 4 hi hL dL_law_269 dL_law_270 dL_law_271 dL_law_272 dL_law_273 (by decide) ?_
  refine L_arg 5 hi hL dL_law_274 dL_law_275 dL_law_276 dL_law_277 dL_law_278 (by decide) ?_
  refine L_mod (as := [.int (scx cx (i + 1)), .int (scx cx (i + 2)), .int (scx cx (i + 3)), .int (scx cx (i + 4)), .int (scx cx (i + 5))]) Prod.fst Prod.snd e2 EI_e (jX11_feed l cx 20000 (scx cx (i + 1)) (scx cx (i + 2)) (scx cx (i + 3)) (scx cx (i + 4)) (scx cx (i + 5)) N) ck_L_17 dL_law_279 rfl rfl ⟨rfl, rfl, by decide, by decide⟩ (Nat.le_of_ble_eq_true rfl) ?_
  refine L_eq rfl dL_law_282 rfl ?_
  exact next _ _ hT1
theorem LC_book {l : Launch} {cx : CX} {i : Nat} {M N : Mem} (hT : TOT M N) (hi : i + 6 ≤ cx.2.2.1 5) (hL : @LE.le Nat _ (cx.2.2.1 5) 3072) (next : ∀ M1 N1, TOT M1 N1 → LW l cx 1632 (LSx i) [] (CB M1 N1)) : LW l cx 287 (LSx i) [] (CB M N) := by
  obtain ⟨r, M1, N1, e1, e2, hT1⟩ := q_book (n := 20000) hT (by decide) (scx cx (i + 1))
  refine J_ald1 dL_law_287 ?_
  refine L_arg 1 hi hL dL_law_288 dL_law_289 dL_law_290 dL_law_291 dL_law_292 (by decide) ?_
  refine L_cls (as := [.int (scx cx (i + 1))]) Prod.fst Prod.snd e1 EI_e (jX10_book l cx 20000 (scx cx (i + 1)) M) ck_L_18 dL_law_293 rfl rfl ⟨rfl, rfl, by decide, by decide⟩ (Nat.le_of_ble_eq_true rfl) ?_
  refine J_ald2 dL_law_296 ?_
  refine L_arg 1 hi hL dL_law_297 dL_law_298 dL_law_299 dL_law_300 dL_law_301 (by decide) ?_
  refine L_mod (as := [.int (scx cx (i + 1))]) Prod.fst Prod.snd e2 EI_e (jX11_book l cx 20000 (scx cx (i + 1)) N) ck_L_22 dL_law_302 rfl rfl ⟨rfl, rfl, by decide, by decide⟩ (Nat.le_of_ble_eq_true rfl) ?_
  refine L_eq rfl dL_law_305 rfl ?_
  exact next _ _ hT1
theorem LC_begin {l : Launch} {cx : CX} {i : Nat} {M N : Mem} (hT : TOT M N) (hi : i + 6 ≤ cx.2.2.1 5) (hL : @LE.le Nat _ (cx.2.2.1 5) 3072) (next : ∀ M1 N1, TOT M1 N1 → LW l cx 1632 (LSx i) [] (CB M1 N1)) : LW l cx 310 (LSx i) [] (CB M N) := by
  obtain ⟨r, M1, N1, e1, e2, hT1⟩ := q_begin (n := 20000) hT (by decide) (scx cx (i + 1)) (scx cx (i + 2)) (scx cx (i + 3))
  refine J_ald1 dL_law_310 ?_
  refine L_arg 1 hi hL dL_law_311 dL_law_312 dL_law_313 dL_law_314 dL_law_315 (by decide) ?_
  refine L_arg 2 hi hL dL_law_316 dL_law_317 dL_law_318 dL_law_319 dL_law_320 (by decide) ?_
  refine L_arg 3 hi hL dL_law_321 dL_law_322 dL_law_323 dL_law_324 dL_law_325 (by decide) ?_
  refine L_cls (as := [.int (scx cx (i + 1)), .int (scx cx (i + 2)), .int (scx cx (i + 3))]) Prod.fst Prod.snd e1 EI_e (jX10_begin l cx 20000 (scx cx (i + 1)) (scx cx (i + 2)) (scx cx (i + 3)) M) ck_L_23 dL_law_326 rfl rfl ⟨rfl, rfl, by decide, by decide⟩ (Nat.le_of_ble_eq_true rfl) ?_
  refine J_ald2 dL_law_329 ?_
  refine L_arg 1 hi hL dL_law_330 dL_law_331 dL_law_332 dL_law_333 dL_law_334 (by decide) ?_
  refine L_arg 2 hi hL dL_law_335 dL_law_336 dL_law_337 dL_law_338 dL_law_339 (by decide) ?_
  refine L_arg 3 hi hL dL_law_340 dL_law_341 dL_law_342 dL_law_343 dL_law_344 (by decide) ?_
  refine L_mod (as := [.int (scx cx (i + 1)), .int (scx cx (i + 2)), .int (scx cx (i + 3))]) Prod.fst Prod.snd e2 EI_e (jX11_begin l cx 20000 (scx cx (i + 1)) (scx cx (i + 2)) (scx cx (i + 3)) N) ck_L_27 dL_law_345 rfl rfl ⟨rfl, rfl, by decide, by decide⟩ (Nat.le_of_ble_eq_true rfl) ?_
  refine L_eq rfl dL_law_348 rfl ?_
  exact next _ _ hT1
theorem LC_change {l : Launch} {cx : CX} {i : Nat} {M N : Mem} (hT : TOT M N) (hi : i + 6 ≤ cx.2.2.1 5) (hL : @LE.le Nat _ (cx.2.2.1 5) 3072) (next : ∀ M1 N1, TOT M1 N1 → LW l cx 1632 (LSx i) [] (CB M1 N1)) : LW l cx 353 (LSx i) [] (CB M N) := by
  obtain ⟨r, M1, N1, e1, e2, hT1⟩ := q_change (n := 20000) hT (by decide) (scx cx (i + 1)) (scx cx (i + 2))
  refine J_ald1 dL_law_353 ?_
  refine L_arg 1 hi hL dL_law_354 dL_law_355 dL_law_356 dL_law_357 dL_law_358 (by decide) ?_
  refine L_arg 2 hi hL dL_law_359 dL_law_360 dL_law_361 dL_law_362 dL_law_363 (by decide) ?_
  refine L_cls (as := [.int (scx cx (i + 1)), .int (scx cx (i + 2))]) Prod.fst Prod.snd e1 EI_e (jX10_change l cx 20000 (scx cx (i + 1)) (scx cx (i + 2)) M) ck_L_28 dL_law_364 rfl rfl ⟨rfl, rfl, by decide, by decide⟩ (Nat.le_of_ble_eq_true rfl) ?_
  refine J_ald2 dL_law_367 ?_
  refine L_arg 1 hi hL dL_law_368 dL_law_369 dL_law_370 dL_law_371 dL_law_372 (by decide) ?_
  refine L_arg 2 hi hL dL_law_373 dL_law_374 dL_law_375 dL_law_376 dL_law_377 (by decide) ?_
  refine L_mod (as := [.int (scx cx (i + 1)), .int (scx cx (i + 2))]) Prod.fst Prod.snd e2 EI_e (jX11_change l cx 20000 (scx cx (i + 1)) (scx cx (i + 2)) N) ck_L_32 dL_law_378 rfl rfl ⟨rfl, rfl, by decide, by decide⟩ (Nat.le_of_ble_eq_true rfl) ?_
  refine L_eq rfl dL_law_381 rfl ?_
  exact next _ _ hT1
theorem LC_seats {l : Launch} {cx : CX} {i : Nat} {M N : Mem} (hT : TOT M N) (hi : i + 6 ≤ cx.2.2.1 5) (hL : @LE.le Nat _ (cx.2.2.1 5) 3072) (next : ∀ M1 N1, TOT M1 N1 → LW l cx 1632 (LSx i) [] (CB M1 N1)) : LW l cx 386 (LSx i) [] (CB M N) := by
  obtain ⟨r, M1, N1, e1, e2, hT1⟩ := q_seats (n := 20000) hT (by decide) (scx cx (i + 1)) (scx cx (i + 2))
  refine J_ald1 dL_law_386 ?_
  refine L_arg 1 hi hL dL_law_387 dL_law_388 dL_law_389 dL_law_390 dL_law_391 (by decide) ?_
  refine L_arg 2 hi hL dL_law_392 dL_law_393 dL_law_394 dL_law_395 dL_law_396 (by decide) ?_
  refine L_cls (as := [.int (scx cx (i + 1)), .int (scx cx (i + 2))]) Prod.fst Prod.snd e1 EI_e (jX10_seats l cx 20000 (scx cx (i + 1)) (scx cx (i + 2)) M) ck_L_33 dL_law_397 rfl rfl ⟨rfl, rfl, by decide, by decide⟩ (Nat.le_of_ble_eq_true rfl) ?_
  refine J_ald2 dL_law_400 ?_
  refine L_arg 1 hi hL dL_law_401 dL_law_402 dL_law_403 dL_law_404 dL_law_405 (by decide) ?_
  refine L_arg 2 hi hL dL_law_406 dL_law_407 dL_law_408 dL_law_409 dL_law_410 (by decide) ?_
  refine L_mod (as := [.int (scx cx (i + 1)), .int (scx cx (i + 2))]) Prod.fst Prod.snd e2 EI_e (jX11_seats l cx 20000 (scx cx (i + 1)) (scx cx (i + 2)) N) ck_L_36 dL_law_411 rfl rfl ⟨rfl, rfl, by decide, by decide⟩ (Nat.le_of_ble_eq_true rfl) ?_
  refine L_eq rfl dL_law_414 rfl ?_
  exact next _ _ hT1
theorem LC_tax {l : Launch} {cx : CX} {i : Nat} {M N : Mem} (hT : TOT M N) (hi : i + 6 ≤ cx.2.2.1 5) (hL : @LE.le Nat _ (cx.2.2.1 5) 3072) (next : ∀ M1 N1, TOT M1 N1 → LW l cx 1632 (LSx i) [] (CB M1 N1)) : LW l cx 419 (LSx i) [] (CB M N) := by
  obtain ⟨r, e1, e2⟩ := q_tax (n := 20000) hT (by decide) (scx cx (i + 1))
  refine J_ald1 dL_law_419 ?_
  refine L_arg 1 hi hL dL_law_420 dL_law_421 dL_law_422 dL_law_423 dL_law_424 (by decide) ?_
  refine L_cls (as := [.int (scx cx (i + 1))]) (fun r => r) (fun _ => M) e1 (EP_e M) (jX10_tax l cx 20000 (scx cx (i + 1)) M) ck_L_37 dL_law_425 rfl rfl ⟨rfl, rfl, by decide, by decide⟩ (Nat.le_of_ble_eq_true rfl) ?_
  refine J_ald2 dL_law_428 ?_
  refine L_arg 1 hi hL dL_law_429 dL_law_430 dL_law_431 dL_law_432 dL_law_433 (by decide) ?_
  refine L_mod (as := [.int (scx cx (i + 1))]) (fun r => r) (fun _ => N) e2 (EP_e N) (jX11_tax l cx 20000 (scx cx (i + 1)) N) ck_L_40 dL_law_434 rfl rfl ⟨rfl, rfl, by decide, by decide⟩ (Nat.le_of_ble_eq_true rfl) ?_
  refine L_eq rfl dL_law_437 rfl ?_
  exact next _ _ hT
theorem LC_taxes {l : Launch} {cx : CX} {i : Nat} {M N : Mem} (hT : TOT M N) (hi : i + 6 ≤ cx.2.2.1 5) (hL : @LE.le Nat _ (cx.2.2.1 5) 3072) (next : ∀ M1 N1, TOT M1 N1 → LW l cx 1632 (LSx i) [] (CB M1 N1)) : LW l cx 442 (LSx i) [] (CB M N) := by
  obtain ⟨r, e1, e2⟩ := q_taxes (n := 20000) hT (by decide) (scx cx (i + 1)) (scx cx (i + 2))
  refine J_ald1 dL_law_442 ?_
  refine L_arg 1 hi hL dL_law_443 dL_law_444 dL_law_445 dL_law_446 dL_law_447 (by decide) ?_
  refine L_arg 2 hi hL dL_law_448 dL_law_449 dL_law_450 dL_law_451 dL_law_452 (by decide) ?_
  refine L_cls (as := [.int (scx cx (i + 1)), .int (scx cx (i + 2))]) (fun r => r) (fun _ => M) e1 (EP_e M) (jX10_taxes l cx 20000 (scx cx (i + 1)) (scx cx (i + 2)) M) ck_L_41 dL_law_453 rfl rfl ⟨rfl, rfl, by decide, by decide⟩ (Nat.le_of_ble_eq_true rfl) ?_
  refine J_ald2 dL_law_456 ?_
  refine L_arg 1 hi hL dL_law_457 dL_law_458 dL_law_459 dL_law_460 dL_law_461 (by decide) ?_
  refine L_arg 2 hi hL dL_law_462 dL_law_463 dL_law_464 dL_law_465 dL_law_466 (by decide) ?_
  refine L_mod (as := [.int (scx cx (i + 1)), .int (scx cx (i + 2))]) (fun r => r) (fun _ => N) e2 (EP_e N) (jX11_taxes l cx 20000 (scx cx (i + 1)) (scx cx (i + 2)) N) ck_L_44 dL_law_467 rfl rfl ⟨rfl, rfl, by decide, by decide⟩ (Nat.le_of_ble_eq_true rfl) ?_
  refine L_eq rfl dL_law_470 rfl ?_
  exact next _ _ hT
theorem LC_pause {l : Launch} {cx : CX} {i : Nat} {M N : Mem} (hT : TOT M N) (hi : i + 6 ≤ cx.2.2.1 5) (hL : @LE.le Nat _ (cx.2.2.1 5) 3072) (next : ∀ M1 N1, TOT M1 N1 → LW l cx 1632 (LSx i) [] (CB M1 N1)) : LW l cx 475 (LSx i) [] (CB M N) := by
  obtain ⟨r, M1, N1, e1, e2, hT1⟩ := q_pause (n := 20000) hT (by decide) (scx cx (i + 1)) (bz (scx cx (i + 2))) (bz_01 _)
  refine J_ald1 dL_law_475 ?_
  refine L_arg 1 hi hL dL_law_476 dL_law_477 dL_law_478 dL_law_479 dL_law_480 (by decide) ?_
  refine L_arg 2 hi hL dL_law_481 dL_law_482 dL_law_483 dL_law_484 dL_law_485 (by decide) ?_
  refine L_bz dL_law_486 dL_law_489 dL_law_490 dL_law_493 ?_
  refine L_cls (as := [.int (scx cx (i + 1)), .int (bz (scx cx (i + 2)))]) Prod.fst Prod.snd e1 EI_e (jX10_pause l cx 20000 (scx cx (i + 1)) (bz (scx cx (i + 2))) (bz_01 _) M) ck_L_45 dL_law_494 rfl rfl ⟨rfl, rfl, by decide, by decide⟩ (Nat.le_of_ble_eq_true rfl) ?_
  refine J_ald2 dL_law_497 ?_
  refine L_arg 1 hi hL dL_law_498 dL_law_499 dL_law_500 dL_law_501 dL_law_502 (by decide) ?_
  refine L_arg 2 hi hL dL_law_503 dL_law_504 dL_law_505 dL_law_506 dL_law_507 (by decide) ?_
  refine L_bz dL_law_508 dL_law_511 dL_law_512 dL_law_515 ?_
  refine L_mod (as := [.int (scx cx (i + 1)), .int (bz (scx cx (i + 2)))]) Prod.fst Prod.snd e2 EI_e (jX11_pause l cx 20000 (scx cx (i + 1)) (bz (scx cx (i + 2))) (bz_01 _) N) ck_L_49 dL_law_516 rfl rfl ⟨rfl, rfl, by decide, by decide⟩ (Nat.le_of_ble_eq_true rfl) ?_
  refine L_eq rfl dL_law_519 rfl ?_
  exact next _ _ hT1
theorem LC_giveUp {l : Launch} {cx : CX} {i : Nat} {M N : Mem} (hT : TOT M N) (hi : i + 6 ≤ cx.2.2.1 5) (hL : @LE.le Nat _ (cx.2.2.1 5) 3072) (next : ∀ M1 N1, TOT M1 N1 → LW l cx 1632 (LSx i) [] (CB M1 N1)) : LW l cx 524 (LSx i) [] (CB M N) := by
  obtain ⟨r, M1, N1, e1, e2, hT1⟩ := q_giveUp (n := 20000) hT (by decide) (scx cx (i + 1))
  refine J_ald1 dL_law_524 ?_
  refine L_arg 1 hi hL dL_law_525 dL_law_526 dL_law_527 dL_law_528 dL_law_529 (by decide) ?_
  refine L_cls (as := [.int (scx cx (i + 1))]) Prod.fst Prod.snd e1 EI_e (jX10_giveUp l cx 20000 (scx cx (i + 1)) M) ck_L_50 dL_law_530 rfl rfl ⟨rfl, rfl, by decide, by decide⟩ (Nat.le_of_ble_eq_true rfl) ?_
  refine J_ald2 dL_law_533 ?_
  refine L_arg 1 hi hL dL_law_534 dL_law_535 dL_law_536 dL_law_537 dL_law_538 (by decide) ?_
  refine L_mod (as := [.int (scx cx (i + 1))]) Prod.fst Prod.snd e2 EI_e (jX11_giveUp l cx 20000 (scx cx (i + 1)) N) ck_L_53 dL_law_539 rfl rfl ⟨rfl, rfl, by decide, by decide⟩ (Nat.le_of_ble_eq_true rfl) ?_
  refine L_eq rfl dL_law_542 rfl ?_
  exact next _ _ hT1
theorem LC_move {l : Launch} {cx : CX} {i : Nat} {M N : Mem} (hT : TOT M N) (hi : i + 6 ≤ cx.2.2.1 5) (hL : @LE.le Nat _ (cx.2.2.1 5) 3072) (next : ∀ M1 N1, TOT M1 N1 → LW l cx 1632 (LSx i) [] (CB M1 N1)) : LW l cx 547 (LSx i) [] (CB M N) := by
  obtain ⟨r, M1, N1, e1, e2, hT1⟩ := q_move (n := 20000) hT (by decide) (scx cx (i + 1)) (scx cx (i + 2))
  refine J_ald1 dL_law_547 ?_
  refine L_arg 1 hi hL dL_law_548 dL_law_549 dL_law_550 dL_law_551 dL_law_552 (by decide) ?_
  refine L_arg 2 hi hL dL_law_553 dL_law_554 dL_law_555 dL_law_556 dL_law_557 (by decide) ?_
  refine L_cls (as := [.int (scx cx (i + 1)), .int (scx cx (i + 2))]) Prod.fst Prod.snd e1 EI_e (jX10_move l cx 20000 (scx cx (i + 1)) (scx cx (i + 2)) M) ck_L_54 dL_law_558 rfl rfl ⟨rfl, rfl, by decide, by decide⟩ (Nat.le_of_ble_eq_true rfl) ?_
  refine J_ald2 dL_law_561 ?_
  refine L_arg 1 hi hL dL_law_562 dL_law_563 dL_law_564 dL_law_565 dL_law_566 (by decide) ?_
  refine L_arg 2 hi hL dL_law_567 dL_law_568 dL_law_569 dL_law_570 dL_law_571 (by decide) ?_
  refine L_mod (as := [.int (scx cx (i + 1)), .int (scx cx (i + 2))]) Prod.fst Prod.snd e2 EI_e (jX11_move l cx 20000 (scx cx (i + 1)) (scx cx (i + 2)) N) ck_L_57 dL_law_572 rfl rfl ⟨rfl, rfl, by decide, by decide⟩ (Nat.le_of_ble_eq_true rfl) ?_
  refine L_eq rfl dL_law_575 rfl ?_
  exact next _ _ hT1
theorem LC_deeds {l : Launch} {cx : CX} {i : Nat} {M N : Mem} (hT : TOT M N) (hi : i + 6 ≤ cx.2.2.1 5) (hL : @LE.le Nat _ (cx.2.2.1 5) 3072) (next : ∀ M1 N1, TOT M1 N1 → LW l cx 1632 (LSx i) [] (CB M1 N1)) : LW l cx 580 (LSx i) [] (CB M N) := by
  obtain ⟨r, M1, N1, e1, e2, hT1⟩ := q_deeds (n := 20000) hT (by decide) (scx cx (i + 1))
  refine J_ald1 dL_law_580 ?_
  refine L_arg 1 hi hL dL_law_581 dL_law_582 dL_law_583 dL_law_584 dL_law_585 (by decide) ?_
  refine L_cls (as := [.int (scx cx (i + 1))]) Prod.fst Prod.snd e1 EI_e (jX10_deeds l cx 20000 (scx cx (i + 1)) M) ck_L_58 dL_law_586 rfl rfl ⟨rfl, rfl, by decide, by decide⟩ (Nat.le_of_ble_eq_true rfl) ?_
  refine J_ald2 dL_law_589 ?_
  refine L_arg 1 hi hL dL_law_590 dL_law_591 dL_law_592 dL_law_593 dL_law_594 (by decide) ?_
  refine L_mod (as := [.int (scx cx (i + 1))]) Prod.fst Prod.snd e2 EI_e (jX11_deeds l cx 20000 (scx cx (i + 1)) N) ck_L_61 dL_law_595 rfl rfl ⟨rfl, rfl, by decide, by decide⟩ (Nat.le_of_ble_eq_true rfl) ?_
  refine L_eq rfl dL_law_598 rfl ?_
  exact next _ _ hT1
theorem LC_tried {l : Launch} {cx : CX} {i : Nat} {M N : Mem} (hT : TOT M N) (hi : i + 6 ≤ cx.2.2.1 5) (hL : @LE.le Nat _ (cx.2.2.1 5) 3072) (next : ∀ M1 N1, TOT M1 N1 → LW l cx 1632 (LSx i) [] (CB M1 N1)) : LW l cx 603 (LSx i) [] (CB M N) := by
  obtain ⟨r, M1, N1, e1, e2, hT1⟩ := q_tried (n := 20000) hT (by decide) (scx cx (i + 1)) (scx cx (i + 2))
  refine J_ald1 dL_law_603 ?_
  refine L_arg 1 hi hL dL_law_604 dL_law_605 dL_law_606 dL_law_607 dL_law_608 (by decide) ?_
  refine L_arg 2 hi hL dL_law_609 dL_law_610 dL_law_611 dL_law_612 dL_law_613 (by decide) ?_
  refine L_cls (as := [.int (scx cx (i + 1)), .int (scx cx (i + 2))]) Prod.fst Prod.snd e1 EI_e (jX10_tried l cx 20000 (scx cx (i + 1)) (scx cx (i + 2)) M) ck_L_62 dL_law_614 rfl rfl ⟨rfl, rfl, by decide, by decide⟩ (Nat.le_of_ble_eq_true rfl) ?_
  refine J_ald2 dL_law_617 ?_
  refine L_arg 1 hi hL dL_law_618 dL_law_619 dL_law_620 dL_law_621 dL_law_622 (by decide) ?_
  refine L_arg 2 hi hL dL_law_623 dL_law_624 dL_law_625 dL_law_626 dL_law_627 (by decide) ?_
  refine L_mod (as := [.int (scx cx (i + 1)), .int (scx cx (i + 2))]) Prod.fst Prod.snd e2 EI_e (jX11_tried l cx 20000 (scx cx (i + 1)) (scx cx (i + 2)) N) ck_L_65 dL_law_628 rfl rfl ⟨rfl, rfl, by decide, by decide⟩ (Nat.le_of_ble_eq_true rfl) ?_
  refine L_eq rfl dL_law_631 rfl ?_
  exact next _ _ hT1
theorem LC_use {l : Launch} {cx : CX} {i : Nat} {M N : Mem} (hT : TOT M N) (hi : i + 6 ≤ cx.2.2.1 5) (hL : @LE.le Nat _ (cx.2.2.1 5) 3072) (next : ∀ M1 N1, TOT M1 N1 → LW l cx 1632 (LSx i) [] (CB M1 N1)) : LW l cx 636 (LSx i) [] (CB M N) := by
  obtain ⟨r, M1, N1, e1, e2, hT1⟩ := q_use hT (scx cx (i + 1)) (scx cx (i + 2))
  refine J_ald1 dL_law_636 ?_
  refine L_arg 1 hi hL dL_law_637 dL_law_638 dL_law_639 dL_law_640 dL_law_641 (by decide) ?_
  refine L_arg 2 hi hL dL_law_642 dL_law_643 dL_law_644 dL_law_645 dL_law_646 (by decide) ?_
  refine L_cls (as := [.int (scx cx (i + 1)), .int (scx cx (i + 2))]) Prod.fst Prod.snd e1 EI_e (jX10_use l cx 20000 (scx cx (i + 1)) (scx cx (i + 2)) M) ck_L_66 dL_law_647 rfl rfl ⟨rfl, rfl, by decide, by decide⟩ (Nat.le_of_ble_eq_true rfl) ?_
  refine J_ald2 dL_law_650 ?_
  refine L_arg 1 hi hL dL_law_651 dL_law_652 dL_law_653 dL_law_654 dL_law_655 (by decide) ?_
  refine L_arg 2 hi hL dL_law_656 dL_law_657 dL_law_658 dL_law_659 dL_law_660 (by decide) ?_
  refine L_mod (as := [.int (scx cx (i + 1)), .int (scx cx (i + 2))]) Prod.fst Prod.snd e2 EI_e (jX11_use l cx 20000 (scx cx (i + 1)) (scx cx (i + 2)) N) ck_L_69 dL_law_661 rfl rfl ⟨rfl, rfl, by decide, by decide⟩ (Nat.le_of_ble_eq_true rfl) ?_
  refine L_eq rfl dL_law_664 rfl ?_
  exact next _ _ hT1
theorem LC_days {l : Launch} {cx : CX} {i : Nat} {M N : Mem} (hT : TOT M N) (hi : i + 6 ≤ cx.2.2.1 5) (hL : @LE.le Nat _ (cx.2.2.1 5) 3072) (next : ∀ M1 N1, TOT M1 N1 → LW l cx 1632 (LSx i) [] (CB M1 N1)) : LW l cx 669 (LSx i) [] (CB M N) := by
  obtain ⟨r, M1, N1, e1, e2, hT1⟩ := q_days (n := 20000) hT (by decide) (scx cx (i + 1))
  refine J_ald1 dL_law_669 ?_
  refine L_arg 1 hi hL dL_law_670 dL_law_671 dL_law_672 dL_law_673 dL_law_674 (by decide) ?_
  refine L_cls (as := [.int (scx cx (i + 1))]) Prod.fst Prod.snd e1 EI_e (jX10_days l cx 20000 (scx cx (i + 1)) M) ck_L_70 dL_law_675 rfl rfl ⟨rfl, rfl, by decide, by decide⟩ (Nat.le_of_ble_eq_true rfl) ?_
  refine J_ald2 dL_law_678 ?_
  refine L_arg 1 hi hL dL_law_679 dL_law_680 dL_law_681 dL_law_682 dL_law_683 (by decide) ?_
  refine L_mod (as := [.int (scx cx (i + 1))]) Prod.fst Prod.snd e2 EI_e (jX11_days l cx 20000 (scx cx (i + 1)) N) ck_L_73 dL_law_684 rfl rfl ⟨rfl, rfl, by decide, by decide⟩ (Nat.le_of_ble_eq_true rfl) ?_
  refine L_eq rfl dL_law_687 rfl ?_
  exact next _ _ hT1
theorem LC_favour {l : Launch} {cx : CX} {i : Nat} {M N : Mem} (hT : TOT M N) (hi : i + 6 ≤ cx.2.2.1 5) (hL : @LE.le Nat _ (cx.2.2.1 5) 3072) (next : ∀ M1 N1, TOT M1 N1 → LW l cx 1632 (LSx i) [] (CB M1 N1)) : LW l cx 692 (LSx i) [] (CB M N) := by
  obtain ⟨r, M1, N1, e1, e2, hT1⟩ := q_favour (n := 20000) hT (by decide) (scx cx (i + 1)) (scx cx (i + 2))
  refine J_ald1 dL_law_692 ?_
  refine L_arg 1 hi hL dL_law_693 dL_law_694 dL_law_695 dL_law_696 dL_law_697 (by decide) ?_
  refine L_arg 2 hi hL dL_law_698 dL_law_699 dL_law_700 dL_law_701 dL_law_702 (by decide) ?_
  refine L_cls (as := [.int (scx cx (i + 1)), .int (scx cx (i + 2))]) Prod.fst Prod.snd e1 EI_e (jX10_favour l cx 20000 (scx cx (i + 1)) (scx cx (i + 2)) M) ck_L_74 dL_law_703 rfl rfl ⟨rfl, rfl, by decide, by decide⟩ (Nat.le_of_ble_eq_true rfl) ?_
  refine J_ald2 dL_law_706 ?_
  refine L_arg 1 hi hL dL_law_707 dL_law_708 dL_law_709 dL_law_710 dL_law_711 (by decide) ?_
  refine L_arg 2 hi hL dL_law_712 dL_law_713 dL_law_714 dL_law_715 dL_law_716 (by decide) ?_
  refine L_mod (as := [.int (scx cx (i + 1)), .int (scx cx (i + 2))]) Prod.fst Prod.snd e2 EI_e (jX11_favour l cx 20000 (scx cx (i + 1)) (scx cx (i + 2)) N) ck_L_77 dL_law_717 rfl rfl ⟨rfl, rfl, by decide, by decide⟩ (Nat.le_of_ble_eq_true rfl) ?_
  refine L_eq rfl dL_law_720 rfl ?_
  exact next _ _ hT1
theorem LC_pay {l : Launch} {cx : CX} {i : Nat} {M N : Mem} (hT : TOT M N) (hi : i + 6 ≤ cx.2.2.1 5) (hL : @LE.le Nat _ (cx.2.2.1 5) 3072) (next : ∀ M1 N1, TOT M1 N1 → LW l cx 1632 (LSx i) [] (CB M1 N1)) : LW l cx 725 (LSx i) [] (CB M N) := by
  obtain ⟨r, M1, N1, e1, e2, hT1⟩ := q_pay hT (scx cx (i + 1)) (scx cx (i + 2))
  refine J_ald1 dL_law_725 ?_
  refine L_arg 1 hi hL dL_law_726 dL_law_727 dL_law_728 dL_law_729 dL_law_730 (by decide) ?_
  refine L_arg 2 hi hL dL_law_731 dL_law_732 dL_law_733 dL_law_734 dL_law_735 (by decide) ?_
  refine L_cls (as := [.int (scx cx (i + 1)), .int (scx cx (i + 2))]) Prod.fst Prod.snd e1 EI_e (jX10_pay l cx 20000 (scx cx (i + 1)) (scx cx (i + 2)) M) ck_L_78 dL_law_736 rfl rfl ⟨rfl, rfl, by decide, by decide⟩ (Nat.le_of_ble_eq_true rfl) ?_
  refine J_ald2 dL_law_739 ?_
  refine L_arg 1 hi hL dL_law_740 dL_law_741 dL_law_742 dL_law_743 dL_law_744 (by decide) ?_
  refine L_arg 2 hi hL dL_law_745 dL_law_746 dL_law_747 dL_law_748 dL_law_749 (by decide) ?_
  refine L_mod (as := [.int (scx cx (i + 1)), .int (scx cx (i + 2))]) Prod.fst Prod.snd e2 EI_e (jX11_pay l cx 20000 (scx cx (i + 1)) (scx cx (i + 2)) N) ck_L_81 dL_law_750 rfl rfl ⟨rfl, rfl, by decide, by decide⟩ (Nat.le_of_ble_eq_true rfl) ?_
  refine L_eq rfl dL_law_753 rfl ?_
  exact next _ _ hT1
theorem LC_remind {l : Launch} {cx : CX} {i : Nat} {M N : Mem} (hT : TOT M N) (hi : i + 6 ≤ cx.2.2.1 5) (hL : @LE.le Nat _ (cx.2.2.1 5) 3072) (next : ∀ M1 N1, TOT M1 N1 → LW l cx 1632 (LSx i) [] (CB M1 N1)) : LW l cx 758 (LSx i) [] (CB M N) := by
  obtain ⟨r, M1, N1, e1, e2, hT1⟩ := q_remind (n := 20000) hT (by decide) (scx cx (i + 1))
  refine J_ald1 dL_law_758 ?_
  refine L_arg 1 hi hL dL_law_759 dL_law_760 dL_law_761 dL_law_762 dL_law_763 (by decide) ?_
  refine L_cls (as := [.int (scx cx (i + 1))]) Prod.fst Prod.snd e1 EI_e (jX10_remind l cx 20000 (scx cx (i + 1)) M) ck_L_82 dL_law_764 rfl rfl ⟨rfl, rfl, by decide, by decide⟩ (Nat.le_of_ble_eq_true rfl) ?_
  refine J_ald2 dL_law_767 ?_
  refine L_arg 1 hi hL dL_law_768 dL_law_769 dL_law_770 dL_law_771 dL_law_772 (by decide) ?_
  refine L_mod (as := [.int (scx cx (i + 1))]) Prod.fst Prod.snd e2 EI_e (jX11_remind l cx 20000 (scx cx (i + 1)) N) ck_L_85 dL_law_773 rfl rfl ⟨rfl, rfl, by decide, by decide⟩ (Nat.le_of_ble_eq_true rfl) ?_
  refine L_eq rfl dL_law_776 rfl ?_
  exact next _ _ hT1
theorem LC_late {l : Launch} {cx : CX} {i : Nat} {M N : Mem} (hT : TOT M N) (hi : i + 6 ≤ cx.2.2.1 5) (hL : @LE.le Nat _ (cx.2.2.1 5) 3072) (next : ∀ M1 N1, TOT M1 N1 → LW l cx 1632 (LSx i) [] (CB M1 N1)) : LW l cx 781 (LSx i) [] (CB M N) := by
  obtain ⟨r, N1, e1, e2, hT1⟩ := q_late (n := 20000) hT (by decide) (scx cx (i + 1)) (scx cx (i + 2))
  refine J_ald1 dL_law_781 ?_
  refine L_arg 1 hi hL dL_law_782 dL_law_783 dL_law_784 dL_law_785 dL_law_786 (by decide) ?_
  refine L_arg 2 hi hL dL_law_787 dL_law_788 dL_law_789 dL_law_790 dL_law_791 (by decide) ?_
  refine L_cls (as := [.int (scx cx (i + 1)), .int (scx cx (i + 2))]) (fun r => r) (fun _ => M) e1 (EP_e M) (jX10_late l cx 20000 (scx cx (i + 1)) (scx cx (i + 2)) M) ck_L_86 dL_law_792 rfl rfl ⟨rfl, rfl, by decide, by decide⟩ (Nat.le_of_ble_eq_true rfl) ?_
  refine J_ald2 dL_law_795 ?_
  refine L_arg 1 hi hL dL_law_796 dL_law_797 dL_law_798 dL_law_799 dL_law_800 (by decide) ?_
  refine L_arg 2 hi hL dL_law_801 dL_law_802 dL_law_803 dL_law_804 dL_law_805 (by decide) ?_
  refine L_mod (as := [.int (scx cx (i + 1)), .int (scx cx (i + 2))]) Prod.fst Prod.snd e2 EI_e (jX11_late l cx 20000 (scx cx (i + 1)) (scx cx (i + 2)) N) ck_L_89 dL_law_806 rfl rfl ⟨rfl, rfl, by decide, by decide⟩ (Nat.le_of_ble_eq_true rfl) ?_
  refine L_eq rfl dL_law_809 rfl ?_
  exact next _ _ hT1
theorem LC_open {l : Launch} {cx : CX} {i : Nat} {M N : Mem} (hT : TOT M N) (hi : i + 6 ≤ cx.2.2.1 5) (hL : @LE.le Nat _ (cx.2.2.1 5) 3072) (next : ∀ M1 N1, TOT M1 N1 → LW l cx 1632 (LSx i) [] (CB M1 N1)) : LW l cx 814 (LSx i) [] (CB M N) := by
  obtain ⟨r, N1, e1, e2, hT1⟩ := q_open (n := 20000) hT (by decide) (scx cx (i + 1))
  refine J_ald1 dL_law_814 ?_
  refine L_arg 1 hi hL dL_law_815 dL_law_816 dL_law_817 dL_law_818 dL_law_819 (by decide) ?_
  refine L_cls (as := [.int (scx cx (i + 1))]) (fun r => r) (fun _ => M) e1 (EP_e M) (jX10_open l cx 20000 (scx cx (i + 1)) M) ck_L_90 dL_law_820 rfl rfl ⟨rfl, rfl, by decide, by decide⟩ (Nat.le_of_ble_eq_true rfl) ?_
  refine J_ald2 dL_law_823 ?_
  refine L_arg 1 hi hL dL_law_824 dL_law_825 dL_law_826 dL_law_827 dL_law_828 (by decide) ?_
  refine L_mod (as := [.int (scx cx (i + 1))]) Prod.fst Prod.snd e2 EI_e (jX11_open l cx 20000 (scx cx (i + 1)) N) ck_L_93 dL_law_829 rfl rfl ⟨rfl, rfl, by decide, by decide⟩ (Nat.le_of_ble_eq_true rfl) ?_
  refine L_eq rfl dL_law_832 rfl ?_
  exact next _ _ hT1
theorem LC_owes {l : Launch} {cx : CX} {i : Nat} {M N : Mem} (hT : TOT M N) (hi : i + 6 ≤ cx.2.2.1 5) (hL : @LE.le Nat _ (cx.2.2.1 5) 3072) (next : ∀ M1 N1, TOT M1 N1 → LW l cx 1632 (LSx i) [] (CB M1 N1)) : LW l cx 837 (LSx i) [] (CB M N) := by
  obtain ⟨r, N1, e1, e2, hT1⟩ := q_owes (n := 20000) hT (by decide) (scx cx (i + 1)) (scx cx (i + 2))
  refine J_ald1 dL_law_837 ?_
  refine L_arg 1 hi hL dL_law_838 dL_law_839 dL_law_840 dL_law_841 dL_law_842 (by decide) ?_
  refine L_arg 2 hi hL dL_law_843 dL_law_844 dL_law_845 dL_law_846 dL_law_847 (by decide) ?_
  refine L_cls (as := [.int (scx cx (i + 1)), .int (scx cx (i + 2))]) (fun r => r) (fun _ => M) e1 (EP_e M) (jX10_owes l cx 20000 (scx cx (i + 1)) (scx cx (i + 2)) M) ck_L_94 dL_law_848 rfl rfl ⟨rfl, rfl, by decide, by decide⟩ (Nat.le_of_ble_eq_true rfl) ?_
  refine J_ald2 dL_law_851 ?_
  refine L_arg 1 hi hL dL_law_852 dL_law_853 dL_law_854 dL_law_855 dL_law_856 (by decide) ?_
  refine L_arg 2 hi hL dL_law_857 dL_law_858 dL_law_859 dL_law_860 dL_law_861 (by decide) ?_
  refine L_mod (as := [.int (scx cx (i + 1)), .int (scx cx (i + 2))]) Prod.fst Prod.snd e2 EI_e (jX11_owes l cx 20000 (scx cx (i + 1)) (scx cx (i + 2)) N) ck_L_97 dL_law_862 rfl rfl ⟨rfl, rfl, by decide, by decide⟩ (Nat.le_of_ble_eq_true rfl) ?_
  refine L_eq rfl dL_law_865 rfl ?_
  exact next _ _ hT1
theorem LC_earned {l : Launch} {cx : CX} {i : Nat} {M N : Mem} (hT : TOT M N) (hi : i + 6 ≤ cx.2.2.1 5) (hL : @LE.le Nat _ (cx.2.2.1 5) 3072) (next : ∀ M1 N1, TOT M1 N1 → LW l cx 1632 (LSx i) [] (CB M1 N1)) : LW l cx 870 (LSx i) [] (CB M N) := by
  obtain ⟨r, e1, e2⟩ := q_earned (n := 20000) hT (by decide) (scx cx (i + 1)) (scx cx (i + 2))
  refine J_ald1 dL_law_870 ?_
  refine L_arg 1 hi hL dL_law_871 dL_law_872 dL_law_873 dL_law_874 dL_law_875 (by decide) ?_
  refine L_arg 2 hi hL dL_law_876 dL_law_877 dL_law_878 dL_law_879 dL_law_880 (by decide) ?_
  refine L_cls (as := [.int (scx cx (i + 1)), .int (scx cx (i + 2))]) (fun r => r) (fun _ => M) e1 (EP_e M) (jX10_earned l cx 20000 (scx cx (i + 1)) (scx cx (i + 2)) M) ck_L_98 dL_law_881 rfl rfl ⟨rfl, rfl, by decide, by decide⟩ (Nat.le_of_ble_eq_true rfl) ?_
  refine J_ald2 dL_law_884 ?_
  refine L_arg 1 hi hL dL_law_885 dL_law_886 dL_law_887 dL_law_888 dL_law_889 (by decide) ?_
  refine L_arg 2 hi hL dL_law_890 dL_law_891 dL_law_892 dL_law_893 dL_law_894 (by decide) ?_
  refine L_mod (as := [.int (scx cx (i + 1)), .int (scx cx (i + 2))]) (fun r => r) (fun _ => N) e2 (EP_e N) (jX11_earned l cx 20000 (scx cx (i + 1)) (scx cx (i + 2)) N) ck_L_101 dL_law_895 rfl rfl ⟨rfl, rfl, by decide, by decide⟩ (Nat.le_of_ble_eq_true rfl) ?_
  refine L_eq rfl dL_law_898 rfl ?_
  exact next _ _ hT
theorem LC_written {l : Launch} {cx : CX} {i : Nat} {M N : Mem} (hT : TOT M N) (hi : i + 6 ≤ cx.2.2.1 5) (hL : @LE.le Nat _ (cx.2.2.1 5) 3072) (next : ∀ M1 N1, TOT M1 N1 → LW l cx 1632 (LSx i) [] (CB M1 N1)) : LW l cx 903 (LSx i) [] (CB M N) := by
  obtain ⟨r, e1, e2⟩ := q_written (n := 20000) hT (by decide) (scx cx (i + 1)) (scx cx (i + 2))
  refine J_ald1 dL_law_903 ?_
  refine L_arg 1 hi hL dL_law_904 dL_law_905 dL_law_906 dL_law_907 dL_law_908 (by decide) ?_
  refine L_arg 2 hi hL dL_law_909 dL_law_910 dL_law_911 dL_law_912 dL_law_913 (by decide) ?_
  refine L_cls (as := [.int (scx cx (i + 1)), .int (scx cx (i + 2))]) (fun r => r) (fun _ => M) e1 (EP_e M) (jX10_written l cx 20000 (scx cx (i + 1)) (scx cx (i + 2)) M) ck_L_102 dL_law_914 rfl rfl ⟨rfl, rfl, by decide, by decide⟩ (Nat.le_of_ble_eq_true rfl) ?_
  refine J_ald2 dL_law_917 ?_
  refine L_arg 1 hi hL dL_law_918 dL_law_919 dL_law_920 dL_law_921 dL_law_922 (by decide) ?_
  refine L_arg 2 hi hL dL_law_923 dL_law_924 dL_law_925 dL_law_926 dL_law_927 (by decide) ?_
  refine L_mod (as := [.int (scx cx (i + 1)), .int (scx cx (i + 2))]) (fun r => r) (fun _ => N) e2 (EP_e N) (jX11_written l cx 20000 (scx cx (i + 1)) (scx cx (i + 2)) N) ck_L_105 dL_law_928 rfl rfl ⟨rfl, rfl, by decide, by decide⟩ (Nat.le_of_ble_eq_true rfl) ?_
  refine L_eq rfl dL_law_931 rfl ?_
  exact next _ _ hT
theorem LC_turn {l : Launch} {cx : CX} {i : Nat} {M N : Mem} (hT : TOT M N) (hi : i + 6 ≤ cx.2.2.1 5) (hL : @LE.le Nat _ (cx.2.2.1 5) 3072) (next : ∀ M1 N1, TOT M1 N1 → LW l cx 1632 (LSx i) [] (CB M1 N1)) : LW l cx 936 (LSx i) [] (CB M N) := by
  obtain ⟨r, M1, N1, e1, e2, hT1⟩ := q_turn (n := 20000) hT (by decide) (scx cx (i + 1))
  refine J_ald1 dL_law_936 ?_
  refine L_arg 1 hi hL dL_law_937 dL_law_938 dL_law_939 dL_law_940 dL_law_941 (by decide) ?_
  refine L_cls (as := [.int (scx cx (i + 1))]) Prod.fst Prod.snd e1 EI_e (jX10_turn l cx 20000 (scx cx (i + 1)) M) ck_L_106 dL_law_942 rfl rfl ⟨rfl, rfl, by decide, by decide⟩ (Nat.le_of_ble_eq_true rfl) ?_
  refine J_ald2 dL_law_945 ?_
  refine L_arg 1 hi hL dL_law_946 dL_law_947 dL_law_948 dL_law_949 dL_law_950 (by decide) ?_
  refine L_mod (as := [.int (scx cx (i + 1))]) Prod.fst Prod.snd e2 EI_e (jX11_turn l cx 20000 (scx cx (i + 1)) N) ck_L_109 dL_law_951 rfl rfl ⟨rfl, rfl, by decide, by decide⟩ (Nat.le_of_ble_eq_true rfl) ?_
  refine L_eq rfl dL_law_954 rfl ?_
  exact next _ _ hT1
theorem LC_plan {l : Launch} {cx : CX} {i : Nat} {M N : Mem} (hT : TOT M N) (hi : i + 6 ≤ cx.2.2.1 5) (hL : @LE.le Nat _ (cx.2.2.1 5) 3072) (next : ∀ M1 N1, TOT M1 N1 → LW l cx 1632 (LSx i) [] (CB M1 N1)) : LW l cx 959 (LSx i) [] (CB M N) := by
  obtain ⟨r, e1, e2⟩ := q_plan hT.1.2.2.2.1.2.2.1 rfl hT.1.2.2.2.2.1.2.2.2.1 (scx cx (i + 1)) (scx cx (i + 2))
  refine J_ald1 dL_law_959 ?_
  refine L_arg 1 hi hL dL_law_960 dL_law_961 dL_law_962 dL_law_963 dL_law_964 (by decide) ?_
  refine L_arg 2 hi hL dL_law_965 dL_law_966 dL_law_967 dL_law_968 dL_law_969 (by decide) ?_
  refine L_cls (as := [.int (scx cx (i + 1)), .int (scx cx (i + 2))]) (fun r => r) (fun _ => M) e1 (EP_e M) (jX10_plan l cx 20000 (scx cx (i + 1)) (scx cx (i + 2)) M) ck_L_110 dL_law_970 rfl rfl ⟨rfl, rfl, by decide, by decide⟩ (Nat.le_of_ble_eq_true rfl) ?_
  refine J_ald2 dL_law_973 ?_
  refine L_arg 1 hi hL dL_law_974 dL_law_975 dL_law_976 dL_law_977 dL_law_978 (by decide) ?_
  refine L_arg 2 hi hL dL_law_979 dL_law_980 dL_law_981 dL_law_982 dL_law_983 (by decide) ?_
  refine L_mod (as := [.int (scx cx (i + 1)), .int (scx cx (i + 2))]) (fun r => r) (fun _ => N) e2 (EP_e N) (jX11_plan l cx 20000 (scx cx (i + 1)) (scx cx (i + 2)) N) ck_L_113 dL_law_984 rfl rfl ⟨rfl, rfl, by decide, by decide⟩ (Nat.le_of_ble_eq_true rfl) ?_
  refine L_eq rfl dL_law_987 rfl ?_
  exact next _ _ hT
theorem LC_billIs {l : Launch} {cx : CX} {i : Nat} {M N : Mem} (hT : TOT M N) (hi : i + 6 ≤ cx.2.2.1 5) (hL : @LE.le Nat _ (cx.2.2.1 5) 3072) (next : ∀ M1 N1, TOT M1 N1 → LW l cx 1632 (LSx i) [] (CB M1 N1)) : LW l cx 992 (LSx i) [] (CB M N) := by
  obtain ⟨r, e1, e2⟩ := q_billIs (n := 20000) hT (by decide) (scx cx (i + 1))
  refine J_ald1 dL_law_992 ?_
  refine L_arg 1 hi hL dL_law_993 dL_law_994 dL_law_995 dL_law_996 dL_law_997 (by decide) ?_
  refine L_cls (as := [.int (scx cx (i + 1))]) (fun r => r) (fun _ => M) e1 (EP_e M) (jX10_billIs l cx 20000 (scx cx (i + 1)) M) ck_L_114 dL_law_998 rfl rfl ⟨rfl, rfl, by decide, by decide⟩ (Nat.le_of_ble_eq_true rfl) ?_
  refine J_ald2 dL_law_1001 ?_
  refine L_arg 1 hi hL dL_law_1002 dL_law_1003 dL_law_1004 dL_law_1005 dL_law_1006 (by decide) ?_
  refine L_mod (as := [.int (scx cx (i + 1))]) (fun r => r) (fun _ => N) e2 (EP_e N) (jX11_billIs l cx 20000 (scx cx (i + 1)) N) ck_L_117 dL_law_1007 rfl rfl ⟨rfl, rfl, by decide, by decide⟩ (Nat.le_of_ble_eq_true rfl) ?_
  refine L_eq rfl dL_law_1010 rfl ?_
  exact next _ _ hT
theorem LC_usage {l : Launch} {cx : CX} {i : Nat} {M N : Mem} (hT : TOT M N) (hi : i + 6 ≤ cx.2.2.1 5) (hL : @LE.le Nat _ (cx.2.2.1 5) 3072) (next : ∀ M1 N1, TOT M1 N1 → LW l cx 1632 (LSx i) [] (CB M1 N1)) : LW l cx 1015 (LSx i) [] (CB M N) := by
  obtain ⟨r, e1, e2⟩ := q_usage hT.1.2.2.2.1.2.2.1 rfl hT.1.2.2.2.2.1.2.2.2.1 (n := 20000) (by decide) (scx cx (i + 1)) (scx cx (i + 2))
  refine J_ald1 dL_law_1015 ?_
  refine L_arg 1 hi hL dL_law_1016 dL_law_1017 dL_law_1018 dL_law_1019 dL_law_1020 (by decide) ?_
  refine L_arg 2 hi hL dL_law_1021 dL_law_1022 dL_law_1023 dL_law_1024 dL_law_1025 (by decide) ?_
  refine L_cls (as := [.int (scx cx (i + 1)), .int (scx cx (i + 2))]) (fun r => r) (fun _ => M) e1 (EP_e M) (jX10_usage l cx 20000 (scx cx (i + 1)) (scx cx (i + 2)) M) ck_L_118 dL_law_1026 rfl rfl ⟨rfl, rfl, by decide, by decide⟩ (Nat.le_of_ble_eq_true rfl) ?_
  refine J_ald2 dL_law_1029 ?_
  refine L_arg 1 hi hL dL_law_1030 dL_law_1031 dL_law_1032 dL_law_1033 dL_law_1034 (by decide) ?_
  refine L_arg 2 hi hL dL_law_1035 dL_law_1036 dL_law_1037 dL_law_1038 dL_law_1039 (by decide) ?_
  refine L_mod (as := [.int (scx cx (i + 1)), .int (scx cx (i + 2))]) (fun r => r) (fun _ => N) e2 (EP_e N) (jX11_usage l cx 20000 (scx cx (i + 1)) (scx cx (i + 2)) N) ck_L_121 dL_law_1040 rfl rfl ⟨rfl, rfl, by decide, by decide⟩ (Nat.le_of_ble_eq_true rfl) ?_
  refine L_eq rfl dL_law_1043 rfl ?_
  exact next _ _ hT
theorem LC_units {l : Launch} {cx : CX} {i : Nat} {M N : Mem} (hT : TOT M N) (hi : i + 6 ≤ cx.2.2.1 5) (hL : @LE.le Nat _ (cx.2.2.1 5) 3072) (next : ∀ M1 N1, TOT M1 N1 → LW l cx 1632 (LSx i) [] (CB M1 N1)) : LW l cx 1048 (LSx i) [] (CB M N) := by
  obtain ⟨r, e1, e2⟩ := q_units hT.1.2.2.2.1.2.2.1 rfl hT.1.2.2.2.2.1.2.2.2.1 (n := 20000) (by decide) (scx cx (i + 1)) (scx cx (i + 2))
  refine J_ald1 dL_law_1048 ?_
  refine L_arg 1 hi hL dL_law_1049 dL_law_1050 dL_law_1051 dL_law_1052 dL_law_1053 (by decide) ?_
  refine L_arg 2 hi hL dL_law_1054 dL_law_1055 dL_law_1056 dL_law_1057 dL_law_1058 (by decide) ?_
  refine L_cls (as := [.int (scx cx (i + 1)), .int (scx cx (i + 2))]) (fun r => r) (fun _ => M) e1 (EP_e M) (jX10_units l cx 20000 (scx cx (i + 1)) (scx cx (i + 2)) M) ck_L_122 dL_law_1059 rfl rfl ⟨rfl, rfl, by decide, by decide⟩ (Nat.le_of_ble_eq_true rfl) ?_
  refine J_ald2 dL_law_1062 ?_
  refine L_arg 1 hi hL dL_law_1063 dL_law_1064 dL_law_1065 dL_law_1066 dL_law_1067 (by decide) ?_
  refine L_arg 2 hi hL dL_law_1068 dL_law_1069 dL_law_1070 dL_law_1071 dL_law_1072 (by decide) ?_
  refine L_mod (as := [.int (scx cx (i + 1)), .int (scx cx (i + 2))]) (fun r => r) (fun _ => N) e2 (EP_e N) (jX11_units l cx 20000 (scx cx (i + 1)) (scx cx (i + 2)) N) ck_L_125 dL_law_1073 rfl rfl ⟨rfl, rfl, by decide, by decide⟩ (Nat.le_of_ble_eq_true rfl) ?_
  refine L_eq rfl dL_law_1076 rfl ?_
  exact next _ _ hT
theorem LC_cheapest {l : Launch} {cx : CX} {i : Nat} {M N : Mem} (hT : TOT M N) (hi : i + 6 ≤ cx.2.2.1 5) (hL : @LE.le Nat _ (cx.2.2.1 5) 3072) (next : ∀ M1 N1, TOT M1 N1 → LW l cx 1632 (LSx i) [] (CB M1 N1)) : LW l cx 1081 (LSx i) [] (CB M N) := by
  obtain ⟨r, e1, e2⟩ := q_cheapest hT.1.2.2.2.1.2.2.1 rfl hT.1.2.2.2.2.1.2.2.2.1 (n := 20000) (by decide) (scx cx (i + 1))
  refine J_ald1 dL_law_1081 ?_
  refine L_arg 1 hi hL dL_law_1082 dL_law_1083 dL_law_1084 dL_law_1085 dL_law_1086 (by decide) ?_
  refine L_cls (as := [.int (scx cx (i + 1))]) (fun r => r) (fun _ => M) e1 (EP_e M) (jX10_cheapest l cx 20000 (scx cx (i + 1)) M) ck_L_126 dL_law_1087 rfl rfl ⟨rfl, rfl, by decide, by decide⟩ (Nat.le_of_ble_eq_true rfl) ?_
  refine J_ald2 dL_law_1090 ?_
  refine L_arg 1 hi hL dL_law_1091 dL_law_1092 dL_law_1093 dL_law_1094 dL_law_1095 (by decide) ?_
  refine L_mod (as := [.int (scx cx (i + 1))]) (fun r => r) (fun _ => N) e2 (EP_e N) (jX11_cheapest l cx 20000 (scx cx (i + 1)) N) ck_L_129 dL_law_1096 rfl rfl ⟨rfl, rfl, by decide, by decide⟩ (Nat.le_of_ble_eq_true rfl) ?_
  refine L_eq rfl dL_law_1099 rfl ?_
  exact next _ _ hT
theorem LC_accountIs {l : Launch} {cx : CX} {i : Nat} {M N : Mem} (hT : TOT M N) (hi : i + 6 ≤ cx.2.2.1 5) (hL : @LE.le Nat _ (cx.2.2.1 5) 3072) (next : ∀ M1 N1, TOT M1 N1 → LW l cx 1632 (LSx i) [] (CB M1 N1)) : LW l cx 1104 (LSx i) [] (CB M N) := by
  obtain ⟨r, e1, e2⟩ := q_accountIs (n := 20000) hT (by decide) (scx cx (i + 1)) (scx cx (i + 2))
  refine J_ald1 dL_law_1104 ?_
  refine L_arg 1 hi hL dL_law_1105 dL_law_1106 dL_law_1107 dL_law_1108 dL_law_1109 (by decide) ?_
  refine L_arg 2 hi hL dL_law_1110 dL_law_1111 dL_law_1112 dL_law_1113 dL_law_1114 (by decide) ?_
  refine L_cls (as := [.int (scx cx (i + 1)), .int (scx cx (i + 2))]) (fun r => r) (fun _ => M) e1 (EP_e M) (jX10_accountIs l cx 20000 (scx cx (i + 1)) (scx cx (i + 2)) M) ck_L_130 dL_law_1115 rfl rfl ⟨rfl, rfl, by decide, by decide⟩ (Nat.le_of_ble_eq_true rfl) ?_
  refine J_ald2 dL_law_1118 ?_
  refine L_arg 1 hi hL dL_law_1119 dL_law_1120 dL_law_1121 dL_law_1122 dL_law_1123 (by decide) ?_
  refine L_arg 2 hi hL dL_law_1124 dL_law_1125 dL_law_1126 dL_law_1127 dL_law_1128 (by decide) ?_
  refine L_mod (as := [.int (scx cx (i + 1)), .int (scx cx (i + 2))]) (fun r => r) (fun _ => N) e2 (EP_e N) (jX11_accountIs l cx 20000 (scx cx (i + 1)) (scx cx (i + 2)) N) ck_L_133 dL_law_1129 rfl rfl ⟨rfl, rfl, by decide, by decide⟩ (Nat.le_of_ble_eq_true rfl) ?_
  refine L_eq rfl dL_law_1132 rfl ?_
  exact next _ _ hT
theorem LC_part {l : Launch} {cx : CX} {i : Nat} {M N : Mem} (hT : TOT M N) (hi : i + 6 ≤ cx.2.2.1 5) (hL : @LE.le Nat _ (cx.2.2.1 5) 3072) (next : ∀ M1 N1, TOT M1 N1 → LW l cx 1632 (LSx i) [] (CB M1 N1)) : LW l cx 1137 (LSx i) [] (CB M N) := by
  obtain ⟨r, e1, e2⟩ := q_part (n := 20000) hT (by decide) (scx cx (i + 1)) (scx cx (i + 2)) (scx cx (i + 3)) (scx cx (i + 4))
  refine J_ald1 dL_law_1137 ?_
  refine L_arg 1 hi hL dL_law_1138 dL_law_1139 dL_law_1140 dL_law_1141 dL_law_1142 (by decide) ?_
  refine L_arg 2 hi hL dL_law_1143 dL_law_1144 dL_law_1145 dL_law_1146 dL_law_1147 (by decide) ?_
  refine L_arg 3 hi hL dL_law_1148 dL_law_1149 dL_law_1150 dL_law_1151 dL_law_1152 (by decide) ?_
  refine L_arg 4 hi hL dL_law_1153 dL_law_1154 dL_law_1155 dL_law_1156 dL_law_1157 (by decide) ?_
  refine L_cls (as := [.int (scx cx (i + 1)), .int (scx cx (i + 2)), .int (scx cx (i + 3)), .int (scx cx (i + 4))]) (fun r => r) (fun _ => M) e1 (EP_e M) (jX10_part l cx 20000 (scx cx (i + 1)) (scx cx (i + 2)) (scx cx (i + 3)) (scx cx (i + 4)) M) ck_L_134 dL_law_1158 rfl rfl ⟨rfl, rfl, by decide, by decide⟩ (Nat.le_of_ble_eq_true rfl) ?_
  refine J_ald2 dL_law_1161 ?_
  refine L_arg 1 hi hL dL_law_1162 dL_law_1163 dL_law_1164 dL_law_1165 dL_law_1166 (by decide) ?_
  refine L_arg 2 hi hL dL_law_1167 dL_law_1168 dL_law_1169 dL_law_1170 dL_law_1171 (by decide) ?_
  refine L_arg 3 hi hL dL_law_1172 dL_law_1173 dL_law_1174 dL_law_1175 dL_law_1176 (by decide) ?_
  refine L_arg 4 hi hL dL_law_1177 dL_law_1178 dL_law_1179 dL_law_1180 dL_law_1181 (by decide) ?_
  refine L_mod (as := [.int (scx cx (i + 1)), .int (scx cx (i + 2)), .int (scx cx (i + 3)), .int (scx cx (i + 4))]) (fun r => r) (fun _ => N) e2 (EP_e N) (jX11_part l cx 20000 (scx cx (i + 1)) (scx cx (i + 2)) (scx cx (i + 3)) (scx cx (i + 4)) N) ck_L_138 dL_law_1182 rfl rfl ⟨rfl, rfl, by decide, by decide⟩ (Nat.le_of_ble_eq_true rfl) ?_
  refine L_eq rfl dL_law_1185 rfl ?_
  exact next _ _ hT
theorem LC_span {l : Launch} {cx : CX} {i : Nat} {M N : Mem} (hT : TOT M N) (hi : i + 6 ≤ cx.2.2.1 5) (hL : @LE.le Nat _ (cx.2.2.1 5) 3072) (next : ∀ M1 N1, TOT M1 N1 → LW l cx 1632 (LSx i) [] (CB M1 N1)) : LW l cx 1190 (LSx i) [] (CB M N) := by
  obtain ⟨r, e1, e2⟩ := q_span hT.1.2.1 hT.1.2.2.1 (n := 20000) (by decide) (scx cx (i + 1)) (scx cx (i + 2)) (scx cx (i + 3))
  refine J_ald1 dL_law_1190 ?_
  refine L_arg 1 hi hL dL_law_1191 dL_law_1192 dL_law_1193 dL_law_1194 dL_law_1195 (by decide) ?_
  refine L_arg 2 hi hL dL_law_1196 dL_law_1197 dL_law_1198 dL_law_1199 dL_law_1200 (by decide) ?_
  refine L_arg 3 hi hL dL_law_1201 dL_law_1202 dL_law_1203 dL_law_1204 dL_law_1205 (by decide) ?_
  refine L_cls (as := [.int (scx cx (i + 1)), .int (scx cx (i + 2)), .int (scx cx (i + 3))]) (fun r => r) (fun _ => M) e1 (EP_e M) (jX10_span l cx 20000 (scx cx (i + 1)) (scx cx (i + 2)) (scx cx (i + 3)) M) ck_L_139 dL_law_1206 rfl rfl ⟨rfl, rfl, by decide, by decide⟩ (Nat.le_of_ble_eq_true rfl) ?_
  refine J_ald2 dL_law_1209 ?_
  refine L_arg 1 hi hL dL_law_1210 dL_law_1211 dL_law_1212 dL_law_1213 dL_law_1214 (by decide) ?_
  refine L_arg 2 hi hL dL_law_1215 dL_law_1216 dL_law_1217 dL_law_1218 dL_law_1219 (by decide) ?_
  refine L_arg 3 hi hL dL_law_1220 dL_law_1221 dL_law_1222 dL_law_1223 dL_law_1224 (by decide) ?_
  refine L_mod (as := [.int (scx cx (i + 1)), .int (scx cx (i + 2)), .int (scx cx (i + 3))]) (fun r => r) (fun _ => N) e2 (EP_e N) (jX11_span l cx 20000 (scx cx (i + 1)) (scx cx (i + 2)) (scx cx (i + 3)) N) ck_L_142 dL_law_1225 rfl rfl ⟨rfl, rfl, by decide, by decide⟩ (Nat.le_of_ble_eq_true rfl) ?_
  refine L_eq rfl dL_law_1228 rfl ?_
  exact next _ _ hT
theorem LC_date {l : Launch} {cx : CX} {i : Nat} {M N : Mem} (hT : TOT M N) (hi : i + 6 ≤ cx.2.2.1 5) (hL : @LE.le Nat _ (cx.2.2.1 5) 3072) (next : ∀ M1 N1, TOT M1 N1 → LW l cx 1632 (LSx i) [] (CB M1 N1)) : LW l cx 1233 (LSx i) [] (CB M N) := by
  obtain ⟨r, e1, e2⟩ := q_date (n := 20000) hT (by decide) (scx cx (i + 1)) (scx cx (i + 2))
  refine J_ald1 dL_law_1233 ?_
  refine L_arg 1 hi hL dL_law_1234 dL_law_1235 dL_law_1236 dL_law_1237 dL_law_1238 (by decide) ?_
  refine L_arg 2 hi hL dL_law_1239 dL_law_1240 dL_law_1241 dL_law_1242 dL_law_1243 (by decide) ?_
  refine L_cls (as := [.int (scx cx (i + 1)), .int (scx cx (i + 2))]) (fun r => r) (fun _ => M) e1 (EP_e M) (jX10_date l cx 20000 (scx cx (i + 1)) (scx cx (i + 2)) M) ck_L_143 dL_law_1244 rfl rfl ⟨rfl, rfl, by decide, by decide⟩ (Nat.le_of_ble_eq_true rfl) ?_
  refine J_ald2 dL_law_1247 ?_
  refine L_arg 1 hi hL dL_law_1248 dL_law_1249 dL_law_1250 dL_law_1251 dL_law_1252 (by decide) ?_
  refine L_arg 2 hi hL dL_law_1253 dL_law_1254 dL_law_1255 dL_law_1256 dL_law_1257 (by decide) ?_
  refine L_mod (as := [.int (scx cx (i + 1)), .int (scx cx (i + 2))]) (fun r => r) (fun _ => N) e2 (EP_e N) (jX11_date l cx 20000 (scx cx (i + 1)) (scx cx (i + 2)) N) ck_L_146 dL_law_1258 rfl rfl ⟨rfl, rfl, by decide, by decide⟩ (Nat.le_of_ble_eq_true rfl) ?_
  refine L_eq rfl dL_law_1261 rfl ?_
  exact next _ _ hT
theorem LC_day {l : Launch} {cx : CX} {i : Nat} {M N : Mem} (hT : TOT M N) (hi : i + 6 ≤ cx.2.2.1 5) (hL : @LE.le Nat _ (cx.2.2.1 5) 3072) (next : ∀ M1 N1, TOT M1 N1 → LW l cx 1632 (LSx i) [] (CB M1 N1)) : LW l cx 1266 (LSx i) [] (CB M N) := by
  obtain ⟨r, e1, e2⟩ := q_day hT (scx cx (i + 1)) (scx cx (i + 2)) (scx cx (i + 3))
  refine J_ald1 dL_law_1266 ?_
  refine L_arg 1 hi hL dL_law_1267 dL_law_1268 dL_law_1269 dL_law_1270 dL_law_1271 (by decide) ?_
  refine L_arg 2 hi hL dL_law_1272 dL_law_1273 dL_law_1274 dL_law_1275 dL_law_1276 (by decide) ?_
  refine L_arg 3 hi hL dL_law_1277 dL_law_1278 dL_law_1279 dL_law_1280 dL_law_1281 (by decide) ?_
  refine L_cls (as := [.int (scx cx (i + 1)), .int (scx cx (i + 2)), .int (scx cx (i + 3))]) (fun r => r) (fun _ => M) e1 (EP_e M) (jX10_day l cx 20000 (scx cx (i + 1)) (scx cx (i + 2)) (scx cx (i + 3)) M) ck_L_147 dL_law_1282 rfl rfl ⟨rfl, rfl, by decide, by decide⟩ (Nat.le_of_ble_eq_true rfl) ?_
  refine J_ald2 dL_law_1285 ?_
  refine L_arg 1 hi hL dL_law_1286 dL_law_1287 dL_law_1288 dL_law_1289 dL_law_1290 (by decide) ?_
  refine L_arg 2 hi hL dL_law_1291 dL_law_1292 dL_law_1293 dL_law_1294 dL_law_1295 (by decide) ?_
  refine L_arg 3 hi hL dL_law_1296 dL_law_1297 dL_law_1298 dL_law_1299 dL_law_1300 (by decide) ?_
  refine L_mod (as := [.int (scx cx (i + 1)), .int (scx cx (i + 2)), .int (scx cx (i + 3))]) (fun r => r) (fun _ => N) e2 (EP_e N) (jX11_day l cx 20000 (scx cx (i + 1)) (scx cx (i + 2)) (scx cx (i + 3)) N) ck_L_150 dL_law_1301 rfl rfl ⟨rfl, rfl, by decide, by decide⟩ (Nat.le_of_ble_eq_true rfl) ?_
  refine L_eq rfl dL_law_1304 rfl ?_
  exact next _ _ hT
theorem LC_entry {l : Launch} {cx : CX} {i : Nat} {M N : Mem} (hT : TOT M N) (hi : i + 6 ≤ cx.2.2.1 5) (hL : @LE.le Nat _ (cx.2.2.1 5) 3072) (next : ∀ M1 N1, TOT M1 N1 → LW l cx 1632 (LSx i) [] (CB M1 N1)) : LW l cx 1309 (LSx i) [] (CB M N) := by
  obtain ⟨r, e1, e2⟩ := q_entry hT (scx cx (i + 1)) (scx cx (i + 2))
  refine J_ald1 dL_law_1309 ?_
  refine L_arg 1 hi hL dL_law_1310 dL_law_1311 dL_law_1312 dL_law_1313 dL_law_1314 (by decide) ?_
  refine L_arg 2 hi hL dL_law_1315 dL_law_1316 dL_law_1317 dL_law_1318 dL_law_1319 (by decide) ?_
  refine L_cls (as := [.int (scx cx (i + 1)), .int (scx cx (i + 2))]) (fun r => r) (fun _ => M) e1 (EP_e M) (jX10_entry l cx 20000 (scx cx (i + 1)) (scx cx (i + 2)) M) ck_L_151 dL_law_1320 rfl rfl ⟨rfl, rfl, by decide, by decide⟩ (Nat.le_of_ble_eq_true rfl) ?_
  refine J_ald2 dL_law_1323 ?_
  refine L_arg 1 hi hL dL_law_1324 dL_law_1325 dL_law_1326 dL_law_1327 dL_law_1328 (by decide) ?_
  refine L_arg 2 hi hL dL_law_1329 dL_law_1330 dL_law_1331 dL_law_1332 dL_law_1333 (by decide) ?_
  refine L_mod (as := [.int (scx cx (i + 1)), .int (scx cx (i + 2))]) (fun r => r) (fun _ => N) e2 (EP_e N) (jX11_entry l cx 20000 (scx cx (i + 1)) (scx cx (i + 2)) N) ck_L_154 dL_law_1334 rfl rfl ⟨rfl, rfl, by decide, by decide⟩ (Nat.le_of_ble_eq_true rfl) ?_
  refine L_eq rfl dL_law_1337 rfl ?_
  exact next _ _ hT
theorem LC_line {l : Launch} {cx : CX} {i : Nat} {M N : Mem} (hT : TOT M N) (hi : i + 6 ≤ cx.2.2.1 5) (hL : @LE.le Nat _ (cx.2.2.1 5) 3072) (next : ∀ M1 N1, TOT M1 N1 → LW l cx 1632 (LSx i) [] (CB M1 N1)) : LW l cx 1342 (LSx i) [] (CB M N) := by
  obtain ⟨r, M1, N1, e1, e2, hT1⟩ := q_line (n := 20000) hT (by decide) (scx cx (i + 1)) (scx cx (i + 2))
  refine J_ald1 dL_law_1342 ?_
  refine L_arg 1 hi hL dL_law_1343 dL_law_1344 dL_law_1345 dL_law_1346 dL_law_1347 (by decide) ?_
  refine L_arg 2 hi hL dL_law_1348 dL_law_1349 dL_law_1350 dL_law_1351 dL_law_1352 (by decide) ?_
  refine L_cls (as := [.int (scx cx (i + 1)), .int (scx cx (i + 2))]) Prod.fst Prod.snd e1 EI_e (jX10_line l cx 20000 (scx cx (i + 1)) (scx cx (i + 2)) M) ck_L_155 dL_law_1353 rfl rfl ⟨rfl, rfl, by decide, by decide⟩ (Nat.le_of_ble_eq_true rfl) ?_
  refine J_ald2 dL_law_1356 ?_
  refine L_arg 1 hi hL dL_law_1357 dL_law_1358 dL_law_1359 dL_law_1360 dL_law_1361 (by decide) ?_
  refine L_arg 2 hi hL dL_law_1362 dL_law_1363 dL_law_1364 dL_law_1365 dL_law_1366 (by decide) ?_
  refine L_mod (as := [.int (scx cx (i + 1)), .int (scx cx (i + 2))]) Prod.fst Prod.snd e2 EI_e (jX11_line l cx 20000 (scx cx (i + 1)) (scx cx (i + 2)) N) ck_L_158 dL_law_1367 rfl rfl ⟨rfl, rfl, by decide, by decide⟩ (Nat.le_of_ble_eq_true rfl) ?_
  refine L_eq rfl dL_law_1370 rfl ?_
  exact next _ _ hT1
theorem LC_period {l : Launch} {cx : CX} {i : Nat} {M N : Mem} (hT : TOT M N) (hi : i + 6 ≤ cx.2.2.1 5) (hL : @LE.le Nat _ (cx.2.2.1 5) 3072) (next : ∀ M1 N1, TOT M1 N1 → LW l cx 1632 (LSx i) [] (CB M1 N1)) : LW l cx 1375 (LSx i) [] (CB M N) := by
  obtain ⟨r, e1, e2⟩ := q_period (n := 20000) hT (by decide) (scx cx (i + 1)) (scx cx (i + 2))
  refine J_ald1 dL_law_1375 ?_
  refine L_arg 1 hi hL dL_law_1376 dL_law_1377 dL_law_1378 dL_law_1379 dL_law_1380 (by decide) ?_
  refine L_arg 2 hi hL dL_law_1381 dL_law_1382 dL_law_1383 dL_law_1384 dL_law_1385 (by decide) ?_
  refine L_cls (as := [.int (scx cx (i + 1)), .int (scx cx (i + 2))]) (fun r => r) (fun _ => M) e1 (EP_e M) (jX10_period l cx 20000 (scx cx (i + 1)) (scx cx (i + 2)) M) ck_L_159 dL_law_1386 rfl rfl ⟨rfl, rfl, by decide, by decide⟩ (Nat.le_of_ble_eq_true rfl) ?_
  refine J_ald2 dL_law_1389 ?_
  refine L_arg 1 hi hL dL_law_1390 dL_law_1391 dL_law_1392 dL_law_1393 dL_law_1394 (by decide) ?_
  refine L_arg 2 hi hL dL_law_1395 dL_law_1396 dL_law_1397 dL_law_1398 dL_law_1399 (by decide) ?_
  refine L_mod (as := [.int (scx cx (i + 1)), .int (scx cx (i + 2))]) (fun r => r) (fun _ => N) e2 (EP_e N) (jX11_period l cx 20000 (scx cx (i + 1)) (scx cx (i + 2)) N) ck_L_162 dL_law_1400 rfl rfl ⟨rfl, rfl, by decide, by decide⟩ (Nat.le_of_ble_eq_true rfl) ?_
  refine L_eq rfl dL_law_1403 rfl ?_
  exact next _ _ hT
theorem LC_quote {l : Launch} {cx : CX} {i : Nat} {M N : Mem} (hT : TOT M N) (hi : i + 6 ≤ cx.2.2.1 5) (hL : @LE.le Nat _ (cx.2.2.1 5) 3072) (next : ∀ M1 N1, TOT M1 N1 → LW l cx 1632 (LSx i) [] (CB M1 N1)) : LW l cx 1408 (LSx i) [] (CB M N) := by
  obtain ⟨r, e1, e2⟩ := q_quote (n := 20000) hT (by decide) (scx cx (i + 1)) (scx cx (i + 2)) (scx cx (i + 3))
  refine J_ald1 dL_law_1408 ?_
  refine L_arg 1 hi hL dL_law_1409 dL_law_1410 dL_law_1411 dL_law_1412 dL_law_1413 (by decide) ?_
  refine L_arg 2 hi hL dL_law_1414 dL_law_1415 dL_law_1416 dL_law_1417 dL_law_1418 (by decide) ?_
  refine L_arg 3 hi hL dL_law_1419 dL_law_1420 dL_law_1421 dL_law_1422 dL_law_1423 (by decide) ?_
  refine L_cls (as := [.int (scx cx (i + 1)), .int (scx cx (i + 2)), .int (scx cx (i + 3))]) (fun r => r) (fun _ => M) e1 (EP_e M) (jX10_quote l cx 20000 (scx cx (i + 1)) (scx cx (i + 2)) (scx cx (i + 3)) M) ck_L_163 dL_law_1424 rfl rfl ⟨rfl, rfl, by decide, by decide⟩ (Nat.le_of_ble_eq_true rfl) ?_
  refine J_ald2 dL_law_1427 ?_
  refine L_arg 1 hi hL dL_law_1428 dL_law_1429 dL_law_1430 dL_law_1431 dL_law_1432 (by decide) ?_
  refine L_arg 2 hi hL dL_law_1433 dL_law_1434 dL_law_1435 dL_law_1436 dL_law_1437 (by decide) ?_
  refine L_arg 3 hi hL dL_law_1438 dL_law_1439 dL_law_1440 dL_law_1441 dL_law_1442 (by decide) ?_
  refine L_mod (as := [.int (scx cx (i + 1)), .int (scx cx (i + 2)), .int (scx cx (i + 3))]) (fun r => r) (fun _ => N) e2 (EP_e N) (jX11_quote l cx 20000 (scx cx (i + 1)) (scx cx (i + 2)) (scx cx (i + 3)) N) ck_L_166 dL_law_1443 rfl rfl ⟨rfl, rfl, by decide, by decide⟩ (Nat.le_of_ble_eq_true rfl) ?_
  refine L_eq rfl dL_law_1446 rfl ?_
  exact next _ _ hT
theorem LC_best {l : Launch} {cx : CX} {i : Nat} {M N : Mem} (hT : TOT M N) (hi : i + 6 ≤ cx.2.2.1 5) (hL : @LE.le Nat _ (cx.2.2.1 5) 3072) (next : ∀ M1 N1, TOT M1 N1 → LW l cx 1632 (LSx i) [] (CB M1 N1)) : LW l cx 1451 (LSx i) [] (CB M N) := by
  obtain ⟨r, e1, e2⟩ := q_best (n := 20000) hT (by decide) (scx cx (i + 1)) (scx cx (i + 2)) (scx cx (i + 3))
  refine J_ald1 dL_law_1451 ?_
  refine L_arg 1 hi hL dL_law_1452 dL_law_1453 dL_law_1454 dL_law_1455 dL_law_1456 (by decide) ?_
  refine L_arg 2 hi hL dL_law_1457 dL_law_1458 dL_law_1459 dL_law_1460 dL_law_1461 (by decide) ?_
  refine L_arg 3 hi hL dL_law_1462 dL_law_1463 dL_law_1464 dL_law_1465 dL_law_1466 (by decide) ?_
  refine L_cls (as := [.int (scx cx (i + 1)), .int (scx cx (i + 2)), .int (scx cx (i + 3))]) (fun r => r) (fun _ => M) e1 (EP_e M) (jX10_best l cx 20000 (scx cx (i + 1)) (scx cx (i + 2)) (scx cx (i + 3)) M) ck_L_167 dL_law_1467 rfl rfl ⟨rfl, rfl, by decide, by decide⟩ (Nat.le_of_ble_eq_true rfl) ?_
  refine J_ald2 dL_law_1470 ?_
  refine L_arg 1 hi hL dL_law_1471 dL_law_1472 dL_law_1473 dL_law_1474 dL_law_1475 (by decide) ?_
  refine L_arg 2 hi hL dL_law_1476 dL_law_1477 dL_law_1478 dL_law_1479 dL_law_1480 (by decide) ?_
  refine L_arg 3 hi hL dL_law_1481 dL_law_1482 dL_law_1483 dL_law_1484 dL_law_1485 (by decide) ?_
  refine L_mod (as := [.int (scx cx (i + 1)), .int (scx cx (i + 2)), .int (scx cx (i + 3))]) (fun r => r) (fun _ => N) e2 (EP_e N) (jX11_best l cx 20000 (scx cx (i + 1)) (scx cx (i + 2)) (scx cx (i + 3)) N) ck_L_170 dL_law_1486 rfl rfl ⟨rfl, rfl, by decide, by decide⟩ (Nat.le_of_ble_eq_true rfl) ?_
  refine L_eq rfl dL_law_1489 rfl ?_
  exact next _ _ hT
theorem LC_ahead {l : Launch} {cx : CX} {i : Nat} {M N : Mem} (hT : TOT M N) (hi : i + 6 ≤ cx.2.2.1 5) (hL : @LE.le Nat _ (cx.2.2.1 5) 3072) (next : ∀ M1 N1, TOT M1 N1 → LW l cx 1632 (LSx i) [] (CB M1 N1)) : LW l cx 1494 (LSx i) [] (CB M N) := by
  obtain ⟨r, M1, N1, e1, e2, hT1⟩ := q_ahead (n := 20000) hT (by decide) (scx cx (i + 1)) (scx cx (i + 2))
  refine J_ald1 dL_law_1494 ?_
  refine L_arg 1 hi hL dL_law_1495 dL_law_1496 dL_law_1497 dL_law_1498 dL_law_1499 (by decide) ?_
  refine L_arg 2 hi hL dL_law_1500 dL_law_1501 dL_law_1502 dL_law_1503 dL_law_1504 (by decide) ?_
  refine L_cls (as := [.int (scx cx (i + 1)), .int (scx cx (i + 2))]) Prod.fst Prod.snd e1 EI_e (jX10_ahead l cx 20000 (scx cx (i + 1)) (scx cx (i + 2)) M) ck_L_171 dL_law_1505 rfl rfl ⟨rfl, rfl, by decide, by decide⟩ (Nat.le_of_ble_eq_true rfl) ?_
  refine J_ald2 dL_law_1508 ?_
  refine L_arg 1 hi hL dL_law_1509 dL_law_1510 dL_law_1511 dL_law_1512 dL_law_1513 (by decide) ?_
  refine L_arg 2 hi hL dL_law_1514 dL_law_1515 dL_law_1516 dL_law_1517 dL_law_1518 (by decide) ?_
  refine L_mod (as := [.int (scx cx (i + 1)), .int (scx cx (i + 2))]) Prod.fst Prod.snd e2 EI_e (jX11_ahead l cx 20000 (scx cx (i + 1)) (scx cx (i + 2)) N) ck_L_174 dL_law_1519 rfl rfl ⟨rfl, rfl, by decide, by decide⟩ (Nat.le_of_ble_eq_true rfl) ?_
  refine L_eq rfl dL_law_1522 rfl ?_
  exact next _ _ hT1
theorem LC_when {l : Launch} {cx : CX} {i : Nat} {M N : Mem} (hT : TOT M N) (hi : i + 6 ≤ cx.2.2.1 5) (hL : @LE.le Nat _ (cx.2.2.1 5) 3072) (next : ∀ M1 N1, TOT M1 N1 → LW l cx 1632 (LSx i) [] (CB M1 N1)) : LW l cx 1527 (LSx i) [] (CB M N) := by
  obtain ⟨r, M1, N1, e1, e2, hT1⟩ := q_when (n := 20000) hT (by decide) (scx cx (i + 1)) (scx cx (i + 2))
  refine J_ald1 dL_law_1527 ?_
  refine L_arg 1 hi hL dL_law_1528 dL_law_1529 dL_law_1530 dL_law_1531 dL_law_1532 (by decide) ?_
  refine L_arg 2 hi hL dL_law_1533 dL_law_1534 dL_law_1535 dL_law_1536 dL_law_1537 (by decide) ?_
  refine L_cls (as := [.int (scx cx (i + 1)), .int (scx cx (i + 2))]) Prod.fst Prod.snd e1 EI_e (jX10_when l cx 20000 (scx cx (i + 1)) (scx cx (i + 2)) M) ck_L_175 dL_law_1538 rfl rfl ⟨rfl, rfl, by decide, by decide⟩ (Nat.le_of_ble_eq_true rfl) ?_
  refine J_ald2 dL_law_1541 ?_
  refine L_arg 1 hi hL dL_law_1542 dL_law_1543 dL_law_1544 dL_law_1545 dL_law_1546 (by decide) ?_
  refine L_arg 2 hi hL dL_law_1547 dL_law_1548 dL_law_1549 dL_law_1550 dL_law_1551 (by decide) ?_
  refine L_mod (as := [.int (scx cx (i + 1)), .int (scx cx (i + 2))]) Prod.fst Prod.snd e2 EI_e (jX11_when l cx 20000 (scx cx (i + 1)) (scx cx (i + 2)) N) ck_L_178 dL_law_1552 rfl rfl ⟨rfl, rfl, by decide, by decide⟩ (Nat.le_of_ble_eq_true rfl) ?_
  refine L_eq rfl dL_law_1555 rfl ?_
  exact next _ _ hT1
theorem LC_keep {l : Launch} {cx : CX} {i : Nat} {M N : Mem} (hT : TOT M N) (hi : i + 6 ≤ cx.2.2.1 5) (hL : @LE.le Nat _ (cx.2.2.1 5) 3072) (next : ∀ M1 N1, TOT M1 N1 → LW l cx 1632 (LSx i) [] (CB M1 N1)) : LW l cx 1560 (LSx i) [] (CB M N) := by
  obtain ⟨r, M1, N1, e1, e2, hT1⟩ := q_keep (n := 20000) hT (by decide)
  refine J_ald1 dL_law_1560 ?_
  refine L_cls (as := []) Prod.fst Prod.snd e1 EI_e (jX10_keep l cx 20000 M) ck_L_179 dL_law_1561 rfl rfl ⟨rfl, rfl, by decide, by decide⟩ (Nat.le_of_ble_eq_true rfl) ?_
  refine J_ald2 dL_law_1564 ?_
  refine L_mod (as := []) Prod.fst Prod.snd e2 EI_e (jX11_keep l cx 20000 N) ck_L_183 dL_law_1565 rfl rfl ⟨rfl, rfl, by decide, by decide⟩ (Nat.le_of_ble_eq_true rfl) ?_
  refine L_eq rfl dL_law_1568 rfl ?_
  exact next _ _ hT1
theorem LC_undo {l : Launch} {cx : CX} {i : Nat} {M N : Mem} (hT : TOT M N) (hi : i + 6 ≤ cx.2.2.1 5) (hL : @LE.le Nat _ (cx.2.2.1 5) 3072) (next : ∀ M1 N1, TOT M1 N1 → LW l cx 1632 (LSx i) [] (CB M1 N1)) : LW l cx 1573 (LSx i) [] (CB M N) := by
  obtain ⟨r, M1, N1, e1, e2, hT1⟩ := q_undo (n := 20000) hT (by decide)
  refine J_ald1 dL_law_1573 ?_
  refine L_cls (as := []) Prod.fst Prod.snd e1 EZ_e (jX10_undo l cx 20000 M) ck_L_184 dL_law_1574 rfl rfl ⟨rfl, rfl, by decide, by decide⟩ (Nat.le_of_ble_eq_true rfl) ?_
  refine J_ald2 dL_law_1577 ?_
  refine L_mod (as := []) Prod.fst Prod.snd e2 EZ_e (jX11_undo l cx 20000 N) ck_L_188 dL_law_1578 rfl rfl ⟨rfl, rfl, by decide, by decide⟩ (Nat.le_of_ble_eq_true rfl) ?_
  refine L_eq rfl dL_law_1581 rfl ?_
  exact next _ _ hT1
theorem LC_check {l : Launch} {cx : CX} {i : Nat} {M N : Mem} (hT : TOT M N) (hi : i + 6 ≤ cx.2.2.1 5) (hL : @LE.le Nat _ (cx.2.2.1 5) 3072) (next : ∀ M1 N1, TOT M1 N1 → LW l cx 1632 (LSx i) [] (CB M1 N1)) : LW l cx 1586 (LSx i) [] (CB M N) := by
  obtain ⟨r, M1, N1, e1, e2, hT1⟩ := q_check (n := 20000) hT (by decide) (scx cx (i + 1))
  refine J_ald1 dL_law_1586 ?_
  refine L_arg 1 hi hL dL_law_1587 dL_law_1588 dL_law_1589 dL_law_1590 dL_law_1591 (by decide) ?_
  refine L_cls (as := [.int (scx cx (i + 1))]) Prod.fst Prod.snd e1 EI_e (jX10_check l cx 20000 (scx cx (i + 1)) M) ck_L_189 dL_law_1592 rfl rfl ⟨rfl, rfl, by decide, by decide⟩ (Nat.le_of_ble_eq_true rfl) ?_
  refine J_ald2 dL_law_1595 ?_
  refine L_arg 1 hi hL dL_law_1596 dL_law_1597 dL_law_1598 dL_law_1599 dL_law_1600 (by decide) ?_
  refine L_mod (as := [.int (scx cx (i + 1))]) Prod.fst Prod.snd e2 EI_e (jX11_check l cx 20000 (scx cx (i + 1)) N) ck_L_192 dL_law_1601 rfl rfl ⟨rfl, rfl, by decide, by decide⟩ (Nat.le_of_ble_eq_true rfl) ?_
  refine L_eq rfl dL_law_1604 rfl ?_
  exact next _ _ hT1
theorem LC_count {l : Launch} {cx : CX} {i : Nat} {M N : Mem} (hT : TOT M N) (hi : i + 6 ≤ cx.2.2.1 5) (hL : @LE.le Nat _ (cx.2.2.1 5) 3072) (next : ∀ M1 N1, TOT M1 N1 → LW l cx 1632 (LSx i) [] (CB M1 N1)) : LW l cx 1609 (LSx i) [] (CB M N) := by
  obtain ⟨r, e1, e2⟩ := q_count hT (scx cx (i + 1))
  refine J_ald1 dL_law_1609 ?_
  refine L_arg 1 hi hL dL_law_1610 dL_law_1611 dL_law_1612 dL_law_1613 dL_law_1614 (by decide) ?_
  refine L_cls (as := [.int (scx cx (i + 1))]) (fun r => r) (fun _ => M) e1 (EP_e M) (jX10_count l cx 20000 (scx cx (i + 1)) M) ck_L_193 dL_law_1615 rfl rfl ⟨rfl, rfl, by decide, by decide⟩ (Nat.le_of_ble_eq_true rfl) ?_
  refine J_ald2 dL_law_1618 ?_
  refine L_arg 1 hi hL dL_law_1619 dL_law_1620 dL_law_1621 dL_law_1622 dL_law_1623 (by decide) ?_
  refine L_mod (as := [.int (scx cx (i + 1))]) (fun r => r) (fun _ => N) e2 (EP_e N) (jX11_count l cx 20000 (scx cx (i + 1)) N) ck_L_196 dL_law_1624 rfl rfl ⟨rfl, rfl, by decide, by decide⟩ (Nat.le_of_ble_eq_true rfl) ?_
  refine L_eq rfl dL_law_1627 rfl ?_
  exact next _ _ hT
