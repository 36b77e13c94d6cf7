/-! calls of constructors; calls on a part of the world; the script -/
def CKI (own : String) (idx : Nat) (y : MethodName) (cc : ByteArray) (nL : Nat) (n : Nat) : Prop :=
  (Cond.methodLink own idx y ∈ Wd ∨ ∃ host, Cond.methodLinkNest own idx y host ∈ NW) ∧ Cond.code y cc nL none ∈ Wd ∧ Cond.initialized y.cls ∈ Wd ∧ (y.cls ≠ "java/lang/invoke/MethodHandle" ∧ y.cls ≠ "java/lang/invoke/VarHandle") ∧ (parseMethodDescriptor y.desc).map (fun d => d.parameters.length) = some n ∧ y.name = "<init>" ∧ Cond.instanceMethod y ∈ Wd
theorem CKI.b {own : String} {idx n mc' ms' : Nat} {y : MethodName} {cc : ByteArray} {nL : Nat} {R rm : Room} {s : State} {args : Array Value} (h : CKI own idx y cc nL n) (hts : ∀ w ∈ Wd, w.before args s = true) (hl : Cond.methodLink own idx y ∈ Wd) (hR : rm.cells = mc' ∧ rm.slots = ms' ∧ rm.frames + 1 ≤ R.frames ∧ 8 + (nL + 11) + rm.locals ≤ R.locals) : CallB R s args own idx y cc nL none (wsA y cc nL none) rm mc' ms' n :=
  ⟨hR.1, hR.2.1, hR.2.2.1, hR.2.2.2, wsA_pay hts h.2.1, List.mem_cons_self, hts _ h.2.1, hts _ h.2.2.1, h.2.2.2.1, fun sig hs => by have h2 := h.2.2.2.2.1; rw [hs] at h2; exact (Option.some.inj h2).symm, hts _ hl⟩
theorem CKI.n {own host : String} {idx n mc' ms' : Nat} {y : MethodName} {cc : ByteArray} {nL : Nat} {R rm : Room} {s : State} {args : Array Value} (h : CKI own idx y cc nL n) (hts : ∀ w ∈ Wd, w.before args s = true) (hl : va_Nw (.methodLinkNest own idx y host) s) (hR : rm.cells = mc' ∧ rm.slots = ms' ∧ rm.frames + 1 ≤ R.frames ∧ 8 + (nL + 11) + rm.locals ≤ R.locals) : va_CN R s args own idx y host cc nL none (wsA y cc nL none) rm mc' ms' n :=
  ⟨⟨hR.1, hR.2.1, hR.2.2.1, hR.2.2.2, wsA_pay hts h.2.1, List.mem_cons_self⟩, hts _ h.2.1, hts _ h.2.2.1, h.2.2.2.1, fun sig hs => by have h2 := h.2.2.2.2.1; rw [hs] at h2; exact (Option.some.inj h2).symm, va_Nw.use rfl hl⟩
def KOB (own : String) (idx : Nat) : Prop := Cond.methodLink own idx Lib.objectInit ∈ Wd ∧ Cond.instanceMethod Lib.objectInit ∈ Wd ∧ Cond.code Lib.objectInit ⟨#[0xb1]⟩ 1 none ∈ Wd
theorem J_afterI {β : Type} {cx : CX} {p : Program} {l : Launch} {e : Env} {R : Room} {s : State} {m : MethodId} {args : Array Value} {below : List Frame} {meth : Method} {c : Code} {H : Heap} {locs : List Loc} {ck sk pc lo hi hi2 mc' ms' : Nat} {lsa : Array Slot} {st0 rest : List Value} {A : Nat → Prop} {Q : State → Prop} {E' : β → Option Value → GW → Mem → Prop} {b : β} {as : Array Value} {g : GW} {M : Mem} (hr : va_Run p l e R s m args below meth c H locs ck sk mc' ms' (F0 m pc lsa st0) rest (QJ cx lo hi2 (RG cx lo hi H.size) E' b as) (RG cx lo hi H.size)) (hD : va_D A (wl cx lo hi g M)) (hS : va_S A s.heap H locs) (hA : ∀ q, s.heap.size ≤ q → A q) (hnew : ∀ o, hi ≤ o → o < hi2 → A (cx.2.2.2 o))
    (kk : ∀ (v : Option Value) (g' : GW) (M' : Mem) (H1 : Heap) (locs1 : List Loc), E' b v g' M' → va_P (cx.1, cx.2.1) vwCl (wl cx lo hi2 g' M') H1 → va_D A (wl cx lo hi2 g' M') → va_S A s.heap H1 locs1 → W p l e R s m args below meth c H1 locs1 (ck + mc') (sk + ms') Q (F0 m (pc + 3) lsa ((v.map (rv cx)).toList ++ rest))) : W p l e R s m args below meth c H locs ck sk Q (F0 m pc lsa st0) := by
  have hRA := RG_sub hD hS hA
  intro T hT X
  obtain ⟨v, st₀, t, T', L, h0, X', hL, e1, e2, ⟨⟨v', g', M', hv, hE, hP', hD'⟩, hF⟩, st⟩ := hr T hT X
  cases hv
  obtain ⟨hz, hk⟩ := hF
  rw [h0] at hz hk
  have hD2 : va_D A (wl cx lo hi2 g' M') := by
    refine ⟨hD'.1, fun k q hq => ?_⟩
    obtain ⟨i1, i2⟩ := wl_inv hq
    rw [i2]
    by_cases z : lo + k < hi
    · exact hRA _ (Or.inl ⟨lo + k, by omega, z, rfl⟩)
    · exact hnew _ (by omega) i1
  obtain ⟨t2, a1, b1⟩ := kk v' g' M' T'.heap (locs ++ L) hE (by rw [e1]; exact hP') hD2
    ⟨Nat.le_trans hS.1 (by rw [e1]; exact hz), fun q h1 h2 => by rw [e1, hk q (Nat.lt_of_lt_of_le h1 hS.1) (fun z => h2 (hRA q z))]; exact hS.2.1 q h1 h2, fun q hq => by
      rcases List.mem_append.mp hq with h | h
      · exact hS.2.2 q h
      · exact hRA _ (hL q h)⟩ T' rfl X'
  exact ⟨t2, st t2 a1, b1⟩
theorem wl_mix {cx : CX} {a b lo hi2 : Nat} {g g' g2 : GW} {M M' M2 : Mem} {H H1 : Heap} {A : Nat → Prop} (hab : lo ≤ a ∧ b ≤ hi2) (e1 : ∀ o, a ≤ o → o < b → ent cx g2 M2 o = ent cx g' M' o) (e2 : ∀ o, lo ≤ o → o < hi2 → ¬ (a ≤ o ∧ o < b) → ent cx g2 M2 o = ent cx g M o) (hP : va_P (cx.1, cx.2.1) vwCl (wl cx lo hi2 g M) H) (hD : va_D A (wl cx lo hi2 g M)) (hk : ∀ q, q < H.size → ¬ RG cx a b H.size q → H1[q]? = H[q]?) (hP' : va_P (cx.1, cx.2.1) vwCl (wl cx a b g' M') H1) : va_P (cx.1, cx.2.1) vwCl (wl cx lo hi2 g2 M2) H1 ∧ va_D A (wl cx lo hi2 g2 M2) := by
  refine ⟨fun k q hq => ?_, fun i j p q hp hq hpq => ?_, fun k q hq => ?_⟩
  · obtain ⟨i1, i2⟩ := wl_inv hq
    by_cases z : a ≤ lo + k ∧ lo + k < b
    · have := hP' _ _ (wl_at (cx := cx) (g := g') (M := M') z.1 z.2)
      rw [i2, e1 _ z.1 z.2]
      exact this
    · have hw := wl_at (cx := cx) (g := g) (M := M) (show lo ≤ lo + k by omega) i1
      have h0 := hP _ _ hw
      rw [i2, e2 _ (by omega) i1 z]
      refine h0.kept (hk _ h0.lt ?_)
      rintro (⟨o, o1, o2, o3⟩ | h)
      · have hw2 := wl_at (cx := cx) (g := g) (M := M) (show lo ≤ o by omega) (show o < hi2 by omega)
        have := hD.1 _ _ _ _ hw hw2 o3
        omega
      · exact absurd h0.lt (Nat.not_lt.mpr h)
  · obtain ⟨i1, i2⟩ := wl_inv hp
    obtain ⟨j1, j2⟩ := wl_inv hq
    rw [i2, j2] at hpq
    have := hD.1 _ _ _ _ (wl_at (cx := cx) (g := g) (M := M) (show lo ≤ lo + i by omega) i1) (wl_at (cx := cx) (g := g) (M := M) (show lo ≤ lo + j by omega) j1) hpq
    omega
  · obtain ⟨i1, i2⟩ := wl_inv hq
    rw [i2]
    have h := hD.2 _ _ (wl_at (cx := cx) (g := g) (M := M) (show lo ≤ lo + k by omega) i1)
    exact h
theorem PJ_sub {cx : CX} {y : MethodName} {cc : ByteArray} {nL : Nat} {rt : Option FieldType} {al : Bool} {lo hi hi2 a b : Nat} {p : Program} {s : State} {m : MethodId} {args : Array Value} {meth : Method} {c : Code} {A : Nat → Prop} {g g1 : GW} {M M1 : Mem} {H : Heap} {locs : List Loc} {as : List Value} (hab : lo ≤ a ∧ b ≤ hi2) (hs : ∀ o, a ≤ o → o < b → ent cx g1 M1 o = ent cx g M o) (X : JX cx y cc nL rt al hi p s m args meth c A) (hP : va_P (cx.1, cx.2.1) vwCl (wl cx lo hi2 g M) H) (hD : va_D A (wl cx lo hi2 g M)) (hS : va_S A s.heap H locs) : (∀ U : State, U.heap = H → s.WarmedH U.vm → PJ cx false a b g1 as M1 H.size (as.map (rv cx)).toArray U) ∧ va_D A (wl cx a b g1 M1) := by
  have hP1 : va_P (cx.1, cx.2.1) vwCl (wl cx a b g1 M1) H := fun k q hq => by
    obtain ⟨i1, i2⟩ := wl_inv hq
    rw [i2, hs _ (by omega) i1]
    exact hP _ _ (wl_at (cx := cx) (g := g) (M := M) (show lo ≤ a + k by omega) (show a + k < hi2 by omega))
  have hD1 : va_D A (wl cx a b g1 M1) := ⟨fun i j p q hp hq hpq => by
    obtain ⟨i1, i2⟩ := wl_inv hp
    obtain ⟨j1, j2⟩ := wl_inv hq
    rw [i2, j2] at hpq
    have := hD.1 _ _ _ _ (wl_at (cx := cx) (g := g) (M := M) (show lo ≤ a + i by omega) (show a + i < hi2 by omega)) (wl_at (cx := cx) (g := g) (M := M) (show lo ≤ a + j by omega) (show a + j < hi2 by omega)) hpq
    omega, fun k q hq => by
    obtain ⟨i1, i2⟩ := wl_inv hq
    rw [i2]
    have h := hD.2 _ _ (wl_at (cx := cx) (g := g) (M := M) (show lo ≤ a + k by omega) (show a + k < hi2 by omega))
    exact h⟩
  exact ⟨PJ_at X hP1 hD1 hS, hD1⟩
section JR
variable {α : Type} {l : Launch} {cx : CX} {R : Room} {y : MethodName} {cc : ByteArray} {nL : Nat} {rt : Option FieldType} {mc ms : Nat} {al : Bool} {lo hi : Nat} {E : α → Option Value → GW → Mem → Prop} {g : GW} {ck sk pc : Nat} {ls : List (Option Value)} {st : List Value} {M : Mem} {x : Option α}
set_option maxHeartbeats 2000000 in
theorem J_cI {β : Type} {E' : β → Option Value → GW → Mem → Prop} {y' : MethodName} {cc' : ByteArray} {nL' : Nat} {rm : Room} {idx o mc' ms' : Nat} {as stk : List Value} {xc : Option β} {f : β → Option α} (hC : Con l cx rm y' cc' nL' none mc' ms' true lo (hi + ck) E' g (.ref o :: as) M xc) (hw : CKI y.cls idx y' cc' nL' as.length) (hd : decode cc pc = .ok (.invokespecial idx, 3)) (hs : stk = as.reverse ++ .ref o :: st) (hR : rm.cells = mc' ∧ rm.slots = ms' ∧ rm.frames + 1 ≤ R.frames ∧ 8 + (nL' + 11) + rm.locals ≤ R.locals) (hR2 : ck + mc' ≤ R.cells ∧ sk + ms' ≤ R.slots ∧ sumW st ≤ 8) (hB : hi + ck + mc' < 1000) (hal : al = true) (hlo : lo ≤ hi)
    (kk : ∀ b v g' M', E' b v g' M' → JO l cx R y cc nL rt mc ms al lo hi E g' (ck + mc') (sk + ms') (pc + 3) ls (v.toList ++ st) M' (f b)) : JO l cx R y cc nL rt mc ms al lo hi E g ck sk pc ls stk M (xc.bind f) := by
  subst hs
  intro a ha
  cases hxc : xc with
  | none => rw [hxc] at ha; cases ha
  | some b =>
  rw [hxc] at ha
  intro p e s m args below meth c H locs A lsa X hP hD hS hL
  refine W_sz (fun hz => ?_)
  obtain ⟨-, hsz⟩ := size_ex (by omega) hal hlo X hP hS hz
  have hM := hC b hxc H.size
  have hp : PreS s H (PJ cx true lo (hi + ck) g (.ref o :: as) M H.size) ((.ref (cx.2.2.2 o)) :: as.map (rv cx)) := ⟨PJ_blind, fun U hU hW => by
    obtain ⟨p1, p2, p3, p4, p5, p6, p7⟩ := PJ_at (as := .ref o :: as) X hP hD hS U hU hW
    exact ⟨p1, p2, p3, p4, p5, p6, fun _ o' ho' hb' => by rw [X.2.2.2.2.2.2.2.2.2.2.2 hal o' (by omega) hb']; omega⟩⟩
  have hsum : ((st.map (rv cx)).map fun v => v.category).sum ≤ 8 := by have h := sumW_rv cx st; unfold sumW at h; rw [h]; exact hR2.2.2
  have hstk : ((as.reverse ++ .ref o :: st).map (rv cx)) = (as.map (rv cx)).reverse ++ .ref (cx.2.2.2 o) :: st.map (rv cx) := by simp [rv]
  rw [hstk]
  have hfix : CallFix p m c cc nL s args Wd y.cls := ⟨X.1, X.2.1, X.2.2.1, X.2.2.2.1, X.2.2.2.2.1⟩
  have hrun : va_Run p l e R s m args below meth c H locs ck sk mc' ms' (F0 m pc lsa ((as.map (rv cx)).reverse ++ .ref (cx.2.2.2 o) :: st.map (rv cx))) (st.map (rv cx)) (QJ cx lo (hi + ck + mc') (RG cx lo (hi + ck) H.size) E' b (Value.ref (cx.2.2.2 o) :: as.map (rv cx)).toArray) (RG cx lo (hi + ck) H.size) := by
    rcases hw.1 with hl | ⟨host, hl⟩
    · exact va_runI (n := as.length) hfix hM ⟨hw.b X.2.2.2.2.1 hl hR, hw.2.2.2.2.2.1, X.2.2.2.2.1 _ hw.2.2.2.2.2.2⟩ hp rfl (by simp) hL.1 rfl (lv_room hsum) hd ⟨hR2.1, hR2.2.1⟩
    · exact va_runIN (n := as.length) hfix hM ⟨hw.n X.2.2.2.2.1 (X.2.2.2.2.2.2.2.2.2.1.1 _ hl) hR, hw.2.2.2.2.2.1, X.2.2.2.2.1 _ hw.2.2.2.2.2.2⟩ hp rfl (by simp) hL.1 rfl (lv_room hsum) hd ⟨hR2.1, hR2.2.1⟩
  refine J_afterI hrun hD hS X.2.2.2.2.2.2.2.2.2.2.1 (fun o ho hb => X.2.2.2.2.2.2.2.2.2.2.1 _ (by rw [X.2.2.2.2.2.2.2.2.2.2.2 hal o (by omega) (by omega)]; omega)) (fun v g' M' H1 locs1 hE q1 q2 q3 => ?_)
  rw [Nat.add_assoc] at q1 q2
  have h := kk b v g' M' hE a ha p e s m args below meth c H1 locs1 A lsa X q1 q2 q3 hL
  have hst2 : (v.toList ++ st).map (rv cx) = (v.map (rv cx)).toList ++ st.map (rv cx) := by cases v <;> simp
  rw [hst2] at h
  exact h
set_option maxHeartbeats 2000000 in
theorem J_cSW {β : Type} {E' : β → Option Value → GW → Mem → Prop} {y' : MethodName} {cc' : ByteArray} {nL' : Nat} {rt' : Option FieldType} {rm : Room} {idx a b : Nat} {as stk : List Value} {xc : Option β} {f : β → Option α} {g1 : GW} {M1 : Mem} (G2 : GW → GW) (M2 : Mem → Mem) (hC : Con l cx rm y' cc' nL' rt' 0 0 false a b E' g1 as M1 xc) (hab : lo ≤ a ∧ b ≤ hi + ck) (hs1 : ∀ o, a ≤ o → o < b → ent cx g1 M1 o = ent cx g M o)
    (he1 : ∀ r v g' M', E' r v g' M' → ∀ o, a ≤ o → o < b → ent cx (G2 g') (M2 M') o = ent cx g' M' o) (he2 : ∀ r v g' M', E' r v g' M' → ∀ o, lo ≤ o → o < hi + ck → ¬ (a ≤ o ∧ o < b) → ent cx (G2 g') (M2 M') o = ent cx g M o)
    (hw : CKS y.cls idx y' cc' nL' rt' as.length) (hd : decode cc pc = .ok (.invokestatic idx, 3)) (hs : stk = as.reverse ++ st) (hR : rm.cells = 0 ∧ rm.slots = 0 ∧ rm.frames + 1 ≤ R.frames ∧ 8 + (nL' + 11) + rm.locals ≤ R.locals) (hR2 : ck ≤ R.cells ∧ sk ≤ R.slots ∧ sumW st ≤ 8)
    (kk : ∀ r v g' M', E' r v g' M' → JO l cx R y cc nL rt mc ms al lo hi E (G2 g') ck sk (pc + 3) ls (v.toList ++ st) (M2 M') (f r)) : JO l cx R y cc nL rt mc ms al lo hi E g ck sk pc ls stk M (xc.bind f) := by
  subst hs
  intro a0 ha
  cases hxc : xc with
  | none => rw [hxc] at ha; cases ha
  | some r =>
  rw [hxc] at ha
  intro p e s m args below meth c H locs A lsa X hP hD hS hL
  have hM := hC r hxc H.size
  obtain ⟨hck, hst⟩ := hw
  obtain ⟨hpj, hD1⟩ := PJ_sub (as := as) hab hs1 X hP hD hS
  have hp : PreS s H (PJ cx false a b g1 as M1 H.size) (as.map (rv cx)) := ⟨PJ_blind, hpj⟩
  have hsum : ((st.map (rv cx)).map fun v => v.category).sum ≤ 8 := by have h := sumW_rv cx st; unfold sumW at h; rw [h]; exact hR2.2.2
  have hstk : ((as.reverse ++ st).map (rv cx)) = (as.map (rv cx)).reverse ++ st.map (rv cx) := by simp
  rw [hstk]
  have hfix : CallFix p m c cc nL s args Wd y.cls := ⟨X.1, X.2.1, X.2.2.1, X.2.2.2.1, X.2.2.2.2.1⟩
  have hrun : va_Run p l e R s m args below meth c H locs ck sk 0 0 (F0 m pc lsa ((as.map (rv cx)).reverse ++ st.map (rv cx))) (st.map (rv cx)) (QJ cx a b (RG cx a b H.size) E' r (as.map (rv cx)).toArray) (RG cx a b H.size) := by
    rcases hck.1 with hl | ⟨host, hl⟩
    · exact va_runS (n := as.length) hfix hM ⟨hck.b X.2.2.2.2.1 hl hR, X.2.2.2.2.1 _ hst⟩ hp rfl (by simp) hL.1 rfl (lv_room hsum) hd ⟨hR2.1, hR2.2.1⟩
    · exact va_runSN (n := as.length) hfix hM ⟨hck.n X.2.2.2.2.1 (X.2.2.2.2.2.2.2.2.2.1.1 _ hl) hR, X.2.2.2.2.1 _ hst, trivial⟩ hp rfl (by simp) hL.1 rfl (lv_room hsum) hd ⟨hR2.1, hR2.2.1⟩
  have hRA := RG_sub hD1 hS X.2.2.2.2.2.2.2.2.2.2.1
  intro T hT X0
  obtain ⟨v, st₀, t, T', L, h0, X', hLL, e1, e2, ⟨⟨v', g', M', hv, hE, hP', hD'⟩, hF⟩, stp⟩ := hrun T hT X0
  cases hv
  obtain ⟨hz, hk⟩ := hF
  rw [h0] at hz hk
  obtain ⟨hP2, hD2⟩ := wl_mix (H1 := T'.heap) hab (he1 r v' g' M' hE) (he2 r v' g' M' hE) hP hD (fun q h1 h2 => by rw [e1]; exact hk q h1 h2) (by rw [e1]; exact hP')
  have h := kk r v' g' M' hE a0 ha p e s m args below meth c T'.heap (locs ++ L) A lsa X hP2 hD2 ⟨Nat.le_trans hS.1 (by rw [e1]; exact hz), fun q h1 h2 => by rw [e1, hk q (Nat.lt_of_lt_of_le h1 hS.1) (fun z => h2 (hRA q z))]; exact hS.2.1 q h1 h2, fun q hq => by
      rcases List.mem_append.mp hq with h | h
      · exact hS.2.2 q h
      · exact hRA _ (hLL q h)⟩ hL
  have hst2 : (v'.toList ++ st).map (rv cx) = (v'.map (rv cx)).toList ++ st.map (rv cx) := by cases v' <;> simp
  rw [hst2] at h
  obtain ⟨t2, a1, b1⟩ := h T' rfl X'
  exact ⟨t2, stp t2 a1, b1⟩
set_option maxHeartbeats 2000000 in
theorem J_cVW {β : Type} {E' : β → Option Value → GW → Mem → Prop} {y' : MethodName} {cc' : ByteArray} {nL' : Nat} {rt' : Option FieldType} {rm : Room} {idx o ci a b : Nat} {as stk : List Value} {xc : Option β} {f : β → Option α} {g1 : GW} {M1 : Mem} (G2 : GW → GW) (M2 : Mem → Mem) (hC : Con l cx rm y' cc' nL' rt' 0 0 false a b E' g1 (.ref o :: as) M1 xc) (hab : lo ≤ a ∧ b ≤ hi + ck) (hs1 : ∀ o, a ≤ o → o < b → ent cx g1 M1 o = ent cx g M o)
    (he1 : ∀ r v g' M', E' r v g' M' → ∀ o, a ≤ o → o < b → ent cx (G2 g') (M2 M') o = ent cx g' M' o) (he2 : ∀ r v g' M', E' r v g' M' → ∀ o, lo ≤ o → o < hi + ck → ¬ (a ≤ o ∧ o < b) → ent cx (G2 g') (M2 M') o = ent cx g M o)
    (hw : CKV y.cls idx y' cc' nL' rt' as.length ci) (hd : decode cc pc = .ok (.invokevirtual idx, 3)) (hs : stk = as.reverse ++ .ref o :: st) (hk : IsK g lo (hi + ck) o ci) (hR : rm.cells = 0 ∧ rm.slots = 0 ∧ rm.frames + 1 ≤ R.frames ∧ 8 + (nL' + 11) + rm.locals ≤ R.locals) (hR2 : ck ≤ R.cells ∧ sk ≤ R.slots ∧ sumW st ≤ 8)
    (kk : ∀ r v g' M', E' r v g' M' → JO l cx R y cc nL rt mc ms al lo hi E (G2 g') ck sk (pc + 3) ls (v.toList ++ st) (M2 M') (f r)) : JO l cx R y cc nL rt mc ms al lo hi E g ck sk pc ls stk M (xc.bind f) := by
  subst hs
  intro a0 ha
  cases hxc : xc with
  | none => rw [hxc] at ha; cases ha
  | some r =>
  rw [hxc] at ha
  intro p e s m args below meth c H locs A lsa X hP hD hS hL
  have hM := hC r hxc H.size
  obtain ⟨hck, hin, hsel, hci, T, N, hcl⟩ := hw
  have hat := wl_at (cx := cx) (g := g) (M := M) hk.2.1 hk.2.2
  rw [ent_o hk.1 hci] at hat
  have hrecv := va_recv (q := (y'.cls, T, N)) X.2.2.2.2.2.2.2.2.1 hP hcl hat
  obtain ⟨hpj, hD1⟩ := PJ_sub (as := .ref o :: as) hab hs1 X hP hD hS
  have hp : PreV s H y'.cls (cx.2.2.2 o) (PJ cx false a b g1 (.ref o :: as) M1 H.size) (as.map (rv cx)) := ⟨PJ_blind, hrecv, hpj⟩
  have hsum : ((st.map (rv cx)).map fun v => v.category).sum ≤ 8 := by have h := sumW_rv cx st; unfold sumW at h; rw [h]; exact hR2.2.2
  have hstk : ((as.reverse ++ .ref o :: st).map (rv cx)) = (as.map (rv cx)).reverse ++ .ref (cx.2.2.2 o) :: st.map (rv cx) := by simp [rv]
  rw [hstk]
  have hfix : CallFix p m c cc nL s args Wd y.cls := ⟨X.1, X.2.1, X.2.2.1, X.2.2.2.1, X.2.2.2.2.1⟩
  have hrun : va_Run p l e R s m args below meth c H locs ck sk 0 0 (F0 m pc lsa ((as.map (rv cx)).reverse ++ .ref (cx.2.2.2 o) :: st.map (rv cx))) (st.map (rv cx)) (QJ cx a b (RG cx a b H.size) E' r (Value.ref (cx.2.2.2 o) :: as.map (rv cx)).toArray) (RG cx a b H.size) := by
    rcases hck.1 with hl | ⟨host, hl⟩
    · exact va_runV (n := as.length) hfix hM ⟨hck.b X.2.2.2.2.1 hl hR, X.2.2.2.2.1 _ hin, X.2.2.2.2.1 _ hsel⟩ hp rfl (by simp) hL.1 rfl (lv_room hsum) hd ⟨hR2.1, hR2.2.1⟩
    · exact va_runVN (n := as.length) hfix hM ⟨hck.n X.2.2.2.2.1 (X.2.2.2.2.2.2.2.2.2.1.1 _ hl) hR, X.2.2.2.2.1 _ hin, X.2.2.2.2.1 _ hsel⟩ hp rfl (by simp) hL.1 rfl (lv_room hsum) hd ⟨hR2.1, hR2.2.1⟩
  have hRA := RG_sub hD1 hS X.2.2.2.2.2.2.2.2.2.2.1
  intro T hT X0
  obtain ⟨v, st₀, t, T', L, h0, X', hLL, e1, e2, ⟨⟨v', g', M', hv, hE, hP', hD'⟩, hF⟩, stp⟩ := hrun T hT X0
  cases hv
  obtain ⟨hz, hk⟩ := hF
  rw [h0] at hz hk
  obtain ⟨hP2, hD2⟩ := wl_mix (H1 := T'.heap) hab (he1 r v' g' M' hE) (he2 r v' g' M' hE) hP hD (fun q h1 h2 => by rw [e1]; exact hk q h1 h2) (by rw [e1]; exact hP')
  have h := kk r v' g' M' hE a0 ha p e s m args below meth c T'.heap (locs ++ L) A lsa X hP2 hD2 ⟨Nat.le_trans hS.1 (by rw [e1]; exact hz), fun q h1 h2 => by rw [e1, hk q (Nat.lt_of_lt_of_le h1 hS.1) (fun z => h2 (hRA q z))]; exact hS.2.1 q h1 h2, fun q hq => by
      rcases List.mem_append.mp hq with h | h
      · exact hS.2.2 q h
      · exact hRA _ (hLL q h)⟩ hL
  have hst2 : (v'.toList ++ st).map (rv cx) = (v'.map (rv cx)).toList ++ st.map (rv cx) := by cases v' <;> simp
  rw [hst2] at h
  obtain ⟨t2, a1, b1⟩ := h T' rfl X'
  exact ⟨t2, stp t2 a1, b1⟩
/-- the script's numbers -/
def scx (cx : CX) (i : Nat) : Int32 := Int32.ofNat (cx.2.2.1 (6 + i))
theorem J_scr {i : Int32} (hin : vp_in i (cx.2.2.1 5)) (hd : decode cc pc = .ok (.iaload, 1)) (kk : JO l cx R y cc nL rt mc ms al lo hi E g ck sk (pc + 1) ls (.int (scx cx i.toNatClampNeg) :: st) M x) : JO l cx R y cc nL rt mc ms al lo hi E g ck sk pc ls (.int i :: .ref SC :: st) M x := by
  intro a ha p e s m args below meth c H locs A lsa X hP hD hS hL
  exact va_ti X.1 X.2.1 X.2.2.2.2.2.2.2.2.2.1.2.2.2.2.2.2.2.1 hS hin rfl hd (kk a ha p e s m args below meth c H locs A lsa X hP hD hS hL)
theorem J_scrlen (hd : decode cc pc = .ok (.arraylength, 1)) (kk : JO l cx R y cc nL rt mc ms al lo hi E g ck sk (pc + 1) ls (.int (Int32.ofNat (cx.2.2.1 5)) :: st) M x) : JO l cx R y cc nL rt mc ms al lo hi E g ck sk pc ls (.ref SC :: st) M x := by
  intro a ha p e s m args below meth c H locs A lsa X hP hD hS hL
  exact va_tlen X.1 X.2.1 X.2.2.2.2.2.2.2.2.2.1.2.2.2.2.2.2.2.1 hS rfl hd (kk a ha p e s m args below meth c H locs A lsa X hP hD hS hL)
/-- Object's own constructor -/
theorem J_obj {idx o : Nat} (hw : KOB y.cls idx) (hd : decode cc pc = .ok (.invokespecial idx, 3)) (hR : 1 ≤ R.frames ∧ sumW st + 12 ≤ R.locals) (kk : JO l cx R y cc nL rt mc ms al lo hi E g ck sk (pc + 3) ls st M x) : JO l cx R y cc nL rt mc ms al lo hi E g ck sk pc ls (.ref o :: st) M x := by
  intro a ha p e s m args below meth c H locs A lsa X hP hD hS hL
  have hsum : ((st.map (rv cx)).map fun v => v.category).sum = sumW st := by have h := sumW_rv cx st; unfold sumW at h ⊢; exact h
  exact W.objInit X.1 X.2.1 X.2.2.2.1 (X.2.2.2.2.1 _ hw.1) (X.2.2.2.2.1 _ hw.2.1) (X.2.2.2.2.1 _ hw.2.2) rfl (hL.1.trans X.2.2.1.symm) rfl hd hR.1 (by rw [hsum]; show 2 * 0 + sumW st + 12 ≤ R.locals; omega) (kk a ha p e s m args below meth c H locs A lsa X hP hD hS hL)
end JR
