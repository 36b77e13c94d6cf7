abbrev CX : Type := (Nat → ClassId) × (Nat → Nat → Nat) × (Nat → ClassId) × (Nat → Nat)
/-- fields of each class, and of which sort each is: 0 a number, 1 a long one, 2 a reference -/
def rv (cx : CX) : Value → Value
  | .ref a => .ref (cx.2.2.2 a)
  | v => v
theorem rv_cat (cx : CX) (v : Value) : (rv cx v).category = v.category := by cases v <;> rfl
def fv (cx : CX) (g : GW) (M : Mem) (o k : Nat) : Value :=
  if fk (g.1 o) k = 0 then .int (M o k) else if fk (g.1 o) k = 1 then .long (lcb (M o k) (M o (k + HI))) else va_rf ((g.2.2 o k).map cx.2.2.2)
def ent (cx : CX) (g : GW) (M : Mem) (o : Nat) : va_E :=
  if g.1 o < 12 then .inr (g.1 o, (List.range (nF (g.1 o))).map (fv cx g M o))
  else .inl (cx.2.2.1 (g.1 o - 12), g.2.1 o, if g.1 o < 14 then .inl (M o) else if g.1 o = 14 then .inr (.inl (fun i => lcb (M o (2 * i)) (M o (2 * i + 1)))) else .inr (.inr (.inr (.inr (fun i => (g.2.2 o i).map cx.2.2.2)))))
def wl (cx : CX) (lo hi : Nat) (g : GW) (M : Mem) : va_W := (List.range' lo (hi - lo)).map (fun o => (cx.2.2.2 o, ent cx g M o))
def tysOf (cx : CX) : List (ClassId × FieldType) := [(cx.2.2.1 0, .int), (cx.2.2.1 1, .byte), (cx.2.2.1 2, .long), (cx.2.2.1 3, .object RX0), (cx.2.2.1 4, .object RX7)]
def RG (cx : CX) (lo hi sz : Nat) : Nat → Prop := fun q => (∃ o, lo ≤ o ∧ o < hi ∧ q = cx.2.2.2 o) ∨ sz ≤ q
theorem wl_at {cx : CX} {lo hi : Nat} {g : GW} {M : Mem} {o : Nat} (h1 : lo ≤ o) (h2 : o < hi) : (wl cx lo hi g M)[o - lo]? = some (cx.2.2.2 o, ent cx g M o) := by
  unfold wl
  rw [List.getElem?_map, List.getElem?_range' (by omega)]
  simp only [Option.map_some, Option.some.injEq]
  rw [show lo + 1 * (o - lo) = o by omega]
theorem wl_inv {cx : CX} {lo hi : Nat} {g : GW} {M : Mem} {k : Nat} {q : Nat × va_E} (h : (wl cx lo hi g M)[k]? = some q) : lo + k < hi ∧ q = (cx.2.2.2 (lo + k), ent cx g M (lo + k)) := by
  unfold wl at h
  rw [List.getElem?_map] at h
  by_cases hk : k < hi - lo
  · rw [List.getElem?_range' hk] at h
    simp only [Option.map_some, Option.some.injEq] at h
    refine ⟨by omega, ?_⟩
    rw [← h, show lo + 1 * k = lo + k by omega]
  · have h0 : (List.range' lo (hi - lo))[k]? = none := by
      rw [List.getElem?_eq_none_iff]; simp; omega
    rw [h0] at h
    cases h
theorem wl_set {cx : CX} {lo hi : Nat} {g g' : GW} {M M' : Mem} {o : Nat} {e : va_E} (h1 : lo ≤ o) (h2 : o < hi) (he : e = ent cx g' M' o) (hn : ∀ a, a ≠ o → ent cx g' M' a = ent cx g M a) : (wl cx lo hi g M).set (o - lo) (cx.2.2.2 o, e) = wl cx lo hi g' M' := by
  subst he
  apply List.ext_getElem?
  intro j
  have hl : (wl cx lo hi g M).length = hi - lo := by simp [wl]
  by_cases hj : j = o - lo
  · subst hj
    rw [List.getElem?_set_self (by rw [hl]; omega), wl_at h1 h2]
  · rw [List.getElem?_set_ne (Ne.symm hj)]
    unfold wl
    rw [List.getElem?_map, List.getElem?_map]
    by_cases hk : j < hi - lo
    · rw [List.getElem?_range' hk]
      simp only [Option.map_some, Option.some.injEq]
      rw [hn _ (by omega)]
    · have h0 : (List.range' lo (hi - lo))[j]? = none := by
        rw [List.getElem?_eq_none_iff]; simp; omega
      rw [h0]; rfl
theorem ent_o {cx : CX} {g : GW} {M : Mem} {o c : Nat} (h : g.1 o = c) (hc : c < 12) : ent cx g M o = .inr (c, (List.range (nF c)).map (fv cx g M o)) := by
  unfold ent; rw [if_pos (by omega), h]
theorem ent_i {cx : CX} {g : GW} {M : Mem} {o c : Nat} (h : g.1 o = c) (h1 : 12 ≤ c) (h2 : c < 14) : ent cx g M o = .inl (cx.2.2.1 (c - 12), g.2.1 o, .inl (M o)) := by
  unfold ent; rw [if_neg (by omega), if_pos (by omega), h]
theorem ent_l {cx : CX} {g : GW} {M : Mem} {o : Nat} (h : g.1 o = 14) : ent cx g M o = .inl (cx.2.2.1 2, g.2.1 o, .inr (.inl (fun i => lcb (M o (2 * i)) (M o (2 * i + 1))))) := by
  unfold ent; rw [if_neg (by omega), if_neg (by omega), if_pos h, h]
theorem ent_r {cx : CX} {g : GW} {M : Mem} {o c : Nat} (h : g.1 o = c) (h1 : 15 ≤ c) : ent cx g M o = .inl (cx.2.2.1 (c - 12), g.2.1 o, .inr (.inr (.inr (.inr (fun i => (g.2.2 o i).map cx.2.2.2))))) := by
  unfold ent; rw [if_neg (by omega), if_neg (by omega), if_neg (by omega), h]
theorem fvs_at {cx : CX} {g : GW} {M : Mem} {o c k : Nat} (hk : k < nF c) : ((List.range (nF c)).map (fv cx g M o))[k]? = some (fv cx g M o k) := by
  rw [List.getElem?_map, List.getElem?_range hk]; rfl
theorem fvs_set {cx : CX} {g g' : GW} {M M' : Mem} {o c k : Nat} {v : Value} (hk : k < nF c) (hv : v = fv cx g' M' o k) (hn : ∀ j, j < nF c → j ≠ k → fv cx g' M' o j = fv cx g M o j) : ((List.range (nF c)).map (fv cx g M o)).set k v = (List.range (nF c)).map (fv cx g' M' o) := by
  subst hv
  apply List.ext_getElem?
  intro j
  by_cases hj : j = k
  · subst hj
    rw [List.getElem?_set_self (by simp; exact hk), fvs_at hk]
  · rw [List.getElem?_set_ne (Ne.symm hj)]
    by_cases h : j < nF c
    · rw [fvs_at h, fvs_at h, hn j h hj]
    · rw [List.getElem?_eq_none_iff.mpr (by simp; omega), List.getElem?_eq_none_iff.mpr (by simp; omega)]
/-- the script's cell (its length and its numbers are kept in cx too) -/
def SC : Nat := 1000300
def FMt : Nat := 1000301
/-- what lies outside the worlds: words on nest mates, text constants, a static array -/
def EN (cx : CX) (A : Nat → Prop) (U : State) (H : Heap) : Prop :=
  (∀ w ∈ NW, va_Nw w U) ∧ (∀ i, i < 4 → vk_R (sOwn i) (sIdx i) (sTxt i) (cx.2.2.2 (SO + i)) U) ∧
  vk_S 4 sLen sByt (fun i => cx.2.2.2 (SO + i)) (fun i => cx.2.2.2 (SV + i)) A U H ∧
  va_Z RX4 "FOLLOWS" "[I" (.ref (cx.2.2.2 FO)) A U H ∧ va_T .int (cx.2.2.2 FO) 13 (fun j => .int (folL.getD j 0)) A U H ∧
  va_Z "java/lang/String" "COMPACT_STRINGS" "Z" (.int 1) A U H ∧ (va_Z "jdk/internal/util/Preconditions" "SIOOBE_FORMATTER" "Ljava/util/function/BiFunction;" .null A U H ∨ va_Z "jdk/internal/util/Preconditions" "SIOOBE_FORMATTER" "Ljava/util/function/BiFunction;" (.ref (cx.2.2.2 FMt)) A U H) ∧ va_T .int (cx.2.2.2 SC) (cx.2.2.1 5) (fun j => .int (Int32.ofNat (cx.2.2.1 (6 + j)))) A U H ∧ va_AO RX0 U ∧ va_AO RX7 U
theorem EN.kept {cx : CX} {A : Nat → Prop} {U : State} {H H1 : Heap} (h : EN cx A U H) (hq : ∀ a : Nat, a < H.size → ¬ A a → H1[a]? = H[a]?) : EN cx A U H1 :=
  ⟨h.1, h.2.1, vk_S.kept h.2.2.1 hq, va_Z.kept h.2.2.2.1 hq, va_T.kept h.2.2.2.2.1 hq, va_Z.kept h.2.2.2.2.2.1 hq, h.2.2.2.2.2.2.1.imp (fun z => va_Z.kept z hq) (fun z => va_Z.kept z hq), va_T.kept h.2.2.2.2.2.2.2.1 hq, h.2.2.2.2.2.2.2.2⟩
theorem EN.narrow {cx : CX} {A B : Nat → Prop} {U : State} {H : Heap} (h : EN cx A U H) (hAB : ∀ q, B q → A q) : EN cx B U H :=
  ⟨h.1, h.2.1, vk_S.narrow h.2.2.1 hAB, va_Z.narrow h.2.2.2.1 hAB, va_T.narrow h.2.2.2.2.1 hAB, va_Z.narrow h.2.2.2.2.2.1 hAB, h.2.2.2.2.2.2.1.imp (fun z => va_Z.narrow z hAB) (fun z => va_Z.narrow z hAB), va_T.narrow h.2.2.2.2.2.2.2.1 hAB, h.2.2.2.2.2.2.2.2⟩
theorem EN.same {cx : CX} {A : Nat → Prop} {u U : State} {H : Heap} (hv : U.vm = u.vm) (h : EN cx A u H) : EN cx A U H := by
  have ha : u.vm.Alike U.vm := by rw [hv]; exact Vm.Alike.refl _
  exact ⟨fun w hw => va_Nw.same (NW_tab w hw) hv.symm (h.1 w hw), fun i hi => vk_R.same hv (h.2.1 i hi), vk_S.moved ha h.2.2.1, va_Z.moved ha h.2.2.2.1, va_T.moved ha h.2.2.2.2.1, va_Z.moved ha h.2.2.2.2.2.1, h.2.2.2.2.2.2.1.imp (fun z => va_Z.moved ha z) (fun z => va_Z.moved ha z), va_T.moved ha h.2.2.2.2.2.2.2.1, va_AO.moved ha h.2.2.2.2.2.2.2.2.1, va_AO.moved ha h.2.2.2.2.2.2.2.2.2⟩
theorem EN.warm {cx : CX} {A : Nat → Prop} {s U : State} {H : Heap} (hW : s.WarmedH U.vm) (h : EN cx A s H) : EN cx A U H :=
  ⟨fun w hw => NW_warm hW w hw (h.1 w hw), fun i hi => vk_R.warm hW (h.2.1 i hi), vk_S.moved hW.alike h.2.2.1, va_Z.moved hW.alike h.2.2.2.1, va_T.moved hW.alike h.2.2.2.2.1, va_Z.moved hW.alike h.2.2.2.2.2.1, h.2.2.2.2.2.2.1.imp (fun z => va_Z.moved hW.alike z) (fun z => va_Z.moved hW.alike z), va_T.moved hW.alike h.2.2.2.2.2.2.2.1, va_AO.moved hW.alike h.2.2.2.2.2.2.2.2.1, va_AO.moved hW.alike h.2.2.2.2.2.2.2.2.2⟩
/-- locals: a list by their places -/
def lvh (cx : CX) (lsa : Array Slot) (nL : Nat) (ls : List (Option Value)) : Prop := lsa.size = nL ∧ lv_wf lsa ∧ ∀ (i : Nat) (v : Value), ls[i]? = some (some v) → lsa[i]? = some (.val (rv cx v))
def asL (cx : CX) (ls : List (Option Value)) : List (Nat × Value) := (List.range ls.length).filterMap (fun i => match ls[i]? with | some (some v) => some (i, rv cx v) | _ => none)
theorem asL_mem {cx : CX} {ls : List (Option Value)} {q : Nat × Value} : q ∈ asL cx ls ↔ ∃ v, ls[q.1]? = some (some v) ∧ q.2 = rv cx v := by
  obtain ⟨i, w⟩ := q
  simp only [asL, List.mem_filterMap, List.mem_range]
  constructor
  · rintro ⟨j, hj, h⟩
    split at h
    · rename_i v hv
      cases h
      exact ⟨v, hv, rfl⟩
    · cases h
  · rintro ⟨v, hv, hw⟩
    refine ⟨i, (List.getElem?_eq_some_iff.mp hv).1, ?_⟩
    rw [hv]
    show some (i, rv cx v) = some (i, w)
    rw [← hw]
theorem lvh_has {cx : CX} {lsa : Array Slot} {nL : Nat} {ls : List (Option Value)} (h : lvh cx lsa nL ls) : lv_has lsa nL (asL cx ls) := by
  refine ⟨h.1, h.2.1, fun q hq => ?_⟩
  obtain ⟨v, h1, h2⟩ := asL_mem.mp hq
  rw [h2]
  exact h.2.2 _ _ h1
/-- no long begins just before place i -/
def nolong (ls : List (Option Value)) (i : Nat) : Bool := match i with
  | 0 => true
  | j + 1 => match ls[j]? with
    | some (some (.long _)) => false
    | some (some (.double _)) => false
    | _ => true
theorem lvh_st1 {cx : CX} {lsa : Array Slot} {nL i : Nat} {ls : List (Option Value)} {w : Value} (hn : nolong ls i = true) (h : lv_has lsa nL ((i, rv cx w) :: (asL cx ls).filter (fun q => !(q.1 == i) && !(q.1 + 1 == i && q.2.category == 2)))) : lvh cx lsa nL (ls.set i (some w)) := by
  refine ⟨h.1, h.2.1, fun j v hj => ?_⟩
  by_cases hji : j = i
  · subst hji
    rw [List.getElem?_set] at hj
    simp only [if_true] at hj
    split at hj
    · cases hj
      exact h.2.2 (j, rv cx w) List.mem_cons_self
    · cases hj
  · rw [List.getElem?_set_ne (Ne.symm hji)] at hj
    refine h.2.2 (j, rv cx v) (List.mem_cons_of_mem _ (List.mem_filter.mpr ⟨asL_mem.mpr ⟨v, hj, rfl⟩, ?_⟩))
    simp only [Bool.and_eq_true, Bool.not_eq_true', beq_eq_false_iff_ne, ne_eq, Bool.and_eq_false_iff]
    refine ⟨hji, ?_⟩
    by_cases h1 : j + 1 = i
    · right
      subst h1
      rw [rv_cat]
      cases v <;> simp [Value.category] <;> simp [nolong, hj] at hn
    · exact Or.inl h1
theorem lvh_st2 {cx : CX} {lsa : Array Slot} {nL i : Nat} {ls : List (Option Value)} {w : Value} (hn : nolong ls i = true) (h : lv_has lsa nL ((i, rv cx w) :: (asL cx ls).filter (fun q => !(q.1 == i) && (!(q.1 == i + 1) && !(q.1 + 1 == i && q.2.category == 2))))) : lvh cx lsa nL ((ls.set i (some w)).set (i + 1) none) := by
  refine ⟨h.1, h.2.1, fun j v hj => ?_⟩
  by_cases hj1 : j = i + 1
  · subst hj1
    rw [List.getElem?_set] at hj
    simp only [if_true] at hj
    split at hj <;> cases hj
  · rw [List.getElem?_set_ne (Ne.symm hj1)] at hj
    by_cases hji : j = i
    · subst hji
      rw [List.getElem?_set] at hj
      simp only [if_true] at hj
      split at hj
      · cases hj
        exact h.2.2 (j, rv cx w) List.mem_cons_self
      · cases hj
    · rw [List.getElem?_set_ne (Ne.symm hji)] at hj
      refine h.2.2 (j, rv cx v) (List.mem_cons_of_mem _ (List.mem_filter.mpr ⟨asL_mem.mpr ⟨v, hj, rfl⟩, ?_⟩))
      simp only [Bool.and_eq_true, Bool.not_eq_true', beq_eq_false_iff_ne, ne_eq, Bool.and_eq_false_iff]
      refine ⟨hji, hj1, ?_⟩
      by_cases h1 : j + 1 = i
      · right
        subst h1
        rw [rv_cat]
        cases v <;> simp [Value.category] <;> simp [nolong, hj] at hn
      · exact Or.inl h1
def entL : List Value → Nat → List (Option Value)
  | [], n => List.replicate n none
  | v :: vs, n => if v.category = 2 then some v :: none :: entL vs (n - 2) else some v :: entL vs (n - 1)
theorem entL_args (cx : CX) : ∀ (as : List Value) (n k i : Nat) (v : Value), (entL as n)[i]? = some (some v) → (k + i, rv cx v) ∈ lv_args k (as.map (rv cx))
  | [], n, k, i, v, h => by
    simp only [entL, List.getElem?_replicate] at h
    split at h <;> cases h
  | a :: as, n, k, i, v, h => by
    by_cases hc : a.category = 2
    · simp only [entL, if_pos hc] at h
      simp only [List.map_cons, lv_args, rv_cat, if_pos hc]
      match i, h with
      | 0, h => cases h; exact List.mem_cons_self
      | 1, h => cases h
      | j + 2, h =>
        have := entL_args cx as (n - 2) (k + 2) j v (by simpa using h)
        rw [show k + (j + 2) = k + 2 + j by omega]
        exact List.mem_cons_of_mem _ this
    · simp only [entL, if_neg hc] at h
      simp only [List.map_cons, lv_args, rv_cat, if_neg hc]
      match i, h with
      | 0, h => cases h; exact List.mem_cons_self
      | j + 1, h =>
        have := entL_args cx as (n - 1) (k + 1) j v (by simpa using h)
        rw [show k + (j + 1) = k + 1 + j by omega]
        exact List.mem_cons_of_mem _ this
def sumW (as : List Value) : Nat := (as.map (fun v => v.category)).sum
theorem lg_sl_len (vs : List Value) : (lg_sl vs).length = sumW vs := by
  induction vs with
  | nil => rfl
  | cons v vs ih =>
    have e : (lg_sl (v :: vs)).length = v.category + (lg_sl vs).length := by
      have hc := lv_cat v
      by_cases h : v.category = 2
      · simp [lg_sl, h]; omega
      · have h1 : v.category = 1 := by omega
        simp [lg_sl, h1]; omega
    rw [e, ih]; simp [sumW]
theorem sumW_rv (cx : CX) (as : List Value) : sumW (as.map (rv cx)) = sumW as := by
  unfold sumW; rw [List.map_map]; congr 1; apply List.map_congr_left; intro v _; exact rv_cat cx v
/-- what stands still while a method runs -/
def JX (cx : CX) (y : MethodName) (cc : ByteArray) (nL : Nat) (rt : Option FieldType) (al : Bool) (hi : Nat) (p : Program) (s : State) (m : MethodId) (args : Array Value) (meth : Method) (c : Code) (A : Nat → Prop) : Prop :=
  p.tables.exec = Jvm.exec ∧ c.code = cc ∧ c.maxLocals = nL ∧ s.vm.findClass y.cls = some m.cls ∧ (∀ w ∈ Wd, w.before args s = true) ∧ meth.sig.returnType = rt ∧ meth.locks = false ∧ meth.name = y.name ∧ va_K (cx.1, cx.2.1) vwCl (tysOf cx) s ∧ EN cx A s s.heap ∧ (∀ q, s.heap.size ≤ q → A q) ∧ (al = true → ∀ o, hi ≤ o → o < 1000 → cx.2.2.2 o = s.heap.size + (o - hi))
def QJ {α : Type} (cx : CX) (lo hi : Nat) (A : Nat → Prop) (E : α → Option Value → GW → Mem → Prop) (a : α) : Array Value → State → Outcome → State → Prop := fun _ st oc t =>
  (∃ (v : Option Value) (g : GW) (M : Mem), oc = .returned (v.map (rv cx)) ∧ E a v g M ∧ va_P (cx.1, cx.2.1) vwCl (wl cx lo hi g M) t.heap ∧ va_D (fun _ => True) (wl cx lo hi g M)) ∧ va_F A st t
def JO {α : Type} (l : Launch) (cx : CX) (R : Room) (y : MethodName) (cc : ByteArray) (nL : Nat) (rt : Option FieldType) (mc ms : Nat) (al : Bool) (lo hi : Nat) (E : α → Option Value → GW → Mem → Prop) (g : GW) (ck sk pc : Nat) (ls : List (Option Value)) (st : List Value) (M : Mem) (x : Option α) : Prop :=
  ∀ a, x = some a → ∀ (p : Program) (e : Env) (s : State) (m : MethodId) (args : Array Value) (below : List Frame) (meth : Method) (c : Code) (H : Heap) (locs : List Loc) (A : Nat → Prop) (lsa : Array Slot),
    JX cx y cc nL rt al hi p s m args meth c A → va_P (cx.1, cx.2.1) vwCl (wl cx lo (hi + ck) g M) H → va_D A (wl cx lo (hi + ck) g M) → va_S A s.heap H locs → lvh cx lsa nL ls →
    W p l e R s m args below meth c H locs ck sk (MQ below (QJ cx lo (hi + mc) A E a) args s mc ms A) (F0 m pc lsa (st.map (rv cx)))
def PJ (cx : CX) (al : Bool) (lo hi : Nat) (g : GW) (as : List Value) (M : Mem) (sz : Nat) : Array Value → State → Prop := fun v U =>
  v = (as.map (rv cx)).toArray ∧ U.heap.size = sz ∧ va_P (cx.1, cx.2.1) vwCl (wl cx lo hi g M) U.heap ∧ va_D (fun _ => True) (wl cx lo hi g M) ∧ va_K (cx.1, cx.2.1) vwCl (tysOf cx) U ∧ EN cx (RG cx lo hi sz) U U.heap ∧ (al = true → ∀ o, hi ≤ o → o < 1000 → cx.2.2.2 o = sz + (o - hi))
def wsA (y : MethodName) (cc : ByteArray) (nL : Nat) (rt : Option FieldType) : List Cond := .code y cc nL rt :: Wd
def Con {α : Type} (l : Launch) (cx : CX) (rm : Room) (y : MethodName) (cc : ByteArray) (nL : Nat) (rt : Option FieldType) (mc ms : Nat) (al : Bool) (lo hi : Nat) (E : α → Option Value → GW → Mem → Prop) (g : GW) (as : List Value) (M : Mem) (x : Option α) : Prop :=
  ∀ a, x = some a → ∀ sz, Met l y (wsA y cc nL rt) rm (PJ cx al lo hi g as M sz) (QJ cx lo (hi + mc) (RG cx lo hi sz) E a) mc ms (RG cx lo hi sz)
theorem wl_DA {cx : CX} {lo hi : Nat} {g : GW} {M : Mem} {A : Nat → Prop} {sz : Nat} (h : va_D A (wl cx lo hi g M)) : va_D (RG cx lo hi sz) (wl cx lo hi g M) := by
  refine ⟨h.1, fun k q hk => ?_⟩
  obtain ⟨h1, h2⟩ := wl_inv hk
  rw [h2]
  exact Or.inl ⟨lo + k, by omega, h1, rfl⟩
set_option maxHeartbeats 1000000 in
theorem Con.of {α : Type} {l : Launch} {cx : CX} {rm : Room} {y : MethodName} {cc : ByteArray} {nL : Nat} {rt : Option FieldType} {mc ms : Nat} {al : Bool} {lo hi : Nat} {E : α → Option Value → GW → Mem → Prop} {g : GW} {as : List Value} {M : Mem} {x : Option α} {ls : List (Option Value)}
    (hy : plainName y.cls = true) (hl : entL as nL = ls) (hn : sumW as ≤ nL)
    (h : JO l cx rm y cc nL rt mc ms al lo hi E g 0 0 0 ls [] M x) : Con l cx rm y cc nL rt mc ms al lo hi E g as M x := by
  intro a hx sz
  refine Met.ofW (cc := cc) (maxL := nL) (ret := rt) (ws' := Wd) hy rfl ?_
  intro p e s m args below meth c s₁ B hml hv
  obtain ⟨rfl, hsz, hP, hD, hK, hE, hal⟩ := hv
  subst hsz
  have hts := atoms_spec (ws := wsA y cc nL rt) B.pre
  rw [lg_entry_eq]
  have hl0 := lv_entry (as.map (rv cx)) (n := nL) (by rw [lg_sl_len, sumW_rv]; exact hn)
  refine h a hx p e s m _ below meth c s.heap [] (RG cx lo hi s.heap.size) _ ⟨B.exec, B.bytes, hml, findClass_of_methodNamed B.named, fun w hw => hts w (List.mem_cons_of_mem _ hw), B.returns, B.notSynchronized, (name_of_methodNamed B.named B.method).1, hK, hE, fun q hq => Or.inr hq, hal⟩ hP (wl_DA hD) va_S.rf ?_
  subst hl
  refine ⟨hl0.1, hl0.2.1, fun i v hi => ?_⟩
  have := entL_args cx as nL 0 i v hi
  rw [Nat.zero_add] at this
  exact hl0.2.2 _ this

section JR
variable {α : Type} {l : Launch} {cx : CX} {R : Room} {y : MethodName} {cc : ByteArray} {nL : Nat} {rt : Option FieldType} {mc ms : Nat} {al : Bool} {lo hi : Nat} {E : α → Option Value → GW → Mem → Prop} {g : GW} {ck sk pc : Nat} {ls : List (Option Value)} {st : List Value} {M : Mem} {x : Option α}
theorem J_iadd {a b : Int32} (hd : decode cc pc = .ok (.iadd, 1)) (k : JO l cx R y cc nL rt mc ms al lo hi E g ck sk (pc + 1) ls (.int (a + b) :: st) M x) : JO l cx R y cc nL rt mc ms al lo hi E g ck sk pc ls (.int b :: .int a :: st) M x := by
  intro a ha p e s m args below meth c H locs A lsa X hP hD hS hL
  exact lv_iadd X.1 X.2.1 hd (k a ha p e s m args below meth c H locs A lsa X hP hD hS hL)
theorem J_isub {a b : Int32} (hd : decode cc pc = .ok (.isub, 1)) (k : JO l cx R y cc nL rt mc ms al lo hi E g ck sk (pc + 1) ls (.int (a - b) :: st) M x) : JO l cx R y cc nL rt mc ms al lo hi E g ck sk pc ls (.int b :: .int a :: st) M x := by
  intro a ha p e s m args below meth c H locs A lsa X hP hD hS hL
  exact lv_isub X.1 X.2.1 hd (k a ha p e s m args below meth c H locs A lsa X hP hD hS hL)
theorem J_imul {a b : Int32} (hd : decode cc pc = .ok (.imul, 1)) (k : JO l cx R y cc nL rt mc ms al lo hi E g ck sk (pc + 1) ls (.int (a * b) :: st) M x) : JO l cx R y cc nL rt mc ms al lo hi E g ck sk pc ls (.int b :: .int a :: st) M x := by
  intro a ha p e s m args below meth c H locs A lsa X hP hD hS hL
  exact lv_imul X.1 X.2.1 hd (k a ha p e s m args below meth c H locs A lsa X hP hD hS hL)
theorem J_iand {a b : Int32} (hd : decode cc pc = .ok (.iand, 1)) (k : JO l cx R y cc nL rt mc ms al lo hi E g ck sk (pc + 1) ls (.int (a &&& b) :: st) M x) : JO l cx R y cc nL rt mc ms al lo hi E g ck sk pc ls (.int b :: .int a :: st) M x := by
  intro a ha p e s m args below meth c H locs A lsa X hP hD hS hL
  exact lv_iand X.1 X.2.1 hd (k a ha p e s m args below meth c H locs A lsa X hP hD hS hL)
theorem J_ior {a b : Int32} (hd : decode cc pc = .ok (.ior, 1)) (k : JO l cx R y cc nL rt mc ms al lo hi E g ck sk (pc + 1) ls (.int (a ||| b) :: st) M x) : JO l cx R y cc nL rt mc ms al lo hi E g ck sk pc ls (.int b :: .int a :: st) M x := by
  intro a ha p e s m args below meth c H locs A lsa X hP hD hS hL
  exact lv_ior X.1 X.2.1 hd (k a ha p e s m args below meth c H locs A lsa X hP hD hS hL)
theorem J_ishl {a b : Int32} (hd : decode cc pc = .ok (.ishl, 1)) (k : JO l cx R y cc nL rt mc ms al lo hi E g ck sk (pc + 1) ls (.int (a <<< (b &&& 31)) :: st) M x) : JO l cx R y cc nL rt mc ms al lo hi E g ck sk pc ls (.int b :: .int a :: st) M x := by
  intro a ha p e s m args below meth c H locs A lsa X hP hD hS hL
  exact lv_ishl X.1 X.2.1 hd (k a ha p e s m args below meth c H locs A lsa X hP hD hS hL)
theorem J_ishr {a b : Int32} (hd : decode cc pc = .ok (.ishr, 1)) (k : JO l cx R y cc nL rt mc ms al lo hi E g ck sk (pc + 1) ls (.int (a >>> (b &&& 31)) :: st) M x) : JO l cx R y cc nL rt mc ms al lo hi E g ck sk pc ls (.int b :: .int a :: st) M x := by
  intro a ha p e s m args below meth c H locs A lsa X hP hD hS hL
  exact lv_ishr X.1 X.2.1 hd (k a ha p e s m args below meth c H locs A lsa X hP hD hS hL)
theorem J_ladd {a b : Int64} (hd : decode cc pc = .ok (.ladd, 1)) (k : JO l cx R y cc nL rt mc ms al lo hi E g ck sk (pc + 1) ls (.long (a + b) :: st) M x) : JO l cx R y cc nL rt mc ms al lo hi E g ck sk pc ls (.long b :: .long a :: st) M x := by
  intro a ha p e s m args below meth c H locs A lsa X hP hD hS hL
  exact lv_ladd X.1 X.2.1 hd (k a ha p e s m args below meth c H locs A lsa X hP hD hS hL)
theorem J_lsub {a b : Int64} (hd : decode cc pc = .ok (.lsub, 1)) (k : JO l cx R y cc nL rt mc ms al lo hi E g ck sk (pc + 1) ls (.long (a - b) :: st) M x) : JO l cx R y cc nL rt mc ms al lo hi E g ck sk pc ls (.long b :: .long a :: st) M x := by
  intro a ha p e s m args below meth c H locs A lsa X hP hD hS hL
  exact lv_lsub X.1 X.2.1 hd (k a ha p e s m args below meth c H locs A lsa X hP hD hS hL)
theorem J_lmul {a b : Int64} (hd : decode cc pc = .ok (.lmul, 1)) (k : JO l cx R y cc nL rt mc ms al lo hi E g ck sk (pc + 1) ls (.long (a * b) :: st) M x) : JO l cx R y cc nL rt mc ms al lo hi E g ck sk pc ls (.long b :: .long a :: st) M x := by
  intro a ha p e s m args below meth c H locs A lsa X hP hD hS hL
  exact lv_lmul X.1 X.2.1 hd (k a ha p e s m args below meth c H locs A lsa X hP hD hS hL)
theorem J_land {a b : Int64} (hd : decode cc pc = .ok (.land, 1)) (k : JO l cx R y cc nL rt mc ms al lo hi E g ck sk (pc + 1) ls (.long (a &&& b) :: st) M x) : JO l cx R y cc nL rt mc ms al lo hi E g ck sk pc ls (.long b :: .long a :: st) M x := by
  intro a ha p e s m args below meth c H locs A lsa X hP hD hS hL
  exact lv_land X.1 X.2.1 hd (k a ha p e s m args below meth c H locs A lsa X hP hD hS hL)
theorem J_ineg {a : Int32} (hd : decode cc pc = .ok (.ineg, 1)) (k : JO l cx R y cc nL rt mc ms al lo hi E g ck sk (pc + 1) ls (.int (-a) :: st) M x) : JO l cx R y cc nL rt mc ms al lo hi E g ck sk pc ls (.int a :: st) M x := by
  intro a ha p e s m args below meth c H locs A lsa X hP hD hS hL
  exact lv_ineg X.1 X.2.1 hd (k a ha p e s m args below meth c H locs A lsa X hP hD hS hL)
theorem J_lshr {a : Int64} {b : Int32} (hd : decode cc pc = .ok (.lshr, 1)) (k : JO l cx R y cc nL rt mc ms al lo hi E g ck sk (pc + 1) ls (.long (a >>> (b.toInt64 &&& 63)) :: st) M x) : JO l cx R y cc nL rt mc ms al lo hi E g ck sk pc ls (.int b :: .long a :: st) M x := by
  intro a ha p e s m args below meth c H locs A lsa X hP hD hS hL
  exact lv_lshr X.1 X.2.1 hd rfl (k a ha p e s m args below meth c H locs A lsa X hP hD hS hL)
theorem J_i2l {a : Int32} (hd : decode cc pc = .ok (.i2l, 1)) (k : JO l cx R y cc nL rt mc ms al lo hi E g ck sk (pc + 1) ls (.long a.toInt64 :: st) M x) : JO l cx R y cc nL rt mc ms al lo hi E g ck sk pc ls (.int a :: st) M x := by
  intro a ha p e s m args below meth c H locs A lsa X hP hD hS hL
  exact lv_i2l X.1 X.2.1 hd rfl (k a ha p e s m args below meth c H locs A lsa X hP hD hS hL)
theorem J_l2i {a : Int64} (hd : decode cc pc = .ok (.l2i, 1)) (k : JO l cx R y cc nL rt mc ms al lo hi E g ck sk (pc + 1) ls (.int a.toInt32 :: st) M x) : JO l cx R y cc nL rt mc ms al lo hi E g ck sk pc ls (.long a :: st) M x := by
  intro a ha p e s m args below meth c H locs A lsa X hP hD hS hL
  exact lv_l2i X.1 X.2.1 hd rfl (k a ha p e s m args below meth c H locs A lsa X hP hD hS hL)
theorem J_i2b {a : Int32} (hd : decode cc pc = .ok (.i2b, 1)) (k : JO l cx R y cc nL rt mc ms al lo hi E g ck sk (pc + 1) ls (.int a.toInt8.toInt32 :: st) M x) : JO l cx R y cc nL rt mc ms al lo hi E g ck sk pc ls (.int a :: st) M x := by
  intro a ha p e s m args below meth c H locs A lsa X hP hD hS hL
  exact lv_i2b X.1 X.2.1 hd rfl (k a ha p e s m args below meth c H locs A lsa X hP hD hS hL)
theorem J_lcmp {a b : Int64} (hd : decode cc pc = .ok (.lcmp, 1)) (k : JO l cx R y cc nL rt mc ms al lo hi E g ck sk (pc + 1) ls (.int (lg_cmp a b) :: st) M x) : JO l cx R y cc nL rt mc ms al lo hi E g ck sk pc ls (.long b :: .long a :: st) M x := by
  intro a ha p e s m args below meth c H locs A lsa X hP hD hS hL
  exact W.lcmp X.1 X.2.1 hd (k a ha p e s m args below meth c H locs A lsa X hP hD hS hL)
theorem J_dup_i {a : Int32} (hd : decode cc pc = .ok (.dup, 1)) (k : JO l cx R y cc nL rt mc ms al lo hi E g ck sk (pc + 1) ls (.int a :: .int a :: st) M x) : JO l cx R y cc nL rt mc ms al lo hi E g ck sk pc ls (.int a :: st) M x := by
  intro a ha p e s m args below meth c H locs A lsa X hP hD hS hL
  exact lv_dup X.1 X.2.1 hd rfl (k a ha p e s m args below meth c H locs A lsa X hP hD hS hL)
theorem J_dup_r {a : Nat} (hd : decode cc pc = .ok (.dup, 1)) (k : JO l cx R y cc nL rt mc ms al lo hi E g ck sk (pc + 1) ls (.ref a :: .ref a :: st) M x) : JO l cx R y cc nL rt mc ms al lo hi E g ck sk pc ls (.ref a :: st) M x := by
  intro a ha p e s m args below meth c H locs A lsa X hP hD hS hL
  exact lv_dup X.1 X.2.1 hd rfl (k a ha p e s m args below meth c H locs A lsa X hP hD hS hL)
theorem J_pop_i {a : Int32} (hd : decode cc pc = .ok (.pop, 1)) (k : JO l cx R y cc nL rt mc ms al lo hi E g ck sk (pc + 1) ls st M x) : JO l cx R y cc nL rt mc ms al lo hi E g ck sk pc ls (.int a :: st) M x := by
  intro a ha p e s m args below meth c H locs A lsa X hP hD hS hL
  exact lv_pop X.1 X.2.1 hd rfl (k a ha p e s m args below meth c H locs A lsa X hP hD hS hL)
theorem J_pop_r {a : Nat} (hd : decode cc pc = .ok (.pop, 1)) (k : JO l cx R y cc nL rt mc ms al lo hi E g ck sk (pc + 1) ls st M x) : JO l cx R y cc nL rt mc ms al lo hi E g ck sk pc ls (.ref a :: st) M x := by
  intro a ha p e s m args below meth c H locs A lsa X hP hD hS hL
  exact lv_pop X.1 X.2.1 hd rfl (k a ha p e s m args below meth c H locs A lsa X hP hD hS hL)
theorem J_iconst {n : Int} {v : Int32} (hd : decode cc pc = .ok (.iconst n, 1)) (hv : Int32.ofInt n = v) (k : JO l cx R y cc nL rt mc ms al lo hi E g ck sk (pc + 1) ls (.int v :: st) M x) : JO l cx R y cc nL rt mc ms al lo hi E g ck sk pc ls st M x := by
  intro a ha p e s m args below meth c H locs A lsa X hP hD hS hL
  exact lv_iconst X.1 X.2.1 hd hv (k a ha p e s m args below meth c H locs A lsa X hP hD hS hL)
theorem J_bipush {n : Int} {v : Int32} (hd : decode cc pc = .ok (.bipush n, 2)) (hv : (Int8.ofInt n).toInt32 = v) (k : JO l cx R y cc nL rt mc ms al lo hi E g ck sk (pc + 2) ls (.int v :: st) M x) : JO l cx R y cc nL rt mc ms al lo hi E g ck sk pc ls st M x := by
  intro a ha p e s m args below meth c H locs A lsa X hP hD hS hL
  exact lv_bipush X.1 X.2.1 hd hv (k a ha p e s m args below meth c H locs A lsa X hP hD hS hL)
theorem J_sipush {n : Int} {v : Int32} (hd : decode cc pc = .ok (.sipush n, 3)) (hv : (Int16.ofInt n).toInt32 = v) (k : JO l cx R y cc nL rt mc ms al lo hi E g ck sk (pc + 3) ls (.int v :: st) M x) : JO l cx R y cc nL rt mc ms al lo hi E g ck sk pc ls st M x := by
  intro a ha p e s m args below meth c H locs A lsa X hP hD hS hL
  exact lv_sipush X.1 X.2.1 hd hv (k a ha p e s m args below meth c H locs A lsa X hP hD hS hL)
theorem J_lconst {n : Fin 2} {v : Int64} (hd : decode cc pc = .ok (.lconst n, 1)) (hv : Int64.ofNat (n : Nat) = v) (k : JO l cx R y cc nL rt mc ms al lo hi E g ck sk (pc + 1) ls (.long v :: st) M x) : JO l cx R y cc nL rt mc ms al lo hi E g ck sk pc ls st M x := by
  intro a ha p e s m args below meth c H locs A lsa X hP hD hS hL
  exact lv_lconst X.1 X.2.1 hd hv (k a ha p e s m args below meth c H locs A lsa X hP hD hS hL)
theorem J_ldc {n : Nat} {v : Int32} (hd : decode cc pc = .ok (.ldc n, 2)) (hw : Cond.constant y.cls n v ∈ Wd) (k : JO l cx R y cc nL rt mc ms al lo hi E g ck sk (pc + 2) ls (.int v :: st) M x) : JO l cx R y cc nL rt mc ms al lo hi E g ck sk pc ls st M x := by
  intro a ha p e s m args below meth c H locs A lsa X hP hD hS hL
  exact lv_ldc X.1 X.2.1 X.2.2.2.1 (X.2.2.2.2.1 _ hw) hd (k a ha p e s m args below meth c H locs A lsa X hP hD hS hL)
theorem J_ldcw {n : Nat} {v : Int32} (hd : decode cc pc = .ok (.ldc_w n, 3)) (hw : Cond.constant y.cls n v ∈ Wd) (k : JO l cx R y cc nL rt mc ms al lo hi E g ck sk (pc + 3) ls (.int v :: st) M x) : JO l cx R y cc nL rt mc ms al lo hi E g ck sk pc ls st M x := by
  intro a ha p e s m args below meth c H locs A lsa X hP hD hS hL
  exact lv_ldcw X.1 X.2.1 X.2.2.2.1 (X.2.2.2.2.1 _ hw) hd (k a ha p e s m args below meth c H locs A lsa X hP hD hS hL)
theorem J_ldc2 {n : Nat} {v : Int64} (hd : decode cc pc = .ok (.ldc2_w n, 3)) (hw : Cond.constantLong y.cls n v ∈ Wd) (k : JO l cx R y cc nL rt mc ms al lo hi E g ck sk (pc + 3) ls (.long v :: st) M x) : JO l cx R y cc nL rt mc ms al lo hi E g ck sk pc ls st M x := by
  intro a ha p e s m args below meth c H locs A lsa X hP hD hS hL
  exact lv_ldc2 X.1 X.2.1 X.2.2.2.1 (X.2.2.2.2.1 _ hw) hd (k a ha p e s m args below meth c H locs A lsa X hP hD hS hL)
theorem J_ldcS {n : Nat} {i : Nat} (hd : decode cc pc = .ok (.ldc n, 2)) (hi4 : i < 4) (ho : sOwn i = y.cls) (hi5 : sIdx i = n) (k : JO l cx R y cc nL rt mc ms al lo hi E g ck sk (pc + 2) ls (.ref (SO + i) :: st) M x) : JO l cx R y cc nL rt mc ms al lo hi E g ck sk pc ls st M x := by
  intro a ha p e s m args below meth c H locs A lsa X hP hD hS hL
  exact va_ldcS X.1 X.2.1 X.2.2.2.1 (by have h := X.2.2.2.2.2.2.2.2.2.1.2.1 i hi4; rw [ho, hi5] at h; exact h) hd (k a ha p e s m args below meth c H locs A lsa X hP hD hS hL)
theorem J_ild0 {v : Int32} (hd : decode cc pc = .ok (.iload_n 0, 1)) (k : JO l cx R y cc nL rt mc ms al lo hi E g ck sk (pc + 1) (some (.int v) :: ls) (.int v :: st) M x) : JO l cx R y cc nL rt mc ms al lo hi E g ck sk pc (some (.int v) :: ls) st M x := by
  intro a ha p e s m args below meth c H locs A lsa X hP hD hS hL
  exact lv_iload_n (i := 0) X.1 X.2.1 hd rfl (hL.2.2 0 _ rfl) (k a ha p e s m args below meth c H locs A lsa X hP hD hS hL)
theorem J_ild1 {a0 : Option Value} {v : Int32} (hd : decode cc pc = .ok (.iload_n 1, 1)) (k : JO l cx R y cc nL rt mc ms al lo hi E g ck sk (pc + 1) (a0 :: some (.int v) :: ls) (.int v :: st) M x) : JO l cx R y cc nL rt mc ms al lo hi E g ck sk pc (a0 :: some (.int v) :: ls) st M x := by
  intro a ha p e s m args below meth c H locs A lsa X hP hD hS hL
  exact lv_iload_n (i := 1) X.1 X.2.1 hd rfl (hL.2.2 1 _ rfl) (k a ha p e s m args below meth c H locs A lsa X hP hD hS hL)
theorem J_ild2 {a0 a1 : Option Value} {v : Int32} (hd : decode cc pc = .ok (.iload_n 2, 1)) (k : JO l cx R y cc nL rt mc ms al lo hi E g ck sk (pc + 1) (a0 :: a1 :: some (.int v) :: ls) (.int v :: st) M x) : JO l cx R y cc nL rt mc ms al lo hi E g ck sk pc (a0 :: a1 :: some (.int v) :: ls) st M x := by
  intro a ha p e s m args below meth c H locs A lsa X hP hD hS hL
  exact lv_iload_n (i := 2) X.1 X.2.1 hd rfl (hL.2.2 2 _ rfl) (k a ha p e s m args below meth c H locs A lsa X hP hD hS hL)
theorem J_ild3 {a0 a1 a2 : Option Value} {v : Int32} (hd : decode cc pc = .ok (.iload_n 3, 1)) (k : JO l cx R y cc nL rt mc ms al lo hi E g ck sk (pc + 1) (a0 :: a1 :: a2 :: some (.int v) :: ls) (.int v :: st) M x) : JO l cx R y cc nL rt mc ms al lo hi E g ck sk pc (a0 :: a1 :: a2 :: some (.int v) :: ls) st M x := by
  intro a ha p e s m args below meth c H locs A lsa X hP hD hS hL
  exact lv_iload_n (i := 3) X.1 X.2.1 hd rfl (hL.2.2 3 _ rfl) (k a ha p e s m args below meth c H locs A lsa X hP hD hS hL)
theorem J_ild4 {a0 a1 a2 a3 : Option Value} {v : Int32} (hd : decode cc pc = .ok (.iload 4, 2)) (k : JO l cx R y cc nL rt mc ms al lo hi E g ck sk (pc + 2) (a0 :: a1 :: a2 :: a3 :: some (.int v) :: ls) (.int v :: st) M x) : JO l cx R y cc nL rt mc ms al lo hi E g ck sk pc (a0 :: a1 :: a2 :: a3 :: some (.int v) :: ls) st M x := by
  intro a ha p e s m args below meth c H locs A lsa X hP hD hS hL
  exact lv_iload (i := 4) X.1 X.2.1 hd (hL.2.2 4 _ rfl) (k a ha p e s m args below meth c H locs A lsa X hP hD hS hL)
theorem J_ild5 {a0 a1 a2 a3 a4 : Option Value} {v : Int32} (hd : decode cc pc = .ok (.iload 5, 2)) (k : JO l cx R y cc nL rt mc ms al lo hi E g ck sk (pc + 2) (a0 :: a1 :: a2 :: a3 :: a4 :: some (.int v) :: ls) (.int v :: st) M x) : JO l cx R y cc nL rt mc ms al lo hi E g ck sk pc (a0 :: a1 :: a2 :: a3 :: a4 :: some (.int v) :: ls) st M x := by
  intro a ha p e s m args below meth c H locs A lsa X hP hD hS hL
  exact lv_iload (i := 5) X.1 X.2.1 hd (hL.2.2 5 _ rfl) (k a ha p e s m args below meth c H locs A lsa X hP hD hS hL)
theorem J_ild6 {a0 a1 a2 a3 a4 a5 : Option Value} {v : Int32} (hd : decode cc pc = .ok (.iload 6, 2)) (k : JO l cx R y cc nL rt mc ms al lo hi E g ck sk (pc + 2) (a0 :: a1 :: a2 :: a3 :: a4 :: a5 :: some (.int v) :: ls) (.int v :: st) M x) : JO l cx R y cc nL rt mc ms al lo hi E g ck sk pc (a0 :: a1 :: a2 :: a3 :: a4 :: a5 :: some (.int v) :: ls) st M x := by
  intro a ha p e s m args below meth c H locs A lsa X hP hD hS hL
  exact lv_iload (i := 6) X.1 X.2.1 hd (hL.2.2 6 _ rfl) (k a ha p e s m args below meth c H locs A lsa X hP hD hS hL)
theorem J_ild7 {a0 a1 a2 a3 a4 a5 a6 : Option Value} {v : Int32} (hd : decode cc pc = .ok (.iload 7, 2)) (k : JO l cx R y cc nL rt mc ms al lo hi E g ck sk (pc + 2) (a0 :: a1 :: a2 :: a3 :: a4 :: a5 :: a6 :: some (.int v) :: ls) (.int v :: st) M x) : JO l cx R y cc nL rt mc ms al lo hi E g ck sk pc (a0 :: a1 :: a2 :: a3 :: a4 :: a5 :: a6 :: some (.int v) :: ls) st M x := by
  intro a ha p e s m args below meth c H locs A lsa X hP hD hS hL
  exact lv_iload (i := 7) X.1 X.2.1 hd (hL.2.2 7 _ rfl) (k a ha p e s m args below meth c H locs A lsa X hP hD hS hL)
theorem J_ild8 {a0 a1 a2 a3 a4 a5 a6 a7 : Option Value} {v : Int32} (hd : decode cc pc = .ok (.iload 8, 2)) (k : JO l cx R y cc nL rt mc ms al lo hi E g ck sk (pc + 2) (a0 :: a1 :: a2 :: a3 :: a4 :: a5 :: a6 :: a7 :: some (.int v) :: ls) (.int v :: st) M x) : JO l cx R y cc nL rt mc ms al lo hi E g ck sk pc (a0 :: a1 :: a2 :: a3 :: a4 :: a5 :: a6 :: a7 :: some (.int v) :: ls) st M x := by
  intro a ha p e s m args below meth c H locs A lsa X hP hD hS hL
  exact lv_iload (i := 8) X.1 X.2.1 hd (hL.2.2 8 _ rfl) (k a ha p e s m args below meth c H locs A lsa X hP hD hS hL)
theorem J_ild9 {a0 a1 a2 a3 a4 a5 a6 a7 a8 : Option Value} {v : Int32} (hd : decode cc pc = .ok (.iload 9, 2)) (k : JO l cx R y cc nL rt mc ms al lo hi E g ck sk (pc + 2) (a0 :: a1 :: a2 :: a3 :: a4 :: a5 :: a6 :: a7 :: a8 :: some (.int v) :: ls) (.int v :: st) M x) : JO l cx R y cc nL rt mc ms al lo hi E g ck sk pc (a0 :: a1 :: a2 :: a3 :: a4 :: a5 :: a6 :: a7 :: a8 :: some (.int v) :: ls) st M x := by
  intro a ha p e s m args below meth c H locs A lsa X hP hD hS hL
  exact lv_iload (i := 9) X.1 X.2.1 hd (hL.2.2 9 _ rfl) (k a ha p e s m args below meth c H locs A lsa X hP hD hS hL)
theorem J_ild10 {a0 a1 a2 a3 a4 a5 a6 a7 a8 a9 : Option Value} {v : Int32} (hd : decode cc pc = .ok (.iload 10, 2)) (k : JO l cx R y cc nL rt mc ms al lo hi E g ck sk (pc + 2) (a0 :: a1 :: a2 :: a3 :: a4 :: a5 :: a6 :: a7 :: a8 :: a9 :: some (.int v) :: ls) (.int v :: st) M x) : JO l cx R y cc nL rt mc ms al lo hi E g ck sk pc (a0 :: a1 :: a2 :: a3 :: a4 :: a5 :: a6 :: a7 :: a8 :: a9 :: some (.int v) :: ls) st M x := by
  intro a ha p e s m args below meth c H locs A lsa X hP hD hS hL
  exact lv_iload (i := 10) X.1 X.2.1 hd (hL.2.2 10 _ rfl) (k a ha p e s m args below meth c H locs A lsa X hP hD hS hL)
theorem J_ild11 {a0 a1 a2 a3 a4 a5 a6 a7 a8 a9 a10 : Option Value} {v : Int32} (hd : decode cc pc = .ok (.iload 11, 2)) (k : JO l cx R y cc nL rt mc ms al lo hi E g ck sk (pc + 2) (a0 :: a1 :: a2 :: a3 :: a4 :: a5 :: a6 :: a7 :: a8 :: a9 :: a10 :: some (.int v) :: ls) (.int v :: st) M x) : JO l cx R y cc nL rt mc ms al lo hi E g ck sk pc (a0 :: a1 :: a2 :: a3 :: a4 :: a5 :: a6 :: a7 :: a8 :: a9 :: a10 :: some (.int v) :: ls) st M x := by
  intro a ha p e s m args below meth c H locs A lsa X hP hD hS hL
  exact lv_iload (i := 11) X.1 X.2.1 hd (hL.2.2 11 _ rfl) (k a ha p e s m args below meth c H locs A lsa X hP hD hS hL)
theorem J_ald0 {v : Nat} (hd : decode cc pc = .ok (.aload_n 0, 1)) (k : JO l cx R y cc nL rt mc ms al lo hi E g ck sk (pc + 1) (some (.ref v) :: ls) (.ref v :: st) M x) : JO l cx R y cc nL rt mc ms al lo hi E g ck sk pc (some (.ref v) :: ls) st M x := by
  intro a ha p e s m args below meth c H locs A lsa X hP hD hS hL
  exact lv_aload_n (i := 0) X.1 X.2.1 hd rfl (hL.2.2 0 _ rfl) (k a ha p e s m args below meth c H locs A lsa X hP hD hS hL)
theorem J_ald1 {a0 : Option Value} {v : Nat} (hd : decode cc pc = .ok (.aload_n 1, 1)) (k : JO l cx R y cc nL rt mc ms al lo hi E g ck sk (pc + 1) (a0 :: some (.ref v) :: ls) (.ref v :: st) M x) : JO l cx R y cc nL rt mc ms al lo hi E g ck sk pc (a0 :: some (.ref v) :: ls) st M x := by
  intro a ha p e s m args below meth c H locs A lsa X hP hD hS hL
  exact lv_aload_n (i := 1) X.1 X.2.1 hd rfl (hL.2.2 1 _ rfl) (k a ha p e s m args below meth c H locs A lsa X hP hD hS hL)
theorem J_ald2 {a0 a1 : Option Value} {v : Nat} (hd : decode cc pc = .ok (.aload_n 2, 1)) (k : JO l cx R y cc nL rt mc ms al lo hi E g ck sk (pc + 1) (a0 :: a1 :: some (.ref v) :: ls) (.ref v :: st) M x) : JO l cx R y cc nL rt mc ms al lo hi E g ck sk pc (a0 :: a1 :: some (.ref v) :: ls) st M x := by
  intro a ha p e s m args below meth c H locs A lsa X hP hD hS hL
  exact lv_aload_n (i := 2) X.1 X.2.1 hd rfl (hL.2.2 2 _ rfl) (k a ha p e s m args below meth c H locs A lsa X hP hD hS hL)
theorem J_ald3 {a0 a1 a2 : Option Value} {v : Nat} (hd : decode cc pc = .ok (.aload_n 3, 1)) (k : JO l cx R y cc nL rt mc ms al lo hi E g ck sk (pc + 1) (a0 :: a1 :: a2 :: some (.ref v) :: ls) (.ref v :: st) M x) : JO l cx R y cc nL rt mc ms al lo hi E g ck sk pc (a0 :: a1 :: a2 :: some (.ref v) :: ls) st M x := by
  intro a ha p e s m args below meth c H locs A lsa X hP hD hS hL
  exact lv_aload_n (i := 3) X.1 X.2.1 hd rfl (hL.2.2 3 _ rfl) (k a ha p e s m args below meth c H locs A lsa X hP hD hS hL)
theorem J_ald4 {a0 a1 a2 a3 : Option Value} {v : Nat} (hd : decode cc pc = .ok (.aload 4, 2)) (k : JO l cx R y cc nL rt mc ms al lo hi E g ck sk (pc + 2) (a0 :: a1 :: a2 :: a3 :: some (.ref v) :: ls) (.ref v :: st) M x) : JO l cx R y cc nL rt mc ms al lo hi E g ck sk pc (a0 :: a1 :: a2 :: a3 :: some (.ref v) :: ls) st M x := by
  intro a ha p e s m args below meth c H locs A lsa X hP hD hS hL
  exact lv_aload (i := 4) X.1 X.2.1 hd (hL.2.2 4 _ rfl) (k a ha p e s m args below meth c H locs A lsa X hP hD hS hL)
theorem J_ald5 {a0 a1 a2 a3 a4 : Option Value} {v : Nat} (hd : decode cc pc = .ok (.aload 5, 2)) (k : JO l cx R y cc nL rt mc ms al lo hi E g ck sk (pc + 2) (a0 :: a1 :: a2 :: a3 :: a4 :: some (.ref v) :: ls) (.ref v :: st) M x) : JO l cx R y cc nL rt mc ms al lo hi E g ck sk pc (a0 :: a1 :: a2 :: a3 :: a4 :: some (.ref v) :: ls) st M x := by
  intro a ha p e s m args below meth c H locs A lsa X hP hD hS hL
  exact lv_aload (i := 5) X.1 X.2.1 hd (hL.2.2 5 _ rfl) (k a ha p e s m args below meth c H locs A lsa X hP hD hS hL)
theorem J_ald6 {a0 a1 a2 a3 a4 a5 : Option Value} {v : Nat} (hd : decode cc pc = .ok (.aload 6, 2)) (k : JO l cx R y cc nL rt mc ms al lo hi E g ck sk (pc + 2) (a0 :: a1 :: a2 :: a3 :: a4 :: a5 :: some (.ref v) :: ls) (.ref v :: st) M x) : JO l cx R y cc nL rt mc ms al lo hi E g ck sk pc (a0 :: a1 :: a2 :: a3 :: a4 :: a5 :: some (.ref v) :: ls) st M x := by
  intro a ha p e s m args below meth c H locs A lsa X hP hD hS hL
  exact lv_aload (i := 6) X.1 X.2.1 hd (hL.2.2 6 _ rfl) (k a ha p e s m args below meth c H locs A lsa X hP hD hS hL)
theorem J_ald7 {a0 a1 a2 a3 a4 a5 a6 : Option Value} {v : Nat} (hd : decode cc pc = .ok (.aload 7, 2)) (k : JO l cx R y cc nL rt mc ms al lo hi E g ck sk (pc + 2) (a0 :: a1 :: a2 :: a3 :: a4 :: a5 :: a6 :: some (.ref v) :: ls) (.ref v :: st) M x) : JO l cx R y cc nL rt mc ms al lo hi E g ck sk pc (a0 :: a1 :: a2 :: a3 :: a4 :: a5 :: a6 :: some (.ref v) :: ls) st M x := by
  intro a ha p e s m args below meth c H locs A lsa X hP hD hS hL
  exact lv_aload (i := 7) X.1 X.2.1 hd (hL.2.2 7 _ rfl) (k a ha p e s m args below meth c H locs A lsa X hP hD hS hL)
theorem J_ald8 {a0 a1 a2 a3 a4 a5 a6 a7 : Option Value} {v : Nat} (hd : decode cc pc = .ok (.aload 8, 2)) (k : JO l cx R y cc nL rt mc ms al lo hi E g ck sk (pc + 2) (a0 :: a1 :: a2 :: a3 :: a4 :: a5 :: a6 :: a7 :: some (.ref v) :: ls) (.ref v :: st) M x) : JO l cx R y cc nL rt mc ms al lo hi E g ck sk pc (a0 :: a1 :: a2 :: a3 :: a4 :: a5 :: a6 :: a7 :: some (.ref v) :: ls) st M x := by
  intro a ha p e s m args below meth c H locs A lsa X hP hD hS hL
  exact lv_aload (i := 8) X.1 X.2.1 hd (hL.2.2 8 _ rfl) (k a ha p e s m args below meth c H locs A lsa X hP hD hS hL)
theorem J_ald9 {a0 a1 a2 a3 a4 a5 a6 a7 a8 : Option Value} {v : Nat} (hd : decode cc pc = .ok (.aload 9, 2)) (k : JO l cx R y cc nL rt mc ms al lo hi E g ck sk (pc + 2) (a0 :: a1 :: a2 :: a3 :: a4 :: a5 :: a6 :: a7 :: a8 :: some (.ref v) :: ls) (.ref v :: st) M x) : JO l cx R y cc nL rt mc ms al lo hi E g ck sk pc (a0 :: a1 :: a2 :: a3 :: a4 :: a5 :: a6 :: a7 :: a8 :: some (.ref v) :: ls) st M x := by
  intro a ha p e s m args below meth c H locs A lsa X hP hD hS hL
  exact lv_aload (i := 9) X.1 X.2.1 hd (hL.2.2 9 _ rfl) (k a ha p e s m args below meth c H locs A lsa X hP hD hS hL)
theorem J_ald10 {a0 a1 a2 a3 a4 a5 a6 a7 a8 a9 : Option Value} {v : Nat} (hd : decode cc pc = .ok (.aload 10, 2)) (k : JO l cx R y cc nL rt mc ms al lo hi E g ck sk (pc + 2) (a0 :: a1 :: a2 :: a3 :: a4 :: a5 :: a6 :: a7 :: a8 :: a9 :: some (.ref v) :: ls) (.ref v :: st) M x) : JO l cx R y cc nL rt mc ms al lo hi E g ck sk pc (a0 :: a1 :: a2 :: a3 :: a4 :: a5 :: a6 :: a7 :: a8 :: a9 :: some (.ref v) :: ls) st M x := by
  intro a ha p e s m args below meth c H locs A lsa X hP hD hS hL
  exact lv_aload (i := 10) X.1 X.2.1 hd (hL.2.2 10 _ rfl) (k a ha p e s m args below meth c H locs A lsa X hP hD hS hL)
theorem J_ald11 {a0 a1 a2 a3 a4 a5 a6 a7 a8 a9 a10 : Option Value} {v : Nat} (hd : decode cc pc = .ok (.aload 11, 2)) (k : JO l cx R y cc nL rt mc ms al lo hi E g ck sk (pc + 2) (a0 :: a1 :: a2 :: a3 :: a4 :: a5 :: a6 :: a7 :: a8 :: a9 :: a10 :: some (.ref v) :: ls) (.ref v :: st) M x) : JO l cx R y cc nL rt mc ms al lo hi E g ck sk pc (a0 :: a1 :: a2 :: a3 :: a4 :: a5 :: a6 :: a7 :: a8 :: a9 :: a10 :: some (.ref v) :: ls) st M x := by
  intro a ha p e s m args below meth c H locs A lsa X hP hD hS hL
  exact lv_aload (i := 11) X.1 X.2.1 hd (hL.2.2 11 _ rfl) (k a ha p e s m args below meth c H locs A lsa X hP hD hS hL)
theorem J_lld0 {v : Int64} (hd : decode cc pc = .ok (.lload_n 0, 1)) (k : JO l cx R y cc nL rt mc ms al lo hi E g ck sk (pc + 1) (some (.long v) :: ls) (.long v :: st) M x) : JO l cx R y cc nL rt mc ms al lo hi E g ck sk pc (some (.long v) :: ls) st M x := by
  intro a ha p e s m args below meth c H locs A lsa X hP hD hS hL
  exact lv_lload_n (i := 0) X.1 X.2.1 hd rfl (hL.2.2 0 _ rfl) (k a ha p e s m args below meth c H locs A lsa X hP hD hS hL)
theorem J_lld1 {a0 : Option Value} {v : Int64} (hd : decode cc pc = .ok (.lload_n 1, 1)) (k : JO l cx R y cc nL rt mc ms al lo hi E g ck sk (pc + 1) (a0 :: some (.long v) :: ls) (.long v :: st) M x) : JO l cx R y cc nL rt mc ms al lo hi E g ck sk pc (a0 :: some (.long v) :: ls) st M x := by
  intro a ha p e s m args below meth c H locs A lsa X hP hD hS hL
  exact lv_lload_n (i := 1) X.1 X.2.1 hd rfl (hL.2.2 1 _ rfl) (k a ha p e s m args below meth c H locs A lsa X hP hD hS hL)
theorem J_lld2 {a0 a1 : Option Value} {v : Int64} (hd : decode cc pc = .ok (.lload_n 2, 1)) (k : JO l cx R y cc nL rt mc ms al lo hi E g ck sk (pc + 1) (a0 :: a1 :: some (.long v) :: ls) (.long v :: st) M x) : JO l cx R y cc nL rt mc ms al lo hi E g ck sk pc (a0 :: a1 :: some (.long v) :: ls) st M x := by
  intro a ha p e s m args below meth c H locs A lsa X hP hD hS hL
  exact lv_lload_n (i := 2) X.1 X.2.1 hd rfl (hL.2.2 2 _ rfl) (k a ha p e s m args below meth c H locs A lsa X hP hD hS hL)
theorem J_lld3 {a0 a1 a2 : Option Value} {v : Int64} (hd : decode cc pc = .ok (.lload_n 3, 1)) (k : JO l cx R y cc nL rt mc ms al lo hi E g ck sk (pc + 1) (a0 :: a1 :: a2 :: some (.long v) :: ls) (.long v :: st) M x) : JO l cx R y cc nL rt mc ms al lo hi E g ck sk pc (a0 :: a1 :: a2 :: some (.long v) :: ls) st M x := by
  intro a ha p e s m args below meth c H locs A lsa X hP hD hS hL
  exact lv_lload_n (i := 3) X.1 X.2.1 hd rfl (hL.2.2 3 _ rfl) (k a ha p e s m args below meth c H locs A lsa X hP hD hS hL)
theorem J_lld4 {a0 a1 a2 a3 : Option Value} {v : Int64} (hd : decode cc pc = .ok (.lload 4, 2)) (k : JO l cx R y cc nL rt mc ms al lo hi E g ck sk (pc + 2) (a0 :: a1 :: a2 :: a3 :: some (.long v) :: ls) (.long v :: st) M x) : JO l cx R y cc nL rt mc ms al lo hi E g ck sk pc (a0 :: a1 :: a2 :: a3 :: some (.long v) :: ls) st M x := by
  intro a ha p e s m args below meth c H locs A lsa X hP hD hS hL
  exact lv_lload (i := 4) X.1 X.2.1 hd (hL.2.2 4 _ rfl) (k a ha p e s m args below meth c H locs A lsa X hP hD hS hL)
theorem J_lld5 {a0 a1 a2 a3 a4 : Option Value} {v : Int64} (hd : decode cc pc = .ok (.lload 5, 2)) (k : JO l cx R y cc nL rt mc ms al lo hi E g ck sk (pc + 2) (a0 :: a1 :: a2 :: a3 :: a4 :: some (.long v) :: ls) (.long v :: st) M x) : JO l cx R y cc nL rt mc ms al lo hi E g ck sk pc (a0 :: a1 :: a2 :: a3 :: a4 :: some (.long v) :: ls) st M x := by
  intro a ha p e s m args below meth c H locs A lsa X hP hD hS hL
  exact lv_lload (i := 5) X.1 X.2.1 hd (hL.2.2 5 _ rfl) (k a ha p e s m args below meth c H locs A lsa X hP hD hS hL)
theorem J_lld6 {a0 a1 a2 a3 a4 a5 : Option Value} {v : Int64} (hd : decode cc pc = .ok (.lload 6, 2)) (k : JO l cx R y cc nL rt mc ms al lo hi E g ck sk (pc + 2) (a0 :: a1 :: a2 :: a3 :: a4 :: a5 :: some (.long v) :: ls) (.long v :: st) M x) : JO l cx R y cc nL rt mc ms al lo hi E g ck sk pc (a0 :: a1 :: a2 :: a3 :: a4 :: a5 :: some (.long v) :: ls) st M x := by
  intro a ha p e s m args below meth c H locs A lsa X hP hD hS hL
  exact lv_lload (i := 6) X.1 X.2.1 hd (hL.2.2 6 _ rfl) (k a ha p e s m args below meth c H locs A lsa X hP hD hS hL)
theorem J_lld7 {a0 a1 a2 a3 a4 a5 a6 : Option Value} {v : Int64} (hd : decode cc pc = .ok (.lload 7, 2)) (k : JO l cx R y cc nL rt mc ms al lo hi E g ck sk (pc + 2) (a0 :: a1 :: a2 :: a3 :: a4 :: a5 :: a6 :: some (.long v) :: ls) (.long v :: st) M x) : JO l cx R y cc nL rt mc ms al lo hi E g ck sk pc (a0 :: a1 :: a2 :: a3 :: a4 :: a5 :: a6 :: some (.long v) :: ls) st M x := by
  intro a ha p e s m args below meth c H locs A lsa X hP hD hS hL
  exact lv_lload (i := 7) X.1 X.2.1 hd (hL.2.2 7 _ rfl) (k a ha p e s m args below meth c H locs A lsa X hP hD hS hL)
theorem J_lld8 {a0 a1 a2 a3 a4 a5 a6 a7 : Option Value} {v : Int64} (hd : decode cc pc = .ok (.lload 8, 2)) (k : JO l cx R y cc nL rt mc ms al lo hi E g ck sk (pc + 2) (a0 :: a1 :: a2 :: a3 :: a4 :: a5 :: a6 :: a7 :: some (.long v) :: ls) (.long v :: st) M x) : JO l cx R y cc nL rt mc ms al lo hi E g ck sk pc (a0 :: a1 :: a2 :: a3 :: a4 :: a5 :: a6 :: a7 :: some (.long v) :: ls) st M x := by
  intro a ha p e s m args below meth c H locs A lsa X hP hD hS hL
  exact lv_lload (i := 8) X.1 X.2.1 hd (hL.2.2 8 _ rfl) (k a ha p e s m args below meth c H locs A lsa X hP hD hS hL)
theorem J_lld9 {a0 a1 a2 a3 a4 a5 a6 a7 a8 : Option Value} {v : Int64} (hd : decode cc pc = .ok (.lload 9, 2)) (k : JO l cx R y cc nL rt mc ms al lo hi E g ck sk (pc + 2) (a0 :: a1 :: a2 :: a3 :: a4 :: a5 :: a6 :: a7 :: a8 :: some (.long v) :: ls) (.long v :: st) M x) : JO l cx R y cc nL rt mc ms al lo hi E g ck sk pc (a0 :: a1 :: a2 :: a3 :: a4 :: a5 :: a6 :: a7 :: a8 :: some (.long v) :: ls) st M x := by
  intro a ha p e s m args below meth c H locs A lsa X hP hD hS hL
  exact lv_lload (i := 9) X.1 X.2.1 hd (hL.2.2 9 _ rfl) (k a ha p e s m args below meth c H locs A lsa X hP hD hS hL)
theorem J_lld10 {a0 a1 a2 a3 a4 a5 a6 a7 a8 a9 : Option Value} {v : Int64} (hd : decode cc pc = .ok (.lload 10, 2)) (k : JO l cx R y cc nL rt mc ms al lo hi E g ck sk (pc + 2) (a0 :: a1 :: a2 :: a3 :: a4 :: a5 :: a6 :: a7 :: a8 :: a9 :: some (.long v) :: ls) (.long v :: st) M x) : JO l cx R y cc nL rt mc ms al lo hi E g ck sk pc (a0 :: a1 :: a2 :: a3 :: a4 :: a5 :: a6 :: a7 :: a8 :: a9 :: some (.long v) :: ls) st M x := by
  intro a ha p e s m args below meth c H locs A lsa X hP hD hS hL
  exact lv_lload (i := 10) X.1 X.2.1 hd (hL.2.2 10 _ rfl) (k a ha p e s m args below meth c H locs A lsa X hP hD hS hL)
theorem J_lld11 {a0 a1 a2 a3 a4 a5 a6 a7 a8 a9 a10 : Option Value} {v : Int64} (hd : decode cc pc = .ok (.lload 11, 2)) (k : JO l cx R y cc nL rt mc ms al lo hi E g ck sk (pc + 2) (a0 :: a1 :: a2 :: a3 :: a4 :: a5 :: a6 :: a7 :: a8 :: a9 :: a10 :: some (.long v) :: ls) (.long v :: st) M x) : JO l cx R y cc nL rt mc ms al lo hi E g ck sk pc (a0 :: a1 :: a2 :: a3 :: a4 :: a5 :: a6 :: a7 :: a8 :: a9 :: a10 :: some (.long v) :: ls) st M x := by
  intro a ha p e s m args below meth c H locs A lsa X hP hD hS hL
  exact lv_lload (i := 11) X.1 X.2.1 hd (hL.2.2 11 _ rfl) (k a ha p e s m args below meth c H locs A lsa X hP hD hS hL)
theorem J_ist0 {b : Option Value} {v : Int32} (hd : decode cc pc = .ok (.istore_n 0, 1)) (hn : 0 < nL) (hg : nolong (b :: ls) 0 = true) (k : JO l cx R y cc nL rt mc ms al lo hi E g ck sk (pc + 1) (some (.int v) :: ls) st M x) : JO l cx R y cc nL rt mc ms al lo hi E g ck sk pc (b :: ls) (.int v :: st) M x := by
  intro a ha p e s m args below meth c H locs A lsa X hP hD hS hL
  exact lv_istore_n X.1 X.2.1 hd rfl (lvh_has hL) hn rfl (fun lsb hb => k a ha p e s m args below meth c H locs A lsb X hP hD hS (lvh_st1 (w := .int v) hg hb))
theorem J_ist1 {a0 : Option Value} {b : Option Value} {v : Int32} (hd : decode cc pc = .ok (.istore_n 1, 1)) (hn : 1 < nL) (hg : nolong (a0 :: b :: ls) 1 = true) (k : JO l cx R y cc nL rt mc ms al lo hi E g ck sk (pc + 1) (a0 :: some (.int v) :: ls) st M x) : JO l cx R y cc nL rt mc ms al lo hi E g ck sk pc (a0 :: b :: ls) (.int v :: st) M x := by
  intro a ha p e s m args below meth c H locs A lsa X hP hD hS hL
  exact lv_istore_n X.1 X.2.1 hd rfl (lvh_has hL) hn rfl (fun lsb hb => k a ha p e s m args below meth c H locs A lsb X hP hD hS (lvh_st1 (w := .int v) hg hb))
theorem J_ist2 {a0 a1 : Option Value} {b : Option Value} {v : Int32} (hd : decode cc pc = .ok (.istore_n 2, 1)) (hn : 2 < nL) (hg : nolong (a0 :: a1 :: b :: ls) 2 = true) (k : JO l cx R y cc nL rt mc ms al lo hi E g ck sk (pc + 1) (a0 :: a1 :: some (.int v) :: ls) st M x) : JO l cx R y cc nL rt mc ms al lo hi E g ck sk pc (a0 :: a1 :: b :: ls) (.int v :: st) M x := by
  intro a ha p e s m args below meth c H locs A lsa X hP hD hS hL
  exact lv_istore_n X.1 X.2.1 hd rfl (lvh_has hL) hn rfl (fun lsb hb => k a ha p e s m args below meth c H locs A lsb X hP hD hS (lvh_st1 (w := .int v) hg hb))
theorem J_ist3 {a0 a1 a2 : Option Value} {b : Option Value} {v : Int32} (hd : decode cc pc = .ok (.istore_n 3, 1)) (hn : 3 < nL) (hg : nolong (a0 :: a1 :: a2 :: b :: ls) 3 = true) (k : JO l cx R y cc nL rt mc ms al lo hi E g ck sk (pc + 1) (a0 :: a1 :: a2 :: some (.int v) :: ls) st M x) : JO l cx R y cc nL rt mc ms al lo hi E g ck sk pc (a0 :: a1 :: a2 :: b :: ls) (.int v :: st) M x := by
  intro a ha p e s m args below meth c H locs A lsa X hP hD hS hL
  exact lv_istore_n X.1 X.2.1 hd rfl (lvh_has hL) hn rfl (fun lsb hb => k a ha p e s m args below meth c H locs A lsb X hP hD hS (lvh_st1 (w := .int v) hg hb))
theorem J_ist4 {a0 a1 a2 a3 : Option Value} {b : Option Value} {v : Int32} (hd : decode cc pc = .ok (.istore 4, 2)) (hn : 4 < nL) (hg : nolong (a0 :: a1 :: a2 :: a3 :: b :: ls) 4 = true) (k : JO l cx R y cc nL rt mc ms al lo hi E g ck sk (pc + 2) (a0 :: a1 :: a2 :: a3 :: some (.int v) :: ls) st M x) : JO l cx R y cc nL rt mc ms al lo hi E g ck sk pc (a0 :: a1 :: a2 :: a3 :: b :: ls) (.int v :: st) M x := by
  intro a ha p e s m args below meth c H locs A lsa X hP hD hS hL
  exact lv_istore X.1 X.2.1 hd (lvh_has hL) hn rfl (fun lsb hb => k a ha p e s m args below meth c H locs A lsb X hP hD hS (lvh_st1 (w := .int v) hg hb))
theorem J_ist5 {a0 a1 a2 a3 a4 : Option Value} {b : Option Value} {v : Int32} (hd : decode cc pc = .ok (.istore 5, 2)) (hn : 5 < nL) (hg : nolong (a0 :: a1 :: a2 :: a3 :: a4 :: b :: ls) 5 = true) (k : JO l cx R y cc nL rt mc ms al lo hi E g ck sk (pc + 2) (a0 :: a1 :: a2 :: a3 :: a4 :: some (.int v) :: ls) st M x) : JO l cx R y cc nL rt mc ms al lo hi E g ck sk pc (a0 :: a1 :: a2 :: a3 :: a4 :: b :: ls) (.int v :: st) M x := by
  intro a ha p e s m args below meth c H locs A lsa X hP hD hS hL
  exact lv_istore X.1 X.2.1 hd (lvh_has hL) hn rfl (fun lsb hb => k a ha p e s m args below meth c H locs A lsb X hP hD hS (lvh_st1 (w := .int v) hg hb))
theorem J_ist6 {a0 a1 a2 a3 a4 a5 : Option Value} {b : Option Value} {v : Int32} (hd : decode cc pc = .ok (.istore 6, 2)) (hn : 6 < nL) (hg : nolong (a0 :: a1 :: a2 :: a3 :: a4 :: a5 :: b :: ls) 6 = true) (k : JO l cx R y cc nL rt mc ms al lo hi E g ck sk (pc + 2) (a0 :: a1 :: a2 :: a3 :: a4 :: a5 :: some (.int v) :: ls) st M x) : JO l cx R y cc nL rt mc ms al lo hi E g ck sk pc (a0 :: a1 :: a2 :: a3 :: a4 :: a5 :: b :: ls) (.int v :: st) M x := by
  intro a ha p e s m args below meth c H locs A lsa X hP hD hS hL
  exact lv_istore X.1 X.2.1 hd (lvh_has hL) hn rfl (fun lsb hb => k a ha p e s m args below meth c H locs A lsb X hP hD hS (lvh_st1 (w := .int v) hg hb))
theorem J_ist7 {a0 a1 a2 a3 a4 a5 a6 : Option Value} {b : Option Value} {v : Int32} (hd : decode cc pc = .ok (.istore 7, 2)) (hn : 7 < nL) (hg : nolong (a0 :: a1 :: a2 :: a3 :: a4 :: a5 :: a6 :: b :: ls) 7 = true) (k : JO l cx R y cc nL rt mc ms al lo hi E g ck sk (pc + 2) (a0 :: a1 :: a2 :: a3 :: a4 :: a5 :: a6 :: some (.int v) :: ls) st M x) : JO l cx R y cc nL rt mc ms al lo hi E g ck sk pc (a0 :: a1 :: a2 :: a3 :: a4 :: a5 :: a6 :: b :: ls) (.int v :: st) M x := by
  intro a ha p e s m args below meth c H locs A lsa X hP hD hS hL
  exact lv_istore X.1 X.2.1 hd (lvh_has hL) hn rfl (fun lsb hb => k a ha p e s m args below meth c H locs A lsb X hP hD hS (lvh_st1 (w := .int v) hg hb))
theorem J_ist8 {a0 a1 a2 a3 a4 a5 a6 a7 : Option Value} {b : Option Value} {v : Int32} (hd : decode cc pc = .ok (.istore 8, 2)) (hn : 8 < nL) (hg : nolong (a0 :: a1 :: a2 :: a3 :: a4 :: a5 :: a6 :: a7 :: b :: ls) 8 = true) (k : JO l cx R y cc nL rt mc ms al lo hi E g ck sk (pc + 2) (a0 :: a1 :: a2 :: a3 :: a4 :: a5 :: a6 :: a7 :: some (.int v) :: ls) st M x) : JO l cx R y cc nL rt mc ms al lo hi E g ck sk pc (a0 :: a1 :: a2 :: a3 :: a4 :: a5 :: a6 :: a7 :: b :: ls) (.int v :: st) M x := by
  intro a ha p e s m args below meth c H locs A lsa X hP hD hS hL
  exact lv_istore X.1 X.2.1 hd (lvh_has hL) hn rfl (fun lsb hb => k a ha p e s m args below meth c H locs A lsb X hP hD hS (lvh_st1 (w := .int v) hg hb))
theorem J_ist9 {a0 a1 a2 a3 a4 a5 a6 a7 a8 : Option Value} {b : Option Value} {v : Int32} (hd : decode cc pc = .ok (.istore 9, 2)) (hn : 9 < nL) (hg : nolong (a0 :: a1 :: a2 :: a3 :: a4 :: a5 :: a6 :: a7 :: a8 :: b :: ls) 9 = true) (k : JO l cx R y cc nL rt mc ms al lo hi E g ck sk (pc + 2) (a0 :: a1 :: a2 :: a3 :: a4 :: a5 :: a6 :: a7 :: a8 :: some (.int v) :: ls) st M x) : JO l cx R y cc nL rt mc ms al lo hi E g ck sk pc (a0 :: a1 :: a2 :: a3 :: a4 :: a5 :: a6 :: a7 :: a8 :: b :: ls) (.int v :: st) M x := by
  intro a ha p e s m args below meth c H locs A lsa X hP hD hS hL
  exact lv_istore X.1 X.2.1 hd (lvh_has hL) hn rfl (fun lsb hb => k a ha p e s m args below meth c H locs A lsb X hP hD hS (lvh_st1 (w := .int v) hg hb))
theorem J_ist10 {a0 a1 a2 a3 a4 a5 a6 a7 a8 a9 : Option Value} {b : Option Value} {v : Int32} (hd : decode cc pc = .ok (.istore 10, 2)) (hn : 10 < nL) (hg : nolong (a0 :: a1 :: a2 :: a3 :: a4 :: a5 :: a6 :: a7 :: a8 :: a9 :: b :: ls) 10 = true) (k : JO l cx R y cc nL rt mc ms al lo hi E g ck sk (pc + 2) (a0 :: a1 :: a2 :: a3 :: a4 :: a5 :: a6 :: a7 :: a8 :: a9 :: some (.int v) :: ls) st M x) : JO l cx R y cc nL rt mc ms al lo hi E g ck sk pc (a0 :: a1 :: a2 :: a3 :: a4 :: a5 :: a6 :: a7 :: a8 :: a9 :: b :: ls) (.int v :: st) M x := by
  intro a ha p e s m args below meth c H locs A lsa X hP hD hS hL
  exact lv_istore X.1 X.2.1 hd (lvh_has hL) hn rfl (fun lsb hb => k a ha p e s m args below meth c H locs A lsb X hP hD hS (lvh_st1 (w := .int v) hg hb))
theorem J_ist11 {a0 a1 a2 a3 a4 a5 a6 a7 a8 a9 a10 : Option Value} {b : Option Value} {v : Int32} (hd : decode cc pc = .ok (.istore 11, 2)) (hn : 11 < nL) (hg : nolong (a0 :: a1 :: a2 :: a3 :: a4 :: a5 :: a6 :: a7 :: a8 :: a9 :: a10 :: b :: ls) 11 = true) (k : JO l cx R y cc nL rt mc ms al lo hi E g ck sk (pc + 2) (a0 :: a1 :: a2 :: a3 :: a4 :: a5 :: a6 :: a7 :: a8 :: a9 :: a10 :: some (.int v) :: ls) st M x) : JO l cx R y cc nL rt mc ms al lo hi E g ck sk pc (a0 :: a1 :: a2 :: a3 :: a4 :: a5 :: a6 :: a7 :: a8 :: a9 :: a10 :: b :: ls) (.int v :: st) M x := by
  intro a ha p e s m args below meth c H locs A lsa X hP hD hS hL
  exact lv_istore X.1 X.2.1 hd (lvh_has hL) hn rfl (fun lsb hb => k a ha p e s m args below meth c H locs A lsb X hP hD hS (lvh_st1 (w := .int v) hg hb))
theorem J_ast0 {b : Option Value} {v : Nat} (hd : decode cc pc = .ok (.astore_n 0, 1)) (hn : 0 < nL) (hg : nolong (b :: ls) 0 = true) (k : JO l cx R y cc nL rt mc ms al lo hi E g ck sk (pc + 1) (some (.ref v) :: ls) st M x) : JO l cx R y cc nL rt mc ms al lo hi E g ck sk pc (b :: ls) (.ref v :: st) M x := by
  intro a ha p e s m args below meth c H locs A lsa X hP hD hS hL
  exact lv_astore_n X.1 X.2.1 hd rfl (lvh_has hL) hn rfl (fun lsb hb => k a ha p e s m args below meth c H locs A lsb X hP hD hS (lvh_st1 (w := .ref v) hg hb))
theorem J_ast1 {a0 : Option Value} {b : Option Value} {v : Nat} (hd : decode cc pc = .ok (.astore_n 1, 1)) (hn : 1 < nL) (hg : nolong (a0 :: b :: ls) 1 = true) (k : JO l cx R y cc nL rt mc ms al lo hi E g ck sk (pc + 1) (a0 :: some (.ref v) :: ls) st M x) : JO l cx R y cc nL rt mc ms al lo hi E g ck sk pc (a0 :: b :: ls) (.ref v :: st) M x := by
  intro a ha p e s m args below meth c H locs A lsa X hP hD hS hL
  exact lv_astore_n X.1 X.2.1 hd rfl (lvh_has hL) hn rfl (fun lsb hb => k a ha p e s m args below meth c H locs A lsb X hP hD hS (lvh_st1 (w := .ref v) hg hb))
theorem J_ast2 {a0 a1 : Option Value} {b : Option Value} {v : Nat} (hd : decode cc pc = .ok (.astore_n 2, 1)) (hn : 2 < nL) (hg : nolong (a0 :: a1 :: b :: ls) 2 = true) (k : JO l cx R y cc nL rt mc ms al lo hi E g ck sk (pc + 1) (a0 :: a1 :: some (.ref v) :: ls) st M x) : JO l cx R y cc nL rt mc ms al lo hi E g ck sk pc (a0 :: a1 :: b :: ls) (.ref v :: st) M x := by
  intro a ha p e s m args below meth c H locs A lsa X hP hD hS hL
  exact lv_astore_n X.1 X.2.1 hd rfl (lvh_has hL) hn rfl (fun lsb hb => k a ha p e s m args below meth c H locs A lsb X hP hD hS (lvh_st1 (w := .ref v) hg hb))
theorem J_ast3 {a0 a1 a2 : Option Value} {b : Option Value} {v : Nat} (hd : decode cc pc = .ok (.astore_n 3, 1)) (hn : 3 < nL) (hg : nolong (a0 :: a1 :: a2 :: b :: ls) 3 = true) (k : JO l cx R y cc nL rt mc ms al lo hi E g ck sk (pc + 1) (a0 :: a1 :: a2 :: some (.ref v) :: ls) st M x) : JO l cx R y cc nL rt mc ms al lo hi E g ck sk pc (a0 :: a1 :: a2 :: b :: ls) (.ref v :: st) M x := by
  intro a ha p e s m args below meth c H locs A lsa X hP hD hS hL
  exact lv_astore_n X.1 X.2.1 hd rfl (lvh_has hL) hn rfl (fun lsb hb => k a ha p e s m args below meth c H locs A lsb X hP hD hS (lvh_st1 (w := .ref v) hg hb))
theorem J_ast4 {a0 a1 a2 a3 : Option Value} {b : Option Value} {v : Nat} (hd : decode cc pc = .ok (.astore 4, 2)) (hn : 4 < nL) (hg : nolong (a0 :: a1 :: a2 :: a3 :: b :: ls) 4 = true) (k : JO l cx R y cc nL rt mc ms al lo hi E g ck sk (pc + 2) (a0 :: a1 :: a2 :: a3 :: some (.ref v) :: ls) st M x) : JO l cx R y cc nL rt mc ms al lo hi E g ck sk pc (a0 :: a1 :: a2 :: a3 :: b :: ls) (.ref v :: st) M x := by
  intro a ha p e s m args below meth c H locs A lsa X hP hD hS hL
  exact lv_astore X.1 X.2.1 hd (lvh_has hL) hn rfl (fun lsb hb => k a ha p e s m args below meth c H locs A lsb X hP hD hS (lvh_st1 (w := .ref v) hg hb))
theorem J_ast5 {a0 a1 a2 a3 a4 : Option Value} {b : Option Value} {v : Nat} (hd : decode cc pc = .ok (.astore 5, 2)) (hn : 5 < nL) (hg : nolong (a0 :: a1 :: a2 :: a3 :: a4 :: b :: ls) 5 = true) (k : JO l cx R y cc nL rt mc ms al lo hi E g ck sk (pc + 2) (a0 :: a1 :: a2 :: a3 :: a4 :: some (.ref v) :: ls) st M x) : JO l cx R y cc nL rt mc ms al lo hi E g ck sk pc (a0 :: a1 :: a2 :: a3 :: a4 :: b :: ls) (.ref v :: st) M x := by
  intro a ha p e s m args below meth c H locs A lsa X hP hD hS hL
  exact lv_astore X.1 X.2.1 hd (lvh_has hL) hn rfl (fun lsb hb => k a ha p e s m args below meth c H locs A lsb X hP hD hS (lvh_st1 (w := .ref v) hg hb))
theorem J_ast6 {a0 a1 a2 a3 a4 a5 : Option Value} {b : Option Value} {v : Nat} (hd : decode cc pc = .ok (.astore 6, 2)) (hn : 6 < nL) (hg : nolong (a0 :: a1 :: a2 :: a3 :: a4 :: a5 :: b :: ls) 6 = true) (k : JO l cx R y cc nL rt mc ms al lo hi E g ck sk (pc + 2) (a0 :: a1 :: a2 :: a3 :: a4 :: a5 :: some (.ref v) :: ls) st M x) : JO l cx R y cc nL rt mc ms al lo hi E g ck sk pc (a0 :: a1 :: a2 :: a3 :: a4 :: a5 :: b :: ls) (.ref v :: st) M x := by
  intro a ha p e s m args below meth c H locs A lsa X hP hD hS hL
  exact lv_astore X.1 X.2.1 hd (lvh_has hL) hn rfl (fun lsb hb => k a ha p e s m args below meth c H locs A lsb X hP hD hS (lvh_st1 (w := .ref v) hg hb))
theorem J_ast7 {a0 a1 a2 a3 a4 a5 a6 : Option Value} {b : Option Value} {v : Nat} (hd : decode cc pc = .ok (.astore 7, 2)) (hn : 7 < nL) (hg : nolong (a0 :: a1 :: a2 :: a3 :: a4 :: a5 :: a6 :: b :: ls) 7 = true) (k : JO l cx R y cc nL rt mc ms al lo hi E g ck sk (pc + 2) (a0 :: a1 :: a2 :: a3 :: a4 :: a5 :: a6 :: some (.ref v) :: ls) st M x) : JO l cx R y cc nL rt mc ms al lo hi E g ck sk pc (a0 :: a1 :: a2 :: a3 :: a4 :: a5 :: a6 :: b :: ls) (.ref v :: st) M x := by
  intro a ha p e s m args below meth c H locs A lsa X hP hD hS hL
  exact lv_astore X.1 X.2.1 hd (lvh_has hL) hn rfl (fun lsb hb => k a ha p e s m args below meth c H locs A lsb X hP hD hS (lvh_st1 (w := .ref v) hg hb))
theorem J_ast8 {a0 a1 a2 a3 a4 a5 a6 a7 : Option Value} {b : Option Value} {v : Nat} (hd : decode cc pc = .ok (.astore 8, 2)) (hn : 8 < nL) (hg : nolong (a0 :: a1 :: a2 :: a3 :: a4 :: a5 :: a6 :: a7 :: b :: ls) 8 = true) (k : JO l cx R y cc nL rt mc ms al lo hi E g ck sk (pc + 2) (a0 :: a1 :: a2 :: a3 :: a4 :: a5 :: a6 :: a7 :: some (.ref v) :: ls) st M x) : JO l cx R y cc nL rt mc ms al lo hi E g ck sk pc (a0 :: a1 :: a2 :: a3 :: a4 :: a5 :: a6 :: a7 :: b :: ls) (.ref v :: st) M x := by
  intro a ha p e s m args below meth c H locs A lsa X hP hD hS hL
  exact lv_astore X.1 X.2.1 hd (lvh_has hL) hn rfl (fun lsb hb => k a ha p e s m args below meth c H locs A lsb X hP hD hS (lvh_st1 (w := .ref v) hg hb))
theorem J_ast9 {a0 a1 a2 a3 a4 a5 a6 a7 a8 : Option Value} {b : Option Value} {v : Nat} (hd : decode cc pc = .ok (.astore 9, 2)) (hn : 9 < nL) (hg : nolong (a0 :: a1 :: a2 :: a3 :: a4 :: a5 :: a6 :: a7 :: a8 :: b :: ls) 9 = true) (k : JO l cx R y cc nL rt mc ms al lo hi E g ck sk (pc + 2) (a0 :: a1 :: a2 :: a3 :: a4 :: a5 :: a6 :: a7 :: a8 :: some (.ref v) :: ls) st M x) : JO l cx R y cc nL rt mc ms al lo hi E g ck sk pc (a0 :: a1 :: a2 :: a3 :: a4 :: a5 :: a6 :: a7 :: a8 :: b :: ls) (.ref v :: st) M x := by
  intro a ha p e s m args below meth c H locs A lsa X hP hD hS hL
  exact lv_astore X.1 X.2.1 hd (lvh_has hL) hn rfl (fun lsb hb => k a ha p e s m args below meth c H locs A lsb X hP hD hS (lvh_st1 (w := .ref v) hg hb))
theorem J_ast10 {a0 a1 a2 a3 a4 a5 a6 a7 a8 a9 : Option Value} {b : Option Value} {v : Nat} (hd : decode cc pc = .ok (.astore 10, 2)) (hn : 10 < nL) (hg : nolong (a0 :: a1 :: a2 :: a3 :: a4 :: a5 :: a6 :: a7 :: a8 :: a9 :: b :: ls) 10 = true) (k : JO l cx R y cc nL rt mc ms al lo hi E g ck sk (pc + 2) (a0 :: a1 :: a2 :: a3 :: a4 :: a5 :: a6 :: a7 :: a8 :: a9 :: some (.ref v) :: ls) st M x) : JO l cx R y cc nL rt mc ms al lo hi E g ck sk pc (a0 :: a1 :: a2 :: a3 :: a4 :: a5 :: a6 :: a7 :: a8 :: a9 :: b :: ls) (.ref v :: st) M x := by
  intro a ha p e s m args below meth c H locs A lsa X hP hD hS hL
  exact lv_astore X.1 X.2.1 hd (lvh_has hL) hn rfl (fun lsb hb => k a ha p e s m args below meth c H locs A lsb X hP hD hS (lvh_st1 (w := .ref v) hg hb))
theorem J_ast11 {a0 a1 a2 a3 a4 a5 a6 a7 a8 a9 a10 : Option Value} {b : Option Value} {v : Nat} (hd : decode cc pc = .ok (.astore 11, 2)) (hn : 11 < nL) (hg : nolong (a0 :: a1 :: a2 :: a3 :: a4 :: a5 :: a6 :: a7 :: a8 :: a9 :: a10 :: b :: ls) 11 = true) (k : JO l cx R y cc nL rt mc ms al lo hi E g ck sk (pc + 2) (a0 :: a1 :: a2 :: a3 :: a4 :: a5 :: a6 :: a7 :: a8 :: a9 :: a10 :: some (.ref v) :: ls) st M x) : JO l cx R y cc nL rt mc ms al lo hi E g ck sk pc (a0 :: a1 :: a2 :: a3 :: a4 :: a5 :: a6 :: a7 :: a8 :: a9 :: a10 :: b :: ls) (.ref v :: st) M x := by
  intro a ha p e s m args below meth c H locs A lsa X hP hD hS hL
  exact lv_astore X.1 X.2.1 hd (lvh_has hL) hn rfl (fun lsb hb => k a ha p e s m args below meth c H locs A lsb X hP hD hS (lvh_st1 (w := .ref v) hg hb))
theorem J_lst0 {b b2 : Option Value} {v : Int64} (hd : decode cc pc = .ok (.lstore_n 0, 1)) (hn : 0 + 1 < nL) (hg : nolong (b :: b2 :: ls) 0 = true) (k : JO l cx R y cc nL rt mc ms al lo hi E g ck sk (pc + 1) (some (.long v) :: none :: ls) st M x) : JO l cx R y cc nL rt mc ms al lo hi E g ck sk pc (b :: b2 :: ls) (.long v :: st) M x := by
  intro a ha p e s m args below meth c H locs A lsa X hP hD hS hL
  exact lv_lstore_n X.1 X.2.1 hd rfl (lvh_has hL) hn rfl (fun lsb hb => k a ha p e s m args below meth c H locs A lsb X hP hD hS (lvh_st2 (w := .long v) hg hb))
theorem J_lst1 {a0 : Option Value} {b b2 : Option Value} {v : Int64} (hd : decode cc pc = .ok (.lstore_n 1, 1)) (hn : 1 + 1 < nL) (hg : nolong (a0 :: b :: b2 :: ls) 1 = true) (k : JO l cx R y cc nL rt mc ms al lo hi E g ck sk (pc + 1) (a0 :: some (.long v) :: none :: ls) st M x) : JO l cx R y cc nL rt mc ms al lo hi E g ck sk pc (a0 :: b :: b2 :: ls) (.long v :: st) M x := by
  intro a ha p e s m args below meth c H locs A lsa X hP hD hS hL
  exact lv_lstore_n X.1 X.2.1 hd rfl (lvh_has hL) hn rfl (fun lsb hb => k a ha p e s m args below meth c H locs A lsb X hP hD hS (lvh_st2 (w := .long v) hg hb))
theorem J_lst2 {a0 a1 : Option Value} {b b2 : Option Value} {v : Int64} (hd : decode cc pc = .ok (.lstore_n 2, 1)) (hn : 2 + 1 < nL) (hg : nolong (a0 :: a1 :: b :: b2 :: ls) 2 = true) (k : JO l cx R y cc nL rt mc ms al lo hi E g ck sk (pc + 1) (a0 :: a1 :: some (.long v) :: none :: ls) st M x) : JO l cx R y cc nL rt mc ms al lo hi E g ck sk pc (a0 :: a1 :: b :: b2 :: ls) (.long v :: st) M x := by
  intro a ha p e s m args below meth c H locs A lsa X hP hD hS hL
  exact lv_lstore_n X.1 X.2.1 hd rfl (lvh_has hL) hn rfl (fun lsb hb => k a ha p e s m args below meth c H locs A lsb X hP hD hS (lvh_st2 (w := .long v) hg hb))
theorem J_lst3 {a0 a1 a2 : Option Value} {b b2 : Option Value} {v : Int64} (hd : decode cc pc = .ok (.lstore_n 3, 1)) (hn : 3 + 1 < nL) (hg : nolong (a0 :: a1 :: a2 :: b :: b2 :: ls) 3 = true) (k : JO l cx R y cc nL rt mc ms al lo hi E g ck sk (pc + 1) (a0 :: a1 :: a2 :: some (.long v) :: none :: ls) st M x) : JO l cx R y cc nL rt mc ms al lo hi E g ck sk pc (a0 :: a1 :: a2 :: b :: b2 :: ls) (.long v :: st) M x := by
  intro a ha p e s m args below meth c H locs A lsa X hP hD hS hL
  exact lv_lstore_n X.1 X.2.1 hd rfl (lvh_has hL) hn rfl (fun lsb hb => k a ha p e s m args below meth c H locs A lsb X hP hD hS (lvh_st2 (w := .long v) hg hb))
theorem J_lst4 {a0 a1 a2 a3 : Option Value} {b b2 : Option Value} {v : Int64} (hd : decode cc pc = .ok (.lstore 4, 2)) (hn : 4 + 1 < nL) (hg : nolong (a0 :: a1 :: a2 :: a3 :: b :: b2 :: ls) 4 = true) (k : JO l cx R y cc nL rt mc ms al lo hi E g ck sk (pc + 2) (a0 :: a1 :: a2 :: a3 :: some (.long v) :: none :: ls) st M x) : JO l cx R y cc nL rt mc ms al lo hi E g ck sk pc (a0 :: a1 :: a2 :: a3 :: b :: b2 :: ls) (.long v :: st) M x := by
  intro a ha p e s m args below meth c H locs A lsa X hP hD hS hL
  exact lv_lstore X.1 X.2.1 hd (lvh_has hL) hn rfl (fun lsb hb => k a ha p e s m args below meth c H locs A lsb X hP hD hS (lvh_st2 (w := .long v) hg hb))
theorem J_lst5 {a0 a1 a2 a3 a4 : Option Value} {b b2 : Option Value} {v : Int64} (hd : decode cc pc = .ok (.lstore 5, 2)) (hn : 5 + 1 < nL) (hg : nolong (a0 :: a1 :: a2 :: a3 :: a4 :: b :: b2 :: ls) 5 = true) (k : JO l cx R y cc nL rt mc ms al lo hi E g ck sk (pc + 2) (a0 :: a1 :: a2 :: a3 :: a4 :: some (.long v) :: none :: ls) st M x) : JO l cx R y cc nL rt mc ms al lo hi E g ck sk pc (a0 :: a1 :: a2 :: a3 :: a4 :: b :: b2 :: ls) (.long v :: st) M x := by
  intro a ha p e s m args below meth c H locs A lsa X hP hD hS hL
  exact lv_lstore X.1 X.2.1 hd (lvh_has hL) hn rfl (fun lsb hb => k a ha p e s m args below meth c H locs A lsb X hP hD hS (lvh_st2 (w := .long v) hg hb))
theorem J_lst6 {a0 a1 a2 a3 a4 a5 : Option Value} {b b2 : Option Value} {v : Int64} (hd : decode cc pc = .ok (.lstore 6, 2)) (hn : 6 + 1 < nL) (hg : nolong (a0 :: a1 :: a2 :: a3 :: a4 :: a5 :: b :: b2 :: ls) 6 = true) (k : JO l cx R y cc nL rt mc ms al lo hi E g ck sk (pc + 2) (a0 :: a1 :: a2 :: a3 :: a4 :: a5 :: some (.long v) :: none :: ls) st M x) : JO l cx R y cc nL rt mc ms al lo hi E g ck sk pc (a0 :: a1 :: a2 :: a3 :: a4 :: a5 :: b :: b2 :: ls) (.long v :: st) M x := by
  intro a ha p e s m args below meth c H locs A lsa X hP hD hS hL
  exact lv_lstore X.1 X.2.1 hd (lvh_has hL) hn rfl (fun lsb hb => k a ha p e s m args below meth c H locs A lsb X hP hD hS (lvh_st2 (w := .long v) hg hb))
theorem J_lst7 {a0 a1 a2 a3 a4 a5 a6 : Option Value} {b b2 : Option Value} {v : Int64} (hd : decode cc pc = .ok (.lstore 7, 2)) (hn : 7 + 1 < nL) (hg : nolong (a0 :: a1 :: a2 :: a3 :: a4 :: a5 :: a6 :: b :: b2 :: ls) 7 = true) (k : JO l cx R y cc nL rt mc ms al lo hi E g ck sk (pc + 2) (a0 :: a1 :: a2 :: a3 :: a4 :: a5 :: a6 :: some (.long v) :: none :: ls) st M x) : JO l cx R y cc nL rt mc ms al lo hi E g ck sk pc (a0 :: a1 :: a2 :: a3 :: a4 :: a5 :: a6 :: b :: b2 :: ls) (.long v :: st) M x := by
  intro a ha p e s m args below meth c H locs A lsa X hP hD hS hL
  exact lv_lstore X.1 X.2.1 hd (lvh_has hL) hn rfl (fun lsb hb => k a ha p e s m args below meth c H locs A lsb X hP hD hS (lvh_st2 (w := .long v) hg hb))
theorem J_lst8 {a0 a1 a2 a3 a4 a5 a6 a7 : Option Value} {b b2 : Option Value} {v : Int64} (hd : decode cc pc = .ok (.lstore 8, 2)) (hn : 8 + 1 < nL) (hg : nolong (a0 :: a1 :: a2 :: a3 :: a4 :: a5 :: a6 :: a7 :: b :: b2 :: ls) 8 = true) (k : JO l cx R y cc nL rt mc ms al lo hi E g ck sk (pc + 2) (a0 :: a1 :: a2 :: a3 :: a4 :: a5 :: a6 :: a7 :: some (.long v) :: none :: ls) st M x) : JO l cx R y cc nL rt mc ms al lo hi E g ck sk pc (a0 :: a1 :: a2 :: a3 :: a4 :: a5 :: a6 :: a7 :: b :: b2 :: ls) (.long v :: st) M x := by
  intro a ha p e s m args below meth c H locs A lsa X hP hD hS hL
  exact lv_lstore X.1 X.2.1 hd (lvh_has hL) hn rfl (fun lsb hb => k a ha p e s m args below meth c H locs A lsb X hP hD hS (lvh_st2 (w := .long v) hg hb))
theorem J_lst9 {a0 a1 a2 a3 a4 a5 a6 a7 a8 : Option Value} {b b2 : Option Value} {v : Int64} (hd : decode cc pc = .ok (.lstore 9, 2)) (hn : 9 + 1 < nL) (hg : nolong (a0 :: a1 :: a2 :: a3 :: a4 :: a5 :: a6 :: a7 :: a8 :: b :: b2 :: ls) 9 = true) (k : JO l cx R y cc nL rt mc ms al lo hi E g ck sk (pc + 2) (a0 :: a1 :: a2 :: a3 :: a4 :: a5 :: a6 :: a7 :: a8 :: some (.long v) :: none :: ls) st M x) : JO l cx R y cc nL rt mc ms al lo hi E g ck sk pc (a0 :: a1 :: a2 :: a3 :: a4 :: a5 :: a6 :: a7 :: a8 :: b :: b2 :: ls) (.long v :: st) M x := by
  intro a ha p e s m args below meth c H locs A lsa X hP hD hS hL
  exact lv_lstore X.1 X.2.1 hd (lvh_has hL) hn rfl (fun lsb hb => k a ha p e s m args below meth c H locs A lsb X hP hD hS (lvh_st2 (w := .long v) hg hb))
theorem J_iincG {i : Nat} {n : Int} {v w : Int32} (hd : decode cc pc = .ok (.iinc i n, 3)) (hv : ls[i]? = some (some (.int v))) (hn : i < nL) (hw : v + Int32.ofInt n = w) (hg : nolong ls i = true) (k : JO l cx R y cc nL rt mc ms al lo hi E g ck sk (pc + 3) (ls.set i (some (.int w))) st M x) : JO l cx R y cc nL rt mc ms al lo hi E g ck sk pc ls st M x := by
  intro a ha p e s m args below meth c H locs A lsa X hP hD hS hL
  have hm : (i, Value.int v) ∈ asL cx ls := asL_mem.mpr ⟨.int v, hv, rfl⟩
  obtain ⟨k0, hk0⟩ := List.getElem?_of_mem hm
  exact lv_iinc (v := w) X.1 X.2.1 hd (lvh_has hL) hk0 hw hn rfl (fun lsb hb => k a ha p e s m args below meth c H locs A lsb X hP hD hS (lvh_st1 (w := .int w) hg hb))
theorem J_iinc0 {n : Int} {v w : Int32} (hd : decode cc pc = .ok (.iinc 0 n, 3)) (hn : 0 < nL) (hg : nolong (some (.int v) :: ls) 0 = true) (hw : v + Int32.ofInt n = w) (k : JO l cx R y cc nL rt mc ms al lo hi E g ck sk (pc + 3) (some (.int w) :: ls) st M x) : JO l cx R y cc nL rt mc ms al lo hi E g ck sk pc (some (.int v) :: ls) st M x := J_iincG hd rfl hn hw hg k
theorem J_iinc1 {a0 : Option Value} {n : Int} {v w : Int32} (hd : decode cc pc = .ok (.iinc 1 n, 3)) (hn : 1 < nL) (hg : nolong (a0 :: some (.int v) :: ls) 1 = true) (hw : v + Int32.ofInt n = w) (k : JO l cx R y cc nL rt mc ms al lo hi E g ck sk (pc + 3) (a0 :: some (.int w) :: ls) st M x) : JO l cx R y cc nL rt mc ms al lo hi E g ck sk pc (a0 :: some (.int v) :: ls) st M x := J_iincG hd rfl hn hw hg k
theorem J_iinc2 {a0 a1 : Option Value} {n : Int} {v w : Int32} (hd : decode cc pc = .ok (.iinc 2 n, 3)) (hn : 2 < nL) (hg : nolong (a0 :: a1 :: some (.int v) :: ls) 2 = true) (hw : v + Int32.ofInt n = w) (k : JO l cx R y cc nL rt mc ms al lo hi E g ck sk (pc + 3) (a0 :: a1 :: some (.int w) :: ls) st M x) : JO l cx R y cc nL rt mc ms al lo hi E g ck sk pc (a0 :: a1 :: some (.int v) :: ls) st M x := J_iincG hd rfl hn hw hg k
theorem J_iinc3 {a0 a1 a2 : Option Value} {n : Int} {v w : Int32} (hd : decode cc pc = .ok (.iinc 3 n, 3)) (hn : 3 < nL) (hg : nolong (a0 :: a1 :: a2 :: some (.int v) :: ls) 3 = true) (hw : v + Int32.ofInt n = w) (k : JO l cx R y cc nL rt mc ms al lo hi E g ck sk (pc + 3) (a0 :: a1 :: a2 :: some (.int w) :: ls) st M x) : JO l cx R y cc nL rt mc ms al lo hi E g ck sk pc (a0 :: a1 :: a2 :: some (.int v) :: ls) st M x := J_iincG hd rfl hn hw hg k
theorem J_iinc4 {a0 a1 a2 a3 : Option Value} {n : Int} {v w : Int32} (hd : decode cc pc = .ok (.iinc 4 n, 3)) (hn : 4 < nL) (hg : nolong (a0 :: a1 :: a2 :: a3 :: some (.int v) :: ls) 4 = true) (hw : v + Int32.ofInt n = w) (k : JO l cx R y cc nL rt mc ms al lo hi E g ck sk (pc + 3) (a0 :: a1 :: a2 :: a3 :: some (.int w) :: ls) st M x) : JO l cx R y cc nL rt mc ms al lo hi E g ck sk pc (a0 :: a1 :: a2 :: a3 :: some (.int v) :: ls) st M x := J_iincG hd rfl hn hw hg k
theorem J_iinc5 {a0 a1 a2 a3 a4 : Option Value} {n : Int} {v w : Int32} (hd : decode cc pc = .ok (.iinc 5 n, 3)) (hn : 5 < nL) (hg : nolong (a0 :: a1 :: a2 :: a3 :: a4 :: some (.int v) :: ls) 5 = true) (hw : v + Int32.ofInt n = w) (k : JO l cx R y cc nL rt mc ms al lo hi E g ck sk (pc + 3) (a0 :: a1 :: a2 :: a3 :: a4 :: some (.int w) :: ls) st M x) : JO l cx R y cc nL rt mc ms al lo hi E g ck sk pc (a0 :: a1 :: a2 :: a3 :: a4 :: some (.int v) :: ls) st M x := J_iincG hd rfl hn hw hg k
theorem J_iinc6 {a0 a1 a2 a3 a4 a5 : Option Value} {n : Int} {v w : Int32} (hd : decode cc pc = .ok (.iinc 6 n, 3)) (hn : 6 < nL) (hg : nolong (a0 :: a1 :: a2 :: a3 :: a4 :: a5 :: some (.int v) :: ls) 6 = true) (hw : v + Int32.ofInt n = w) (k : JO l cx R y cc nL rt mc ms al lo hi E g ck sk (pc + 3) (a0 :: a1 :: a2 :: a3 :: a4 :: a5 :: some (.int w) :: ls) st M x) : JO l cx R y cc nL rt mc ms al lo hi E g ck sk pc (a0 :: a1 :: a2 :: a3 :: a4 :: a5 :: some (.int v) :: ls) st M x := J_iincG hd rfl hn hw hg k
theorem J_iinc7 {a0 a1 a2 a3 a4 a5 a6 : Option Value} {n : Int} {v w : Int32} (hd : decode cc pc = .ok (.iinc 7 n, 3)) (hn : 7 < nL) (hg : nolong (a0 :: a1 :: a2 :: a3 :: a4 :: a5 :: a6 :: some (.int v) :: ls) 7 = true) (hw : v + Int32.ofInt n = w) (k : JO l cx R y cc nL rt mc ms al lo hi E g ck sk (pc + 3) (a0 :: a1 :: a2 :: a3 :: a4 :: a5 :: a6 :: some (.int w) :: ls) st M x) : JO l cx R y cc nL rt mc ms al lo hi E g ck sk pc (a0 :: a1 :: a2 :: a3 :: a4 :: a5 :: a6 :: some (.int v) :: ls) st M x := J_iincG hd rfl hn hw hg k
theorem J_iinc8 {a0 a1 a2 a3 a4 a5 a6 a7 : Option Value} {n : Int} {v w : Int32} (hd : decode cc pc = .ok (.iinc 8 n, 3)) (hn : 8 < nL) (hg : nolong (a0 :: a1 :: a2 :: a3 :: a4 :: a5 :: a6 :: a7 :: some (.int v) :: ls) 8 = true) (hw : v + Int32.ofInt n = w) (k : JO l cx R y cc nL rt mc ms al lo hi E g ck sk (pc + 3) (a0 :: a1 :: a2 :: a3 :: a4 :: a5 :: a6 :: a7 :: some (.int w) :: ls) st M x) : JO l cx R y cc nL rt mc ms al lo hi E g ck sk pc (a0 :: a1 :: a2 :: a3 :: a4 :: a5 :: a6 :: a7 :: some (.int v) :: ls) st M x := J_iincG hd rfl hn hw hg k
theorem J_iinc9 {a0 a1 a2 a3 a4 a5 a6 a7 a8 : Option Value} {n : Int} {v w : Int32} (hd : decode cc pc = .ok (.iinc 9 n, 3)) (hn : 9 < nL) (hg : nolong (a0 :: a1 :: a2 :: a3 :: a4 :: a5 :: a6 :: a7 :: a8 :: some (.int v) :: ls) 9 = true) (hw : v + Int32.ofInt n = w) (k : JO l cx R y cc nL rt mc ms al lo hi E g ck sk (pc + 3) (a0 :: a1 :: a2 :: a3 :: a4 :: a5 :: a6 :: a7 :: a8 :: some (.int w) :: ls) st M x) : JO l cx R y cc nL rt mc ms al lo hi E g ck sk pc (a0 :: a1 :: a2 :: a3 :: a4 :: a5 :: a6 :: a7 :: a8 :: some (.int v) :: ls) st M x := J_iincG hd rfl hn hw hg k
theorem J_iinc10 {a0 a1 a2 a3 a4 a5 a6 a7 a8 a9 : Option Value} {n : Int} {v w : Int32} (hd : decode cc pc = .ok (.iinc 10 n, 3)) (hn : 10 < nL) (hg : nolong (a0 :: a1 :: a2 :: a3 :: a4 :: a5 :: a6 :: a7 :: a8 :: a9 :: some (.int v) :: ls) 10 = true) (hw : v + Int32.ofInt n = w) (k : JO l cx R y cc nL rt mc ms al lo hi E g ck sk (pc + 3) (a0 :: a1 :: a2 :: a3 :: a4 :: a5 :: a6 :: a7 :: a8 :: a9 :: some (.int w) :: ls) st M x) : JO l cx R y cc nL rt mc ms al lo hi E g ck sk pc (a0 :: a1 :: a2 :: a3 :: a4 :: a5 :: a6 :: a7 :: a8 :: a9 :: some (.int v) :: ls) st M x := J_iincG hd rfl hn hw hg k
theorem J_iinc11 {a0 a1 a2 a3 a4 a5 a6 a7 a8 a9 a10 : Option Value} {n : Int} {v w : Int32} (hd : decode cc pc = .ok (.iinc 11 n, 3)) (hn : 11 < nL) (hg : nolong (a0 :: a1 :: a2 :: a3 :: a4 :: a5 :: a6 :: a7 :: a8 :: a9 :: a10 :: some (.int v) :: ls) 11 = true) (hw : v + Int32.ofInt n = w) (k : JO l cx R y cc nL rt mc ms al lo hi E g ck sk (pc + 3) (a0 :: a1 :: a2 :: a3 :: a4 :: a5 :: a6 :: a7 :: a8 :: a9 :: a10 :: some (.int w) :: ls) st M x) : JO l cx R y cc nL rt mc ms al lo hi E g ck sk pc (a0 :: a1 :: a2 :: a3 :: a4 :: a5 :: a6 :: a7 :: a8 :: a9 :: a10 :: some (.int v) :: ls) st M x := J_iincG hd rfl hn hw hg k
theorem J_idiv {a b : Int32} (hd : decode cc pc = .ok (.idiv, 1)) (k : JO l cx R y cc nL rt mc ms al lo hi E g ck sk (pc + 1) ls (.int (a / b) :: st) M x) : JO l cx R y cc nL rt mc ms al lo hi E g ck sk pc ls (.int b :: .int a :: st) M (dvi b x) := by
  intro r ha
  unfold dvi at ha
  by_cases hb : b = 0
  · rw [if_pos hb] at ha; cases ha
  · rw [if_neg hb] at ha
    intro p e s m args below meth c H locs A lsa X hP hD hS hL
    exact lv_idiv X.1 X.2.1 hd hb (k r ha p e s m args below meth c H locs A lsa X hP hD hS hL)
theorem J_idivK {a b : Int32} (hd : decode cc pc = .ok (.idiv, 1)) (hb : ¬ b = 0) (k : JO l cx R y cc nL rt mc ms al lo hi E g ck sk (pc + 1) ls (.int (a / b) :: st) M x) : JO l cx R y cc nL rt mc ms al lo hi E g ck sk pc ls (.int b :: .int a :: st) M x := by
  intro a ha p e s m args below meth c H locs A lsa X hP hD hS hL
  exact lv_idiv X.1 X.2.1 hd hb (k a ha p e s m args below meth c H locs A lsa X hP hD hS hL)
theorem J_irem {a b : Int32} (hd : decode cc pc = .ok (.irem, 1)) (k : JO l cx R y cc nL rt mc ms al lo hi E g ck sk (pc + 1) ls (.int (a - a / b * b) :: st) M x) : JO l cx R y cc nL rt mc ms al lo hi E g ck sk pc ls (.int b :: .int a :: st) M (dvi b x) := by
  intro r ha
  unfold dvi at ha
  by_cases hb : b = 0
  · rw [if_pos hb] at ha; cases ha
  · rw [if_neg hb] at ha
    intro p e s m args below meth c H locs A lsa X hP hD hS hL
    exact lv_irem X.1 X.2.1 hd hb (k r ha p e s m args below meth c H locs A lsa X hP hD hS hL)
theorem J_iremK {a b : Int32} (hd : decode cc pc = .ok (.irem, 1)) (hb : ¬ b = 0) (k : JO l cx R y cc nL rt mc ms al lo hi E g ck sk (pc + 1) ls (.int (a - a / b * b) :: st) M x) : JO l cx R y cc nL rt mc ms al lo hi E g ck sk pc ls (.int b :: .int a :: st) M x := by
  intro a ha p e s m args below meth c H locs A lsa X hP hD hS hL
  exact lv_irem X.1 X.2.1 hd hb (k a ha p e s m args below meth c H locs A lsa X hP hD hS hL)
theorem J_ldivK {a b : Int64} (hd : decode cc pc = .ok (.ldiv, 1)) (hb : ¬ b = 0) (k : JO l cx R y cc nL rt mc ms al lo hi E g ck sk (pc + 1) ls (.long (a / b) :: st) M x) : JO l cx R y cc nL rt mc ms al lo hi E g ck sk pc ls (.long b :: .long a :: st) M x := by
  intro a ha p e s m args below meth c H locs A lsa X hP hD hS hL
  exact lv_ldiv X.1 X.2.1 hd hb (k a ha p e s m args below meth c H locs A lsa X hP hD hS hL)
theorem J_ldiv {a b : Int64} (hd : decode cc pc = .ok (.ldiv, 1)) (k : JO l cx R y cc nL rt mc ms al lo hi E g ck sk (pc + 1) ls (.long (a / b) :: st) M x) : JO l cx R y cc nL rt mc ms al lo hi E g ck sk pc ls (.long b :: .long a :: st) M (dvl b x) := by
  intro r ha
  unfold dvl at ha
  by_cases hb : b = 0
  · rw [if_pos hb] at ha; cases ha
  · rw [if_neg hb] at ha
    intro p e s m args below meth c H locs A lsa X hP hD hS hL
    exact lv_ldiv X.1 X.2.1 hd hb (k r ha p e s m args below meth c H locs A lsa X hP hD hS hL)
theorem J_if_eq {x0 : Int32} {off : Int} (tgt : Nat) {x2 : Option α} (hd : decode cc pc = .ok (.ifCond .eq off, 3)) (ht : (pc : Int) + off = (tgt : Int)) (kt : JO l cx R y cc nL rt mc ms al lo hi E g ck sk tgt ls st M x) (kf : JO l cx R y cc nL rt mc ms al lo hi E g ck sk (pc + 3) ls st M x2) : JO l cx R y cc nL rt mc ms al lo hi E g ck sk pc ls (.int x0 :: st) M (if x0 = 0 then x else x2) := by
  intro a ha p e s m args below meth c H locs A lsa X hP hD hS hL
  refine lv_if_eq (tgt := tgt) X.1 X.2.1 hd ht (fun q => ?_) (fun q => ?_)
  · exact kt a ((if_pos q).symm.trans ha) p e s m args below meth c H locs A lsa X hP hD hS hL
  · exact kf a ((if_neg q).symm.trans ha) p e s m args below meth c H locs A lsa X hP hD hS hL
theorem J_if_lt {x0 : Int32} {off : Int} (tgt : Nat) {x2 : Option α} (hd : decode cc pc = .ok (.ifCond .lt off, 3)) (ht : (pc : Int) + off = (tgt : Int)) (kt : JO l cx R y cc nL rt mc ms al lo hi E g ck sk tgt ls st M x) (kf : JO l cx R y cc nL rt mc ms al lo hi E g ck sk (pc + 3) ls st M x2) : JO l cx R y cc nL rt mc ms al lo hi E g ck sk pc ls (.int x0 :: st) M (if x0 < 0 then x else x2) := by
  intro a ha p e s m args below meth c H locs A lsa X hP hD hS hL
  refine lv_if_lt (tgt := tgt) X.1 X.2.1 hd ht (fun q => ?_) (fun q => ?_)
  · exact kt a ((if_pos q).symm.trans ha) p e s m args below meth c H locs A lsa X hP hD hS hL
  · exact kf a ((if_neg q).symm.trans ha) p e s m args below meth c H locs A lsa X hP hD hS hL
theorem J_if_ge {x0 : Int32} {off : Int} (tgt : Nat) {x2 : Option α} (hd : decode cc pc = .ok (.ifCond .ge off, 3)) (ht : (pc : Int) + off = (tgt : Int)) (kt : JO l cx R y cc nL rt mc ms al lo hi E g ck sk tgt ls st M x) (kf : JO l cx R y cc nL rt mc ms al lo hi E g ck sk (pc + 3) ls st M x2) : JO l cx R y cc nL rt mc ms al lo hi E g ck sk pc ls (.int x0 :: st) M (if 0 ≤ x0 then x else x2) := by
  intro a ha p e s m args below meth c H locs A lsa X hP hD hS hL
  refine lv_if_ge (tgt := tgt) X.1 X.2.1 hd ht (fun q => ?_) (fun q => ?_)
  · exact kt a ((if_pos q).symm.trans ha) p e s m args below meth c H locs A lsa X hP hD hS hL
  · exact kf a ((if_neg q).symm.trans ha) p e s m args below meth c H locs A lsa X hP hD hS hL
theorem J_if_gt {x0 : Int32} {off : Int} (tgt : Nat) {x2 : Option α} (hd : decode cc pc = .ok (.ifCond .gt off, 3)) (ht : (pc : Int) + off = (tgt : Int)) (kt : JO l cx R y cc nL rt mc ms al lo hi E g ck sk tgt ls st M x) (kf : JO l cx R y cc nL rt mc ms al lo hi E g ck sk (pc + 3) ls st M x2) : JO l cx R y cc nL rt mc ms al lo hi E g ck sk pc ls (.int x0 :: st) M (if 0 < x0 then x else x2) := by
  intro a ha p e s m args below meth c H locs A lsa X hP hD hS hL
  refine lv_if_gt (tgt := tgt) X.1 X.2.1 hd ht (fun q => ?_) (fun q => ?_)
  · exact kt a ((if_pos q).symm.trans ha) p e s m args below meth c H locs A lsa X hP hD hS hL
  · exact kf a ((if_neg q).symm.trans ha) p e s m args below meth c H locs A lsa X hP hD hS hL
theorem J_if_le {x0 : Int32} {off : Int} (tgt : Nat) {x2 : Option α} (hd : decode cc pc = .ok (.ifCond .le off, 3)) (ht : (pc : Int) + off = (tgt : Int)) (kt : JO l cx R y cc nL rt mc ms al lo hi E g ck sk tgt ls st M x) (kf : JO l cx R y cc nL rt mc ms al lo hi E g ck sk (pc + 3) ls st M x2) : JO l cx R y cc nL rt mc ms al lo hi E g ck sk pc ls (.int x0 :: st) M (if x0 ≤ 0 then x else x2) := by
  intro a ha p e s m args below meth c H locs A lsa X hP hD hS hL
  refine lv_if_le (tgt := tgt) X.1 X.2.1 hd ht (fun q => ?_) (fun q => ?_)
  · exact kt a ((if_pos q).symm.trans ha) p e s m args below meth c H locs A lsa X hP hD hS hL
  · exact kf a ((if_neg q).symm.trans ha) p e s m args below meth c H locs A lsa X hP hD hS hL
theorem J_ic_eq {a b : Int32} {off : Int} (tgt : Nat) {x2 : Option α} (hd : decode cc pc = .ok (.if_icmp .eq off, 3)) (ht : (pc : Int) + off = (tgt : Int)) (kt : JO l cx R y cc nL rt mc ms al lo hi E g ck sk tgt ls st M x) (kf : JO l cx R y cc nL rt mc ms al lo hi E g ck sk (pc + 3) ls st M x2) : JO l cx R y cc nL rt mc ms al lo hi E g ck sk pc ls (.int b :: .int a :: st) M (if a = b then x else x2) := by
  intro r ha p e s m args below meth c H locs A lsa X hP hD hS hL
  refine lv_icmp_eq (tgt := tgt) X.1 X.2.1 hd ht (fun q => ?_) (fun q => ?_)
  · exact kt r ((if_pos q).symm.trans ha) p e s m args below meth c H locs A lsa X hP hD hS hL
  · exact kf r ((if_neg q).symm.trans ha) p e s m args below meth c H locs A lsa X hP hD hS hL
theorem J_ic_lt {a b : Int32} {off : Int} (tgt : Nat) {x2 : Option α} (hd : decode cc pc = .ok (.if_icmp .lt off, 3)) (ht : (pc : Int) + off = (tgt : Int)) (kt : JO l cx R y cc nL rt mc ms al lo hi E g ck sk tgt ls st M x) (kf : JO l cx R y cc nL rt mc ms al lo hi E g ck sk (pc + 3) ls st M x2) : JO l cx R y cc nL rt mc ms al lo hi E g ck sk pc ls (.int b :: .int a :: st) M (if a < b then x else x2) := by
  intro r ha p e s m args below meth c H locs A lsa X hP hD hS hL
  refine lv_icmp_lt (tgt := tgt) X.1 X.2.1 hd ht (fun q => ?_) (fun q => ?_)
  · exact kt r ((if_pos q).symm.trans ha) p e s m args below meth c H locs A lsa X hP hD hS hL
  · exact kf r ((if_neg q).symm.trans ha) p e s m args below meth c H locs A lsa X hP hD hS hL
theorem J_ic_ge {a b : Int32} {off : Int} (tgt : Nat) {x2 : Option α} (hd : decode cc pc = .ok (.if_icmp .ge off, 3)) (ht : (pc : Int) + off = (tgt : Int)) (kt : JO l cx R y cc nL rt mc ms al lo hi E g ck sk tgt ls st M x) (kf : JO l cx R y cc nL rt mc ms al lo hi E g ck sk (pc + 3) ls st M x2) : JO l cx R y cc nL rt mc ms al lo hi E g ck sk pc ls (.int b :: .int a :: st) M (if b ≤ a then x else x2) := by
  intro r ha p e s m args below meth c H locs A lsa X hP hD hS hL
  refine lv_icmp_ge (tgt := tgt) X.1 X.2.1 hd ht (fun q => ?_) (fun q => ?_)
  · exact kt r ((if_pos q).symm.trans ha) p e s m args below meth c H locs A lsa X hP hD hS hL
  · exact kf r ((if_neg q).symm.trans ha) p e s m args below meth c H locs A lsa X hP hD hS hL
theorem J_ic_gt {a b : Int32} {off : Int} (tgt : Nat) {x2 : Option α} (hd : decode cc pc = .ok (.if_icmp .gt off, 3)) (ht : (pc : Int) + off = (tgt : Int)) (kt : JO l cx R y cc nL rt mc ms al lo hi E g ck sk tgt ls st M x) (kf : JO l cx R y cc nL rt mc ms al lo hi E g ck sk (pc + 3) ls st M x2) : JO l cx R y cc nL rt mc ms al lo hi E g ck sk pc ls (.int b :: .int a :: st) M (if b < a then x else x2) := by
  intro r ha p e s m args below meth c H locs A lsa X hP hD hS hL
  refine lv_icmp_gt (tgt := tgt) X.1 X.2.1 hd ht (fun q => ?_) (fun q => ?_)
  · exact kt r ((if_pos q).symm.trans ha) p e s m args below meth c H locs A lsa X hP hD hS hL
  · exact kf r ((if_neg q).symm.trans ha) p e s m args below meth c H locs A lsa X hP hD hS hL
theorem J_ic_le {a b : Int32} {off : Int} (tgt : Nat) {x2 : Option α} (hd : decode cc pc = .ok (.if_icmp .le off, 3)) (ht : (pc : Int) + off = (tgt : Int)) (kt : JO l cx R y cc nL rt mc ms al lo hi E g ck sk tgt ls st M x) (kf : JO l cx R y cc nL rt mc ms al lo hi E g ck sk (pc + 3) ls st M x2) : JO l cx R y cc nL rt mc ms al lo hi E g ck sk pc ls (.int b :: .int a :: st) M (if a ≤ b then x else x2) := by
  intro r ha p e s m args below meth c H locs A lsa X hP hD hS hL
  refine lv_icmp_le (tgt := tgt) X.1 X.2.1 hd ht (fun q => ?_) (fun q => ?_)
  · exact kt r ((if_pos q).symm.trans ha) p e s m args below meth c H locs A lsa X hP hD hS hL
  · exact kf r ((if_neg q).symm.trans ha) p e s m args below meth c H locs A lsa X hP hD hS hL
theorem J_if_ne {x0 : Int32} {off : Int} (tgt : Nat) {x2 : Option α} (hd : decode cc pc = .ok (.ifCond .ne off, 3)) (ht : (pc : Int) + off = (tgt : Int)) (kt : JO l cx R y cc nL rt mc ms al lo hi E g ck sk tgt ls st M x) (kf : JO l cx R y cc nL rt mc ms al lo hi E g ck sk (pc + 3) ls st M x2) : JO l cx R y cc nL rt mc ms al lo hi E g ck sk pc ls (.int x0 :: st) M (if x0 = 0 then x2 else x) := by
  intro a ha p e s m args below meth c H locs A lsa X hP hD hS hL
  refine lv_if_ne (tgt := tgt) X.1 X.2.1 hd ht (fun q => ?_) (fun q => ?_)
  · exact kt a ((if_neg q).symm.trans ha) p e s m args below meth c H locs A lsa X hP hD hS hL
  · exact kf a ((if_pos q).symm.trans ha) p e s m args below meth c H locs A lsa X hP hD hS hL
theorem J_ic_ne {a b : Int32} {off : Int} (tgt : Nat) {x2 : Option α} (hd : decode cc pc = .ok (.if_icmp .ne off, 3)) (ht : (pc : Int) + off = (tgt : Int)) (kt : JO l cx R y cc nL rt mc ms al lo hi E g ck sk tgt ls st M x) (kf : JO l cx R y cc nL rt mc ms al lo hi E g ck sk (pc + 3) ls st M x2) : JO l cx R y cc nL rt mc ms al lo hi E g ck sk pc ls (.int b :: .int a :: st) M (if a = b then x2 else x) := by
  intro r ha p e s m args below meth c H locs A lsa X hP hD hS hL
  refine lv_icmp_ne (tgt := tgt) X.1 X.2.1 hd ht (fun q => ?_) (fun q => ?_)
  · exact kt r ((if_neg q).symm.trans ha) p e s m args below meth c H locs A lsa X hP hD hS hL
  · exact kf r ((if_pos q).symm.trans ha) p e s m args below meth c H locs A lsa X hP hD hS hL
def wk (a b : List (Option Value)) : Prop := ∀ (i : Nat) (v : Value), a[i]? = some (some v) → b[i]? = some (some v)
theorem wk_0 : wk [] [] := fun i v h => h
theorem wk_s {a b : List (Option Value)} {x : Option Value} (h : wk a b) : wk (x :: a) (x :: b) := by
  intro i v hv
  cases i with
  | zero => exact hv
  | succ i => exact h i v hv
theorem wk_n {a b : List (Option Value)} {x : Option Value} (h : wk a b) : wk (none :: a) (x :: b) := by
  intro i v hv
  cases i with
  | zero => cases hv
  | succ i => exact h i v hv
theorem J_wk {ls2 : List (Option Value)} (hw : wk ls2 ls) (k : JO l cx R y cc nL rt mc ms al lo hi E g ck sk pc ls2 st M x) : JO l cx R y cc nL rt mc ms al lo hi E g ck sk pc ls st M x := by
  intro a ha p e s m args below meth c H locs A lsa X hP hD hS hL
  exact k a ha p e s m args below meth c H locs A lsa X hP hD hS ⟨hL.1, hL.2.1, fun i v hv => hL.2.2 i v (hw i v hv)⟩
theorem J_lt {f : Mem → Option α} (h : ∀ M1, JO l cx R y cc nL rt mc ms al lo hi E g ck sk pc ls st M1 (f M1)) : JO l cx R y cc nL rt mc ms al lo hi E g ck sk pc ls st M (lt M f) := h M
theorem J_none : JO l cx R y cc nL rt mc ms al lo hi E g ck sk pc ls st M none := by
  intro a ha
  cases ha
theorem J_goto {off : Int} (tgt : Nat) (hd : decode cc pc = .ok (.goto off, 3)) (ht : (pc : Int) + off = (tgt : Int)) (k : JO l cx R y cc nL rt mc ms al lo hi E g ck sk tgt ls st M x) : JO l cx R y cc nL rt mc ms al lo hi E g ck sk pc ls st M x := by
  intro a ha p e s m args below meth c H locs A lsa X hP hD hS hL
  exact lv_goto (tgt := tgt) X.1 X.2.1 hd ht (k a ha p e s m args below meth c H locs A lsa X hP hD hS hL)
theorem J_swIn {d0 l0 h0 : Int} {offs : Array Int} {len : Nat} {x0 : Int32} {v : Int32} {off : Int} (tgt : Nat) {x2 : Option α} (hd : decode cc pc = .ok (.tableswitch d0 l0 h0 offs, len)) (h1 : ¬ v.toInt < l0) (h2 : ¬ h0 < v.toInt) (ho : offs[(v.toInt - l0).toNat]? = some off) (ht : (pc : Int) + off = (tgt : Int)) (kt : JO l cx R y cc nL rt mc ms al lo hi E g ck sk tgt ls st M x) (kf : ¬ x0 = v → JO l cx R y cc nL rt mc ms al lo hi E g ck sk pc ls (.int x0 :: st) M x2) : JO l cx R y cc nL rt mc ms al lo hi E g ck sk pc ls (.int x0 :: st) M (if x0 = v then x else x2) := by
  intro a ha p e s m args below meth c H locs A lsa X hP hD hS hL
  by_cases q : x0 = v
  · rw [if_pos q] at ha
    subst q
    exact lv_tableIn (tgt := tgt) X.1 X.2.1 hd h1 h2 ho ht (kt a ha p e s m args below meth c H locs A lsa X hP hD hS hL)
  · rw [if_neg q] at ha
    exact kf q a ha p e s m args below meth c H locs A lsa X hP hD hS hL
theorem J_swOut {d0 l0 h0 : Int} {offs : Array Int} {len : Nat} {x0 : Int32} (tgt : Nat) (hd : decode cc pc = .ok (.tableswitch d0 l0 h0 offs, len)) (h : x0.toInt < l0 ∨ h0 < x0.toInt) (ht : (pc : Int) + d0 = (tgt : Int)) (k : JO l cx R y cc nL rt mc ms al lo hi E g ck sk tgt ls st M x) : JO l cx R y cc nL rt mc ms al lo hi E g ck sk pc ls (.int x0 :: st) M x := by
  intro a ha p e s m args below meth c H locs A lsa X hP hD hS hL
  exact lv_tableOut (tgt := tgt) X.1 X.2.1 hd h ht (k a ha p e s m args below meth c H locs A lsa X hP hD hS hL)
theorem J_lsw {d0 : Int} {ps : Array (Int × Int)} {len : Nat} {x0 : Int32} {v : Int32} {off : Int} (tgt : Nat) {x2 : Option α} (hd : decode cc pc = .ok (.lookupswitch d0 ps, len)) (hp : (ps.toList.zip (ps.toList.drop 1)).all (fun (a, next) => a.1 < next.1) = true) (ho : Op.lookupswitch.offset ps.toList d0 v.toInt = off) (ht : (pc : Int) + off = (tgt : Int)) (kt : JO l cx R y cc nL rt mc ms al lo hi E g ck sk tgt ls st M x) (kf : ¬ x0 = v → JO l cx R y cc nL rt mc ms al lo hi E g ck sk pc ls (.int x0 :: st) M x2) : JO l cx R y cc nL rt mc ms al lo hi E g ck sk pc ls (.int x0 :: st) M (if x0 = v then x else x2) := by
  intro a ha p e s m args below meth c H locs A lsa X hP hD hS hL
  by_cases q : x0 = v
  · rw [if_pos q] at ha
    subst q
    exact lv_lookup (tgt := tgt) X.1 X.2.1 hd hp ho ht (kt a ha p e s m args below meth c H locs A lsa X hP hD hS hL)
  · rw [if_neg q] at ha
    exact kf q a ha p e s m args below meth c H locs A lsa X hP hD hS hL
theorem J_lswOut {d0 : Int} {ps : Array (Int × Int)} {len : Nat} {x0 : Int32} (tgt : Nat) (hd : decode cc pc = .ok (.lookupswitch d0 ps, len)) (hp : (ps.toList.zip (ps.toList.drop 1)).all (fun (a, next) => a.1 < next.1) = true) (ho : Op.lookupswitch.offset ps.toList d0 x0.toInt = d0) (ht : (pc : Int) + d0 = (tgt : Int)) (k : JO l cx R y cc nL rt mc ms al lo hi E g ck sk tgt ls st M x) : JO l cx R y cc nL rt mc ms al lo hi E g ck sk pc ls (.int x0 :: st) M x := by
  intro a ha p e s m args below meth c H locs A lsa X hP hD hS hL
  exact lv_lookup (tgt := tgt) X.1 X.2.1 hd hp ho ht (k a ha p e s m args below meth c H locs A lsa X hP hD hS hL)
theorem sw_out {x0 : Int32} {l0 h0 : Int} (n : Nat) (hn : h0 = l0 + (n : Int) - 1) (h : ∀ k, k < n → ¬ x0 = Int32.ofInt (l0 + (k : Int))) : x0.toInt < l0 ∨ h0 < x0.toInt := by
  subst hn
  rcases Int.lt_or_le x0.toInt l0 with q | q
  · exact Or.inl q
  · rcases Int.lt_or_le (l0 + (n : Int) - 1) x0.toInt with q2 | q2
    · exact Or.inr q2
    · exfalso
      refine h (x0.toInt - l0).toNat (by omega) ?_
      rw [show l0 + (((x0.toInt - l0).toNat : Nat) : Int) = x0.toInt by omega, Int32.ofInt_toInt]
def EI : (Int32 × Mem) → Option Value → GW → Mem → Prop := fun a v g M => v = some (.int a.1) ∧ g = GS ∧ M = a.2
def EZ : (Int32 × Mem) → Option Value → GW → Mem → Prop := fun a v g M => v = some (.int a.1) ∧ g = GS ∧ M = a.2 ∧ (a.1 = 0 ∨ a.1 = 1)
def EP (M0 : Mem) : Int32 → Option Value → GW → Mem → Prop := fun a v g M => v = some (.int a) ∧ g = GS ∧ M = M0
def EB (M0 : Mem) : Int32 → Option Value → GW → Mem → Prop := fun a v g M => v = some (.int a) ∧ g = GS ∧ M = M0 ∧ (a = 0 ∨ a = 1)
def EV : Mem → Option Value → GW → Mem → Prop := fun a v g M => v = none ∧ g = GS ∧ M = a
def EL (M0 : Mem) : Int64 → Option Value → GW → Mem → Prop := fun a v g M => v = some (.long a) ∧ g = GS ∧ M = M0
def ER (M0 : Mem) : Nat → Option Value → GW → Mem → Prop := fun a v g M => v = some (.ref a) ∧ g = GS ∧ M = M0 ∧ (GS.1 a = 7 ∧ 0 ≤ a ∧ a < 207)
end JR
