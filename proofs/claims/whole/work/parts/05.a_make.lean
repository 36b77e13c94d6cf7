/-! cells that are made; calls on a part of the world -/
theorem wl_succ {cx : CX} {lo n : Nat} {g : GW} {M : Mem} (h : lo ≤ n) : wl cx lo (n + 1) g M = wl cx lo n g M ++ [(cx.2.2.2 n, ent cx g M n)] := by
  unfold wl
  rw [show n + 1 - lo = (n - lo) + 1 by omega, List.range'_1_concat, List.map_append, show lo + (n - lo) = n by omega]; rfl
theorem size_ex {cx : CX} {y : MethodName} {cc : ByteArray} {nL : Nat} {rt : Option FieldType} {al : Bool} {hi lo ck : Nat} {p : Program} {s : State} {m : MethodId} {args : Array Value} {meth : Method} {c : Code} {A : Nat → Prop} {g : GW} {M : Mem} {H : Heap} {locs : List Loc} (hB : hi + ck < 1000) (hal : al = true) (hlo : lo ≤ hi) (X : JX cx y cc nL rt al hi p s m args meth c A) (hP : va_P (cx.1, cx.2.1) vwCl (wl cx lo (hi + ck) g M) H) (hS : va_S A s.heap H locs) (hz : H.size ≤ s.heap.size + ck) : cx.2.2.2 (hi + ck) = H.size ∧ H.size = s.heap.size + ck := by
  have hc := X.2.2.2.2.2.2.2.2.2.2.2 hal
  have h1 := hc (hi + ck) (by omega) hB
  have h2 : s.heap.size + ck ≤ H.size := by
    rcases ck with _ | d
    · exact hS.1
    · have hat := wl_at (cx := cx) (g := g) (M := M) (show lo ≤ hi + d by omega) (show hi + d < hi + (d + 1) by omega)
      have h3 := (hP _ _ hat).lt
      have h4 := hc (hi + d) (by omega) (by omega)
      have h5 : cx.2.2.2 (hi + d) < H.size := h3
      omega
  omega
theorem W_sz {p : Program} {l : Launch} {e : Env} {R : Room} {s : State} {m : MethodId} {args : Array Value} {below : List Frame} {meth : Method} {c : Code} {H : Heap} {locs : List Loc} {cells slots : Nat} {Q : State → Prop} {F : JFrame} (h : H.size ≤ s.heap.size + cells → W p l e R s m args below meth c H locs cells slots Q F) : W p l e R s m args below meth c H locs cells slots Q F := fun T hT X => h (by rw [← hT]; exact X.heapSize) T hT X
def NEWK (own : String) (idx ci : Nat) : Prop := ∃ (C : String) (T : u_T) (N : Nat) (tyf : Nat → FieldType), vwCl[ci]? = some (C, T, N) ∧ (∀ w ∈ u_ws C T N, w ∈ Wd) ∧ (∀ j, j < N → parseFieldDescriptor (T j).2.2.1 = some (tyf j)) ∧ N = nF ci ∧ ci < 12 ∧ Cond.classLink own idx C ∈ Wd ∧ Cond.instantiable C N ∈ Wd ∧ Cond.initialized C ∈ Wd ∧ (∀ j, j < N → defaultValue (tyf j) = (if fk ci j = 0 then .int 0 else if fk ci j = 1 then .long 0 else .null))
/-- a field of the method's own class, in its constructor -/
def FLP (own : String) (idx ci k : Nat) (ty : FieldType) : Prop :=
  ∃ (T : u_T) (N : Nat) (tyf : Nat → FieldType), vwCl[ci]? = some (own, T, N) ∧ (∀ w ∈ u_ws own T N, w ∈ Wd) ∧ (∀ j, j < N → parseFieldDescriptor (T j).2.2.1 = some (tyf j)) ∧ (∀ a, a < N → ∀ b, b < N → a ≠ b → (T a).2.1 ≠ (T b).2.1) ∧ k < N ∧ N = nF ci ∧ (T k).1 = own ∧ tyf k = ty ∧ ci < 12 ∧ Cond.fieldLink own idx own (T k).2.1 (T k).2.2.1 ∈ Wd
def upr (h : Nat → Nat → Option Nat) (o k q : Nat) : Nat → Nat → Option Nat := fun o' k' => if o' = o ∧ k' = k then some q else h o' k'
def G (h : Nat → Nat → Option Nat) : GW := (GS.1, GS.2.1, h)
theorem lcb_00 : lcb 0 0 = 0 := by decide
section JR
variable {α : Type} {l : Launch} {cx : CX} {R : Room} {y : MethodName} {cc : ByteArray} {nL : Nat} {rt : Option FieldType} {mc ms : Nat} {al : Bool} {lo hi : Nat} {E : α → Option Value → GW → Mem → Prop} {g : GW} {ck sk pc : Nat} {ls : List (Option Value)} {st : List Value} {M : Mem} {x : Option α}
set_option maxHeartbeats 2000000 in
theorem J_new {idx ci : Nat} (hB : hi + ck < 1000) (hal : al = true) (hlo : lo ≤ hi) (hf : NEWK y.cls idx ci) (hd : decode cc pc = .ok (.new idx, 3)) (hg : g.1 (hi + ck) = ci) (hr : ∀ k, g.2.2 (hi + ck) k = none) (hM : ∀ k, M (hi + ck) k = 0) (hR : ck + 1 ≤ R.cells ∧ sk + nF ci ≤ R.slots)
    (kk : JO l cx R y cc nL rt mc ms al lo hi E g (ck + 1) (sk + nF ci) (pc + 3) ls (.ref (hi + ck) :: st) M x) : JO l cx R y cc nL rt mc ms al lo hi E g ck sk pc ls st M x := by
  obtain ⟨C, T, N, tyf, h1, h2, h3, h4, h5, h6, h7, h8, h9⟩ := hf
  subst h4
  intro a ha p e s m args below meth c H locs A lsa X hP hD hS hL
  have hKn := X.2.2.2.2.2.2.2.2.1.1 ci _ h1
  refine W_sz (fun hz => ?_)
  obtain ⟨hq, -⟩ := size_ex hB hal hlo X hP hS hz
  have hent : ent cx g M (hi + ck) = .inr (ci, (List.range (nF ci)).map (fv cx g M (hi + ck))) := ent_o hg h5
  have hfs : ∀ j, j < nF ci → defaultValue (tyf j) = vp_V ((List.range (nF ci)).map (fv cx g M (hi + ck))) j := fun j hj => by
    rw [h9 j hj]
    unfold vp_V
    rw [List.getD_eq_getElem?_getD, fvs_at hj]
    unfold fv
    rw [hg, hM, hM, hr, lcb_00]
    rfl
  refine W.newcK X.1 X.2.1 X.2.2.2.1 (X.2.2.2.2.1 _ h6) (X.2.2.2.2.1 _ h7) (X.2.2.2.2.1 _ h8) rfl hd hR.1 hR.2 hKn.2.1 rfl (fun H1 kC hkC e1 z1 o1 => ?_)
  have hk : ∀ (k : Nat) (x : Nat × va_E), (wl cx lo (hi + ck) g M)[k]? = some x → H1[x.1]? = H[x.1]? := fun k x hx => o1 x.1 ((hP k x hx).lt)
  have hP1 : va_P (cx.1, cx.2.1) vwCl (wl cx lo (hi + ck) g M ++ [(H.size, ent cx g M (hi + ck))]) H1 := (hP.kept hk).app (fun k x hx => by
    have hz : k < 1 := (List.getElem?_eq_some_iff.mp hx).1
    rw [show k = 0 by omega] at hx
    cases hx
    rw [hent]
    exact ⟨_, h1, (u_born tyf X.2.2.2.2.1 h2 hKn hkC e1 h3).to hfs⟩)
  have hD1 : va_D A (wl cx lo (hi + ck) g M ++ [(H.size, ent cx g M (hi + ck))]) := hD.push hP rfl (X.2.2.2.2.2.2.2.2.2.2.1 _ hS.1)
  have hw : wl cx lo (hi + (ck + 1)) g M = wl cx lo (hi + ck) g M ++ [(H.size, ent cx g M (hi + ck))] := by
    rw [← Nat.add_assoc, wl_succ (by omega), hq]
  have := kk a ha p e s m args below meth c H1 locs A lsa X (by rw [hw]; exact hP1) (by rw [hw]; exact hD1) ⟨Nat.le_trans hS.1 (by omega), fun x h1 h2 => (o1 x (Nat.lt_of_lt_of_le h1 hS.1)).trans (hS.2.1 x h1 h2), hS.2.2⟩ hL
  rw [List.map_cons, show rv cx (.ref (hi + ck)) = .ref H.size from by show Value.ref _ = _; rw [hq]] at this
  exact this
/-- an array has been pushed -/
theorem J_pushed {p : Program} {e : Env} {s : State} {m : MethodId} {args : Array Value} {below : List Frame} {meth : Method} {c : Code} {H H1 : Heap} {locs : List Loc} {A : Nat → Prop} {lsa : Array Slot} {a : α} {N w : Nat} (ha : x = some a) (hlo : lo ≤ hi) (X : JX cx y cc nL rt al hi p s m args meth c A) (hP : va_P (cx.1, cx.2.1) vwCl (wl cx lo (hi + ck) g M) H) (hD : va_D A (wl cx lo (hi + ck) g M)) (hS : va_S A s.heap H locs) (hL : lvh cx lsa nL ls) (hq : cx.2.2.2 (hi + ck) = H.size)
    (z1 : H1.size = H.size + 1) (o1 : ∀ q, q < H.size → H1[q]? = H[q]?) (hat : va_at (cx.1, cx.2.1) vwCl (H.size, ent cx g M (hi + ck)) H1)
    (kk : JO l cx R y cc nL rt mc ms al lo hi E g (ck + 1) (sk + N) (pc + w) ls (.ref (hi + ck) :: st) M x) : W p l e R s m args below meth c H1 locs (ck + 1) (sk + N) (MQ below (QJ cx lo (hi + mc) A E a) args s mc ms A) (F0 m (pc + w) lsa (.ref H.size :: st.map (rv cx))) := by
  have hk : ∀ (k : Nat) (x : Nat × va_E), (wl cx lo (hi + ck) g M)[k]? = some x → H1[x.1]? = H[x.1]? := fun k x hx => o1 x.1 ((hP k x hx).lt)
  have hP1 : va_P (cx.1, cx.2.1) vwCl (wl cx lo (hi + ck) g M ++ [(H.size, ent cx g M (hi + ck))]) H1 := (hP.kept hk).app (fun k x hx => by
    have hz : k < 1 := (List.getElem?_eq_some_iff.mp hx).1
    rw [show k = 0 by omega] at hx
    cases hx
    exact hat)
  have hD1 : va_D A (wl cx lo (hi + ck) g M ++ [(H.size, ent cx g M (hi + ck))]) := hD.push hP rfl (X.2.2.2.2.2.2.2.2.2.2.1 _ hS.1)
  have hw : wl cx lo (hi + (ck + 1)) g M = wl cx lo (hi + ck) g M ++ [(H.size, ent cx g M (hi + ck))] := by
    rw [← Nat.add_assoc, wl_succ (by omega), hq]
  have := kk a ha p e s m args below meth c H1 locs A lsa X (by rw [hw]; exact hP1) (by rw [hw]; exact hD1) ⟨Nat.le_trans hS.1 (by omega), fun x h1 h2 => (o1 x (Nat.lt_of_lt_of_le h1 hS.1)).trans (hS.2.1 x h1 h2), hS.2.2⟩ hL
  rw [List.map_cons, show rv cx (.ref (hi + ck)) = .ref H.size from by show Value.ref _ = _; rw [hq]] at this
  exact this
set_option maxHeartbeats 2000000 in
theorem J_newa {atype : ArrayType} {n : Int32} {N kd : Nat} (hB : hi + ck < 1000) (hal : al = true) (hlo : lo ≤ hi) (hw : Cond.arrayClass (newarray.typeOf atype) ∈ Wd) (hd : decode cc pc = .ok (.newarray atype, 2)) (hk : (atype = .int ∧ kd = 12) ∨ (atype = .byte ∧ kd = 13) ∨ (atype = .long ∧ kd = 14)) (hg : g.1 (hi + ck) = kd) (hln : g.2.1 (hi + ck) = N) (hM : ∀ k, M (hi + ck) k = 0) (hn : ¬ n < 0) (hN : n.toNatClampNeg = N) (hb : N ≤ 20000) (hR : ck + 1 ≤ R.cells ∧ sk + N ≤ R.slots)
    (kk : JO l cx R y cc nL rt mc ms al lo hi E g (ck + 1) (sk + N) (pc + 2) ls (.ref (hi + ck) :: st) M x) : JO l cx R y cc nL rt mc ms al lo hi E g ck sk pc ls (.int n :: st) M x := by
  intro a ha p e s m args below meth c H locs A lsa X hP hD hS hL
  refine W_sz (fun hz => ?_)
  obtain ⟨hq, -⟩ := size_ex hB hal hlo X hP hS hz
  have hbytes : N * componentBytes (newarray.typeOf atype) ≤ 536870912 := by
    have : componentBytes (newarray.typeOf atype) ≤ 8 := by rcases hk with ⟨rfl, -⟩ | ⟨rfl, -⟩ | ⟨rfl, -⟩ <;> decide
    have := Nat.mul_le_mul hb this
    omega
  refine va_newaK X.1 X.2.1 (X.2.2.2.2.1 _ hw) rfl hd rfl hn hN hbytes hR.1 hR.2 rfl (fun H1 cA e1 z1 o1 hAr hNm => ?_)
  refine J_pushed ha hlo X hP hD hS hL hq z1 o1 ?_ kk
  rcases hk with ⟨rfl, rfl⟩ | ⟨rfl, rfl⟩ | ⟨rfl, rfl⟩
  · have hc : cA = cx.2.2.1 0 := Option.some.inj (hNm.symm.trans (X.2.2.2.2.2.2.2.2.1.2 0 (cx.2.2.1 0, .int) rfl).2)
    rw [ent_i hg (by decide) (by decide), hln]
    show H1[H.size]? = some (arrV (cx.2.2.1 0) N (fun j => .int (M (hi + ck) j)))
    rw [e1, hc, show (fun j => Value.int (M (hi + ck) j)) = fun _ => Value.int 0 from funext fun j => by rw [hM]]; rfl
  · have hc : cA = cx.2.2.1 1 := Option.some.inj (hNm.symm.trans (X.2.2.2.2.2.2.2.2.1.2 1 (cx.2.2.1 1, .byte) rfl).2)
    rw [ent_i hg (by decide) (by decide), hln]
    show H1[H.size]? = some (arrV (cx.2.2.1 1) N (fun j => .int (M (hi + ck) j)))
    rw [e1, hc, show (fun j => Value.int (M (hi + ck) j)) = fun _ => Value.int 0 from funext fun j => by rw [hM]]; rfl
  · have hc : cA = cx.2.2.1 2 := Option.some.inj (hNm.symm.trans (X.2.2.2.2.2.2.2.2.1.2 2 (cx.2.2.1 2, .long) rfl).2)
    rw [ent_l hg, hln]
    show H1[H.size]? = some (arrV (cx.2.2.1 2) N (fun i => .long (lcb (M (hi + ck) (2 * i)) (M (hi + ck) (2 * i + 1)))))
    rw [e1, hc, show (fun i => Value.long (lcb (M (hi + ck) (2 * i)) (M (hi + ck) (2 * i + 1)))) = fun _ => Value.long 0 from funext fun j => by rw [hM, hM, lcb_00]]; rfl
set_option maxHeartbeats 2000000 in
theorem J_anew {n : Int32} {N kd idx : Nat} {C : String} (hB : hi + ck < 1000) (hal : al = true) (hlo : lo ≤ hi) (hw : Cond.classLink y.cls idx C ∈ Wd) (hd : decode cc pc = .ok (.anewarray idx, 3)) (hk : (C = RX0 ∧ kd = 15) ∨ (C = RX7 ∧ kd = 16)) (hg : g.1 (hi + ck) = kd) (hln : g.2.1 (hi + ck) = N) (hr : ∀ k, g.2.2 (hi + ck) k = none) (hn : ¬ n < 0) (hN : n.toNatClampNeg = N) (hb : N ≤ 20000) (hR : ck + 1 ≤ R.cells ∧ sk + N ≤ R.slots)
    (kk : JO l cx R y cc nL rt mc ms al lo hi E g (ck + 1) (sk + N) (pc + 3) ls (.ref (hi + ck) :: st) M x) : JO l cx R y cc nL rt mc ms al lo hi E g ck sk pc ls (.int n :: st) M x := by
  subst hN
  intro a ha p e s m args below meth c H locs A lsa X hP hD hS hL
  refine W_sz (fun hz => ?_)
  obtain ⟨hq, -⟩ := size_ex hB hal hlo X hP hS hz
  have hao : va_AO C s := by
    rcases hk with ⟨rfl, -⟩ | ⟨rfl, -⟩
    · exact X.2.2.2.2.2.2.2.2.2.1.2.2.2.2.2.2.2.2.1
    · exact X.2.2.2.2.2.2.2.2.2.1.2.2.2.2.2.2.2.2.2
  refine W.anew X.1 X.2.1 X.2.2.2.1 (X.2.2.2.2.1 _ hw) (va_AO.use hao) rfl hd rfl hn (by omega) hR.1 hR.2 (fun cA kA comp f1 f2 f3 f4 => ?_)
  generalize hH1 : H.push ({ cls := cA, slots := Array.replicate n.toNatClampNeg .null, vm := .none } : Cell) = H1
  have z1 : H1.size = H.size + 1 := by rw [← hH1, Array.size_push]
  have e1 : H1[H.size]? = some (arrV cA n.toNatClampNeg (fun _ => .null)) := by rw [← hH1, Array.getElem?_push_size, ← arrV_new]
  have o1 : ∀ q : Nat, q < H.size → H1[q]? = H[q]? := fun q hq => by rw [← hH1, Array.getElem?_push, if_neg (Nat.ne_of_lt hq)]
  refine J_pushed ha hlo X hP hD hS hL hq z1 o1 ?_ kk
  have hent : ent cx g M (hi + ck) = .inl (cx.2.2.1 (kd - 12), n.toNatClampNeg, .inr (.inr (.inr (.inr (fun i => (g.2.2 (hi + ck) i).map cx.2.2.2))))) := by
    unfold ent
    rw [hg, hln]
    rcases hk with ⟨-, rfl⟩ | ⟨-, rfl⟩ <;> rfl
  rw [hent]
  show H1[H.size]? = some (arrV (cx.2.2.1 (kd - 12)) n.toNatClampNeg (fun j => va_rf ((g.2.2 (hi + ck) j).map cx.2.2.2)))
  rw [e1, show (fun j => va_rf ((g.2.2 (hi + ck) j).map cx.2.2.2)) = fun _ => Value.null from funext fun j => by rw [hr]; rfl]
  have hc : cA = cx.2.2.1 (kd - 12) := by
    rcases hk with ⟨rfl, rfl⟩ | ⟨rfl, rfl⟩
    · obtain ⟨_, _, _, _, _, h⟩ := (X.2.2.2.2.2.2.2.2.1.2 3 (cx.2.2.1 3, .object RX0) rfl).2
      exact Option.some.inj (f1.symm.trans h)
    · obtain ⟨_, _, _, _, _, h⟩ := (X.2.2.2.2.2.2.2.2.1.2 4 (cx.2.2.1 4, .object RX7) rfl).2
      exact Option.some.inj (f1.symm.trans h)
  rw [hc]
set_option maxHeartbeats 2000000 in
theorem J_putr {idx ci k o q : Nat} {ty : FieldType} (hinit : y.name = "<init>") (hf : FLP y.cls idx ci k ty) (hd : decode cc pc = .ok (.putfield idx, 3)) (hk : IsK g lo (hi + ck) o ci) (h2' : fk ci k = 2) (hn : ∀ v : Nat, narrow ty (.ref v) = .ref v) (hfit : ∀ v : Nat, fits ty (.ref v) = true) (kk : JO l cx R y cc nL rt mc ms al lo hi E (g.1, g.2.1, upr g.2.2 o k q) ck sk (pc + 3) ls st M x) : JO l cx R y cc nL rt mc ms al lo hi E g ck sk pc ls (.ref q :: .ref o :: st) M x := by
  obtain ⟨T, N, tyf, h1, h2, h3, h4, h5, h6, h7, h9, h10, h11⟩ := hf
  obtain ⟨k1, k2, k3⟩ := hk
  intro a ha p e s m args below meth c H locs A lsa X hP hD hS hL
  have hat := wl_at (cx := cx) (g := g) (M := M) k2 k3
  rw [ent_o k1 h10] at hat
  have hset : (wl cx lo (hi + ck) g M).set (o - lo) (cx.2.2.2 o, .inr (ci, ((List.range (nF ci)).map (fv cx g M o)).set k (.ref (cx.2.2.2 q)))) = wl cx lo (hi + ck) (g.1, g.2.1, upr g.2.2 o k q) M := by
    refine wl_set k2 k3 ?_ (fun b hb => ent_congr rfl rfl (funext fun j => if_neg (fun z => hb z.1)) rfl)
    rw [ent_o (g := (g.1, g.2.1, upr g.2.2 o k q)) k1 h10]
    congr 2
    refine fvs_set (by omega) ?_ (fun j hj hjk => ?_)
    · unfold fv
      show _ = if fk (g.1 o) k = 0 then _ else if fk (g.1 o) k = 1 then _ else va_rf ((upr g.2.2 o k q o k).map cx.2.2.2)
      rw [k1, if_neg (by omega), if_neg (by omega)]
      unfold upr
      rw [if_pos ⟨rfl, rfl⟩]; rfl
    · have e : upr g.2.2 o k q o j = g.2.2 o j := if_neg (fun z => hjk z.2)
      unfold fv
      show (if fk (g.1 o) j = 0 then _ else if fk (g.1 o) j = 1 then _ else va_rf ((upr g.2.2 o k q o j).map cx.2.2.2)) = _
      rw [e]
  have kk2 : ∀ (H1 : Heap) (locs1 : List Loc), va_P (cx.1, cx.2.1) vwCl ((wl cx lo (hi + ck) g M).set (o - lo) (cx.2.2.2 o, .inr (ci, ((List.range (nF ci)).map (fv cx g M o)).set k (.ref (cx.2.2.2 q))))) H1 → va_D A ((wl cx lo (hi + ck) g M).set (o - lo) (cx.2.2.2 o, .inr (ci, ((List.range (nF ci)).map (fv cx g M o)).set k (.ref (cx.2.2.2 q))))) → va_S A s.heap H1 locs1 → W p l e R s m args below meth c H1 locs1 ck sk (MQ below (QJ cx lo (hi + mc) A E a) args s mc ms A) (F0 m (pc + 3) lsa (st.map (rv cx))) := by
    intro H1 locs1 q1 q2 q3
    rw [hset] at q1 q2
    exact kk a ha p e s m args below meth c H1 locs1 A lsa X q1 q2 q3 hL
  have hty : parseFieldDescriptor (T k).2.2.1 = some ty := by rw [h3 k h5, h9]
  cases hfin : (T k).2.2.2
  · exact va_put (D := (cx.1, cx.2.1)) (ci := ci) X.1 X.2.1 X.2.2.2.2.1 h2 tyf h3 h4 X.2.2.2.1 X.2.2.2.2.2.2.2.2.1 hP hD hS (o - lo) hat h1 k h5 (X.2.2.2.2.1 _ h11) (fun _ h => by rw [h7] at h; exact h) hfin hty (hn _) (hfit _) (by simp; omega) hd kk2
  · exact va_putF (D := (cx.1, cx.2.1)) (ci := ci) X.1 X.2.1 X.2.2.2.2.1 h2 tyf h3 h4 X.2.2.2.1 X.2.2.2.2.2.2.2.2.1 hP hD hS (o - lo) hat h1 k h5 (X.2.2.2.2.1 _ h11) (fun _ h => by rw [h7] at h; exact h) hfin (X.2.2.2.2.2.2.2.1.trans hinit) h7 hty (hn _) (hfit _) (by simp; omega) hd kk2
set_option maxHeartbeats 2000000 in
theorem J_putF {idx ci k o : Nat} {v : Int32} (hinit : y.name = "<init>") (hf : FLP y.cls idx ci k .int) (hd : decode cc pc = .ok (.putfield idx, 3)) (hk : IsK g lo (hi + ck) o ci) (h0 : fk ci k = 0) (hkk : k < 22) (kk : JO l cx R y cc nL rt mc ms al lo hi E g ck sk (pc + 3) ls st (upd2 M o k v) x) : JO l cx R y cc nL rt mc ms al lo hi E g ck sk pc ls (.int v :: .ref o :: st) M x := by
  obtain ⟨T, N, tyf, h1, h2, h3, h4, h5, h6, h7, h9, h10, h11⟩ := hf
  obtain ⟨k1, k2, k3⟩ := hk
  intro a ha p e s m args below meth c H locs A lsa X hP hD hS hL
  have hat := wl_at (cx := cx) (g := g) (M := M) k2 k3
  rw [ent_o k1 h10] at hat
  have hset : (wl cx lo (hi + ck) g M).set (o - lo) (cx.2.2.2 o, .inr (ci, ((List.range (nF ci)).map (fv cx g M o)).set k (.int v))) = wl cx lo (hi + ck) g (upd2 M o k v) := by
    refine wl_set k2 k3 ?_ (fun b hb => ent_congr rfl rfl rfl (upd2_row hb))
    rw [ent_o k1 h10]
    congr 2
    refine fvs_set (by omega) ?_ (fun j hj hjk => fv_upd hj hjk (by unfold HI; omega))
    unfold fv
    rw [k1, if_pos h0]; simp [upd2]
  have kk2 : ∀ (H1 : Heap) (locs1 : List Loc), va_P (cx.1, cx.2.1) vwCl ((wl cx lo (hi + ck) g M).set (o - lo) (cx.2.2.2 o, .inr (ci, ((List.range (nF ci)).map (fv cx g M o)).set k (.int v)))) H1 → va_D A ((wl cx lo (hi + ck) g M).set (o - lo) (cx.2.2.2 o, .inr (ci, ((List.range (nF ci)).map (fv cx g M o)).set k (.int v)))) → va_S A s.heap H1 locs1 → W p l e R s m args below meth c H1 locs1 ck sk (MQ below (QJ cx lo (hi + mc) A E a) args s mc ms A) (F0 m (pc + 3) lsa (st.map (rv cx))) := by
    intro H1 locs1 q1 q2 q3
    rw [hset] at q1 q2
    exact kk a ha p e s m args below meth c H1 locs1 A lsa X q1 q2 q3 hL
  have hty : parseFieldDescriptor (T k).2.2.1 = some .int := by rw [h3 k h5, h9]
  cases hfin : (T k).2.2.2
  · exact va_put (D := (cx.1, cx.2.1)) (ci := ci) X.1 X.2.1 X.2.2.2.2.1 h2 tyf h3 h4 X.2.2.2.1 X.2.2.2.2.2.2.2.2.1 hP hD hS (o - lo) hat h1 k h5 (X.2.2.2.2.1 _ h11) (fun _ h => by rw [h7] at h; exact h) hfin hty (vp_nar_int v) rfl (by simp; omega) hd kk2
  · exact va_putF (D := (cx.1, cx.2.1)) (ci := ci) X.1 X.2.1 X.2.2.2.2.1 h2 tyf h3 h4 X.2.2.2.1 X.2.2.2.2.2.2.2.2.1 hP hD hS (o - lo) hat h1 k h5 (X.2.2.2.2.1 _ h11) (fun _ h => by rw [h7] at h; exact h) hfin (X.2.2.2.2.2.2.2.1.trans hinit) h7 hty (vp_nar_int v) rfl (by simp; omega) hd kk2
set_option maxHeartbeats 2000000 in
theorem J_aast {o q kd ci n : Nat} {i : Int32} (hk : IsK g lo (hi + ck) o kd) (hkd : (kd = 15 ∧ ci = 0) ∨ (kd = 16 ∧ ci = 7)) (hq : IsK g lo (hi + ck) q ci) (hn : g.2.1 o = n) (hin : vp_in i n) (hd : decode cc pc = .ok (.aastore, 1)) (kk : JO l cx R y cc nL rt mc ms al lo hi E (g.1, g.2.1, upr g.2.2 o i.toNatClampNeg q) ck sk (pc + 1) ls st M x) : JO l cx R y cc nL rt mc ms al lo hi E g ck sk pc ls (.ref q :: .int i :: .ref o :: st) M x := by
  obtain ⟨k1, k2, k3⟩ := hk
  obtain ⟨q1, q2, q3⟩ := hq
  intro a ha p e s m args below meth c H locs A lsa X hP hD hS hL
  have hentA : ∀ g' : GW, g'.1 = g.1 → g'.2.1 = g.2.1 → ent cx g' M o = .inl (cx.2.2.1 (kd - 12), n, .inr (.inr (.inr (.inr (fun j => (g'.2.2 o j).map cx.2.2.2))))) := fun g' e1 e2 => by
    unfold ent
    rw [e1, e2, k1, hn]
    rcases hkd with ⟨rfl, -⟩ | ⟨rfl, -⟩ <;> rfl
  have hat := wl_at (cx := cx) (g := g) (M := M) k2 k3
  rw [hentA g rfl rfl] at hat
  have hatq := wl_at (cx := cx) (g := g) (M := M) q2 q3
  rw [ent_o q1 (by rcases hkd with ⟨-, rfl⟩ | ⟨-, rfl⟩ <;> decide)] at hatq
  have hset : (wl cx lo (hi + ck) g M).set (o - lo) (cx.2.2.2 o, .inl (cx.2.2.1 (kd - 12), n, .inr (.inr (.inr (.inr (va_up (fun j => (g.2.2 o j).map cx.2.2.2) i.toNatClampNeg (some (cx.2.2.2 q)))))))) = wl cx lo (hi + ck) (g.1, g.2.1, upr g.2.2 o i.toNatClampNeg q) M := by
    refine wl_set k2 k3 ?_ (fun b hb => ent_congr rfl rfl (funext fun j => if_neg (fun z => hb z.1)) rfl)
    rw [hentA (g.1, g.2.1, upr g.2.2 o i.toNatClampNeg q) rfl rfl]
    congr 7
    funext j
    show va_up _ _ _ j = (upr g.2.2 o i.toNatClampNeg q o j).map cx.2.2.2
    unfold va_up upr
    by_cases z : j = i.toNatClampNeg
    · rw [if_pos z, if_pos ⟨rfl, z⟩]; rfl
    · rw [if_neg z, if_neg (fun w => z w.2)]
  have kk2 : ∀ (H1 : Heap) (locs1 : List Loc), va_P (cx.1, cx.2.1) vwCl ((wl cx lo (hi + ck) g M).set (o - lo) (cx.2.2.2 o, .inl (cx.2.2.1 (kd - 12), n, .inr (.inr (.inr (.inr (va_up (fun j => (g.2.2 o j).map cx.2.2.2) i.toNatClampNeg (some (cx.2.2.2 q))))))))) H1 → va_D A ((wl cx lo (hi + ck) g M).set (o - lo) (cx.2.2.2 o, .inl (cx.2.2.1 (kd - 12), n, .inr (.inr (.inr (.inr (va_up (fun j => (g.2.2 o j).map cx.2.2.2) i.toNatClampNeg (some (cx.2.2.2 q))))))))) → va_S A s.heap H1 locs1 → W p l e R s m args below meth c H1 locs1 ck sk (MQ below (QJ cx lo (hi + mc) A E a) args s mc ms A) (F0 m (pc + 1) lsa (st.map (rv cx))) := by
    intro H1 locs1 q1 q2 q3
    rw [hset] at q1 q2
    exact kk a ha p e s m args below meth c H1 locs1 A lsa X q1 q2 q3 hL
  rcases hkd with ⟨rfl, rfl⟩ | ⟨rfl, rfl⟩
  · exact va_astq X.1 X.2.1 X.2.2.2.2.2.2.2.2.1 hP hD hS (o - lo) 3 (q - lo) 0 (r := (RX0, TX0, 14)) hat rfl hatq rfl hin hd kk2
  · exact va_astq X.1 X.2.1 X.2.2.2.2.2.2.2.2.1 hP hD hS (o - lo) 4 (q - lo) 7 (r := (RX7, TX7, 11)) hat rfl hatq rfl hin hd kk2
end JR
