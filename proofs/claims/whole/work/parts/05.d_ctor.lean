/-! the state of a constructor: cells made so far, fields set so far -/
def ZH (h : Nat → Nat → Option Nat) (b : Nat) : Prop := ∀ o k, b ≤ o → h o k = none
def ZM (M : Mem) (b : Nat) : Prop := ∀ o k, b ≤ o → M o k = 0
theorem ZH.up {h : Nat → Nat → Option Nat} {a b : Nat} (z : ZH h a) (hb : a ≤ b) : ZH h b := fun o k ho => z o k (Nat.le_trans hb ho)
theorem ZM.up {h : Mem} {a b : Nat} (z : ZM h a) (hb : a ≤ b) : ZM h b := fun o k ho => z o k (Nat.le_trans hb ho)
def gR (a b : Nat) (h : Nat → Nat → Option Nat) : Nat → Nat → Option Nat := fun o k => if a ≤ o ∧ o < b then GS.2.2 o k else h o k
def gF (q c p i : Nat) (F : List Nat) (h : Nat → Nat → Option Nat) : Nat → Nat → Option Nat := fun o k => if o = p ∧ i ≤ k then none else if q < o ∧ o < c then GS.2.2 o k else if o = q ∧ k ∈ F then GS.2.2 q k else h o k
def EC (a b : Nat) (h : Nat → Nat → Option Nat) (M' : Mem) : Unit → Option Value → GW → Mem → Prop := fun _ v g M => v = none ∧ g = G (gR a b h) ∧ M = M'
def rowR (q : Nat) : List (Option Nat) := rfL.getD q []
theorem GS_row (o k : Nat) : GS.2.2 o k = (rowR o).getD k none := rfl
theorem kdL_len : kdL.length = 218 := by decide +kernel
theorem kd_lt {o k : Nat} (h : GS.1 o = k) (hk : k < 99) : o < 1000 := by
  by_cases w : o < 218
  · omega
  · have e : GS.1 o = 99 := by
      show kdL.getD o 99 = 99
      rw [List.getD_eq_getElem?_getD, List.getElem?_eq_none_iff.mpr (by rw [kdL_len]; omega)]; rfl
    omega
theorem rowN {o : Nat} {row : List (Option Nat)} {F : List Nat} (h : rowR o = row) (hF : (List.range row.length).all (fun k => F.contains k || (row.getD k none).isNone) = true) : ∀ k, k ∉ F → GS.2.2 o k = none := by
  intro k hk
  rw [GS_row, h]
  by_cases hl : k < row.length
  · have := List.all_eq_true.mp hF k (List.mem_range.mpr hl)
    rw [Bool.or_eq_true] at this
    rcases this with w | w
    · exact absurd (List.contains_iff_mem.mp w) hk
    · exact Option.isNone_iff_eq_none.mp w
  · rw [List.getD_eq_getElem?_getD, List.getElem?_eq_none_iff.mpr (by omega)]; rfl
theorem row0 {o : Nat} (h : rowR o = []) : ∀ k, GS.2.2 o k = none := fun k => by rw [GS_row, h]; rfl
theorem rowL {o n : Nat} {row : List (Option Nat)} (h : rowR o = row) (hn : row.length ≤ n) : ∀ k, n ≤ k → GS.2.2 o k = none := fun k hk => by
  rw [GS_row, h, List.getD_eq_getElem?_getD, List.getElem?_eq_none_iff.mpr (by omega)]; rfl
theorem rowP {o k q : Nat} {row : List (Option Nat)} (h : rowR o = row) (hq : row[k]? = some (some q)) : GS.2.2 o k = some q := by
  rw [GS_row, h, List.getD_eq_getElem?_getD, hq]; rfl
section GF
variable {h : Nat → Nat → Option Nat} {q c p i k r n : Nat} {F : List Nat}
theorem gF_0 (hz : ZH h q) (hp : q < p) : h = gF q (q + 1) p i [] h := by
  funext o k
  unfold gF
  by_cases a : o = p ∧ i ≤ k
  · rw [if_pos a]; exact hz _ _ (by omega)
  · rw [if_neg a, if_neg (show ¬ (q < o ∧ o < q + 1) by omega), if_neg (show ¬ (o = q ∧ k ∈ []) from fun w => by cases w.2)]
theorem gF_z (hz : ZH h q) (hq : q < c) : ZH (gF q c p i F h) c := by
  intro o k ho
  unfold gF
  by_cases a : o = p ∧ i ≤ k
  · rw [if_pos a]
  · rw [if_neg a, if_neg (show ¬ (q < o ∧ o < c) by omega), if_neg (show ¬ (o = q ∧ k ∈ F) from fun w => by omega)]; exact hz _ _ (by omega)
theorem gF_arr (hz : ZH h q) (hq : q < c) (hr : ∀ k, GS.2.2 c k = none) : gF q c p i F h = gF q (c + 1) p i F h := by
  funext o k
  unfold gF
  by_cases a : o = p ∧ i ≤ k
  · rw [if_pos a, if_pos a]
  · rw [if_neg a, if_neg a]
    by_cases b : o = c
    · subst b
      rw [if_neg (show ¬ (q < o ∧ o < o) by omega), if_neg (show ¬ (o = q ∧ k ∈ F) from fun w => by omega), if_pos (show q < o ∧ o < o + 1 by omega), hr]; exact hz _ _ (by omega)
    · by_cases d : q < o ∧ o < c
      · rw [if_pos d, if_pos (show q < o ∧ o < c + 1 by omega)]
      · rw [if_neg d, if_neg (show ¬ (q < o ∧ o < c + 1) by omega)]
theorem gF_parr (hq : q < c) : gF q c c 0 F h = gF q (c + 1) c 0 F h := by
  funext o k
  unfold gF
  by_cases a : o = c
  · rw [if_pos ⟨a, Nat.zero_le _⟩, if_pos ⟨a, Nat.zero_le _⟩]
  · have a2 : ¬ (o = c ∧ 0 ≤ k) := fun w => a w.1
    simp only [if_neg a2]
    by_cases d : q < o ∧ o < c
    · rw [if_pos d, if_pos (show q < o ∧ o < c + 1 by omega)]
    · rw [if_neg d, if_neg (show ¬ (q < o ∧ o < c + 1) by omega)]
theorem gF_sub (hq : q < c) (hp : p < c ∨ c + n ≤ p) : gR c (c + n) (gF q c p i F h) = gF q (c + n) p i F h := by
  funext o k
  unfold gR gF
  by_cases b : c ≤ o ∧ o < c + n
  · rw [if_pos b, if_neg (show ¬ (o = p ∧ i ≤ k) by omega), if_pos (show q < o ∧ o < c + n by omega)]
  · rw [if_neg b]
    by_cases a : o = p ∧ i ≤ k
    · rw [if_pos a, if_pos a]
    · rw [if_neg a, if_neg a]
      by_cases d : q < o ∧ o < c
      · rw [if_pos d, if_pos (show q < o ∧ o < c + n by omega)]
      · rw [if_neg d, if_neg (show ¬ (q < o ∧ o < c + n) by omega)]
theorem gF_put (hg : GS.2.2 q k = some r) (hqp : q < p) : upr (gF q c p i F h) q k r = gF q c p i (k :: F) h := by
  funext o j
  unfold upr gF
  by_cases b : o = q ∧ j = k
  · obtain ⟨b1, b2⟩ := b
    subst b1; subst b2
    rw [if_pos ⟨rfl, rfl⟩, if_neg (show ¬ (o = p ∧ i ≤ j) by omega), if_neg (show ¬ (o < o ∧ o < c) by omega), if_pos (show o = o ∧ j ∈ j :: F from ⟨rfl, List.mem_cons_self⟩), hg]
  · rw [if_neg b]
    by_cases a : o = p ∧ i ≤ j
    · rw [if_pos a, if_pos a]
    · rw [if_neg a, if_neg a]
      by_cases d : q < o ∧ o < c
      · rw [if_pos d, if_pos d]
      · rw [if_neg d, if_neg d]
        by_cases f : o = q ∧ j ∈ F
        · rw [if_pos f, if_pos ⟨f.1, List.mem_cons_of_mem _ f.2⟩]
        · rw [if_neg f, if_neg (fun w => (List.mem_cons.mp w.2).elim (fun e => b ⟨w.1, e⟩) (fun e => f ⟨w.1, e⟩))]
theorem gF_ast (hg : GS.2.2 p i = some r) (hqp : q < p) (hp : p < c) : upr (gF q c p i F h) p i r = gF q c p (i + 1) F h := by
  funext o j
  unfold upr gF
  by_cases b : o = p ∧ j = i
  · obtain ⟨b1, b2⟩ := b
    subst b1; subst b2
    rw [if_pos ⟨rfl, rfl⟩, if_neg (show ¬ (o = o ∧ j + 1 ≤ j) by omega), if_pos (show q < o ∧ o < c by omega), hg]
  · rw [if_neg b]
    by_cases a : o = p ∧ i ≤ j
    · rw [if_pos a, if_pos (show o = p ∧ i + 1 ≤ j by omega)]
    · rw [if_neg a, if_neg (show ¬ (o = p ∧ i + 1 ≤ j) by omega)]
theorem gF_end {N : Nat} (hz : ZH h q) (hF : ∀ k, k ∉ F → GS.2.2 q k = none) (hqp : q < p) (hp : ∀ k, N ≤ k → GS.2.2 p k = none) (hc : q < c) : gF q c p N F h = gR q c h := by
  funext o k
  unfold gR gF
  by_cases a : o = p ∧ N ≤ k
  · rw [if_pos a]
    by_cases b : q ≤ o ∧ o < c
    · rw [if_pos b, a.1, hp _ a.2]
    · rw [if_neg b]; exact (hz _ _ (by omega)).symm
  · rw [if_neg a]
    by_cases d : q < o ∧ o < c
    · rw [if_pos d, if_pos (show q ≤ o ∧ o < c by omega)]
    · rw [if_neg d]
      by_cases e : o = q
      · subst e
        rw [if_pos (show o ≤ o ∧ o < c from ⟨Nat.le_refl _, hc⟩)]
        by_cases f : k ∈ F
        · rw [if_pos ⟨rfl, f⟩]
        · rw [if_neg (show ¬ (o = o ∧ k ∈ F) from fun w => f w.2), hF _ f]; exact hz _ _ (Nat.le_refl _)
      · rw [if_neg (show ¬ (o = q ∧ k ∈ F) from fun w => e w.1), if_neg (show ¬ (q ≤ o ∧ o < c) by omega)]
theorem gF_get (hk : k ∈ F) (hqp : q < p) : gF q c p i F h q k = GS.2.2 q k := by
  unfold gF
  rw [if_neg (show ¬ (q = p ∧ i ≤ k) by omega), if_neg (show ¬ (q < q ∧ q < c) by omega), if_pos (show q = q ∧ k ∈ F from ⟨rfl, hk⟩)]
end GF
theorem JO_none {α : Type} {l : Launch} {cx : CX} {R : Room} {y : MethodName} {cc : ByteArray} {nL : Nat} {rt : Option FieldType} {mc ms : Nat} {al : Bool} {lo hi : Nat} {E : α → Option Value → GW → Mem → Prop} {g : GW} {ck sk pc : Nat} {ls : List (Option Value)} {st : List Value} {M : Mem} : JO l cx R y cc nL rt mc ms al lo hi E g ck sk pc ls st M none := fun _ ha => nomatch ha
section CT
variable {α : Type} {l : Launch} {cx : CX} {R : Room} {y : MethodName} {cc : ByteArray} {nL : Nat} {rt : Option FieldType} {mc ms : Nat} {al : Bool} {lo hi : Nat} {E : α → Option Value → GW → Mem → Prop} {g : GW} {ck sk pc : Nat} {ls : List (Option Value)} {st : List Value} {M : Mem} {x : Option α} {h : Nat → Nat → Option Nat} {q c p i : Nat} {F : List Nat}
theorem JO_cs {ck' sk' : Nat} (h1 : ck = ck') (h2 : sk = sk') (kk : JO l cx R y cc nL rt mc ms al lo hi E g ck' sk' pc ls st M x) : JO l cx R y cc nL rt mc ms al lo hi E g ck sk pc ls st M x := by subst h1; subst h2; exact kk
theorem JO_M {M' : Mem} (h1 : M = M') (kk : JO l cx R y cc nL rt mc ms al lo hi E g ck sk pc ls st M' x) : JO l cx R y cc nL rt mc ms al lo hi E g ck sk pc ls st M x := by subst h1; exact kk
theorem JO_G {r r' : Nat → Nat → Option Nat} (h1 : r = r') (kk : JO l cx R y cc nL rt mc ms al lo hi E (G r') ck sk pc ls st M x) : JO l cx R y cc nL rt mc ms al lo hi E (G r) ck sk pc ls st M x := by subst h1; exact kk
theorem J_ic_geT {a b : Int32} {off : Int} (tgt : Nat) (hd : decode cc pc = .ok (.if_icmp .ge off, 3)) (ht : (pc : Int) + off = (tgt : Int)) (hb : b ≤ a) (kt : JO l cx R y cc nL rt mc ms al lo hi E g ck sk tgt ls st M x) : JO l cx R y cc nL rt mc ms al lo hi E g ck sk pc ls (.int b :: .int a :: st) M x := by
  have := J_ic_ge (a := a) (b := b) tgt (x := x) (x2 := none) hd ht kt JO_none
  rwa [if_pos hb] at this
theorem J_ic_geF {a b : Int32} {off : Int} (tgt : Nat) (hd : decode cc pc = .ok (.if_icmp .ge off, 3)) (ht : (pc : Int) + off = (tgt : Int)) (hb : ¬ b ≤ a) (kf : JO l cx R y cc nL rt mc ms al lo hi E g ck sk (pc + 3) ls st M x) : JO l cx R y cc nL rt mc ms al lo hi E g ck sk pc ls (.int b :: .int a :: st) M x := by
  have := J_ic_ge (a := a) (b := b) tgt (x := none) (x2 := x) hd ht JO_none kf
  rwa [if_neg hb] at this
theorem JO_x {x' : Option α} (h1 : x = x') (kk : JO l cx R y cc nL rt mc ms al lo hi E g ck sk pc ls st M x') : JO l cx R y cc nL rt mc ms al lo hi E g ck sk pc ls st M x := by subst h1; exact kk
theorem C_cS {idx nL' : Nat} {y' : MethodName} {cc' : ByteArray} {rm : Room} {as stk : List Value} {L : Int32} (hC : Con l cx rm y' cc' nL' (some .int) 0 0 false 0 0 (EP M) GS as M (some L)) (hw : CKS y.cls idx y' cc' nL' (some .int) as.length) (hd : decode cc pc = .ok (.invokestatic idx, 3)) (hs : stk = as.reverse ++ st) (hR : rm.cells = 0 ∧ rm.slots = 0 ∧ rm.frames + 1 ≤ R.frames ∧ 8 + (nL' + 11) + rm.locals ≤ R.locals) (hR2 : ck ≤ R.cells ∧ sk ≤ R.slots ∧ sumW st ≤ 8) (kk : JO l cx R y cc nL rt mc ms al 0 hi E g ck sk (pc + 3) ls (.int L :: st) M x) : JO l cx R y cc nL rt mc ms al 0 hi E g ck sk pc ls stk M x := by
  refine JO_x (x' := (some L).bind (fun r => if r = L then x else none)) (by simp) ?_
  refine J_cSW (fun _ => g) (fun _ => M) hC ⟨Nat.le_refl _, Nat.zero_le _⟩ (fun o _ h => absurd h (Nat.not_lt_zero _)) (fun _ _ _ _ _ o _ h => absurd h (Nat.not_lt_zero _)) (fun _ _ _ _ _ o _ _ _ => rfl) hw hd hs hR hR2 (fun r v g' M' hE => ?_)
  obtain ⟨rfl, -, -⟩ := hE
  by_cases e : r = L
  · subst e
    rw [if_pos rfl]; exact kk
  · rw [if_neg e]; exact JO_none
theorem C_putr {idx ci k r : Nat} {ty : FieldType} (hinit : y.name = "<init>") (hf : FLP y.cls idx ci k ty) (hd : decode cc pc = .ok (.putfield idx, 3)) (hk : GS.1 q = ci) (hq : q < hi + ck) (h2' : fk ci k = 2) (hn : ∀ v : Nat, narrow ty (.ref v) = .ref v) (hfit : ∀ v : Nat, fits ty (.ref v) = true) (hg : GS.2.2 q k = some r) (hqp : q < p) (kk : JO l cx R y cc nL rt mc ms al 0 hi E (G (gF q c p i (k :: F) h)) ck sk (pc + 3) ls st M x) : JO l cx R y cc nL rt mc ms al 0 hi E (G (gF q c p i F h)) ck sk pc ls (.ref r :: .ref q :: st) M x := by
  refine J_putr hinit hf hd ⟨hk, Nat.zero_le _, hq⟩ h2' hn hfit ?_
  show JO l cx R y cc nL rt mc ms al 0 hi E (G (upr (gF q c p i F h) q k r)) ck sk (pc + 3) ls st M x
  rw [gF_put hg hqp]; exact kk
theorem C_getr {idx ci k r : Nat} {fin : Bool} {ty : FieldType} (hf : FLK y.cls idx ci k fin ty) (hd : decode cc pc = .ok (.getfield idx, 3)) (hk : GS.1 q = ci) (hq : q < hi + ck) (h0 : fk ci k = 2) (hF : k ∈ F) (hqp : q < p) (hg : GS.2.2 q k = some r) (kk : JO l cx R y cc nL rt mc ms al 0 hi E (G (gF q c p i F h)) ck sk (pc + 3) ls (.ref r :: st) M x) : JO l cx R y cc nL rt mc ms al 0 hi E (G (gF q c p i F h)) ck sk pc ls (.ref q :: st) M x :=
  J_getr hf hd ⟨hk, Nat.zero_le _, hq⟩ h0 ((gF_get hF hqp).trans hg) kk
theorem C_newa {atype : ArrayType} {n : Int32} {N kd : Nat} (hw : Cond.arrayClass (newarray.typeOf atype) ∈ Wd) (hd : decode cc pc = .ok (.newarray atype, 2)) (hk : (atype = .int ∧ kd = 12) ∨ (atype = .byte ∧ kd = 13) ∨ (atype = .long ∧ kd = 14)) (hc : c = hi + ck) (hg : GS.1 c = kd) (hln : GS.2.1 c = N) (hr : ∀ k, GS.2.2 c k = none) (hz : ZH h q) (hq : q < c) (hM : ∀ k, M c k = 0) (hn : ¬ n < 0) (hN : n.toNatClampNeg = N) (hb : N ≤ 20000) (hR : ck + 1 ≤ R.cells ∧ sk + N ≤ R.slots) (kk : JO l cx R y cc nL rt mc ms true 0 hi E (G (gF q (c + 1) p i F h)) (ck + 1) (sk + N) (pc + 2) ls (.ref c :: st) M x) : JO l cx R y cc nL rt mc ms true 0 hi E (G (gF q c p i F h)) ck sk pc ls (.int n :: st) M x := by
  subst hc
  refine J_newa (kd_lt hg (by rcases hk with ⟨-, h⟩ | ⟨-, h⟩ | ⟨-, h⟩ <;> omega)) rfl (Nat.zero_le _) hw hd hk hg hln hM hn hN hb hR ?_
  rw [gF_arr hz hq hr]; exact kk
theorem C_anew {n : Int32} {N kd idx : Nat} {C : String} (hw : Cond.classLink y.cls idx C ∈ Wd) (hd : decode cc pc = .ok (.anewarray idx, 3)) (hk : (C = RX0 ∧ kd = 15) ∨ (C = RX7 ∧ kd = 16)) (hc : c = hi + ck) (hg : GS.1 c = kd) (hln : GS.2.1 c = N) (hz : ZH h q) (hq : q < c) (hn : ¬ n < 0) (hN : n.toNatClampNeg = N) (hb : N ≤ 20000) (hR : ck + 1 ≤ R.cells ∧ sk + N ≤ R.slots) (kk : JO l cx R y cc nL rt mc ms true 0 hi E (G (gF q (c + 1) c 0 F h)) (ck + 1) (sk + N) (pc + 3) ls (.ref c :: st) M x) : JO l cx R y cc nL rt mc ms true 0 hi E (G (gF q c c 0 F h)) ck sk pc ls (.int n :: st) M x := by
  subst hc
  refine J_anew (kd_lt hg (by rcases hk with ⟨-, h⟩ | ⟨-, h⟩ <;> omega)) rfl (Nat.zero_le _) hw hd hk hg hln (fun k => gF_z hz hq _ _ (Nat.le_refl _)) hn hN hb hR ?_
  rw [gF_parr hq]; exact kk
theorem C_new {idx ci : Nat} (hf : NEWK y.cls idx ci) (hd : decode cc pc = .ok (.new idx, 3)) (hc : c = hi + ck) (hg : GS.1 c = ci) (hz : ZH h q) (hq : q < c) (hM : ∀ k, M c k = 0) (hR : ck + 1 ≤ R.cells ∧ sk + nF ci ≤ R.slots) (kk : JO l cx R y cc nL rt mc ms true 0 hi E (G (gF q c p i F h)) (ck + 1) (sk + nF ci) (pc + 3) ls (.ref c :: st) M x) : JO l cx R y cc nL rt mc ms true 0 hi E (G (gF q c p i F h)) ck sk pc ls st M x := by
  subst hc
  have h12 : ci < 12 := by
    obtain ⟨_, _, _, _, _, _, _, _, w, _⟩ := hf
    exact w
  exact J_new (kd_lt hg (by omega)) rfl (Nat.zero_le _) hf hd hg (fun k => gF_z hz hq _ _ (Nat.le_refl _)) hM hR kk
theorem C_ci {n idx mc' ms' nL' : Nat} {y' : MethodName} {cc' : ByteArray} {rm : Room} {as stk : List Value} {M' : Mem} (hC : Con l cx rm y' cc' nL' none mc' ms' true 0 (c + 1) (EC c (c + n) (gF q c p i F h) M') (G (gF q c p i F h)) (.ref c :: as) M (some ())) (hc : c + 1 = hi + ck) (hw : CKI y.cls idx y' cc' nL' as.length) (hd : decode cc pc = .ok (.invokespecial idx, 3)) (hs : stk = as.reverse ++ .ref c :: st) (hR : rm.cells = mc' ∧ rm.slots = ms' ∧ rm.frames + 1 ≤ R.frames ∧ 8 + (nL' + 11) + rm.locals ≤ R.locals) (hR2 : ck + mc' ≤ R.cells ∧ sk + ms' ≤ R.slots ∧ sumW st ≤ 8) (hq : q < c) (hp : p < c ∨ c + n ≤ p) (hB : hi + ck + mc' < 1000) (kk : JO l cx R y cc nL rt mc ms true 0 hi E (G (gF q (c + n) p i F h)) (ck + mc') (sk + ms') (pc + 3) ls st M' x) : JO l cx R y cc nL rt mc ms true 0 hi E (G (gF q c p i F h)) ck sk pc ls stk M x := by
  rw [hc] at hC
  exact J_cI (xc := some ()) (f := fun _ => x) hC hw hd hs hR hR2 hB rfl (Nat.zero_le _) (fun b v g' M1 hE => by
    obtain ⟨rfl, rfl, rfl⟩ := hE
    rw [gF_sub hq hp]; exact kk)
theorem C_ast {r kd ci n : Nat} {v : Int32} (hk : GS.1 p = kd) (hp1 : p < c) (hp : p < hi + ck) (hkd : (kd = 15 ∧ ci = 0) ∨ (kd = 16 ∧ ci = 7)) (hr : GS.1 r = ci) (hr2 : r < hi + ck) (hn : GS.2.1 p = n) (hv : v = nI i) (hin : i < n) (hn2 : n < 1000) (hd : decode cc pc = .ok (.aastore, 1)) (hg : GS.2.2 p i = some r) (hqp : q < p) (kk : JO l cx R y cc nL rt mc ms al 0 hi E (G (gF q c p (i + 1) F h)) ck sk (pc + 1) ls st M x) : JO l cx R y cc nL rt mc ms al 0 hi E (G (gF q c p i F h)) ck sk pc ls (.ref r :: .int v :: .ref p :: st) M x := by
  subst hv
  refine J_aast (n := n) ⟨hk, Nat.zero_le _, hp⟩ hkd ⟨hr, Nat.zero_le _, hr2⟩ hn (vp_in_nI hin (by omega)) hd ?_
  rw [nI_clamp (by omega)]
  show JO l cx R y cc nL rt mc ms al 0 hi E (G (upr (gF q c p i F h) p i r)) ck sk (pc + 1) ls st M x
  rw [gF_ast hg hqp hp1]; exact kk
theorem C_ret {N : Nat} {E0 : α} (hx : x = some E0) (hd : decode cc pc = .ok (.return_, 1)) (hr : rt = none) (hE : E E0 none (G (gR q c h)) M) (hz : ZH h q) (hF : ∀ k, k ∉ F → GS.2.2 q k = none) (hqp : q < p) (hp : ∀ k, N ≤ k → GS.2.2 p k = none) (hc : q < c) (h1 : ck = mc) (h2 : sk = ms) : JO l cx R y cc nL rt mc ms al lo hi E (G (gF q c p N F h)) ck sk pc ls [] M x := by
  subst hx; subst h1; subst h2
  rw [gF_end hz hF hqp hp hc]
  exact J_vret hd hr hE
end CT
/-- memories that constructors leave -/
def mac (a i : Nat) (M : Mem) : Mem := fun o k => if k = 0 ∧ a ≤ o ∧ o < a + i then nI (o - a) else M o k
def mcl (a i : Nat) (M : Mem) : Mem := fun o k => if o = a ∧ k < i then iI (ms k) else M o k
theorem mac_0 (a : Nat) (M : Mem) : mac a 0 M = M := by funext o k; exact if_neg (by omega)
theorem mac_s (a i : Nat) (M : Mem) : upd2 (mac a i M) (a + i) 0 (nI i) = mac a (i + 1) M := by
  funext o k
  unfold upd2 mac
  by_cases e : o = a + i ∧ k = 0
  · rw [if_pos e, if_pos (by omega), show o - a = i by omega]
  · rw [if_neg e]
    by_cases f : k = 0 ∧ a ≤ o ∧ o < a + i
    · rw [if_pos f, if_pos (by omega)]
    · rw [if_neg f, if_neg (by omega)]
theorem mcl_0 (a : Nat) (M : Mem) : mcl a 0 M = M := by funext o k; exact if_neg (by omega)
theorem mcl_s {a i : Nat} {M : Mem} {v : Int32} (hv : v = iI (ms i)) : upd2 (mcl a i M) a i v = mcl a (i + 1) M := by
  subst hv
  funext o k
  unfold upd2 mcl
  by_cases e : o = a ∧ k = i
  · rw [if_pos e, if_pos (by omega), e.2]
  · rw [if_neg e]
    by_cases f : o = a ∧ k < i
    · rw [if_pos f, if_pos (by omega)]
    · rw [if_neg f, if_neg (by omega)]
theorem ZM.ofmac {M : Mem} {a i b : Nat} (z : ZM M b) (hb : a + i ≤ b) : ZM (mac a i M) b := fun o k ho => by unfold mac; rw [if_neg (by omega)]; exact z o k ho
theorem ZM.ofmcl {M : Mem} {a i b : Nat} (z : ZM M b) (hb : a < b) : ZM (mcl a i M) b := fun o k ho => by unfold mcl; rw [if_neg (by omega)]; exact z o k ho
