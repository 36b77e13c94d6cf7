/-! heap rows and calls of the judgement JO -/
theorem ent_congr {cx : CX} {g g' : GW} {M M' : Mem} {o : Nat} (h1 : g'.1 o = g.1 o) (h2 : g'.2.1 o = g.2.1 o) (h3 : g'.2.2 o = g.2.2 o) (hM : M' o = M o) : ent cx g' M' o = ent cx g M o := by
  have hf : fv cx g' M' o = fv cx g M o := by funext k; unfold fv; rw [h1, h3, hM]
  unfold ent
  rw [hf, h1, h2, h3, hM]
theorem upd2_row {M : Mem} {o k a : Nat} {v : Int32} (h : a ≠ o) : upd2 M o k v a = M a := by funext i; simp [upd2, h]
theorem upd2_self {M : Mem} {o k : Nat} {v : Int32} : upd2 M o k v o = upd (M o) k v := by funext i; simp [upd2, upd]
theorem nar_z {v : Int32} (h : v = 0 ∨ v = 1) : narrow .boolean (.int v) = .int v := by rcases h with rfl | rfl <;> rfl
def IsK (g : GW) (lo hi o c : Nat) : Prop := g.1 o = c ∧ lo ≤ o ∧ o < hi
/-- a field's link: its class's number, its slot, whether it is final, its type -/
def FLK (own : String) (idx ci k : Nat) (fin : Bool) (ty : FieldType) : Prop :=
  ∃ (C : String) (T : u_T) (N : Nat) (tyf : Nat → FieldType), vwCl[ci]? = some (C, T, N) ∧ (∀ w ∈ u_ws C T N, w ∈ Wd) ∧ (∀ j, j < N → parseFieldDescriptor (T j).2.2.1 = some (tyf j)) ∧ (∀ a, a < N → ∀ b, b < N → a ≠ b → (T a).2.1 ≠ (T b).2.1) ∧ k < N ∧ N = nF ci ∧ (T k).1 = C ∧ (T k).2.2.2 = fin ∧ tyf k = ty ∧ ci < 12 ∧ (Cond.fieldLink own idx C (T k).2.1 (T k).2.2.1 ∈ Wd ∨ ∃ host, Cond.fieldLinkNest own idx C (T k).2.1 (T k).2.2.1 host ∈ NW)
section JR
variable {α : Type} {l : Launch} {cx : CX} {R : Room} {y : MethodName} {cc : ByteArray} {nL : Nat} {rt : Option FieldType} {mc ms : Nat} {al : Bool} {lo hi : Nat} {E : α → Option Value → GW → Mem → Prop} {g : GW} {ck sk pc : Nat} {ls : List (Option Value)} {st : List Value} {M : Mem} {x : Option α}
theorem J_getG {idx ci k o : Nat} {fin : Bool} {ty : FieldType} {v : Value} (hf : FLK y.cls idx ci k fin ty) (hd : decode cc pc = .ok (.getfield idx, 3)) (hk : IsK g lo (hi + ck) o ci) (hv : fv cx g M o k = rv cx v) (kk : JO l cx R y cc nL rt mc ms al lo hi E g ck sk (pc + 3) ls (v :: st) M x) : JO l cx R y cc nL rt mc ms al lo hi E g ck sk pc ls (.ref o :: st) M x := by
  obtain ⟨C, T, N, tyf, h1, h2, h3, h4, h5, h6, h7, h8, h9, h10, h11⟩ := hf
  obtain ⟨k1, k2, k3⟩ := hk
  intro a ha p e s m args below meth c H locs A lsa X hP hD hS hL
  have hat := wl_at (cx := cx) (g := g) (M := M) k2 k3
  rw [ent_o k1 h10] at hat
  have hfs : ((List.range (nF ci)).map (fv cx g M o))[k]? = some (rv cx v) := by rw [fvs_at (by omega), hv]
  rcases h11 with hw | ⟨host, hw⟩
  · exact va_get (D := (cx.1, cx.2.1)) (ci := ci) X.1 X.2.1 X.2.2.2.2.1 h2 X.2.2.2.1 X.2.2.2.2.2.2.2.2.1 hP (o - lo) hat h1 k h5 (X.2.2.2.2.1 _ hw) (fun _ h => by rw [h7] at h; exact h) hfs hd (kk a ha p e s m args below meth c H locs A lsa X hP hD hS hL)
  · exact va_getN (D := (cx.1, cx.2.1)) (ci := ci) X.1 X.2.1 X.2.2.2.2.1 h2 X.2.2.2.1 X.2.2.2.2.2.2.2.2.1 hP (o - lo) hat h1 k h5 (va_Nw.use (NW_tab _ hw) (X.2.2.2.2.2.2.2.2.2.1.1 _ hw)) (fun _ h => by rw [h7] at h; exact h) hfs hd (kk a ha p e s m args below meth c H locs A lsa X hP hD hS hL)
theorem J_geti {idx ci k o : Nat} {fin : Bool} {ty : FieldType} (hf : FLK y.cls idx ci k fin ty) (hd : decode cc pc = .ok (.getfield idx, 3)) (hk : IsK g lo (hi + ck) o ci) (h0 : fk ci k = 0) (kk : JO l cx R y cc nL rt mc ms al lo hi E g ck sk (pc + 3) ls (.int (M o k) :: st) M x) : JO l cx R y cc nL rt mc ms al lo hi E g ck sk pc ls (.ref o :: st) M x :=
  J_getG (v := .int (M o k)) hf hd hk (by unfold fv; rw [hk.1, if_pos h0]; rfl) kk
theorem J_getl {idx ci k o : Nat} {fin : Bool} {ty : FieldType} (hf : FLK y.cls idx ci k fin ty) (hd : decode cc pc = .ok (.getfield idx, 3)) (hk : IsK g lo (hi + ck) o ci) (h0 : fk ci k = 1) (kk : JO l cx R y cc nL rt mc ms al lo hi E g ck sk (pc + 3) ls (.long (lcb (M o k) (M o (k + HI))) :: st) M x) : JO l cx R y cc nL rt mc ms al lo hi E g ck sk pc ls (.ref o :: st) M x :=
  J_getG (v := .long (lcb (M o k) (M o (k + HI)))) hf hd hk (by unfold fv; rw [hk.1, if_neg (by omega), if_pos h0]; rfl) kk
theorem J_getr {idx ci k o q : Nat} {fin : Bool} {ty : FieldType} (hf : FLK y.cls idx ci k fin ty) (hd : decode cc pc = .ok (.getfield idx, 3)) (hk : IsK g lo (hi + ck) o ci) (h0 : fk ci k = 2) (hq : g.2.2 o k = some q) (kk : JO l cx R y cc nL rt mc ms al lo hi E g ck sk (pc + 3) ls (.ref q :: st) M x) : JO l cx R y cc nL rt mc ms al lo hi E g ck sk pc ls (.ref o :: st) M x :=
  J_getG (v := .ref q) hf hd hk (by unfold fv; rw [hk.1, if_neg (by omega), if_neg (by omega), hq]; rfl) kk
theorem J_putG {idx ci k o : Nat} {ty : FieldType} {v : Value} {M' : Mem} (hf : FLK y.cls idx ci k false ty) (hd : decode cc pc = .ok (.putfield idx, 3)) (hk : IsK g lo (hi + ck) o ci) (hn : narrow ty (rv cx v) = rv cx v) (hfit : fits ty (rv cx v) = true) (hv : rv cx v = fv cx g M' o k) (hrow : ∀ a, a ≠ o → M' a = M a) (hoth : ∀ j, j < nF ci → j ≠ k → fv cx g M' o j = fv cx g M o j) (kk : JO l cx R y cc nL rt mc ms al lo hi E g ck sk (pc + 3) ls st M' x) : JO l cx R y cc nL rt mc ms al lo hi E g ck sk pc ls (v :: .ref o :: st) M x := by
  obtain ⟨C, T, N, tyf, h1, h2, h3, h4, h5, h6, h7, h8, h9, h10, h11⟩ := hf
  obtain ⟨k1, k2, k3⟩ := hk
  intro a ha p e s m args below meth c H locs A lsa X hP hD hS hL
  have hat := wl_at (cx := cx) (g := g) (M := M) k2 k3
  rw [ent_o k1 h10] at hat
  have hset : (wl cx lo (hi + ck) g M).set (o - lo) (cx.2.2.2 o, .inr (ci, ((List.range (nF ci)).map (fv cx g M o)).set k (rv cx v))) = wl cx lo (hi + ck) g M' := by
    refine wl_set k2 k3 ?_ (fun b hb => ent_congr rfl rfl rfl (hrow b hb))
    rw [ent_o k1 h10, fvs_set (by omega) hv hoth]
  have kk2 : ∀ (H1 : Heap) (locs1 : List Loc), va_P (cx.1, cx.2.1) vwCl ((wl cx lo (hi + ck) g M).set (o - lo) (cx.2.2.2 o, .inr (ci, ((List.range (nF ci)).map (fv cx g M o)).set k (rv cx v)))) H1 → va_D A ((wl cx lo (hi + ck) g M).set (o - lo) (cx.2.2.2 o, .inr (ci, ((List.range (nF ci)).map (fv cx g M o)).set k (rv cx v)))) → va_S A s.heap H1 locs1 → W p l e R s m args below meth c H1 locs1 ck sk (MQ below (QJ cx lo (hi + mc) A E a) args s mc ms A) (F0 m (pc + 3) lsa (st.map (rv cx))) := by
    intro H1 locs1 q1 q2 q3
    rw [hset] at q1 q2
    exact kk a ha p e s m args below meth c H1 locs1 A lsa X q1 q2 q3 hL
  have hty : parseFieldDescriptor (T k).2.2.1 = some ty := by rw [h3 k h5, h9]
  rcases h11 with hw | ⟨host, hw⟩
  · exact va_put (D := (cx.1, cx.2.1)) (ci := ci) X.1 X.2.1 X.2.2.2.2.1 h2 tyf h3 h4 X.2.2.2.1 X.2.2.2.2.2.2.2.2.1 hP hD hS (o - lo) hat h1 k h5 (X.2.2.2.2.1 _ hw) (fun _ h => by rw [h7] at h; exact h) h8 hty hn hfit (by simp; omega) hd kk2
  · exact va_putN (D := (cx.1, cx.2.1)) (ci := ci) X.1 X.2.1 X.2.2.2.2.1 h2 tyf h3 h4 X.2.2.2.1 X.2.2.2.2.2.2.2.2.1 hP hD hS (o - lo) hat h1 k h5 (va_Nw.use (NW_tab _ hw) (X.2.2.2.2.2.2.2.2.2.1.1 _ hw)) (fun _ h => by rw [h7] at h; exact h) h8 hty hn hfit (by simp; omega) hd kk2
theorem nF_le (c : Nat) : nF c ≤ 22 := by unfold nF; split <;> decide
theorem fv_upd {ci o k j : Nat} {v : Int32} (hj : j < nF ci) (hjk : j ≠ k) (hk : k < HI) : fv cx g (upd2 M o k v) o j = fv cx g M o j := by
  have h1 : upd2 M o k v o j = M o j := by simp [upd2, hjk]
  have h2 : upd2 M o k v o (j + HI) = M o (j + HI) := by simp only [upd2]; rw [if_neg (by omega)]
  unfold fv; rw [h1, h2]
theorem J_puti {idx ci k o : Nat} {v : Int32} (hf : FLK y.cls idx ci k false .int) (hd : decode cc pc = .ok (.putfield idx, 3)) (hk : IsK g lo (hi + ck) o ci) (h0 : fk ci k = 0) (hkk : k < 22) (kk : JO l cx R y cc nL rt mc ms al lo hi E g ck sk (pc + 3) ls st (upd2 M o k v) x) : JO l cx R y cc nL rt mc ms al lo hi E g ck sk pc ls (.int v :: .ref o :: st) M x :=
  J_putG (v := .int v) hf hd hk (vp_nar_int v) rfl (by unfold fv; rw [hk.1, if_pos h0]; simp [upd2, rv]) (fun b hb => upd2_row hb) (fun j hj hjk => fv_upd hj hjk (by unfold HI; omega)) kk
theorem J_putzK {idx ci k o : Nat} {v : Int32} (hf : FLK y.cls idx ci k false .boolean) (hd : decode cc pc = .ok (.putfield idx, 3)) (hk : IsK g lo (hi + ck) o ci) (h0 : fk ci k = 0) (hkk : k < 22) (hv : v = 0 ∨ v = 1) (kk : JO l cx R y cc nL rt mc ms al lo hi E g ck sk (pc + 3) ls st (upd2 M o k v) x) : JO l cx R y cc nL rt mc ms al lo hi E g ck sk pc ls (.int v :: .ref o :: st) M x :=
  J_putG (v := .int v) hf hd hk (nar_z hv) (by show fits .boolean (.int v) = true; simp [fits]; exact hv) (by unfold fv; rw [hk.1, if_pos h0]; simp [upd2, rv]) (fun b hb => upd2_row hb) (fun j hj hjk => fv_upd hj hjk (by unfold HI; omega)) kk
theorem J_putz {idx ci k o : Nat} {v : Int32} (hf : FLK y.cls idx ci k false .boolean) (hd : decode cc pc = .ok (.putfield idx, 3)) (hk : IsK g lo (hi + ck) o ci) (h0 : fk ci k = 0) (hkk : k < 22) (kk : JO l cx R y cc nL rt mc ms al lo hi E g ck sk (pc + 3) ls st (upd2 M o k v) x) : JO l cx R y cc nL rt mc ms al lo hi E g ck sk pc ls (.int v :: .ref o :: st) M (zb v x) := by
  unfold zb
  by_cases hv : v = 0 ∨ v = 1
  · rw [if_pos hv]; exact J_putzK hf hd hk h0 hkk hv kk
  · rw [if_neg hv]; intro a ha; cases ha
theorem J_putl {idx ci k o : Nat} {v : Int64} (hf : FLK y.cls idx ci k false .long) (hd : decode cc pc = .ok (.putfield idx, 3)) (hk : IsK g lo (hi + ck) o ci) (h0 : fk ci k = 1) (hkk : k < 22) (kk : JO l cx R y cc nL rt mc ms al lo hi E g ck sk (pc + 3) ls st (upd2 (upd2 M o k (llo v)) o (k + HI) (lhi v)) x) : JO l cx R y cc nL rt mc ms al lo hi E g ck sk pc ls (.long v :: .ref o :: st) M x :=
  J_putG (v := .long v) hf hd hk rfl rfl (by unfold fv; rw [hk.1, if_neg (by omega), if_pos h0]; simp [upd2, rv, HI, lcb_of]) (fun b hb => by rw [upd2_row hb, upd2_row hb]) (fun j hj hjk => by
    have hn := nF_le ci
    have h1 : upd2 (upd2 M o k (llo v)) o (k + HI) (lhi v) o j = M o j := by simp only [upd2]; rw [if_neg (by unfold HI; omega), if_neg (by omega)]
    have h2 : upd2 (upd2 M o k (llo v)) o (k + HI) (lhi v) o (j + HI) = M o (j + HI) := by simp only [upd2]; rw [if_neg (by omega), if_neg (by unfold HI; omega)]
    unfold fv; rw [h1, h2]) kk
-- arrays
theorem J_iald {o : Nat} {i : Int32} {n : Nat} (hd : decode cc pc = .ok (.iaload, 1)) (hk : IsK g lo (hi + ck) o 12) (hn : g.2.1 o = n) (kk : JO l cx R y cc nL rt mc ms al lo hi E g ck sk (pc + 1) ls (.int (M o i.toNatClampNeg) :: st) M x) : JO l cx R y cc nL rt mc ms al lo hi E g ck sk pc ls (.int i :: .ref o :: st) M (chk i n x) := by
  subst hn
  intro a ha
  by_cases hin : vp_in i (g.2.1 o)
  · rw [chk_in hin] at ha
    intro p e s m args below meth c H locs A lsa X hP hD hS hL
    have hat := wl_at (cx := cx) (g := g) (M := M) hk.2.1 hk.2.2
    rw [ent_i hk.1 (by decide) (by decide)] at hat
    exact va_iald X.1 X.2.1 X.2.2.2.2.2.2.2.2.1 hP (o - lo) 0 hat rfl hin hd (kk a ha p e s m args below meth c H locs A lsa X hP hD hS hL)
  · rw [chk_out hin] at ha; cases ha
theorem J_bald {o : Nat} {i : Int32} {n : Nat} (hd : decode cc pc = .ok (.baload, 1)) (hk : IsK g lo (hi + ck) o 13) (hn : g.2.1 o = n) (kk : JO l cx R y cc nL rt mc ms al lo hi E g ck sk (pc + 1) ls (.int (M o i.toNatClampNeg) :: st) M x) : JO l cx R y cc nL rt mc ms al lo hi E g ck sk pc ls (.int i :: .ref o :: st) M (chk i n x) := by
  subst hn
  intro a ha
  by_cases hin : vp_in i (g.2.1 o)
  · rw [chk_in hin] at ha
    intro p e s m args below meth c H locs A lsa X hP hD hS hL
    have hat := wl_at (cx := cx) (g := g) (M := M) hk.2.1 hk.2.2
    rw [ent_i hk.1 (by decide) (by decide)] at hat
    exact va_bald X.1 X.2.1 X.2.2.2.2.2.2.2.2.1 hP (o - lo) 1 hat rfl hin hd (kk a ha p e s m args below meth c H locs A lsa X hP hD hS hL)
  · rw [chk_out hin] at ha; cases ha
theorem J_lald {o : Nat} {i : Int32} {n : Nat} (hd : decode cc pc = .ok (.laload, 1)) (hk : IsK g lo (hi + ck) o 14) (hn : g.2.1 o = n) (kk : JO l cx R y cc nL rt mc ms al lo hi E g ck sk (pc + 1) ls (.long (lcb (M o (2 * i.toNatClampNeg)) (M o (2 * i.toNatClampNeg + 1))) :: st) M x) : JO l cx R y cc nL rt mc ms al lo hi E g ck sk pc ls (.int i :: .ref o :: st) M (chk i n x) := by
  subst hn
  intro a ha
  by_cases hin : vp_in i (g.2.1 o)
  · rw [chk_in hin] at ha
    intro p e s m args below meth c H locs A lsa X hP hD hS hL
    have hat := wl_at (cx := cx) (g := g) (M := M) hk.2.1 hk.2.2
    rw [ent_l hk.1] at hat
    exact va_lald X.1 X.2.1 X.2.2.2.2.2.2.2.2.1 hP (o - lo) 2 hat rfl hin hd (kk a ha p e s m args below meth c H locs A lsa X hP hD hS hL)
  · rw [chk_out hin] at ha; cases ha
theorem J_aald {o q c0 : Nat} {i : Int32} {n : Nat} (hd : decode cc pc = .ok (.aaload, 1)) (hk : IsK g lo (hi + ck) o c0) (hc : c0 = 15 ∨ c0 = 16) (hn : g.2.1 o = n) (hq : vp_in i n → g.2.2 o i.toNatClampNeg = some q) (kk : vp_in i n → JO l cx R y cc nL rt mc ms al lo hi E g ck sk (pc + 1) ls (.ref q :: st) M x) : JO l cx R y cc nL rt mc ms al lo hi E g ck sk pc ls (.int i :: .ref o :: st) M (chk i n x) := by
  subst hn
  intro a ha
  by_cases hin : vp_in i (g.2.1 o)
  · rw [chk_in hin] at ha
    intro p e s m args below meth c H locs A lsa X hP hD hS hL
    have hat := wl_at (cx := cx) (g := g) (M := M) hk.2.1 hk.2.2
    rw [ent_r hk.1 (by omega)] at hat
    have hv : va_rf ((g.2.2 o i.toNatClampNeg).map cx.2.2.2) = .ref (cx.2.2.2 q) := by rw [hq hin]; rfl
    have k2 := kk hin a ha p e s m args below meth c H locs A lsa X hP hD hS hL
    rcases hc with rfl | rfl
    · refine va_aldq (f := fun i => (g.2.2 o i).map cx.2.2.2) X.1 X.2.1 X.2.2.2.2.2.2.2.2.1 hP (o - lo) 3 hat rfl hin hd ?_
      rw [hv]; exact k2
    · refine va_aldq (f := fun i => (g.2.2 o i).map cx.2.2.2) X.1 X.2.1 X.2.2.2.2.2.2.2.2.1 hP (o - lo) 4 hat rfl hin hd ?_
      rw [hv]; exact k2
  · rw [chk_out hin] at ha; cases ha
theorem J_iast {o : Nat} {i v : Int32} {n : Nat} (hd : decode cc pc = .ok (.iastore, 1)) (hk : IsK g lo (hi + ck) o 12) (hn : g.2.1 o = n) (kk : JO l cx R y cc nL rt mc ms al lo hi E g ck sk (pc + 1) ls st (upd2 M o i.toNatClampNeg v) x) : JO l cx R y cc nL rt mc ms al lo hi E g ck sk pc ls (.int v :: .int i :: .ref o :: st) M (chk i n x) := by
  subst hn
  intro a ha
  by_cases hin : vp_in i (g.2.1 o)
  · rw [chk_in hin] at ha
    intro p e s m args below meth c H locs A lsa X hP hD hS hL
    have hat := wl_at (cx := cx) (g := g) (M := M) hk.2.1 hk.2.2
    rw [ent_i hk.1 (by decide) (by decide)] at hat
    have hset : (wl cx lo (hi + ck) g M).set (o - lo) (cx.2.2.2 o, .inl (cx.2.2.1 (12 - 12), g.2.1 o, .inl (upd (M o) i.toNatClampNeg v))) = wl cx lo (hi + ck) g (upd2 M o i.toNatClampNeg v) := by
      refine wl_set hk.2.1 hk.2.2 ?_ (fun b hb => ent_congr rfl rfl rfl (upd2_row hb))
      rw [ent_i hk.1 (by decide) (by decide), upd2_self]
    refine va_iast X.1 X.2.1 X.2.2.2.2.2.2.2.2.1 hP hD hS (o - lo) 0 hat rfl hin hd (fun H1 locs1 q1 q2 q3 => ?_)
    rw [hset] at q1 q2
    exact kk a ha p e s m args below meth c H1 locs1 A lsa X q1 q2 q3 hL
  · rw [chk_out hin] at ha; cases ha
theorem J_bast {o : Nat} {i v : Int32} {n : Nat} (hd : decode cc pc = .ok (.bastore, 1)) (hk : IsK g lo (hi + ck) o 13) (hn : g.2.1 o = n) (kk : JO l cx R y cc nL rt mc ms al lo hi E g ck sk (pc + 1) ls st (upd2 M o i.toNatClampNeg (vp_nar .byte v)) x) : JO l cx R y cc nL rt mc ms al lo hi E g ck sk pc ls (.int v :: .int i :: .ref o :: st) M (chk i n x) := by
  subst hn
  intro a ha
  by_cases hin : vp_in i (g.2.1 o)
  · rw [chk_in hin] at ha
    intro p e s m args below meth c H locs A lsa X hP hD hS hL
    have hat := wl_at (cx := cx) (g := g) (M := M) hk.2.1 hk.2.2
    rw [ent_i hk.1 (by decide) (by decide)] at hat
    have hset : (wl cx lo (hi + ck) g M).set (o - lo) (cx.2.2.2 o, .inl (cx.2.2.1 (13 - 12), g.2.1 o, .inl (upd (M o) i.toNatClampNeg (vp_nar .byte v)))) = wl cx lo (hi + ck) g (upd2 M o i.toNatClampNeg (vp_nar .byte v)) := by
      refine wl_set hk.2.1 hk.2.2 ?_ (fun b hb => ent_congr rfl rfl rfl (upd2_row hb))
      rw [ent_i hk.1 (by decide) (by decide), upd2_self]
    refine va_bast X.1 X.2.1 X.2.2.2.2.2.2.2.2.1 hP hD hS (o - lo) 1 hat rfl hin hd (fun H1 locs1 q1 q2 q3 => ?_)
    rw [hset] at q1 q2
    exact kk a ha p e s m args below meth c H1 locs1 A lsa X q1 q2 q3 hL
  · rw [chk_out hin] at ha; cases ha
theorem J_last {o : Nat} {i : Int32} {v : Int64} {n : Nat} (hd : decode cc pc = .ok (.lastore, 1)) (hk : IsK g lo (hi + ck) o 14) (hn : g.2.1 o = n) (kk : JO l cx R y cc nL rt mc ms al lo hi E g ck sk (pc + 1) ls st (upd2 (upd2 M o (2 * i.toNatClampNeg) (llo v)) o (2 * i.toNatClampNeg + 1) (lhi v)) x) : JO l cx R y cc nL rt mc ms al lo hi E g ck sk pc ls (.long v :: .int i :: .ref o :: st) M (chk i n x) := by
  subst hn
  intro a ha
  by_cases hin : vp_in i (g.2.1 o)
  · rw [chk_in hin] at ha
    intro p e s m args below meth c H locs A lsa X hP hD hS hL
    have hat := wl_at (cx := cx) (g := g) (M := M) hk.2.1 hk.2.2
    rw [ent_l hk.1] at hat
    have hset : (wl cx lo (hi + ck) g M).set (o - lo) (cx.2.2.2 o, .inl (cx.2.2.1 2, g.2.1 o, .inr (.inl (vp_updL (fun i => lcb (M o (2 * i)) (M o (2 * i + 1))) i.toNatClampNeg v)))) = wl cx lo (hi + ck) g (upd2 (upd2 M o (2 * i.toNatClampNeg) (llo v)) o (2 * i.toNatClampNeg + 1) (lhi v)) := by
      refine wl_set hk.2.1 hk.2.2 ?_ (fun b hb => ent_congr rfl rfl rfl (by rw [upd2_row hb, upd2_row hb]))
      rw [ent_l hk.1]
      congr 5
      funext j
      by_cases hj : j = i.toNatClampNeg
      · subst hj
        have e1 : upd2 (upd2 M o (2 * i.toNatClampNeg) (llo v)) o (2 * i.toNatClampNeg + 1) (lhi v) o (2 * i.toNatClampNeg) = llo v := by simp [upd2]
        have e2 : upd2 (upd2 M o (2 * i.toNatClampNeg) (llo v)) o (2 * i.toNatClampNeg + 1) (lhi v) o (2 * i.toNatClampNeg + 1) = lhi v := by simp [upd2]
        rw [e1, e2, lcb_of]
        simp [vp_updL]
      · have e1 : upd2 (upd2 M o (2 * i.toNatClampNeg) (llo v)) o (2 * i.toNatClampNeg + 1) (lhi v) o (2 * j) = M o (2 * j) := by simp only [upd2]; rw [if_neg (by omega), if_neg (by omega)]
        have e2 : upd2 (upd2 M o (2 * i.toNatClampNeg) (llo v)) o (2 * i.toNatClampNeg + 1) (lhi v) o (2 * j + 1) = M o (2 * j + 1) := by simp only [upd2]; rw [if_neg (by omega), if_neg (by omega)]
        rw [e1, e2]
        simp [vp_updL, hj]
    refine va_last X.1 X.2.1 X.2.2.2.2.2.2.2.2.1 hP hD hS (o - lo) 2 hat rfl hin hd (fun H1 locs1 q1 q2 q3 => ?_)
    rw [hset] at q1 q2
    exact kk a ha p e s m args below meth c H1 locs1 A lsa X q1 q2 q3 hL
  · rw [chk_out hin] at ha; cases ha
theorem J_alen {o n c0 : Nat} {v : Int32} (hd : decode cc pc = .ok (.arraylength, 1)) (hk : IsK g lo (hi + ck) o c0) (hc : c0 = 12 ∨ c0 = 13) (hn : g.2.1 o = n) (hv : Int32.ofNat n = v) (kk : JO l cx R y cc nL rt mc ms al lo hi E g ck sk (pc + 1) ls (.int v :: st) M x) : JO l cx R y cc nL rt mc ms al lo hi E g ck sk pc ls (.ref o :: st) M x := by
  subst hn
  intro a ha p e s m args below meth c H locs A lsa X hP hD hS hL
  have hat := wl_at (cx := cx) (g := g) (M := M) hk.2.1 hk.2.2
  rw [ent_i hk.1 (by omega) (by omega)] at hat
  rcases hc with rfl | rfl
  · exact va_alen X.1 X.2.1 X.2.2.2.2.2.2.2.2.1 hP (o - lo) 0 hat rfl hv hd (kk a ha p e s m args below meth c H locs A lsa X hP hD hS hL)
  · exact va_alen X.1 X.2.1 X.2.2.2.2.2.2.2.2.1 hP (o - lo) 1 hat rfl hv hd (kk a ha p e s m args below meth c H locs A lsa X hP hD hS hL)
theorem J_cpy {b d idx n0 n1 : Nat} {sp dp n : Int32} (hw : Cond.methodLink y.cls idx arraycopyName ∈ Wd ∧ Cond.native arraycopyName ∈ Wd ∧ Cond.static arraycopyName ∈ Wd ∧ Cond.initialized "java/lang/System" ∈ Wd) (hd : decode cc pc = .ok (.invokestatic idx, 3)) (hkb : IsK g lo (hi + ck) b 12) (hkd : IsK g lo (hi + ck) d 12) (hn0 : g.2.1 b = n0) (hn1 : g.2.1 d = n1) (hR : 1 ≤ R.frames) (hl2 : sumW st + (nativeFrameWords "java/lang/System" "arraycopy" 5 + 11) ≤ R.locals) (kk : JO l cx R y cc nL rt mc ms al lo hi E g ck sk (pc + 3) ls st (cpyM M b d sp.toNatClampNeg dp.toNatClampNeg n.toNatClampNeg) x) : JO l cx R y cc nL rt mc ms al lo hi E g ck sk pc ls (.int n :: .int dp :: .ref d :: .int sp :: .ref b :: st) M (cpc sp dp n n0 n1 x) := by
  subst hn0; subst hn1
  intro a ha
  unfold cpc at ha
  split at ha
  · rename_i hin
    obtain ⟨i1, i2, i3, i4, i5⟩ := hin
    intro p e s m args below meth c H locs A lsa X hP hD hS hL
    have hat := wl_at (cx := cx) (g := g) (M := M) hkb.2.1 hkb.2.2
    rw [ent_i hkb.1 (by decide) (by decide)] at hat
    have hat2 := wl_at (cx := cx) (g := g) (M := M) hkd.2.1 hkd.2.2
    rw [ent_i hkd.1 (by decide) (by decide)] at hat2
    have hset : (wl cx lo (hi + ck) g M).set (d - lo) (cx.2.2.2 d, .inl (cx.2.2.1 (12 - 12), g.2.1 d, .inl (va_cpy (M b) (M d) sp.toNatClampNeg dp.toNatClampNeg n.toNatClampNeg))) = wl cx lo (hi + ck) g (cpyM M b d sp.toNatClampNeg dp.toNatClampNeg n.toNatClampNeg) := by
      refine wl_set hkd.2.1 hkd.2.2 ?_ (fun q hb => ent_congr rfl rfl rfl (by funext i; simp [cpyM, hb]))
      rw [ent_i hkd.1 (by decide) (by decide)]
      congr 4
      funext i
      simp [cpyM, va_cpy]
    refine va_copyi X.1 X.2.1 (X.2.2.1.trans hL.1.symm) X.2.2.2.1 (X.2.2.2.2.1 _ hw.1) (X.2.2.2.2.1 _ hw.2.1) (X.2.2.2.2.1 _ hw.2.2.1) (X.2.2.2.2.1 _ hw.2.2.2) X.2.2.2.2.2.2.2.2.1 hP hD hS (b - lo) (d - lo) 0 0 hat hat2 rfl rfl rfl i1 i2 i3 i4 i5 (fun i _ => rfl) hR (by have h := sumW_rv cx st; unfold sumW at h; rw [h]; exact hl2) hd (fun H1 locs1 q1 q2 q3 => ?_)
    rw [hset] at q1 q2
    exact kk a ha p e s m args below meth c H1 locs1 A lsa X q1 q2 q3 hL
  · cases ha
theorem J_getFOL {idx : Nat} (hy : y.cls = RX4) (hw : Cond.fieldLink RX4 idx RX4 "FOLLOWS" "[I" ∈ Wd) (hd : decode cc pc = .ok (.getstatic idx, 3)) (kk : JO l cx R y cc nL rt mc ms al lo hi E g ck sk (pc + 3) ls (.ref FO :: st) M x) : JO l cx R y cc nL rt mc ms al lo hi E g ck sk pc ls st M x := by
  intro a ha p e s m args below meth c H locs A lsa X hP hD hS hL
  refine va_gets X.1 X.2.1 (own := RX4) (ref := RX4) X.2.2.2.2.2.2.2.2.2.1.2.2.2.1 hS (by rw [← hy]; exact X.2.2.2.1) (X.2.2.2.2.1 _ hw) (fun _ h => h) hd ?_
  exact kk a ha p e s m args below meth c H locs A lsa X hP hD hS hL
theorem J_FOLald {i : Int32} (hd : decode cc pc = .ok (.iaload, 1)) (kk : JO l cx R y cc nL rt mc ms al lo hi E g ck sk (pc + 1) ls (.int (folL.getD i.toNatClampNeg 0) :: st) M x) : JO l cx R y cc nL rt mc ms al lo hi E g ck sk pc ls (.int i :: .ref FO :: st) M (chk i 13 x) := by
  intro a ha
  by_cases hin : vp_in i 13
  · rw [chk_in hin] at ha
    intro p e s m args below meth c H locs A lsa X hP hD hS hL
    exact va_ti X.1 X.2.1 X.2.2.2.2.2.2.2.2.2.1.2.2.2.2.1 hS hin rfl hd (kk a ha p e s m args below meth c H locs A lsa X hP hD hS hL)
  · rw [chk_out hin] at ha; cases ha
theorem J_FOLlen (hd : decode cc pc = .ok (.arraylength, 1)) (kk : JO l cx R y cc nL rt mc ms al lo hi E g ck sk (pc + 1) ls (.int 13 :: st) M x) : JO l cx R y cc nL rt mc ms al lo hi E g ck sk pc ls (.ref FO :: st) M x := by
  intro a ha p e s m args below meth c H locs A lsa X hP hD hS hL
  obtain ⟨cell, h1, h2, h3, h4, h5, h6, h7⟩ := X.2.2.2.2.2.2.2.2.2.1.2.2.2.2.1
  refine W.alen (n := 13) X.1 X.2.1 (a := cx.2.2.2 FO) (cell := cell) (ty := .int) (by rw [hS.2.1 _ (Array.getElem?_eq_some_iff.mp h1).1 h7]; exact h1) h2 (by rw [h5]; rfl) rfl rfl hd ?_
  exact kk a ha p e s m args below meth c H locs A lsa X hP hD hS hL
theorem J_mmax {idx : Nat} {a b : Int32} (hw : Cond.methodLink y.cls idx Lib.Math.max.name ∈ Wd ∧ Cond.static Lib.Math.max.name ∈ Wd ∧ Cond.initialized "java/lang/Math" ∈ Wd ∧ Cond.code Lib.Math.max.name Lib.Math.max.code 2 (some .int) ∈ Wd) (hd : decode cc pc = .ok (.invokestatic idx, 3)) (hR : 1 ≤ R.frames ∧ sumW st + 13 ≤ R.locals ∧ ck ≤ R.cells ∧ sk ≤ R.slots) (kk : JO l cx R y cc nL rt mc ms al lo hi E g ck sk (pc + 3) ls (.int (if a < b then b else a) :: st) M x) : JO l cx R y cc nL rt mc ms al lo hi E g ck sk pc ls (.int b :: .int a :: st) M x := by
  intro r ha p e s m args below meth c H locs A lsa X hP hD hS hL
  exact va_mmax X.1 X.2.1 (X.2.2.1.trans hL.1.symm) X.2.2.2.1 (X.2.2.2.2.1 _ hw.1) (X.2.2.2.2.1 _ hw.2.1) (X.2.2.2.2.1 _ hw.2.2.1) (X.2.2.2.2.1 _ hw.2.2.2) hR.1 (by have h := sumW_rv cx st; unfold sumW at h; rw [h]; exact hR.2.1) hR.2.2.1 hR.2.2.2 hd (kk r ha p e s m args below meth c H locs A lsa X hP hD hS hL)
theorem J_mmin {idx : Nat} {a b : Int32} (hw : Cond.methodLink y.cls idx Lib.Math.min.name ∈ Wd ∧ Cond.static Lib.Math.min.name ∈ Wd ∧ Cond.initialized "java/lang/Math" ∈ Wd ∧ Cond.code Lib.Math.min.name Lib.Math.min.code 2 (some .int) ∈ Wd) (hd : decode cc pc = .ok (.invokestatic idx, 3)) (hR : 1 ≤ R.frames ∧ sumW st + 13 ≤ R.locals ∧ ck ≤ R.cells ∧ sk ≤ R.slots) (kk : JO l cx R y cc nL rt mc ms al lo hi E g ck sk (pc + 3) ls (.int (if b < a then b else a) :: st) M x) : JO l cx R y cc nL rt mc ms al lo hi E g ck sk pc ls (.int b :: .int a :: st) M x := by
  intro r ha p e s m args below meth c H locs A lsa X hP hD hS hL
  exact va_mmin X.1 X.2.1 (X.2.2.1.trans hL.1.symm) X.2.2.2.1 (X.2.2.2.2.1 _ hw.1) (X.2.2.2.2.1 _ hw.2.1) (X.2.2.2.2.1 _ hw.2.2.1) (X.2.2.2.2.1 _ hw.2.2.2) hR.1 (by have h := sumW_rv cx st; unfold sumW at h; rw [h]; exact hR.2.1) hR.2.2.1 hR.2.2.2 hd (kk r ha p e s m args below meth c H locs A lsa X hP hD hS hL)
theorem J_mabs {idx : Nat} {a : Int32} (hw : Cond.methodLink y.cls idx Lib.Math.abs.name ∈ Wd ∧ Cond.static Lib.Math.abs.name ∈ Wd ∧ Cond.initialized "java/lang/Math" ∈ Wd ∧ Cond.code Lib.Math.abs.name Lib.Math.abs.code 1 (some .int) ∈ Wd) (hd : decode cc pc = .ok (.invokestatic idx, 3)) (hR : 1 ≤ R.frames ∧ sumW st + 13 ≤ R.locals ∧ ck ≤ R.cells ∧ sk ≤ R.slots) (kk : JO l cx R y cc nL rt mc ms al lo hi E g ck sk (pc + 3) ls (.int (if 0 ≤ a then a else 0 - a) :: st) M x) : JO l cx R y cc nL rt mc ms al lo hi E g ck sk pc ls (.int a :: st) M x := by
  intro r ha p e s m args below meth c H locs A lsa X hP hD hS hL
  exact va_mabs X.1 X.2.1 (X.2.2.1.trans hL.1.symm) X.2.2.2.1 (X.2.2.2.2.1 _ hw.1) (X.2.2.2.2.1 _ hw.2.1) (X.2.2.2.2.1 _ hw.2.2.1) (X.2.2.2.2.1 _ hw.2.2.2) hR.1 (by have h := sumW_rv cx st; unfold sumW at h; rw [h]; exact hR.2.1) hR.2.2.1 hR.2.2.2 hd (kk r ha p e s m args below meth c H locs A lsa X hP hD hS hL)
theorem J_mminl {idx : Nat} {a b : Int64} (hw : Cond.methodLink y.cls idx Lib.MathLoose.min_long.x ∈ Wd ∧ Cond.static Lib.MathLoose.min_long.x ∈ Wd ∧ Cond.initialized "java/lang/Math" ∈ Wd ∧ Cond.code Lib.MathLoose.min_long.x Lib.MathLoose.min_long.code 4 (some .long) ∈ Wd) (hd : decode cc pc = .ok (.invokestatic idx, 3)) (hR : 1 ≤ R.frames ∧ sumW st + 15 ≤ R.locals ∧ ck ≤ R.cells ∧ sk ≤ R.slots) (kk : JO l cx R y cc nL rt mc ms al lo hi E g ck sk (pc + 3) ls (.long (if b < a then b else a) :: st) M x) : JO l cx R y cc nL rt mc ms al lo hi E g ck sk pc ls (.long b :: .long a :: st) M x := by
  intro r ha p e s m args below meth c H locs A lsa X hP hD hS hL
  exact va_mmin_long X.1 X.2.1 (X.2.2.1.trans hL.1.symm) X.2.2.2.1 (X.2.2.2.2.1 _ hw.1) (X.2.2.2.2.1 _ hw.2.1) (X.2.2.2.2.1 _ hw.2.2.1) (X.2.2.2.2.1 _ hw.2.2.2) hR.1 (by have h := sumW_rv cx st; unfold sumW at h; rw [h]; exact hR.2.1) hR.2.2.1 hR.2.2.2 hd (kk r ha p e s m args below meth c H locs A lsa X hP hD hS hL)
theorem J_retG {α : Type} {l : Launch} {cx : CX} {p : Program} {s : State} {lo hi mc : Nat} {A : Nat → Prop} {E : α → Option Value → GW → Mem → Prop} {g : GW} {M : Mem} {H : Heap} {locs : List Loc} {a : α} {args : Array Value} {v : Option Value} (hE : E a v g M) (hP : va_P (cx.1, cx.2.1) vwCl (wl cx lo (hi + mc) g M) H) (hD : va_D A (wl cx lo (hi + mc) g M)) (hS : va_S A s.heap H locs) : ∀ t : State, t.heap = H → s.WarmedH t.vm → QJ cx lo (hi + mc) A E a args s (.returned (v.map (rv cx))) t := by
  intro t ht hW
  exact ⟨⟨v, g, M, rfl, hE, by rw [ht]; exact hP, hD.1, fun _ _ _ => trivial⟩, hS.F ht⟩
theorem J_iret {a : α} {v : Int32} (hd : decode cc pc = .ok (.ireturn, 1)) (hr : rt = some .int) (hE : E a (some (.int v)) g M) : JO l cx R y cc nL rt mc ms al lo hi E g mc ms pc ls [.int v] M (some a) := by
  intro a' ha p e s m args below meth c H locs A lsa X hP hD hS hL
  cases ha
  exact W.iret X.1 X.2.1 (X.2.2.2.2.2.1.trans hr) (J_retG (l := l) (p := p) (v := some (.int v)) hE hP hD hS) hS.2.2 hd X.2.2.2.2.2.2.1
theorem J_zret {a : α} {v : Int32} (hd : decode cc pc = .ok (.ireturn, 1)) (hr : rt = some .boolean) (hv : v = 0 ∨ v = 1) (hE : E a (some (.int v)) g M) : JO l cx R y cc nL rt mc ms al lo hi E g mc ms pc ls [.int v] M (some a) := by
  intro a' ha p e s m args below meth c H locs A lsa X hP hD hS hL
  cases ha
  exact W.zret X.1 X.2.1 (X.2.2.2.2.2.1.trans hr) (by rcases hv with rfl | rfl <;> rfl) (J_retG (l := l) (p := p) (v := some (.int v)) hE hP hD hS) hS.2.2 hd X.2.2.2.2.2.2.1
theorem J_lret {a : α} {v : Int64} (hd : decode cc pc = .ok (.lreturn, 1)) (hr : rt = some .long) (hE : E a (some (.long v)) g M) : JO l cx R y cc nL rt mc ms al lo hi E g mc ms pc ls [.long v] M (some a) := by
  intro a' ha p e s m args below meth c H locs A lsa X hP hD hS hL
  cases ha
  exact W.lret X.1 X.2.1 (X.2.2.2.2.2.1.trans hr) (J_retG (l := l) (p := p) (v := some (.long v)) hE hP hD hS) hS.2.2 hd X.2.2.2.2.2.2.1
theorem J_aret {a : α} {q : Nat} {C : String} (hd : decode cc pc = .ok (.areturn, 1)) (hr : rt = some (.object C)) (hE : E a (some (.ref q)) g M) : JO l cx R y cc nL rt mc ms al lo hi E g mc ms pc ls [.ref q] M (some a) := by
  intro a' ha p e s m args below meth c H locs A lsa X hP hD hS hL
  cases ha
  exact W.aret X.1 X.2.1 (X.2.2.2.2.2.1.trans hr) (Or.inl ⟨C, rfl⟩) (Or.inr ⟨_, rfl⟩) (J_retG (l := l) (p := p) (v := some (.ref q)) hE hP hD hS) hS.2.2 hd X.2.2.2.2.2.2.1
theorem J_vret {a : α} (hd : decode cc pc = .ok (.return_, 1)) (hr : rt = none) (hE : E a none g M) : JO l cx R y cc nL rt mc ms al lo hi E g mc ms pc ls [] M (some a) := by
  intro a' ha p e s m args below meth c H locs A lsa X hP hD hS hL
  cases ha
  exact W.vret X.1 X.2.1 (X.2.2.2.2.2.1.trans hr) (J_retG (l := l) (p := p) (v := none) hE hP hD hS) hS.2.2 hd X.2.2.2.2.2.2.1
-- calls of methods that make nothing
def CK (own : String) (idx : Nat) (y : MethodName) (cc : ByteArray) (nL : Nat) (rt : Option FieldType) (n : Nat) : Prop :=
  (Cond.methodLink own idx y ∈ Wd ∨ ∃ host, Cond.methodLinkNest own idx y host ∈ NW) ∧ Cond.code y cc nL rt ∈ Wd ∧ Cond.initialized y.cls ∈ Wd ∧ (y.cls ≠ "java/lang/invoke/MethodHandle" ∧ y.cls ≠ "java/lang/invoke/VarHandle") ∧ (parseMethodDescriptor y.desc).map (fun d => d.parameters.length) = some n
def CKV (own : String) (idx : Nat) (y : MethodName) (cc : ByteArray) (nL : Nat) (rt : Option FieldType) (n ci : Nat) : Prop :=
  CK own idx y cc nL rt n ∧ Cond.instanceMethod y ∈ Wd ∧ Cond.selects y.cls y y ∈ Wd ∧ ci < 12 ∧ ∃ T N, vwCl[ci]? = some (y.cls, T, N)
def CKS (own : String) (idx : Nat) (y : MethodName) (cc : ByteArray) (nL : Nat) (rt : Option FieldType) (n : Nat) : Prop :=
  CK own idx y cc nL rt n ∧ Cond.static y ∈ Wd
theorem Wd_good {w : Cond} (h : w ∈ Wd) : (w.onTables && w.keeps) = true ∨ ∃ ty, w = .arrayClass ty := good_of_word (List.mem_filter.mp h).2
theorem wsA_pay {s : State} {args : Array Value} {y : MethodName} {cc : ByteArray} {nL : Nat} {rt : Option FieldType} (hts : ∀ w ∈ Wd, w.before args s = true) (hc : Cond.code y cc nL rt ∈ Wd) : ∀ w ∈ wsA y cc nL rt, ∀ (a' : Array Value) (U : State), s.WarmedH U.vm → w.before a' U = true := by
  intro w hw a' U hW
  have hw2 : w ∈ Wd := by
    rcases List.mem_cons.mp hw with h | h
    · rw [h]; exact hc
    · exact h
  exact word_at hW (Wd_good hw2) (hts w hw2)
theorem PJ_blind {cx : CX} {al : Bool} {lo hi : Nat} {g : GW} {as : List Value} {M : Mem} {sz : Nat} : FrameBlind (PJ cx al lo hi g as M sz) := by
  intro a U gf mk q
  obtain ⟨h1, h2, h3, h4, h5, h6, h7⟩ := q
  exact ⟨h1, h2, h3, h4, va_K.moved (u := U) (U := U.calling gf mk a) (Vm.Alike.refl U.vm) h5, EN.same (u := U) (U := U.calling gf mk a) rfl h6, h7⟩
theorem RG_sub {cx : CX} {lo hi : Nat} {g : GW} {M : Mem} {A : Nat → Prop} {s : State} {H : Heap} {locs : List Loc} (hD : va_D A (wl cx lo hi g M)) (hS : va_S A s.heap H locs) (hA : ∀ q, s.heap.size ≤ q → A q) : ∀ q, RG cx lo hi H.size q → A q := by
  intro q h
  rcases h with ⟨o, h1, h2, rfl⟩ | h
  · exact hD.2 _ _ (wl_at h1 h2)
  · exact hA q (Nat.le_trans hS.1 h)
theorem PJ_at {cx : CX} {y : MethodName} {cc : ByteArray} {nL : Nat} {rt : Option FieldType} {al : Bool} {lo hi hi2 : Nat} {p : Program} {s : State} {m : MethodId} {args : Array Value} {meth : Method} {c : Code} {A : Nat → Prop} {g : GW} {M : Mem} {H : Heap} {locs : List Loc} {as : List Value} (X : JX cx y cc nL rt al hi p s m args meth c A) (hP : va_P (cx.1, cx.2.1) vwCl (wl cx lo hi2 g M) H) (hD : va_D A (wl cx lo hi2 g M)) (hS : va_S A s.heap H locs) : ∀ U : State, U.heap = H → s.WarmedH U.vm → PJ cx false lo hi2 g as M H.size (as.map (rv cx)).toArray U := by
  intro U hU hW
  refine ⟨rfl, by rw [hU], by rw [hU]; exact hP, ⟨hD.1, fun _ _ _ => trivial⟩, va_K.moved hW.alike X.2.2.2.2.2.2.2.2.1, ?_, fun h => by cases h⟩
  rw [hU]
  exact ((EN.warm hW X.2.2.2.2.2.2.2.2.2.1).kept (fun q h1 h2 => hS.2.1 q h1 h2)).narrow (RG_sub hD hS X.2.2.2.2.2.2.2.2.2.2.1)
theorem J_after {β : Type} {cx : CX} {p : Program} {l : Launch} {e : Env} {R : Room} {s : State} {m : MethodId} {args : Array Value} {below : List Frame} {meth : Method} {c : Code} {H : Heap} {locs : List Loc} {ck sk pc lo hi : Nat} {lsa : Array Slot} {st0 rest : List Value} {A : Nat → Prop} {Q : State → Prop} {E' : β → Option Value → GW → Mem → Prop} {b : β} {as : Array Value} {g : GW} {M : Mem} (hr : va_Run p l e R s m args below meth c H locs ck sk 0 0 (F0 m pc lsa st0) rest (QJ cx lo hi (RG cx lo hi H.size) E' b as) (RG cx lo hi H.size)) (hD : va_D A (wl cx lo hi g M)) (hS : va_S A s.heap H locs) (hA : ∀ q, s.heap.size ≤ q → A q)
    (kk : ∀ (v : Option Value) (g' : GW) (M' : Mem) (H1 : Heap) (locs1 : List Loc), E' b v g' M' → va_P (cx.1, cx.2.1) vwCl (wl cx lo hi g' M') H1 → va_D A (wl cx lo hi g' M') → va_S A s.heap H1 locs1 → W p l e R s m args below meth c H1 locs1 ck sk Q (F0 m (pc + 3) lsa ((v.map (rv cx)).toList ++ rest))) : W p l e R s m args below meth c H locs ck sk Q (F0 m pc lsa st0) := by
  have hRA := RG_sub hD hS hA
  intro T hT X
  obtain ⟨v, st₀, t, T', L, h0, X', hL, e1, e2, ⟨⟨v', g', M', hv, hE, hP', hD'⟩, hF⟩, st⟩ := hr T hT X
  cases hv
  obtain ⟨hz, hk⟩ := hF
  rw [h0] at hz hk
  have hD2 : va_D A (wl cx lo hi g' M') := by
    refine ⟨hD'.1, fun k q hq => ?_⟩
    obtain ⟨i1, i2⟩ := wl_inv hq
    rw [i2]
    exact hRA _ (Or.inl ⟨lo + k, by omega, i1, rfl⟩)
  obtain ⟨t2, a1, b1⟩ := kk v' g' M' T'.heap (locs ++ L) hE (by rw [e1]; exact hP') hD2
    ⟨Nat.le_trans hS.1 (by rw [e1]; exact hz), fun q h1 h2 => by rw [e1, hk q (Nat.lt_of_lt_of_le h1 hS.1) (fun z => h2 (hRA q z))]; exact hS.2.1 q h1 h2, fun q hq => by
      rcases List.mem_append.mp hq with h | h
      · exact hS.2.2 q h
      · exact hRA _ (hL q h)⟩ T' rfl X'
  exact ⟨t2, st t2 a1, b1⟩
theorem CK.b {own : String} {idx n : Nat} {y : MethodName} {cc : ByteArray} {nL : Nat} {rt : Option FieldType} {R rm : Room} {s : State} {args : Array Value} (h : CK own idx y cc nL rt n) (hts : ∀ w ∈ Wd, w.before args s = true) (hl : Cond.methodLink own idx y ∈ Wd) (hR : rm.cells = 0 ∧ rm.slots = 0 ∧ rm.frames + 1 ≤ R.frames ∧ 8 + (nL + 11) + rm.locals ≤ R.locals) : CallB R s args own idx y cc nL rt (wsA y cc nL rt) rm 0 0 n :=
  ⟨hR.1, hR.2.1, hR.2.2.1, hR.2.2.2, wsA_pay hts h.2.1, List.mem_cons_self, hts _ h.2.1, hts _ h.2.2.1, h.2.2.2.1, fun sig hs => by have h2 := h.2.2.2.2; rw [hs] at h2; exact (Option.some.inj h2).symm, hts _ hl⟩
theorem CK.n {own host : String} {idx n : Nat} {y : MethodName} {cc : ByteArray} {nL : Nat} {rt : Option FieldType} {R rm : Room} {s : State} {args : Array Value} (h : CK own idx y cc nL rt n) (hts : ∀ w ∈ Wd, w.before args s = true) (hl : va_Nw (.methodLinkNest own idx y host) s) (hR : rm.cells = 0 ∧ rm.slots = 0 ∧ rm.frames + 1 ≤ R.frames ∧ 8 + (nL + 11) + rm.locals ≤ R.locals) : va_CN R s args own idx y host cc nL rt (wsA y cc nL rt) rm 0 0 n :=
  ⟨⟨hR.1, hR.2.1, hR.2.2.1, hR.2.2.2, wsA_pay hts h.2.1, List.mem_cons_self⟩, hts _ h.2.1, hts _ h.2.2.1, h.2.2.2.1, fun sig hs => by have h2 := h.2.2.2.2; rw [hs] at h2; exact (Option.some.inj h2).symm, va_Nw.use rfl hl⟩
set_option maxHeartbeats 2000000 in
theorem J_cV {β : Type} {E' : β → Option Value → GW → Mem → Prop} {y' : MethodName} {cc' : ByteArray} {nL' : Nat} {rt' : Option FieldType} {rm : Room} {idx o ci : Nat} {as stk : List Value} {xc : Option β} {f : β → Option α} (hC : Con l cx rm y' cc' nL' rt' 0 0 false lo (hi + ck) E' g (.ref o :: as) M xc) (hw : CKV y.cls idx y' cc' nL' rt' as.length ci) (hd : decode cc pc = .ok (.invokevirtual idx, 3)) (hs : stk = as.reverse ++ .ref o :: st) (hk : IsK g lo (hi + ck) o ci) (hR : rm.cells = 0 ∧ rm.slots = 0 ∧ rm.frames + 1 ≤ R.frames ∧ 8 + (nL' + 11) + rm.locals ≤ R.locals) (hR2 : ck ≤ R.cells ∧ sk ≤ R.slots ∧ sumW st ≤ 8)
    (kk : ∀ b v g' M', E' b v g' M' → JO l cx R y cc nL rt mc ms al lo hi E g' ck sk (pc + 3) ls (v.toList ++ st) M' (f b)) : JO l cx R y cc nL rt mc ms al lo hi E g ck sk pc ls stk M (xc.bind f) := by
  subst hs
  intro a ha
  cases hxc : xc with
  | none => rw [hxc] at ha; cases ha
  | some b =>
  rw [hxc] at ha
  intro p e s m args below meth c H locs A lsa X hP hD hS hL
  have hM := hC b hxc H.size
  obtain ⟨hck, hin, hsel, hci, T, N, hcl⟩ := hw
  have hat := wl_at (cx := cx) (g := g) (M := M) hk.2.1 hk.2.2
  rw [ent_o hk.1 hci] at hat
  have hrecv := va_recv (q := (y'.cls, T, N)) X.2.2.2.2.2.2.2.2.1 hP hcl hat
  have hp : PreV s H y'.cls (cx.2.2.2 o) (PJ cx false lo (hi + ck) g (.ref o :: as) M H.size) (as.map (rv cx)) := ⟨PJ_blind, hrecv, PJ_at X hP hD hS⟩
  have hsum : ((st.map (rv cx)).map fun v => v.category).sum ≤ 8 := by have h := sumW_rv cx st; unfold sumW at h; rw [h]; exact hR2.2.2
  have hstk : ((as.reverse ++ .ref o :: st).map (rv cx)) = (as.map (rv cx)).reverse ++ .ref (cx.2.2.2 o) :: st.map (rv cx) := by simp [rv]
  rw [hstk]
  have hfix : CallFix p m c cc nL s args Wd y.cls := ⟨X.1, X.2.1, X.2.2.1, X.2.2.2.1, X.2.2.2.2.1⟩
  have hrun : va_Run p l e R s m args below meth c H locs ck sk 0 0 (F0 m pc lsa ((as.map (rv cx)).reverse ++ .ref (cx.2.2.2 o) :: st.map (rv cx))) (st.map (rv cx)) (QJ cx lo (hi + ck) (RG cx lo (hi + ck) H.size) E' b (Value.ref (cx.2.2.2 o) :: as.map (rv cx)).toArray) (RG cx lo (hi + ck) H.size) := by
    rcases hck.1 with hl | ⟨host, hl⟩
    · exact va_runV (n := as.length) hfix hM ⟨hck.b X.2.2.2.2.1 hl hR, X.2.2.2.2.1 _ hin, X.2.2.2.2.1 _ hsel⟩ hp rfl (by simp) hL.1 rfl (lv_room hsum) hd ⟨hR2.1, hR2.2.1⟩
    · exact va_runVN (n := as.length) hfix hM ⟨hck.n X.2.2.2.2.1 (X.2.2.2.2.2.2.2.2.2.1.1 _ hl) hR, X.2.2.2.2.1 _ hin, X.2.2.2.2.1 _ hsel⟩ hp rfl (by simp) hL.1 rfl (lv_room hsum) hd ⟨hR2.1, hR2.2.1⟩
  refine J_after hrun hD hS X.2.2.2.2.2.2.2.2.2.2.1 (fun v g' M' H1 locs1 hE q1 q2 q3 => ?_)
  have h := kk b v g' M' hE a ha p e s m args below meth c H1 locs1 A lsa X q1 q2 q3 hL
  have hst2 : (v.toList ++ st).map (rv cx) = (v.map (rv cx)).toList ++ st.map (rv cx) := by cases v <;> simp
  rw [hst2] at h
  exact h
set_option maxHeartbeats 2000000 in
theorem J_cS {β : Type} {E' : β → Option Value → GW → Mem → Prop} {y' : MethodName} {cc' : ByteArray} {nL' : Nat} {rt' : Option FieldType} {rm : Room} {idx : Nat} {as stk : List Value} {xc : Option β} {f : β → Option α} (hC : Con l cx rm y' cc' nL' rt' 0 0 false lo (hi + ck) E' g as M xc) (hw : CKS y.cls idx y' cc' nL' rt' as.length) (hd : decode cc pc = .ok (.invokestatic idx, 3)) (hs : stk = as.reverse ++ st) (hR : rm.cells = 0 ∧ rm.slots = 0 ∧ rm.frames + 1 ≤ R.frames ∧ 8 + (nL' + 11) + rm.locals ≤ R.locals) (hR2 : ck ≤ R.cells ∧ sk ≤ R.slots ∧ sumW st ≤ 8)
    (kk : ∀ b v g' M', E' b v g' M' → JO l cx R y cc nL rt mc ms al lo hi E g' ck sk (pc + 3) ls (v.toList ++ st) M' (f b)) : JO l cx R y cc nL rt mc ms al lo hi E g ck sk pc ls stk M (xc.bind f) := by
  subst hs
  intro a ha
  cases hxc : xc with
  | none => rw [hxc] at ha; cases ha
  | some b =>
  rw [hxc] at ha
  intro p e s m args below meth c H locs A lsa X hP hD hS hL
  have hM := hC b hxc H.size
  obtain ⟨hck, hst⟩ := hw
  have hp : PreS s H (PJ cx false lo (hi + ck) g as M H.size) (as.map (rv cx)) := ⟨PJ_blind, PJ_at X hP hD hS⟩
  have hsum : ((st.map (rv cx)).map fun v => v.category).sum ≤ 8 := by have h := sumW_rv cx st; unfold sumW at h; rw [h]; exact hR2.2.2
  have hstk : ((as.reverse ++ st).map (rv cx)) = (as.map (rv cx)).reverse ++ st.map (rv cx) := by simp
  rw [hstk]
  have hfix : CallFix p m c cc nL s args Wd y.cls := ⟨X.1, X.2.1, X.2.2.1, X.2.2.2.1, X.2.2.2.2.1⟩
  have hrun : va_Run p l e R s m args below meth c H locs ck sk 0 0 (F0 m pc lsa ((as.map (rv cx)).reverse ++ st.map (rv cx))) (st.map (rv cx)) (QJ cx lo (hi + ck) (RG cx lo (hi + ck) H.size) E' b (as.map (rv cx)).toArray) (RG cx lo (hi + ck) H.size) := by
    rcases hck.1 with hl | ⟨host, hl⟩
    · exact va_runS (n := as.length) hfix hM ⟨hck.b X.2.2.2.2.1 hl hR, X.2.2.2.2.1 _ hst⟩ hp rfl (by simp) hL.1 rfl (lv_room hsum) hd ⟨hR2.1, hR2.2.1⟩
    · exact va_runSN (n := as.length) hfix hM ⟨hck.n X.2.2.2.2.1 (X.2.2.2.2.2.2.2.2.2.1.1 _ hl) hR, X.2.2.2.2.1 _ hst, trivial⟩ hp rfl (by simp) hL.1 rfl (lv_room hsum) hd ⟨hR2.1, hR2.2.1⟩
  refine J_after hrun hD hS X.2.2.2.2.2.2.2.2.2.2.1 (fun v g' M' H1 locs1 hE q1 q2 q3 => ?_)
  have h := kk b v g' M' hE a ha p e s m args below meth c H1 locs1 A lsa X q1 q2 q3 hL
  have hst2 : (v.toList ++ st).map (rv cx) = (v.map (rv cx)).toList ++ st.map (rv cx) := by cases v <;> simp
  rw [hst2] at h
  exact h

theorem J_cVI {y' : MethodName} {cc' : ByteArray} {nL' : Nat} {rt' : Option FieldType} {rm : Room} {idx : Nat} {o ci : Nat} {as stk : List Value} {xc : Option (Int32 × Mem)} {f : Int32 → Mem → Option α} (hC : Con l cx rm y' cc' nL' rt' 0 0 false lo (hi + ck) EI GS (.ref o :: as) M xc) (hw : CKV y.cls idx y' cc' nL' rt' as.length ci) (hd : decode cc pc = .ok (.invokevirtual idx, 3)) (hs : stk = as.reverse ++ .ref o :: st) (hk : IsK GS lo (hi + ck) o ci) (hR : rm.cells = 0 ∧ rm.slots = 0 ∧ rm.frames + 1 ≤ R.frames ∧ 8 + (nL' + 11) + rm.locals ≤ R.locals) (hR2 : ck ≤ R.cells ∧ sk ≤ R.slots ∧ sumW st ≤ 8) (kk : ∀ r M1, JO l cx R y cc nL rt mc ms al lo hi E GS ck sk (pc + 3) ls (.int r :: st) M1 (f r M1)) : JO l cx R y cc nL rt mc ms al lo hi E GS ck sk pc ls stk M (bnd xc f) := by
  have he : bnd xc f = xc.bind (fun q => f q.1 q.2) := by cases xc <;> rfl
  rw [he]
  exact J_cV hC hw hd hs hk hR hR2 (fun b v g' M' hE => by obtain ⟨rfl, rfl, rfl⟩ := hE; exact kk b.1 b.2)
theorem J_cVZ {y' : MethodName} {cc' : ByteArray} {nL' : Nat} {rt' : Option FieldType} {rm : Room} {idx : Nat} {o ci : Nat} {as stk : List Value} {xc : Option (Int32 × Mem)} {f : Int32 → Mem → Option α} (hC : Con l cx rm y' cc' nL' rt' 0 0 false lo (hi + ck) EZ GS (.ref o :: as) M xc) (hw : CKV y.cls idx y' cc' nL' rt' as.length ci) (hd : decode cc pc = .ok (.invokevirtual idx, 3)) (hs : stk = as.reverse ++ .ref o :: st) (hk : IsK GS lo (hi + ck) o ci) (hR : rm.cells = 0 ∧ rm.slots = 0 ∧ rm.frames + 1 ≤ R.frames ∧ 8 + (nL' + 11) + rm.locals ≤ R.locals) (hR2 : ck ≤ R.cells ∧ sk ≤ R.slots ∧ sumW st ≤ 8) (kk : ∀ r M1, (r = 0 ∨ r = 1) → JO l cx R y cc nL rt mc ms al lo hi E GS ck sk (pc + 3) ls (.int r :: st) M1 (f r M1)) : JO l cx R y cc nL rt mc ms al lo hi E GS ck sk pc ls stk M (bnd xc f) := by
  have he : bnd xc f = xc.bind (fun q => f q.1 q.2) := by cases xc <;> rfl
  rw [he]
  exact J_cV hC hw hd hs hk hR hR2 (fun b v g' M' hE => by obtain ⟨rfl, rfl, rfl, hb⟩ := hE; exact kk b.1 b.2 hb)
theorem J_cVP {y' : MethodName} {cc' : ByteArray} {nL' : Nat} {rt' : Option FieldType} {rm : Room} {idx : Nat} {o ci : Nat} {as stk : List Value} {xc : Option (Int32)} {f : Int32 → Option α} (hC : Con l cx rm y' cc' nL' rt' 0 0 false lo (hi + ck) (EP M) GS (.ref o :: as) M xc) (hw : CKV y.cls idx y' cc' nL' rt' as.length ci) (hd : decode cc pc = .ok (.invokevirtual idx, 3)) (hs : stk = as.reverse ++ .ref o :: st) (hk : IsK GS lo (hi + ck) o ci) (hR : rm.cells = 0 ∧ rm.slots = 0 ∧ rm.frames + 1 ≤ R.frames ∧ 8 + (nL' + 11) + rm.locals ≤ R.locals) (hR2 : ck ≤ R.cells ∧ sk ≤ R.slots ∧ sumW st ≤ 8) (kk : ∀ r, JO l cx R y cc nL rt mc ms al lo hi E GS ck sk (pc + 3) ls (.int r :: st) M (f r)) : JO l cx R y cc nL rt mc ms al lo hi E GS ck sk pc ls stk M (bnp xc f) := by
  have he : bnp xc f = xc.bind f := by cases xc <;> rfl
  rw [he]
  exact J_cV hC hw hd hs hk hR hR2 (fun b v g' M' hE => by obtain ⟨rfl, rfl, rfl⟩ := hE; exact kk b)
theorem J_cVB {y' : MethodName} {cc' : ByteArray} {nL' : Nat} {rt' : Option FieldType} {rm : Room} {idx : Nat} {o ci : Nat} {as stk : List Value} {xc : Option (Int32)} {f : Int32 → Option α} (hC : Con l cx rm y' cc' nL' rt' 0 0 false lo (hi + ck) (EB M) GS (.ref o :: as) M xc) (hw : CKV y.cls idx y' cc' nL' rt' as.length ci) (hd : decode cc pc = .ok (.invokevirtual idx, 3)) (hs : stk = as.reverse ++ .ref o :: st) (hk : IsK GS lo (hi + ck) o ci) (hR : rm.cells = 0 ∧ rm.slots = 0 ∧ rm.frames + 1 ≤ R.frames ∧ 8 + (nL' + 11) + rm.locals ≤ R.locals) (hR2 : ck ≤ R.cells ∧ sk ≤ R.slots ∧ sumW st ≤ 8) (kk : ∀ r, (r = 0 ∨ r = 1) → JO l cx R y cc nL rt mc ms al lo hi E GS ck sk (pc + 3) ls (.int r :: st) M (f r)) : JO l cx R y cc nL rt mc ms al lo hi E GS ck sk pc ls stk M (bnp xc f) := by
  have he : bnp xc f = xc.bind f := by cases xc <;> rfl
  rw [he]
  exact J_cV hC hw hd hs hk hR hR2 (fun b v g' M' hE => by obtain ⟨rfl, rfl, rfl, hb⟩ := hE; exact kk b hb)
theorem J_cVV {y' : MethodName} {cc' : ByteArray} {nL' : Nat} {rt' : Option FieldType} {rm : Room} {idx : Nat} {o ci : Nat} {as stk : List Value} {xc : Option (Mem)} {f : Mem → Option α} (hC : Con l cx rm y' cc' nL' rt' 0 0 false lo (hi + ck) EV GS (.ref o :: as) M xc) (hw : CKV y.cls idx y' cc' nL' rt' as.length ci) (hd : decode cc pc = .ok (.invokevirtual idx, 3)) (hs : stk = as.reverse ++ .ref o :: st) (hk : IsK GS lo (hi + ck) o ci) (hR : rm.cells = 0 ∧ rm.slots = 0 ∧ rm.frames + 1 ≤ R.frames ∧ 8 + (nL' + 11) + rm.locals ≤ R.locals) (hR2 : ck ≤ R.cells ∧ sk ≤ R.slots ∧ sumW st ≤ 8) (kk : ∀ M1, JO l cx R y cc nL rt mc ms al lo hi E GS ck sk (pc + 3) ls st M1 (f M1)) : JO l cx R y cc nL rt mc ms al lo hi E GS ck sk pc ls stk M (bnp xc f) := by
  have he : bnp xc f = xc.bind f := by cases xc <;> rfl
  rw [he]
  exact J_cV hC hw hd hs hk hR hR2 (fun b v g' M' hE => by obtain ⟨rfl, rfl, rfl⟩ := hE; exact kk _)
theorem J_cVL {y' : MethodName} {cc' : ByteArray} {nL' : Nat} {rt' : Option FieldType} {rm : Room} {idx : Nat} {o ci : Nat} {as stk : List Value} {xc : Option (Int64)} {f : Int64 → Option α} (hC : Con l cx rm y' cc' nL' rt' 0 0 false lo (hi + ck) (EL M) GS (.ref o :: as) M xc) (hw : CKV y.cls idx y' cc' nL' rt' as.length ci) (hd : decode cc pc = .ok (.invokevirtual idx, 3)) (hs : stk = as.reverse ++ .ref o :: st) (hk : IsK GS lo (hi + ck) o ci) (hR : rm.cells = 0 ∧ rm.slots = 0 ∧ rm.frames + 1 ≤ R.frames ∧ 8 + (nL' + 11) + rm.locals ≤ R.locals) (hR2 : ck ≤ R.cells ∧ sk ≤ R.slots ∧ sumW st ≤ 8) (kk : ∀ r, JO l cx R y cc nL rt mc ms al lo hi E GS ck sk (pc + 3) ls (.long r :: st) M (f r)) : JO l cx R y cc nL rt mc ms al lo hi E GS ck sk pc ls stk M (bnp xc f) := by
  have he : bnp xc f = xc.bind f := by cases xc <;> rfl
  rw [he]
  exact J_cV hC hw hd hs hk hR hR2 (fun b v g' M' hE => by obtain ⟨rfl, rfl, rfl⟩ := hE; exact kk b)
theorem J_cVR {y' : MethodName} {cc' : ByteArray} {nL' : Nat} {rt' : Option FieldType} {rm : Room} {idx : Nat} {o ci : Nat} {as stk : List Value} {xc : Option (Nat)} {f : Nat → Option α} (hC : Con l cx rm y' cc' nL' rt' 0 0 false lo (hi + ck) (ER M) GS (.ref o :: as) M xc) (hw : CKV y.cls idx y' cc' nL' rt' as.length ci) (hd : decode cc pc = .ok (.invokevirtual idx, 3)) (hs : stk = as.reverse ++ .ref o :: st) (hk : IsK GS lo (hi + ck) o ci) (hR : rm.cells = 0 ∧ rm.slots = 0 ∧ rm.frames + 1 ≤ R.frames ∧ 8 + (nL' + 11) + rm.locals ≤ R.locals) (hR2 : ck ≤ R.cells ∧ sk ≤ R.slots ∧ sumW st ≤ 8) (kk : ∀ r, IsK GS 0 207 r 7 → JO l cx R y cc nL rt mc ms al lo hi E GS ck sk (pc + 3) ls (.ref r :: st) M (f r)) : JO l cx R y cc nL rt mc ms al lo hi E GS ck sk pc ls stk M (bnp xc f) := by
  have he : bnp xc f = xc.bind f := by cases xc <;> rfl
  rw [he]
  exact J_cV hC hw hd hs hk hR hR2 (fun b v g' M' hE => by obtain ⟨rfl, rfl, rfl, hb⟩ := hE; exact kk b hb)
theorem J_cSI {y' : MethodName} {cc' : ByteArray} {nL' : Nat} {rt' : Option FieldType} {rm : Room} {idx : Nat} {as stk : List Value} {xc : Option (Int32 × Mem)} {f : Int32 → Mem → Option α} (hC : Con l cx rm y' cc' nL' rt' 0 0 false lo (hi + ck) EI GS as M xc) (hw : CKS y.cls idx y' cc' nL' rt' as.length) (hd : decode cc pc = .ok (.invokestatic idx, 3)) (hs : stk = as.reverse ++ st) (hR : rm.cells = 0 ∧ rm.slots = 0 ∧ rm.frames + 1 ≤ R.frames ∧ 8 + (nL' + 11) + rm.locals ≤ R.locals) (hR2 : ck ≤ R.cells ∧ sk ≤ R.slots ∧ sumW st ≤ 8) (kk : ∀ r M1, JO l cx R y cc nL rt mc ms al lo hi E GS ck sk (pc + 3) ls (.int r :: st) M1 (f r M1)) : JO l cx R y cc nL rt mc ms al lo hi E GS ck sk pc ls stk M (bnd xc f) := by
  have he : bnd xc f = xc.bind (fun q => f q.1 q.2) := by cases xc <;> rfl
  rw [he]
  exact J_cS hC hw hd hs hR hR2 (fun b v g' M' hE => by obtain ⟨rfl, rfl, rfl⟩ := hE; exact kk b.1 b.2)
theorem J_cSZ {y' : MethodName} {cc' : ByteArray} {nL' : Nat} {rt' : Option FieldType} {rm : Room} {idx : Nat} {as stk : List Value} {xc : Option (Int32 × Mem)} {f : Int32 → Mem → Option α} (hC : Con l cx rm y' cc' nL' rt' 0 0 false lo (hi + ck) EZ GS as M xc) (hw : CKS y.cls idx y' cc' nL' rt' as.length) (hd : decode cc pc = .ok (.invokestatic idx, 3)) (hs : stk = as.reverse ++ st) (hR : rm.cells = 0 ∧ rm.slots = 0 ∧ rm.frames + 1 ≤ R.frames ∧ 8 + (nL' + 11) + rm.locals ≤ R.locals) (hR2 : ck ≤ R.cells ∧ sk ≤ R.slots ∧ sumW st ≤ 8) (kk : ∀ r M1, (r = 0 ∨ r = 1) → JO l cx R y cc nL rt mc ms al lo hi E GS ck sk (pc + 3) ls (.int r :: st) M1 (f r M1)) : JO l cx R y cc nL rt mc ms al lo hi E GS ck sk pc ls stk M (bnd xc f) := by
  have he : bnd xc f = xc.bind (fun q => f q.1 q.2) := by cases xc <;> rfl
  rw [he]
  exact J_cS hC hw hd hs hR hR2 (fun b v g' M' hE => by obtain ⟨rfl, rfl, rfl, hb⟩ := hE; exact kk b.1 b.2 hb)
theorem J_cSP {y' : MethodName} {cc' : ByteArray} {nL' : Nat} {rt' : Option FieldType} {rm : Room} {idx : Nat} {as stk : List Value} {xc : Option (Int32)} {f : Int32 → Option α} (hC : Con l cx rm y' cc' nL' rt' 0 0 false lo (hi + ck) (EP M) GS as M xc) (hw : CKS y.cls idx y' cc' nL' rt' as.length) (hd : decode cc pc = .ok (.invokestatic idx, 3)) (hs : stk = as.reverse ++ st) (hR : rm.cells = 0 ∧ rm.slots = 0 ∧ rm.frames + 1 ≤ R.frames ∧ 8 + (nL' + 11) + rm.locals ≤ R.locals) (hR2 : ck ≤ R.cells ∧ sk ≤ R.slots ∧ sumW st ≤ 8) (kk : ∀ r, JO l cx R y cc nL rt mc ms al lo hi E GS ck sk (pc + 3) ls (.int r :: st) M (f r)) : JO l cx R y cc nL rt mc ms al lo hi E GS ck sk pc ls stk M (bnp xc f) := by
  have he : bnp xc f = xc.bind f := by cases xc <;> rfl
  rw [he]
  exact J_cS hC hw hd hs hR hR2 (fun b v g' M' hE => by obtain ⟨rfl, rfl, rfl⟩ := hE; exact kk b)
theorem J_cSB {y' : MethodName} {cc' : ByteArray} {nL' : Nat} {rt' : Option FieldType} {rm : Room} {idx : Nat} {as stk : List Value} {xc : Option (Int32)} {f : Int32 → Option α} (hC : Con l cx rm y' cc' nL' rt' 0 0 false lo (hi + ck) (EB M) GS as M xc) (hw : CKS y.cls idx y' cc' nL' rt' as.length) (hd : decode cc pc = .ok (.invokestatic idx, 3)) (hs : stk = as.reverse ++ st) (hR : rm.cells = 0 ∧ rm.slots = 0 ∧ rm.frames + 1 ≤ R.frames ∧ 8 + (nL' + 11) + rm.locals ≤ R.locals) (hR2 : ck ≤ R.cells ∧ sk ≤ R.slots ∧ sumW st ≤ 8) (kk : ∀ r, (r = 0 ∨ r = 1) → JO l cx R y cc nL rt mc ms al lo hi E GS ck sk (pc + 3) ls (.int r :: st) M (f r)) : JO l cx R y cc nL rt mc ms al lo hi E GS ck sk pc ls stk M (bnp xc f) := by
  have he : bnp xc f = xc.bind f := by cases xc <;> rfl
  rw [he]
  exact J_cS hC hw hd hs hR hR2 (fun b v g' M' hE => by obtain ⟨rfl, rfl, rfl, hb⟩ := hE; exact kk b hb)
theorem J_cSV {y' : MethodName} {cc' : ByteArray} {nL' : Nat} {rt' : Option FieldType} {rm : Room} {idx : Nat} {as stk : List Value} {xc : Option (Mem)} {f : Mem → Option α} (hC : Con l cx rm y' cc' nL' rt' 0 0 false lo (hi + ck) EV GS as M xc) (hw : CKS y.cls idx y' cc' nL' rt' as.length) (hd : decode cc pc = .ok (.invokestatic idx, 3)) (hs : stk = as.reverse ++ st) (hR : rm.cells = 0 ∧ rm.slots = 0 ∧ rm.frames + 1 ≤ R.frames ∧ 8 + (nL' + 11) + rm.locals ≤ R.locals) (hR2 : ck ≤ R.cells ∧ sk ≤ R.slots ∧ sumW st ≤ 8) (kk : ∀ M1, JO l cx R y cc nL rt mc ms al lo hi E GS ck sk (pc + 3) ls st M1 (f M1)) : JO l cx R y cc nL rt mc ms al lo hi E GS ck sk pc ls stk M (bnp xc f) := by
  have he : bnp xc f = xc.bind f := by cases xc <;> rfl
  rw [he]
  exact J_cS hC hw hd hs hR hR2 (fun b v g' M' hE => by obtain ⟨rfl, rfl, rfl⟩ := hE; exact kk _)
theorem J_cSL {y' : MethodName} {cc' : ByteArray} {nL' : Nat} {rt' : Option FieldType} {rm : Room} {idx : Nat} {as stk : List Value} {xc : Option (Int64)} {f : Int64 → Option α} (hC : Con l cx rm y' cc' nL' rt' 0 0 false lo (hi + ck) (EL M) GS as M xc) (hw : CKS y.cls idx y' cc' nL' rt' as.length) (hd : decode cc pc = .ok (.invokestatic idx, 3)) (hs : stk = as.reverse ++ st) (hR : rm.cells = 0 ∧ rm.slots = 0 ∧ rm.frames + 1 ≤ R.frames ∧ 8 + (nL' + 11) + rm.locals ≤ R.locals) (hR2 : ck ≤ R.cells ∧ sk ≤ R.slots ∧ sumW st ≤ 8) (kk : ∀ r, JO l cx R y cc nL rt mc ms al lo hi E GS ck sk (pc + 3) ls (.long r :: st) M (f r)) : JO l cx R y cc nL rt mc ms al lo hi E GS ck sk pc ls stk M (bnp xc f) := by
  have he : bnp xc f = xc.bind f := by cases xc <;> rfl
  rw [he]
  exact J_cS hC hw hd hs hR hR2 (fun b v g' M' hE => by obtain ⟨rfl, rfl, rfl⟩ := hE; exact kk b)
theorem J_cSR {y' : MethodName} {cc' : ByteArray} {nL' : Nat} {rt' : Option FieldType} {rm : Room} {idx : Nat} {as stk : List Value} {xc : Option (Nat)} {f : Nat → Option α} (hC : Con l cx rm y' cc' nL' rt' 0 0 false lo (hi + ck) (ER M) GS as M xc) (hw : CKS y.cls idx y' cc' nL' rt' as.length) (hd : decode cc pc = .ok (.invokestatic idx, 3)) (hs : stk = as.reverse ++ st) (hR : rm.cells = 0 ∧ rm.slots = 0 ∧ rm.frames + 1 ≤ R.frames ∧ 8 + (nL' + 11) + rm.locals ≤ R.locals) (hR2 : ck ≤ R.cells ∧ sk ≤ R.slots ∧ sumW st ≤ 8) (kk : ∀ r, IsK GS 0 207 r 7 → JO l cx R y cc nL rt mc ms al lo hi E GS ck sk (pc + 3) ls (.ref r :: st) M (f r)) : JO l cx R y cc nL rt mc ms al lo hi E GS ck sk pc ls stk M (bnp xc f) := by
  have he : bnp xc f = xc.bind f := by cases xc <;> rfl
  rw [he]
  exact J_cS hC hw hd hs hR hR2 (fun b v g' M' hE => by obtain ⟨rfl, rfl, rfl, hb⟩ := hE; exact kk b hb)
end JR
