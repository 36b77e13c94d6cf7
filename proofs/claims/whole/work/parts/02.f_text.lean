section JR
variable {α : Type} {l : Launch} {cx : CX} {R : Room} {y : MethodName} {cc : ByteArray} {nL : Nat} {rt : Option FieldType} {mc ms : Nat} {al : Bool} {lo hi : Nat} {E : α → Option Value → GW → Mem → Prop} {g : GW} {ck sk pc : Nat} {ls : List (Option Value)} {st : List Value} {M : Mem} {x : Option α}
theorem J_slen {i idx : Nat} (hw : Cond.methodLink y.cls idx ⟨"java/lang/String", "length", "()I"⟩ ∈ Wd) (hi4 : i < 4) (hd : decode cc pc = .ok (.invokevirtual idx, 3)) (hR : 2 ≤ R.frames ∧ sumW st + 60 ≤ R.locals) (kk : JO l cx R y cc nL rt mc ms al lo hi E g ck sk (pc + 3) ls (.int (Int32.ofNat (sLen.getD i 0)) :: st) M x) : JO l cx R y cc nL rt mc ms al lo hi E g ck sk pc ls (.ref (SO + i) :: st) M x := by
  sorry
theorem J_schr {i idx : Nat} {j : Int32} (hw : Cond.methodLink y.cls idx ⟨"java/lang/String", "charAt", "(I)C"⟩ ∈ Wd) (hi4 : i < 4) (hd : decode cc pc = .ok (.invokevirtual idx, 3)) (hR : 5 ≤ R.frames ∧ sumW st + 160 ≤ R.locals) (kk : JO l cx R y cc nL rt mc ms al lo hi E g ck sk (pc + 3) ls (.int ((sByt.getD i []).getD j.toNatClampNeg 0) :: st) M x) : JO l cx R y cc nL rt mc ms al lo hi E g ck sk pc ls (.int j :: .ref (SO + i) :: st) M (chk j (sLen.getD i 0) x) := by
  sorry
end JR
